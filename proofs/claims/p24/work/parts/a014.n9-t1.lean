section
theorem hd_yX7_moveDown_RX7 : yX7_moveDown.cls = RX7 ∧ yX7_moveDown.cls ≠ "java/lang/invoke/MethodHandle" ∧ yX7_moveDown.cls ≠ "java/lang/invoke/VarHandle" ∧ (parseMethodDescriptor yX7_moveDown.desc).map (fun d => d.parameters.length) = some 2 := by decide +kernel
theorem hd_yX7_moveUp_RX7 : yX7_moveUp.cls = RX7 ∧ yX7_moveUp.cls ≠ "java/lang/invoke/MethodHandle" ∧ yX7_moveUp.cls ≠ "java/lang/invoke/VarHandle" ∧ (parseMethodDescriptor yX7_moveUp.desc).map (fun d => d.parameters.length) = some 2 := by decide +kernel
theorem hd_yX7_narrowDifferent_RX7 : yX7_narrowDifferent.cls = RX7 ∧ yX7_narrowDifferent.cls ≠ "java/lang/invoke/MethodHandle" ∧ yX7_narrowDifferent.cls ≠ "java/lang/invoke/VarHandle" ∧ (parseMethodDescriptor yX7_narrowDifferent.desc).map (fun d => d.parameters.length) = some 1 := by decide +kernel
theorem hd_yX7_narrowOrder_RX7 : yX7_narrowOrder.cls = RX7 ∧ yX7_narrowOrder.cls ≠ "java/lang/invoke/MethodHandle" ∧ yX7_narrowOrder.cls ≠ "java/lang/invoke/VarHandle" ∧ (parseMethodDescriptor yX7_narrowOrder.desc).map (fun d => d.parameters.length) = some 3 := by decide +kernel
theorem hd_yX7_narrowSum_RX7 : yX7_narrowSum.cls = RX7 ∧ yX7_narrowSum.cls ≠ "java/lang/invoke/MethodHandle" ∧ yX7_narrowSum.cls ≠ "java/lang/invoke/VarHandle" ∧ (parseMethodDescriptor yX7_narrowSum.desc).map (fun d => d.parameters.length) = some 1 := by decide +kernel
theorem hd_yX7_narrowMost_RX7 : yX7_narrowMost.cls = RX7 ∧ yX7_narrowMost.cls ≠ "java/lang/invoke/MethodHandle" ∧ yX7_narrowMost.cls ≠ "java/lang/invoke/VarHandle" ∧ (parseMethodDescriptor yX7_narrowMost.desc).map (fun d => d.parameters.length) = some 1 := by decide +kernel
theorem hd_yX7_narrowPairs_RX7 : yX7_narrowPairs.cls = RX7 ∧ yX7_narrowPairs.cls ≠ "java/lang/invoke/MethodHandle" ∧ yX7_narrowPairs.cls ≠ "java/lang/invoke/VarHandle" ∧ (parseMethodDescriptor yX7_narrowPairs.desc).map (fun d => d.parameters.length) = some 1 := by decide +kernel
theorem hd_yX7_narrowBy_RX7 : yX7_narrowBy.cls = RX7 ∧ yX7_narrowBy.cls ≠ "java/lang/invoke/MethodHandle" ∧ yX7_narrowBy.cls ≠ "java/lang/invoke/VarHandle" ∧ (parseMethodDescriptor yX7_narrowBy.desc).map (fun d => d.parameters.length) = some 1 := by decide +kernel
theorem hd_yX7_isAnyEmpty_RX7 : yX7_isAnyEmpty.cls = RX7 ∧ yX7_isAnyEmpty.cls ≠ "java/lang/invoke/MethodHandle" ∧ yX7_isAnyEmpty.cls ≠ "java/lang/invoke/VarHandle" ∧ (parseMethodDescriptor yX7_isAnyEmpty.desc).map (fun d => d.parameters.length) = some 0 := by decide +kernel
theorem hd_yX7_narrow_RX7 : yX7_narrow.cls = RX7 ∧ yX7_narrow.cls ≠ "java/lang/invoke/MethodHandle" ∧ yX7_narrow.cls ≠ "java/lang/invoke/VarHandle" ∧ (parseMethodDescriptor yX7_narrow.desc).map (fun d => d.parameters.length) = some 1 := by decide +kernel
theorem hd_yX7_leftOf_RX7 : yX7_leftOf.cls = RX7 ∧ yX7_leftOf.cls ≠ "java/lang/invoke/MethodHandle" ∧ yX7_leftOf.cls ≠ "java/lang/invoke/VarHandle" ∧ (parseMethodDescriptor yX7_leftOf.desc).map (fun d => d.parameters.length) = some 1 := by decide +kernel
theorem hd_yX7_keeps_RX7 : yX7_keeps.cls = RX7 ∧ yX7_keeps.cls ≠ "java/lang/invoke/MethodHandle" ∧ yX7_keeps.cls ≠ "java/lang/invoke/VarHandle" ∧ (parseMethodDescriptor yX7_keeps.desc).map (fun d => d.parameters.length) = some 1 := by decide +kernel
theorem dX7_narrowSum_0 : decode cX7_narrowSum 0 = .ok (.aload_n 0, 1) := dk_42 (by decide +kernel)
theorem dX7_narrowSum_1 : decode cX7_narrowSum 1 = .ok (.aload_n 0, 1) := dk_42 (by decide +kernel)
theorem dX7_narrowSum_2 : decode cX7_narrowSum 2 = .ok (.getfield 21, 3) := dk_180 (by decide +kernel)
theorem dX7_narrowSum_5 : decode cX7_narrowSum 5 = .ok (.iload_n 1, 1) := dk_27 (by decide +kernel)
theorem dX7_narrowSum_6 : decode cX7_narrowSum 6 = .ok (.iaload, 1) := dk_46 (by decide +kernel)
theorem dX7_narrowSum_7 : decode cX7_narrowSum 7 = .ok (.invokevirtual 138, 3) := dk_182 (by decide +kernel)
theorem dX7_narrowSum_10 : decode cX7_narrowSum 10 = .ok (.istore_n 2, 1) := dk_61 (by decide +kernel)
theorem dX7_narrowSum_11 : decode cX7_narrowSum 11 = .ok (.aload_n 0, 1) := dk_42 (by decide +kernel)
theorem dX7_narrowSum_12 : decode cX7_narrowSum 12 = .ok (.getfield 43, 3) := dk_180 (by decide +kernel)
theorem dX7_narrowSum_15 : decode cX7_narrowSum 15 = .ok (.lconst 0, 1) := dk_9 (by decide +kernel)
theorem dX7_narrowSum_16 : decode cX7_narrowSum 16 = .ok (.invokestatic 154, 3) := dk_184 (by decide +kernel)
theorem dX7_narrowSum_19 : decode cX7_narrowSum 19 = .ok (.aload_n 0, 1) := dk_42 (by decide +kernel)
theorem dX7_narrowSum_20 : decode cX7_narrowSum 20 = .ok (.getfield 47, 3) := dk_180 (by decide +kernel)
theorem dX7_narrowSum_23 : decode cX7_narrowSum 23 = .ok (.lconst 0, 1) := dk_9 (by decide +kernel)
theorem dX7_narrowSum_24 : decode cX7_narrowSum 24 = .ok (.invokestatic 154, 3) := dk_184 (by decide +kernel)
theorem dX7_narrowSum_27 : decode cX7_narrowSum 27 = .ok (.aload_n 0, 1) := dk_42 (by decide +kernel)
theorem dX7_narrowSum_28 : decode cX7_narrowSum 28 = .ok (.getfield 43, 3) := dk_180 (by decide +kernel)
theorem dX7_narrowSum_31 : decode cX7_narrowSum 31 = .ok (.iconst 0, 1) := dk_3 (by decide +kernel)
theorem dX7_narrowSum_32 : decode cX7_narrowSum 32 = .ok (.lconst 1, 1) := dk_10 (by decide +kernel)
theorem dX7_narrowSum_33 : decode cX7_narrowSum 33 = .ok (.lastore, 1) := dk_80 (by decide +kernel)
theorem dX7_narrowSum_34 : decode cX7_narrowSum 34 = .ok (.iconst 0, 1) := dk_3 (by decide +kernel)
theorem dX7_narrowSum_35 : decode cX7_narrowSum 35 = .ok (.istore_n 3, 1) := dk_62 (by decide +kernel)
theorem dX7_narrowSum_36 : decode cX7_narrowSum 36 = .ok (.iload_n 3, 1) := dk_29 (by decide +kernel)
theorem dX7_narrowSum_37 : decode cX7_narrowSum 37 = .ok (.iload_n 2, 1) := dk_28 (by decide +kernel)
theorem dX7_narrowSum_38 : decode cX7_narrowSum 38 = .ok (.if_icmp .ge 51, 3) := dk_162 (by decide +kernel)
theorem dX7_narrowSum_41 : decode cX7_narrowSum 41 = .ok (.iconst 0, 1) := dk_3 (by decide +kernel)
theorem dX7_narrowSum_42 : decode cX7_narrowSum 42 = .ok (.istore 4, 2) := dk_54 (by decide +kernel)
theorem dX7_narrowSum_44 : decode cX7_narrowSum 44 = .ok (.iload 4, 2) := dk_21 (by decide +kernel)
theorem dX7_narrowSum_46 : decode cX7_narrowSum 46 = .ok (.bipush 16, 2) := dk_16 (by decide +kernel)
theorem dX7_narrowSum_48 : decode cX7_narrowSum 48 = .ok (.if_icmp .ge 35, 3) := dk_162 (by decide +kernel)
theorem dX7_narrowSum_51 : decode cX7_narrowSum 51 = .ok (.aload_n 0, 1) := dk_42 (by decide +kernel)
theorem dX7_narrowSum_52 : decode cX7_narrowSum 52 = .ok (.getfield 36, 3) := dk_180 (by decide +kernel)
theorem dX7_narrowSum_55 : decode cX7_narrowSum 55 = .ok (.aload_n 0, 1) := dk_42 (by decide +kernel)
theorem dX7_narrowSum_56 : decode cX7_narrowSum 56 = .ok (.getfield 53, 3) := dk_180 (by decide +kernel)
theorem dX7_narrowSum_59 : decode cX7_narrowSum 59 = .ok (.iload_n 3, 1) := dk_29 (by decide +kernel)
theorem dX7_narrowSum_60 : decode cX7_narrowSum 60 = .ok (.iaload, 1) := dk_46 (by decide +kernel)
theorem dX7_narrowSum_61 : decode cX7_narrowSum 61 = .ok (.iaload, 1) := dk_46 (by decide +kernel)
theorem dX7_narrowSum_62 : decode cX7_narrowSum 62 = .ok (.iload 4, 2) := dk_21 (by decide +kernel)
theorem dX7_narrowSum_64 : decode cX7_narrowSum 64 = .ok (.ishr, 1) := dk_122 (by decide +kernel)
theorem dX7_narrowSum_65 : decode cX7_narrowSum 65 = .ok (.iconst 1, 1) := dk_4 (by decide +kernel)
theorem dX7_narrowSum_66 : decode cX7_narrowSum 66 = .ok (.iand, 1) := dk_126 (by decide +kernel)
theorem dX7_narrowSum_67 : decode cX7_narrowSum 67 = .ok (.ifCond .eq 10, 3) := dk_153 (by decide +kernel)
theorem dX7_narrowSum_70 : decode cX7_narrowSum 70 = .ok (.aload_n 0, 1) := dk_42 (by decide +kernel)
theorem dX7_narrowSum_71 : decode cX7_narrowSum 71 = .ok (.iload_n 3, 1) := dk_29 (by decide +kernel)
theorem dX7_narrowSum_72 : decode cX7_narrowSum 72 = .ok (.iload 4, 2) := dk_21 (by decide +kernel)
theorem dX7_narrowSum_74 : decode cX7_narrowSum 74 = .ok (.invokevirtual 157, 3) := dk_182 (by decide +kernel)
theorem dX7_narrowSum_77 : decode cX7_narrowSum 77 = .ok (.iinc 4 1, 3) := dk_132 (by decide +kernel)
theorem dX7_narrowSum_80 : decode cX7_narrowSum 80 = .ok (.goto (-36), 3) := dk_167 (by decide +kernel)
theorem dX7_narrowSum_83 : decode cX7_narrowSum 83 = .ok (.iinc 3 1, 3) := dk_132 (by decide +kernel)
theorem dX7_narrowSum_86 : decode cX7_narrowSum 86 = .ok (.goto (-50), 3) := dk_167 (by decide +kernel)
theorem dX7_narrowSum_89 : decode cX7_narrowSum 89 = .ok (.iconst 0, 1) := dk_3 (by decide +kernel)
theorem dX7_narrowSum_90 : decode cX7_narrowSum 90 = .ok (.aload_n 0, 1) := dk_42 (by decide +kernel)
theorem dX7_narrowSum_91 : decode cX7_narrowSum 91 = .ok (.getfield 24, 3) := dk_180 (by decide +kernel)
theorem dX7_narrowSum_94 : decode cX7_narrowSum 94 = .ok (.iload_n 1, 1) := dk_27 (by decide +kernel)
theorem dX7_narrowSum_95 : decode cX7_narrowSum 95 = .ok (.iaload, 1) := dk_46 (by decide +kernel)
theorem dX7_narrowSum_96 : decode cX7_narrowSum 96 = .ok (.invokestatic 89, 3) := dk_184 (by decide +kernel)
theorem dX7_narrowSum_99 : decode cX7_narrowSum 99 = .ok (.istore_n 3, 1) := dk_62 (by decide +kernel)
theorem dX7_narrowSum_100 : decode cX7_narrowSum 100 = .ok (.iload_n 3, 1) := dk_29 (by decide +kernel)
theorem dX7_narrowSum_101 : decode cX7_narrowSum 101 = .ok (.aload_n 0, 1) := dk_42 (by decide +kernel)
theorem dX7_narrowSum_102 : decode cX7_narrowSum 102 = .ok (.getfield 27, 3) := dk_180 (by decide +kernel)
theorem dX7_narrowSum_105 : decode cX7_narrowSum 105 = .ok (.iload_n 1, 1) := dk_27 (by decide +kernel)
theorem dX7_narrowSum_106 : decode cX7_narrowSum 106 = .ok (.iaload, 1) := dk_46 (by decide +kernel)
theorem dX7_narrowSum_107 : decode cX7_narrowSum 107 = .ok (.if_icmp .gt 38, 3) := dk_163 (by decide +kernel)
theorem dX7_narrowSum_110 : decode cX7_narrowSum 110 = .ok (.iload_n 3, 1) := dk_29 (by decide +kernel)
theorem dX7_narrowSum_111 : decode cX7_narrowSum 111 = .ok (.sipush 192, 3) := dk_17 (by decide +kernel)
theorem dX7_narrowSum_114 : decode cX7_narrowSum 114 = .ok (.if_icmp .ge 31, 3) := dk_162 (by decide +kernel)
theorem dX7_narrowSum_117 : decode cX7_narrowSum 117 = .ok (.aload_n 0, 1) := dk_42 (by decide +kernel)
theorem dX7_narrowSum_118 : decode cX7_narrowSum 118 = .ok (.getfield 47, 3) := dk_180 (by decide +kernel)
theorem dX7_narrowSum_121 : decode cX7_narrowSum 121 = .ok (.iload_n 2, 1) := dk_28 (by decide +kernel)
theorem dX7_narrowSum_122 : decode cX7_narrowSum 122 = .ok (.iconst 3, 1) := dk_6 (by decide +kernel)
theorem dX7_narrowSum_123 : decode cX7_narrowSum 123 = .ok (.imul, 1) := dk_104 (by decide +kernel)
theorem dX7_narrowSum_124 : decode cX7_narrowSum 124 = .ok (.iload_n 3, 1) := dk_29 (by decide +kernel)
theorem dX7_narrowSum_125 : decode cX7_narrowSum 125 = .ok (.bipush 6, 2) := dk_16 (by decide +kernel)
theorem dX7_narrowSum_127 : decode cX7_narrowSum 127 = .ok (.ishr, 1) := dk_122 (by decide +kernel)
theorem dX7_narrowSum_128 : decode cX7_narrowSum 128 = .ok (.iadd, 1) := dk_96 (by decide +kernel)
theorem dX7_narrowSum_129 : decode cX7_narrowSum 129 = .ok (.dup2, 1) := dk_92 (by decide +kernel)
theorem dX7_narrowSum_130 : decode cX7_narrowSum 130 = .ok (.laload, 1) := dk_47 (by decide +kernel)
theorem dX7_narrowSum_131 : decode cX7_narrowSum 131 = .ok (.lconst 1, 1) := dk_10 (by decide +kernel)
theorem dX7_narrowSum_132 : decode cX7_narrowSum 132 = .ok (.iload_n 3, 1) := dk_29 (by decide +kernel)
theorem dX7_narrowSum_133 : decode cX7_narrowSum 133 = .ok (.bipush 63, 2) := dk_16 (by decide +kernel)
theorem dX7_narrowSum_135 : decode cX7_narrowSum 135 = .ok (.iand, 1) := dk_126 (by decide +kernel)
theorem dX7_narrowSum_136 : decode cX7_narrowSum 136 = .ok (.lshl, 1) := dk_121 (by decide +kernel)
theorem dX7_narrowSum_137 : decode cX7_narrowSum 137 = .ok (.lor, 1) := dk_129 (by decide +kernel)
theorem dX7_narrowSum_138 : decode cX7_narrowSum 138 = .ok (.lastore, 1) := dk_80 (by decide +kernel)
theorem dX7_narrowSum_139 : decode cX7_narrowSum 139 = .ok (.iinc 3 1, 3) := dk_132 (by decide +kernel)
theorem dX7_narrowSum_142 : decode cX7_narrowSum 142 = .ok (.goto (-42), 3) := dk_167 (by decide +kernel)
theorem dX7_narrowSum_145 : decode cX7_narrowSum 145 = .ok (.iload_n 2, 1) := dk_28 (by decide +kernel)
theorem dX7_narrowSum_146 : decode cX7_narrowSum 146 = .ok (.iconst 1, 1) := dk_4 (by decide +kernel)
theorem dX7_narrowSum_147 : decode cX7_narrowSum 147 = .ok (.isub, 1) := dk_100 (by decide +kernel)
theorem dX7_narrowSum_148 : decode cX7_narrowSum 148 = .ok (.istore_n 3, 1) := dk_62 (by decide +kernel)
theorem dX7_narrowSum_149 : decode cX7_narrowSum 149 = .ok (.iload_n 3, 1) := dk_29 (by decide +kernel)
theorem dX7_narrowSum_150 : decode cX7_narrowSum 150 = .ok (.ifCond .lt 78, 3) := dk_155 (by decide +kernel)
theorem dX7_narrowSum_153 : decode cX7_narrowSum 153 = .ok (.iconst 0, 1) := dk_3 (by decide +kernel)
theorem dX7_narrowSum_154 : decode cX7_narrowSum 154 = .ok (.istore 4, 2) := dk_54 (by decide +kernel)
theorem dX7_narrowSum_156 : decode cX7_narrowSum 156 = .ok (.iconst 0, 1) := dk_3 (by decide +kernel)
theorem dX7_narrowSum_157 : decode cX7_narrowSum 157 = .ok (.istore 5, 2) := dk_54 (by decide +kernel)
theorem dX7_narrowSum_159 : decode cX7_narrowSum 159 = .ok (.iload 5, 2) := dk_21 (by decide +kernel)
theorem dX7_narrowSum_161 : decode cX7_narrowSum 161 = .ok (.bipush 16, 2) := dk_16 (by decide +kernel)
theorem dX7_narrowSum_163 : decode cX7_narrowSum 163 = .ok (.if_icmp .ge 47, 3) := dk_162 (by decide +kernel)
theorem dX7_narrowSum_166 : decode cX7_narrowSum 166 = .ok (.aload_n 0, 1) := dk_42 (by decide +kernel)
theorem dX7_narrowSum_167 : decode cX7_narrowSum 167 = .ok (.getfield 36, 3) := dk_180 (by decide +kernel)
theorem dX7_narrowSum_170 : decode cX7_narrowSum 170 = .ok (.aload_n 0, 1) := dk_42 (by decide +kernel)
theorem dX7_narrowSum_171 : decode cX7_narrowSum 171 = .ok (.getfield 53, 3) := dk_180 (by decide +kernel)
theorem dX7_narrowSum_174 : decode cX7_narrowSum 174 = .ok (.iload_n 3, 1) := dk_29 (by decide +kernel)
theorem dX7_narrowSum_175 : decode cX7_narrowSum 175 = .ok (.iaload, 1) := dk_46 (by decide +kernel)
theorem dX7_narrowSum_176 : decode cX7_narrowSum 176 = .ok (.iaload, 1) := dk_46 (by decide +kernel)
theorem dX7_narrowSum_177 : decode cX7_narrowSum 177 = .ok (.iload 5, 2) := dk_21 (by decide +kernel)
theorem dX7_narrowSum_179 : decode cX7_narrowSum 179 = .ok (.ishr, 1) := dk_122 (by decide +kernel)
theorem dX7_narrowSum_180 : decode cX7_narrowSum 180 = .ok (.iconst 1, 1) := dk_4 (by decide +kernel)
theorem dX7_narrowSum_181 : decode cX7_narrowSum 181 = .ok (.iand, 1) := dk_126 (by decide +kernel)
theorem dX7_narrowSum_182 : decode cX7_narrowSum 182 = .ok (.ifCond .eq 22, 3) := dk_153 (by decide +kernel)
theorem dX7_narrowSum_185 : decode cX7_narrowSum 185 = .ok (.aload_n 0, 1) := dk_42 (by decide +kernel)
theorem dX7_narrowSum_186 : decode cX7_narrowSum 186 = .ok (.iload_n 3, 1) := dk_29 (by decide +kernel)
theorem dX7_narrowSum_187 : decode cX7_narrowSum 187 = .ok (.iload 5, 2) := dk_21 (by decide +kernel)
theorem dX7_narrowSum_189 : decode cX7_narrowSum 189 = .ok (.invokevirtual 160, 3) := dk_182 (by decide +kernel)
theorem dX7_narrowSum_192 : decode cX7_narrowSum 192 = .ok (.ifCond .eq 12, 3) := dk_153 (by decide +kernel)
theorem dX7_narrowSum_195 : decode cX7_narrowSum 195 = .ok (.iload 4, 2) := dk_21 (by decide +kernel)
theorem dX7_narrowSum_197 : decode cX7_narrowSum 197 = .ok (.iconst 1, 1) := dk_4 (by decide +kernel)
theorem dX7_narrowSum_198 : decode cX7_narrowSum 198 = .ok (.iload 5, 2) := dk_21 (by decide +kernel)
theorem dX7_narrowSum_200 : decode cX7_narrowSum 200 = .ok (.ishl, 1) := dk_120 (by decide +kernel)
theorem dX7_narrowSum_201 : decode cX7_narrowSum 201 = .ok (.ior, 1) := dk_128 (by decide +kernel)
theorem dX7_narrowSum_202 : decode cX7_narrowSum 202 = .ok (.istore 4, 2) := dk_54 (by decide +kernel)
theorem dX7_narrowSum_204 : decode cX7_narrowSum 204 = .ok (.iinc 5 1, 3) := dk_132 (by decide +kernel)
theorem dX7_narrowSum_207 : decode cX7_narrowSum 207 = .ok (.goto (-48), 3) := dk_167 (by decide +kernel)
theorem dX7_narrowSum_210 : decode cX7_narrowSum 210 = .ok (.aload_n 0, 1) := dk_42 (by decide +kernel)
theorem dX7_narrowSum_211 : decode cX7_narrowSum 211 = .ok (.aload_n 0, 1) := dk_42 (by decide +kernel)
theorem dX7_narrowSum_212 : decode cX7_narrowSum 212 = .ok (.getfield 53, 3) := dk_180 (by decide +kernel)
theorem dX7_narrowSum_215 : decode cX7_narrowSum 215 = .ok (.iload_n 3, 1) := dk_29 (by decide +kernel)
theorem dX7_narrowSum_216 : decode cX7_narrowSum 216 = .ok (.iaload, 1) := dk_46 (by decide +kernel)
theorem dX7_narrowSum_217 : decode cX7_narrowSum 217 = .ok (.iload 4, 2) := dk_21 (by decide +kernel)
theorem dX7_narrowSum_219 : decode cX7_narrowSum 219 = .ok (.invokevirtual 146, 3) := dk_182 (by decide +kernel)
theorem dX7_narrowSum_222 : decode cX7_narrowSum 222 = .ok (.iinc 3 (-1), 3) := dk_132 (by decide +kernel)
theorem dX7_narrowSum_225 : decode cX7_narrowSum 225 = .ok (.goto (-76), 3) := dk_167 (by decide +kernel)
theorem dX7_narrowSum_228 : decode cX7_narrowSum 228 = .ok (.return_, 1) := dk_177 (by decide +kernel)
def wsMX7_narrowSum : List Cond := .code yX7_narrowSum cX7_narrowSum 6 none :: ([.fieldLink RX7 21 "OptimaWorks$ValueDesk" "a" "[I", .fieldLink RX7 43 "OptimaWorks$ValueDesk" "fore" "[J", .fieldLink RX7 47 "OptimaWorks$ValueDesk" "back" "[J", .fieldLink RX7 36 "OptimaWorks$ValueDesk" "now" "[I", .fieldLink RX7 53 "OptimaWorks$ValueDesk" "member" "[I", .fieldLink RX7 24 "OptimaWorks$ValueDesk" "b" "[I", .methodLink RX7 89 Lib.Math.max.name, .static Lib.Math.max.name, .initialized "java/lang/Math", .code Lib.Math.max.name Lib.Math.max.code 2 (some .int), .fieldLink RX7 27 "OptimaWorks$ValueDesk" "c" "[I"] ++ wsX70 ++ (wsV RX7 138 RX7 yX7_takeMembers wsMX7_takeMembers) ++ (va_wsS RX7 154 yJ7_fill_d0a16 wsMJ7_fill_d0a16) ++ (wsV RX7 157 RX7 yX7_moveUp wsMX7_moveUp) ++ (wsV RX7 160 RX7 yX7_moveDown wsMX7_moveDown) ++ (wsV RX7 146 RX7 yX7_cutTo wsMX7_cutTo))
theorem iwsMX7_narrowSum_in7 : ∀ w ∈ wsX70, w ∈ wsMX7_narrowSum := fun _ h => List.mem_cons_of_mem _ (List.mem_append_left _ (List.mem_append_left _ (List.mem_append_left _ (List.mem_append_left _ (List.mem_append_left _ (List.mem_append_right _ h))))))
theorem gwsMX7_narrowSum_0 : GoodIn wsMX7_narrowSum (wsV RX7 138 RX7 yX7_takeMembers wsMX7_takeMembers) := goodIn_sub (fun _ h => List.mem_cons_of_mem _ (List.mem_append_left _ (List.mem_append_left _ (List.mem_append_left _ (List.mem_append_left _ (List.mem_append_right _ h)))))) (gdV (by decide +kernel) gdwsMX7_takeMembers)
theorem gwsMX7_narrowSum_1 : GoodIn wsMX7_narrowSum (va_wsS RX7 154 yJ7_fill_d0a16 wsMJ7_fill_d0a16) := goodIn_sub (fun _ h => List.mem_cons_of_mem _ (List.mem_append_left _ (List.mem_append_left _ (List.mem_append_left _ (List.mem_append_right _ h))))) (gdS (by decide +kernel) gdwsMJ7_fill_d0a16)
theorem gwsMX7_narrowSum_2 : GoodIn wsMX7_narrowSum (wsV RX7 157 RX7 yX7_moveUp wsMX7_moveUp) := goodIn_sub (fun _ h => List.mem_cons_of_mem _ (List.mem_append_left _ (List.mem_append_left _ (List.mem_append_right _ h)))) (gdV (by decide +kernel) gdwsMX7_moveUp)
theorem gwsMX7_narrowSum_3 : GoodIn wsMX7_narrowSum (wsV RX7 160 RX7 yX7_moveDown wsMX7_moveDown) := goodIn_sub (fun _ h => List.mem_cons_of_mem _ (List.mem_append_left _ (List.mem_append_right _ h))) (gdV (by decide +kernel) gdwsMX7_moveDown)
theorem gwsMX7_narrowSum_4 : GoodIn wsMX7_narrowSum (wsV RX7 146 RX7 yX7_cutTo wsMX7_cutTo) := goodIn_sub (fun _ h => List.mem_cons_of_mem _ (List.mem_append_right _ h)) (gdV (by decide +kernel) gdwsMX7_cutTo)
theorem gdwsMX7_narrowSum : wsMX7_narrowSum.all goodWord = true := gdC rfl (gdA (gdA (gdA (gdA (gdA (gdA (by decide +kernel : ([.fieldLink RX7 21 "OptimaWorks$ValueDesk" "a" "[I", .fieldLink RX7 43 "OptimaWorks$ValueDesk" "fore" "[J", .fieldLink RX7 47 "OptimaWorks$ValueDesk" "back" "[J", .fieldLink RX7 36 "OptimaWorks$ValueDesk" "now" "[I", .fieldLink RX7 53 "OptimaWorks$ValueDesk" "member" "[I", .fieldLink RX7 24 "OptimaWorks$ValueDesk" "b" "[I", .methodLink RX7 89 Lib.Math.max.name, .static Lib.Math.max.name, .initialized "java/lang/Math", .code Lib.Math.max.name Lib.Math.max.code 2 (some .int), .fieldLink RX7 27 "OptimaWorks$ValueDesk" "c" "[I"] : List Cond).all goodWord = true) gdwsX70) (gdV (by decide +kernel) gdwsMX7_takeMembers)) (gdS (by decide +kernel) gdwsMJ7_fill_d0a16)) (gdV (by decide +kernel) gdwsMX7_moveUp)) (gdV (by decide +kernel) gdwsMX7_moveDown)) (gdV (by decide +kernel) gdwsMX7_cutTo))
theorem hm_m_X7_narrowSum_0 : (.fieldLink RX7 43 "OptimaWorks$ValueDesk" "fore" "[J" : Cond) ∈ wsMX7_narrowSum := by decide +kernel
theorem hm_m_X7_narrowSum_1 : (.fieldLink RX7 47 "OptimaWorks$ValueDesk" "back" "[J" : Cond) ∈ wsMX7_narrowSum := by decide +kernel
theorem hm_m_X7_narrowSum_2 : (.fieldLink RX7 53 "OptimaWorks$ValueDesk" "member" "[I" : Cond) ∈ wsMX7_narrowSum := by decide +kernel
theorem hm_m_X7_narrowSum_3 : (.fieldLink RX7 36 "OptimaWorks$ValueDesk" "now" "[I" : Cond) ∈ wsMX7_narrowSum := by decide +kernel
set_option maxHeartbeats 4000000 in
set_option maxRecDepth 100000 in
/-- sums -/
theorem m_X7_narrowSum (l : Launch) (dC : Nat → ClassId) (dI : Nat → Nat → Nat) (hV : Nat → Nat) (aV : Nat → Nat) (kV : Nat → ClassId) (iV_holders : Int32) (iV_rules : Int32) (fV_pairs : Nat → Int32) (fV_domain : Nat → Int32) (fV_kind : Nat → Int32) (fV_a : Nat → Int32) (fV_b : Nat → Int32) (fV_c : Nat → Int32) (fV_rulePairs : Nat → Int32) (fV_lastHolder : Nat → Int32) (fV_now : Nat → Int32) (iV_doneFor : Int32) (iV_changed : Int32) (gV_fore : Nat → Int64) (gV_back : Nat → Int64) (fV_together : Nat → Int32) (fV_member : Nat → Int32) (gV_list : Nat → Int64) (dV_list : Nat) (nV_list : Nat) (iV_listed : Int32) (iV_listDone : Int32) (p1 : Int32) (b_iV_holders : 0 ≤ iV_holders.toInt ∧ iV_holders.toInt ≤ 10) (b_iV_rules : 0 ≤ iV_rules.toInt ∧ iV_rules.toInt ≤ 12) (b_fV_kind : ∀ q : Nat, 0 ≤ (fV_kind q).toInt ∧ (fV_kind q).toInt ≤ 4) (b_iV_changed : 0 ≤ iV_changed.toInt ∧ iV_changed.toInt ≤ 1) (b_fV_member : ∀ q : Nat, (-1) ≤ (fV_member q).toInt ∧ (fV_member q).toInt ≤ 15) (b_nV_list : 0 ≤ nV_list ∧ nV_list ≤ 20000) (b_iV_listed : (-1) ≤ iV_listed.toInt ∧ iV_listed.toInt ≤ 5000) (b_iV_listDone : 0 ≤ iV_listDone.toInt ∧ iV_listDone.toInt ≤ 1) (b_RuV : RuV fV_kind fV_a fV_b fV_c fV_lastHolder) (b_lst : iV_listed.toInt ≤ ((nV_list : Nat) : Int)) (b_p1 : 0 ≤ p1.toInt ∧ p1.toInt ≤ 11) (sz : Nat) : Met l yX7_narrowSum wsMX7_narrowSum ({ frames := 1, cells := 0, slots := 0, locals := 30 }) (va_Pc [.ref (hV 0), .int p1] (fun U => U.heap.size = sz ∧ va_P (dC, dI) vwCl (WV hV aV kV iV_holders iV_rules fV_pairs fV_domain fV_kind fV_a fV_b fV_c fV_rulePairs fV_lastHolder fV_now iV_doneFor iV_changed gV_fore gV_back fV_together fV_member gV_list dV_list nV_list iV_listed iV_listDone) U.heap ∧ va_K (dC, dI) vwCl (tV kV) U ∧ va_D (fun _ => True) (WV hV aV kV iV_holders iV_rules fV_pairs fV_domain fV_kind fV_a fV_b fV_c fV_rulePairs fV_lastHolder fV_now iV_doneFor iV_changed gV_fore gV_back fV_together fV_member gV_list dV_list nV_list iV_listed iV_listDone))) (va_Qv (fun (u : (Nat → Int32) × (Int32) × (Nat → Int64) × (Nat → Int64) × (Nat → Int32)) => (0 ≤ (u.2.1).toInt ∧ (u.2.1).toInt ≤ 1) ∧ (∀ q : Nat, (-1) ≤ ((u.2.2.2.2) q).toInt ∧ ((u.2.2.2.2) q).toInt ≤ 15)) (fun (u : (Nat → Int32) × (Int32) × (Nat → Int64) × (Nat → Int64) × (Nat → Int32)) t => va_P (dC, dI) vwCl (WV hV aV kV iV_holders iV_rules fV_pairs fV_domain fV_kind fV_a fV_b fV_c fV_rulePairs fV_lastHolder (u.1) iV_doneFor (u.2.1) (u.2.2.1) (u.2.2.2.1) fV_together (u.2.2.2.2) gV_list dV_list nV_list iV_listed iV_listDone) t.heap ∧ va_D (va_A (WV hV aV kV iV_holders iV_rules fV_pairs fV_domain fV_kind fV_a fV_b fV_c fV_rulePairs fV_lastHolder fV_now iV_doneFor iV_changed gV_fore gV_back fV_together fV_member gV_list dV_list nV_list iV_listed iV_listDone) sz) (WV hV aV kV iV_holders iV_rules fV_pairs fV_domain fV_kind fV_a fV_b fV_c fV_rulePairs fV_lastHolder (u.1) iV_doneFor (u.2.1) (u.2.2.1) (u.2.2.2.1) fV_together (u.2.2.2.2) gV_list dV_list nV_list iV_listed iV_listDone)) (va_A (WV hV aV kV iV_holders iV_rules fV_pairs fV_domain fV_kind fV_a fV_b fV_c fV_rulePairs fV_lastHolder fV_now iV_doneFor iV_changed gV_fore gV_back fV_together fV_member gV_list dV_list nV_list iV_listed iV_listDone) sz)) 0 0 (va_A (WV hV aV kV iV_holders iV_rules fV_pairs fV_domain fV_kind fV_a fV_b fV_c fV_rulePairs fV_lastHolder fV_now iV_doneFor iV_changed gV_fore gV_back fV_together fV_member gV_list dV_list nV_list iV_listed iV_listDone) sz) := by
  refine Met.ofW (cc := cX7_narrowSum) (maxL := 6) (ret := none) (by decide) rfl ?_
  intro p e s m args below meth c s₁ B hml hv
  obtain ⟨rfl, hsz, hP, hK, hD0⟩ := hv
  have hx := B.exec
  have hb := B.bytes
  have hr := B.returns
  have hts := atoms_spec (ws := wsMX7_narrowSum) B.pre
  have hown : s.vm.findClass RX7 = some m.cls := findClass_of_methodNamed B.named
  have hlocks := B.notSynchronized
  subst hsz
  have hD := hD0.self (sz := s.heap.size)
  generalize hAe : va_A (WV hV aV kV iV_holders iV_rules fV_pairs fV_domain fV_kind fV_a fV_b fV_c fV_rulePairs fV_lastHolder fV_now iV_doneFor iV_changed gV_fore gV_back fV_together fV_member gV_list dV_list nV_list iV_listed iV_listDone) s.heap.size = A at hD ⊢
  have hA : ∀ q : Nat, s.heap.size ≤ q → A q := fun q h => by rw [← hAe]; exact Or.inr h
  have hS : va_S A s.heap s.heap [] := va_S.rf
  have hl := lv_entry ([.ref (hV 0), .int p1]) (n := 6) (Nat.le_of_ble_eq_true rfl)
  rw [lg_entry_eq]
  generalize (lg_sl ([.ref (hV 0), .int p1]) ++ List.replicate (6 - (lg_sl ([.ref (hV 0), .int p1])).length) Slot.unset).toArray = ls at hl ⊢
  have hl : lv_has ls 6 [(0, .ref (hV 0)), (1, .int p1)] := hl
  refine lv_aload_n hx hb dX7_narrowSum_0 rfl (lv_at hl 0 rfl) ?_
  refine lv_aload_n hx hb dX7_narrowSum_1 rfl (lv_at hl 0 rfl) ?_
  refine va_get (D := (dC, dI)) (ci := 7) (v := .ref (aV 3)) (C := RX7) (T := TX7) (N := 20) hx hb hts iwsMX7_narrowSum_in7 hown hK hP 0 rfl rfl 5 (by decide) (hts (.fieldLink RX7 21 "OptimaWorks$ValueDesk" "a" "[I") (by decide +kernel)) (fun _ h9 => h9) rfl dX7_narrowSum_2 ?_
  refine lv_iload_n hx hb dX7_narrowSum_5 rfl (lv_at hl 1 rfl) ?_
  refine va_iald (cA := kV 3) (n := 12) (f := fV_a) hx hb hK hP 4 3 rfl rfl (vp_in_iff.mpr ⟨b_p1.1, (Int.lt_of_le_of_lt (b_p1.2) (by decide))⟩) dX7_narrowSum_6 ?_
  refine lv_topi (fun v1 hv1 => ?_)
  clear hv1
  have hFc := allFree hD hS hA
  refine va_calli (va_runV (As := [.int v1]) (rest := []) ⟨hx, hb, hml, hown, hts⟩ (m_X7_takeMembers l dC dI hV aV kV iV_holders iV_rules fV_pairs fV_domain fV_kind fV_a fV_b fV_c fV_rulePairs fV_lastHolder fV_now iV_doneFor iV_changed gV_fore gV_back fV_together fV_member gV_list dV_list nV_list iV_listed iV_listDone v1 (b_iV_holders) (b_iV_rules) b_fV_kind (b_iV_changed) b_fV_member (by first | exact b_nV_list | with_reducible assumption | exact ⟨by omega, by omega⟩ | assumption) (b_iV_listed) (b_iV_listDone) (by first | with_reducible assumption | omega | assumption) (by first | with_reducible assumption | omega | assumption) s.heap.size) (cwV 1 hts gwsMX7_narrowSum_0 rfl rfl rfl hd_yX7_takeMembers_RX7 (by decide +kernel)) (fz_pre (va_recv hK hP (ci := 7) (q0 := 0) rfl rfl) hP hK hD) rfl rfl hl.1 rfl (lv_room (Nat.le_of_ble_eq_true rfl)) dX7_narrowSum_7 (by decide +kernel)) hS (fun q _ h => hFc q h) hFc (fun r2 fV_member_2 t9_ H locs ht hvm hw9 hB9 hz1 hk1 hS => ?_)
  revert hw9
  refine fz_a3 ?_
  intro b_fV_member_2 b_r2 f2_0
  have hP : va_P (dC, dI) vwCl (WV hV aV kV iV_holders iV_rules fV_pairs fV_domain fV_kind fV_a fV_b fV_c fV_rulePairs fV_lastHolder fV_now iV_doneFor iV_changed gV_fore gV_back fV_together fV_member_2 gV_list dV_list nV_list iV_listed iV_listDone) H := fz_P ht hB9.1
  have hD := fz_sd hP (hB9.2.weaken (fun _ q _ h => hFc q.1 h)) rfl
  have hMe := f2_0
  refine lv_istore_n hx hb dX7_narrowSum_10 rfl hl (by decide) rfl (fun ls (hl : lv_has ls _ ([(2, .int r2), (0, .ref (hV 0)), (1, .int p1)])) => ?_)
  refine lv_aload_n hx hb dX7_narrowSum_11 rfl (lv_at hl 1 rfl) ?_
  refine va_get (D := (dC, dI)) (ci := 7) (v := .ref (aV 9)) (C := RX7) (T := TX7) (N := 20) hx hb hts iwsMX7_narrowSum_in7 hown hK hP 0 rfl rfl 13 (by decide) (hts _ hm_m_X7_narrowSum_0) (fun _ h9 => h9) rfl dX7_narrowSum_12 ?_
  refine lv_lconst (v := 0) hx hb dX7_narrowSum_15 (by decide) ?_
  have hPc : va_P (dC, dI) vwCl (WZ (fun _ => 0) (fun _ => aV 9) (fun _ => kV 9) 33 gV_fore) _ := hP.sub [10] rfl
  have hDc : va_D _ (WZ (fun _ => 0) (fun _ => aV 9) (fun _ => kV 9) 33 gV_fore) := hD.sub [10] (by decide) rfl
  have hKc : va_K (dC, dI) vwCl (tZ (fun _ => kV 9)) _ := hK.sub [9] rfl
  have hFc := va_free (wc := WZ (fun _ => 0) (fun _ => aV 9) (fun _ => kV 9) 33 gV_fore) hD hS hA [10] rfl
  refine va_callv (va_runS (As := [.ref (aV 9), .long 0]) (rest := []) ⟨hx, hb, hml, hown, hts⟩ (m_J7_fill_d0a16 l dC dI (fun _ => 0) (fun _ => aV 9) (fun _ => kV 9) 33 gV_fore 0 (by first | assumption | exact ⟨by omega, by omega⟩) H.size) (va_cwS 2 hts gwsMX7_narrowSum_1 rfl rfl rfl (by decide +kernel) ⟨by decide +kernel, by decide +kernel⟩) ⟨fun a U g mk q => by obtain ⟨q0, q1, qP, qK, qD⟩ := q; exact ⟨q0, q1, qP, va_K.moved (u := U) (U := U.calling g mk a) (Vm.Alike.refl U.vm) qK, qD⟩, fun U hU9 hW => ⟨rfl, by rw [hU9], by rw [hU9]; exact hPc, va_K.moved hW.alike hKc, hDc.weaken (fun _ _ _ _ => trivial)⟩⟩ rfl rfl hl.1 rfl (lv_room (Nat.le_of_ble_eq_true rfl)) dX7_narrowSum_16 (by decide +kernel)) hS (fun q _ h => hFc q h) hFc (fun gZ_3 t9_ H locs ht hvm hw9 hB9 hz1 hk1 hS => ?_)
  clear hw9
  obtain ⟨hP, hD⟩ := va_join (wr := [(hV 0, .inr (7, [.int iV_holders, .int iV_rules, .ref (aV 0), .ref (aV 1), .ref (aV 2), .ref (aV 3), .ref (aV 4), .ref (aV 5), .ref (aV 6), .ref (aV 7), .ref (aV 8), .int iV_doneFor, .int iV_changed, .ref (aV 9), .ref (aV 10), .ref (aV 11), .ref (aV 12), .ref dV_list, .int iV_listed, .int iV_listDone])), (aV 0, .inl (kV 0, 16, .inl fV_pairs)), (aV 1, .inl (kV 1, 10, .inl fV_domain)), (aV 2, .inl (kV 2, 12, .inl fV_kind)), (aV 3, .inl (kV 3, 12, .inl fV_a)), (aV 4, .inl (kV 4, 12, .inl fV_b)), (aV 5, .inl (kV 5, 12, .inl fV_c)), (aV 6, .inl (kV 6, 192, .inl fV_rulePairs)), (aV 7, .inl (kV 7, 12, .inl fV_lastHolder)), (aV 8, .inl (kV 8, 10, .inl fV_now)), (aV 10, .inl (kV 10, 33, .inr (.inl gV_back))), (aV 11, .inl (kV 11, 1024, .inl fV_together)), (aV 12, .inl (kV 12, 10, .inl fV_member_2)), (dV_list, .inl (kV 13, nV_list, .inr (.inl gV_list)))]) (w1 := WZ (fun _ => 0) (fun _ => aV 9) (fun _ => kV 9) 33 gZ_3) hP hD [10] [0, 1, 2, 3, 4, 5, 6, 7, 8, 9, 11, 12, 13, 14] rfl rfl (by decide) (by decide) hk1 hFc (fz_P ht hB9.1) hB9.2
  have hP : va_P (dC, dI) vwCl (WV hV aV kV iV_holders iV_rules fV_pairs fV_domain fV_kind fV_a fV_b fV_c fV_rulePairs fV_lastHolder fV_now iV_doneFor iV_changed gZ_3 gV_back fV_together fV_member_2 gV_list dV_list nV_list iV_listed iV_listDone) H := hP.sub [0, 1, 2, 3, 4, 5, 6, 7, 8, 9, 14, 10, 11, 12, 13] rfl
  have hD : va_D A (WV hV aV kV iV_holders iV_rules fV_pairs fV_domain fV_kind fV_a fV_b fV_c fV_rulePairs fV_lastHolder fV_now iV_doneFor iV_changed gZ_3 gV_back fV_together fV_member_2 gV_list dV_list nV_list iV_listed iV_listDone) := hD.sub [0, 1, 2, 3, 4, 5, 6, 7, 8, 9, 14, 10, 11, 12, 13] (by decide) rfl
  refine lv_aload_n hx hb dX7_narrowSum_19 rfl (lv_at hl 1 rfl) ?_
  refine va_get (D := (dC, dI)) (ci := 7) (v := .ref (aV 10)) (C := RX7) (T := TX7) (N := 20) hx hb hts iwsMX7_narrowSum_in7 hown hK hP 0 rfl rfl 14 (by decide) (hts _ hm_m_X7_narrowSum_1) (fun _ h9 => h9) rfl dX7_narrowSum_20 ?_
  refine lv_lconst (v := 0) hx hb dX7_narrowSum_23 (by decide) ?_
  have hPc : va_P (dC, dI) vwCl (WZ (fun _ => 0) (fun _ => aV 10) (fun _ => kV 10) 33 gV_back) _ := hP.sub [11] rfl
  have hDc : va_D _ (WZ (fun _ => 0) (fun _ => aV 10) (fun _ => kV 10) 33 gV_back) := hD.sub [11] (by decide) rfl
  have hKc : va_K (dC, dI) vwCl (tZ (fun _ => kV 10)) _ := hK.sub [10] rfl
  have hFc := va_free (wc := WZ (fun _ => 0) (fun _ => aV 10) (fun _ => kV 10) 33 gV_back) hD hS hA [11] rfl
  refine va_callv (va_runS (As := [.ref (aV 10), .long 0]) (rest := []) ⟨hx, hb, hml, hown, hts⟩ (m_J7_fill_d0a16 l dC dI (fun _ => 0) (fun _ => aV 10) (fun _ => kV 10) 33 gV_back 0 (by first | assumption | exact ⟨by omega, by omega⟩) H.size) (va_cwS 2 hts gwsMX7_narrowSum_1 rfl rfl rfl (by decide +kernel) ⟨by decide +kernel, by decide +kernel⟩) ⟨fun a U g mk q => by obtain ⟨q0, q1, qP, qK, qD⟩ := q; exact ⟨q0, q1, qP, va_K.moved (u := U) (U := U.calling g mk a) (Vm.Alike.refl U.vm) qK, qD⟩, fun U hU9 hW => ⟨rfl, by rw [hU9], by rw [hU9]; exact hPc, va_K.moved hW.alike hKc, hDc.weaken (fun _ _ _ _ => trivial)⟩⟩ rfl rfl hl.1 rfl (lv_room (Nat.le_of_ble_eq_true rfl)) dX7_narrowSum_24 (by decide +kernel)) hS (fun q _ h => hFc q h) hFc (fun gZ_4 t9_ H locs ht hvm hw9 hB9 hz1 hk1 hS => ?_)
  clear hw9
  obtain ⟨hP, hD⟩ := va_join (wr := [(hV 0, .inr (7, [.int iV_holders, .int iV_rules, .ref (aV 0), .ref (aV 1), .ref (aV 2), .ref (aV 3), .ref (aV 4), .ref (aV 5), .ref (aV 6), .ref (aV 7), .ref (aV 8), .int iV_doneFor, .int iV_changed, .ref (aV 9), .ref (aV 10), .ref (aV 11), .ref (aV 12), .ref dV_list, .int iV_listed, .int iV_listDone])), (aV 0, .inl (kV 0, 16, .inl fV_pairs)), (aV 1, .inl (kV 1, 10, .inl fV_domain)), (aV 2, .inl (kV 2, 12, .inl fV_kind)), (aV 3, .inl (kV 3, 12, .inl fV_a)), (aV 4, .inl (kV 4, 12, .inl fV_b)), (aV 5, .inl (kV 5, 12, .inl fV_c)), (aV 6, .inl (kV 6, 192, .inl fV_rulePairs)), (aV 7, .inl (kV 7, 12, .inl fV_lastHolder)), (aV 8, .inl (kV 8, 10, .inl fV_now)), (aV 9, .inl (kV 9, 33, .inr (.inl gZ_3))), (aV 11, .inl (kV 11, 1024, .inl fV_together)), (aV 12, .inl (kV 12, 10, .inl fV_member_2)), (dV_list, .inl (kV 13, nV_list, .inr (.inl gV_list)))]) (w1 := WZ (fun _ => 0) (fun _ => aV 10) (fun _ => kV 10) 33 gZ_4) hP hD [11] [0, 1, 2, 3, 4, 5, 6, 7, 8, 9, 10, 12, 13, 14] rfl rfl (by decide) (by decide) hk1 hFc (fz_P ht hB9.1) hB9.2
  have hP : va_P (dC, dI) vwCl (WV hV aV kV iV_holders iV_rules fV_pairs fV_domain fV_kind fV_a fV_b fV_c fV_rulePairs fV_lastHolder fV_now iV_doneFor iV_changed gZ_3 gZ_4 fV_together fV_member_2 gV_list dV_list nV_list iV_listed iV_listDone) H := hP.sub [0, 1, 2, 3, 4, 5, 6, 7, 8, 9, 10, 14, 11, 12, 13] rfl
  have hD : va_D A (WV hV aV kV iV_holders iV_rules fV_pairs fV_domain fV_kind fV_a fV_b fV_c fV_rulePairs fV_lastHolder fV_now iV_doneFor iV_changed gZ_3 gZ_4 fV_together fV_member_2 gV_list dV_list nV_list iV_listed iV_listDone) := hD.sub [0, 1, 2, 3, 4, 5, 6, 7, 8, 9, 10, 14, 11, 12, 13] (by decide) rfl
  refine lv_aload_n hx hb dX7_narrowSum_27 rfl (lv_at hl 1 rfl) ?_
  refine va_get (D := (dC, dI)) (ci := 7) (v := .ref (aV 9)) (C := RX7) (T := TX7) (N := 20) hx hb hts iwsMX7_narrowSum_in7 hown hK hP 0 rfl rfl 13 (by decide) (hts _ hm_m_X7_narrowSum_0) (fun _ h9 => h9) rfl dX7_narrowSum_28 ?_
  refine lv_iconst (v := 0) hx hb dX7_narrowSum_31 (by decide) ?_
  refine lv_lconst (v := 1) hx hb dX7_narrowSum_32 (by decide) ?_
  refine va_last (cA := kV 9) (n := 33) (f := gZ_3) hx hb hK hP hD hS 10 9 rfl rfl (show ¬ ((0 : Int32) < 0 ∨ 33 ≤ (0 : Int32).toNatClampNeg) by decide) dX7_narrowSum_33 (fun H locs hP hD hS => ?_)
  obtain ⟨u5, hu5⟩ : ∃ f9, f9 = vp_updL gZ_3 (0 : Int32).toNatClampNeg (1 : Int64) := ⟨_, rfl⟩
  have hP : va_P (dC, dI) vwCl (WV hV aV kV iV_holders iV_rules fV_pairs fV_domain fV_kind fV_a fV_b fV_c fV_rulePairs fV_lastHolder fV_now iV_doneFor iV_changed u5 gZ_4 fV_together fV_member_2 gV_list dV_list nV_list iV_listed iV_listDone) H := by rw [hu5]; exact hP
  have hD : va_D A (WV hV aV kV iV_holders iV_rules fV_pairs fV_domain fV_kind fV_a fV_b fV_c fV_rulePairs fV_lastHolder fV_now iV_doneFor iV_changed u5 gZ_4 fV_together fV_member_2 gV_list dV_list nV_list iV_listed iV_listDone) := by rw [hu5]; exact hD
  clear hu5
  refine lv_iconst (v := 0) hx hb dX7_narrowSum_34 (by decide) ?_
  refine lv_istore_n hx hb dX7_narrowSum_35 rfl hl (by decide) rfl (fun ls (hl : lv_has ls _ ([(3, .int 0), (2, .int r2), (0, .ref (hV 0)), (1, .int p1)])) => ?_)
  have hl : lv_has _ _ ([(3, .int 0), (2, .int r2), (0, .ref (hV 0)), (1, .int p1)]) := lv_sub hl [0, 1, 2, 3] rfl
  refine (fun (loop : ∀ (n9 : Nat) (gV_fore_x36 : Nat → Int64) (l3_x36 : Int32) (H : Heap) (locs : List Loc) (ls : Array Slot), (0 ≤ l3_x36.toInt ∧ l3_x36.toInt ≤ 10) → (10 - l3_x36.toInt < ((n9 : Nat) : Int)) → va_P (dC, dI) vwCl (WV hV aV kV iV_holders iV_rules fV_pairs fV_domain fV_kind fV_a fV_b fV_c fV_rulePairs fV_lastHolder fV_now iV_doneFor iV_changed gV_fore_x36 gZ_4 fV_together fV_member_2 gV_list dV_list nV_list iV_listed iV_listDone) H → va_D A (WV hV aV kV iV_holders iV_rules fV_pairs fV_domain fV_kind fV_a fV_b fV_c fV_rulePairs fV_lastHolder fV_now iV_doneFor iV_changed gV_fore_x36 gZ_4 fV_together fV_member_2 gV_list dV_list nV_list iV_listed iV_listDone) → va_S A s.heap H locs → lv_has ls 6 [(3, .int l3_x36), (2, .int r2), (0, .ref (hV 0)), (1, .int p1)] → W p l e _ s m _ below meth c H locs 0 0 _ (F0 m 36 ls [])) => loop (11) u5 0 _ _ _ (show 0 ≤ (0 : Int32).toInt ∧ (0 : Int32).toInt ≤ 10 from by decide) ((by have e9 : (0 : Int32).toInt = 0 := (by decide : (0 : Int32).toInt = 0); omega)) hP hD hS hl) ?_
  intro n9
  induction n9 with
  | zero => intro gV_fore_x36 l3_x36 H locs ls b_l3_x36 hf9; exact False.elim (by omega)
  | succ n9 ihx36 =>
    intro gV_fore_x36 l3_x36 H locs ls b_l3_x36 hfx36 hP hD hS hl
    refine lv_iload_n hx hb dX7_narrowSum_36 rfl (lv_at hl 0 rfl) ?_
    refine lv_iload_n hx hb dX7_narrowSum_37 rfl (lv_at hl 1 rfl) ?_
    refine lv_icmp_ge (tgt := 89) hx hb dX7_narrowSum_38 (by decide) (fun c_38 => ?_) (fun c_38 => ?_)
    · have t_38 : l3_x36.toInt ≥ r2.toInt := toI_ge c_38 rfl rfl
      refine lv_iconst (v := 0) hx hb dX7_narrowSum_89 (by decide) ?_
      refine lv_aload_n hx hb dX7_narrowSum_90 rfl (lv_at hl 2 rfl) ?_
      refine va_get (D := (dC, dI)) (ci := 7) (v := .ref (aV 4)) (C := RX7) (T := TX7) (N := 20) hx hb hts iwsMX7_narrowSum_in7 hown hK hP 0 rfl rfl 6 (by decide) (hts (.fieldLink RX7 24 "OptimaWorks$ValueDesk" "b" "[I") (by decide +kernel)) (fun _ h9 => h9) rfl dX7_narrowSum_91 ?_
      refine lv_iload_n hx hb dX7_narrowSum_94 rfl (lv_at hl 3 rfl) ?_
      refine va_iald (cA := kV 4) (n := 12) (f := fV_b) hx hb hK hP 5 4 rfl rfl (vp_in_iff.mpr ⟨b_p1.1, (Int.lt_of_le_of_lt (b_p1.2) (by decide))⟩) dX7_narrowSum_95 ?_
      refine lv_topi (fun v2212 hv2212 => ?_)
      clear hv2212
      refine va_mmax hx hb (by rw [hml]; exact hl.1.symm) hown (hts (.methodLink RX7 89 Lib.Math.max.name) (by decide +kernel)) (hts (.static Lib.Math.max.name) (by decide +kernel)) (hts (.initialized "java/lang/Math") (by decide +kernel)) (hts (.code Lib.Math.max.name Lib.Math.max.code 2 (some .int)) (by decide +kernel)) (by decide +kernel) (Nat.le_of_ble_eq_true rfl) (by decide +kernel) (by decide +kernel) dX7_narrowSum_96 ?_
      refine lv_topi (fun v2213 hv2213 => ?_)
      have b_v2213 : (0 ≤ v2213.toInt ∧ v2212.toInt ≤ v2213.toInt) ∧ (v2213.toInt = 0 ∨ v2213.toInt = v2212.toInt) := by rw [hv2213]; exact max_t (by decide : (0 : Int32).toInt = 0) rfl
      have b1_v2213 : -2147483648 ≤ v2213.toInt ∧ v2213.toInt ≤ 2147483647 := by rw [hv2213]; exact i32_r _
      clear hv2213
      refine lv_istore_n hx hb dX7_narrowSum_99 rfl hl (by decide) rfl (fun ls (hl : lv_has ls _ ([(3, .int v2213), (2, .int r2), (0, .ref (hV 0)), (1, .int p1)])) => ?_)
      have hl : lv_has _ _ ([(3, .int v2213), (2, .int r2), (0, .ref (hV 0)), (1, .int p1)]) := lv_sub hl [0, 1, 2, 3] rfl
      refine (fun (loop : ∀ (n9 : Nat) (gV_back_x100 : Nat → Int64) (l3_x100 : Int32) (H : Heap) (locs : List Loc) (ls : Array Slot), (0 ≤ l3_x100.toInt ∧ l3_x100.toInt ≤ 2147483647) → (2147483647 - l3_x100.toInt < ((n9 : Nat) : Int)) → va_P (dC, dI) vwCl (WV hV aV kV iV_holders iV_rules fV_pairs fV_domain fV_kind fV_a fV_b fV_c fV_rulePairs fV_lastHolder fV_now iV_doneFor iV_changed gV_fore_x36 gV_back_x100 fV_together fV_member_2 gV_list dV_list nV_list iV_listed iV_listDone) H → va_D A (WV hV aV kV iV_holders iV_rules fV_pairs fV_domain fV_kind fV_a fV_b fV_c fV_rulePairs fV_lastHolder fV_now iV_doneFor iV_changed gV_fore_x36 gV_back_x100 fV_together fV_member_2 gV_list dV_list nV_list iV_listed iV_listDone) → va_S A s.heap H locs → lv_has ls 6 [(3, .int l3_x100), (2, .int r2), (0, .ref (hV 0)), (1, .int p1)] → W p l e _ s m _ below meth c H locs 0 0 _ (F0 m 100 ls [])) => loop (2147483648) gZ_4 v2213 _ _ _ (by first | exact b_v2213 | with_reducible assumption | exact ⟨by omega, by omega⟩ | assumption) ((by have e9 : (v2213).toInt = v2213.toInt := rfl; omega)) hP hD hS hl) ?_
      intro n9
      induction n9 with
      | zero => intro gV_back_x100 l3_x100 H locs ls b_l3_x100 hf9; exact False.elim (by omega)
      | succ n9 ihx100 =>
        intro gV_back_x100 l3_x100 H locs ls b_l3_x100 hfx100 hP hD hS hl
        refine lv_iload_n hx hb dX7_narrowSum_100 rfl (lv_at hl 0 rfl) ?_
        refine lv_aload_n hx hb dX7_narrowSum_101 rfl (lv_at hl 2 rfl) ?_
        refine va_get (D := (dC, dI)) (ci := 7) (v := .ref (aV 5)) (C := RX7) (T := TX7) (N := 20) hx hb hts iwsMX7_narrowSum_in7 hown hK hP 0 rfl rfl 7 (by decide) (hts (.fieldLink RX7 27 "OptimaWorks$ValueDesk" "c" "[I") (by decide +kernel)) (fun _ h9 => h9) rfl dX7_narrowSum_102 ?_
        refine lv_iload_n hx hb dX7_narrowSum_105 rfl (lv_at hl 3 rfl) ?_
        refine va_iald (cA := kV 5) (n := 12) (f := fV_c) hx hb hK hP 6 5 rfl rfl (vp_in_iff.mpr ⟨b_p1.1, (Int.lt_of_le_of_lt (b_p1.2) (by decide))⟩) dX7_narrowSum_106 ?_
        refine lv_topi (fun v2898 hv2898 => ?_)
        clear hv2898
        refine W.cut (pc := 145) (fun H locs ls stk =>  stk = [] ∧ va_P (dC, dI) vwCl (WV hV aV kV iV_holders iV_rules fV_pairs fV_domain fV_kind fV_a fV_b fV_c fV_rulePairs fV_lastHolder fV_now iV_doneFor iV_changed gV_fore_x36 gV_back_x100 fV_together fV_member_2 gV_list dV_list nV_list iV_listed iV_listDone) H ∧ va_D A (WV hV aV kV iV_holders iV_rules fV_pairs fV_domain fV_kind fV_a fV_b fV_c fV_rulePairs fV_lastHolder fV_now iV_doneFor iV_changed gV_fore_x36 gV_back_x100 fV_together fV_member_2 gV_list dV_list nV_list iV_listed iV_listDone) ∧ va_S A s.heap H locs ∧ lv_has ls 6 [(3, .int l3_x100), (2, .int r2), (0, .ref (hV 0)), (1, .int p1)]) (fun join583 => ?_) ?_
        · refine lv_icmp_gt (tgt := 145) hx hb dX7_narrowSum_107 (by decide) (fun c_107 => ?_) (fun c_107 => ?_)
          · have t_107 : l3_x100.toInt > v2898.toInt := toI_gt c_107 rfl rfl
            have hl : lv_has _ _ ([(3, .int l3_x100), (2, .int r2), (0, .ref (hV 0)), (1, .int p1)]) := lv_sub hl [0, 1, 2, 3] rfl
            exact join583 _ _ _ _ ⟨rfl, hP, hD, hS, hl⟩
          · have t_107 : ¬ l3_x100.toInt > v2898.toInt := toI_ngt c_107 rfl rfl
            refine lv_iload_n hx hb dX7_narrowSum_110 rfl (lv_at hl 0 rfl) ?_
            refine lv_sipush (v := 192) hx hb dX7_narrowSum_111 (by decide) ?_
            refine lv_icmp_ge (tgt := 145) hx hb dX7_narrowSum_114 (by decide) (fun c_114 => ?_) (fun c_114 => ?_)
            · have t_114 : l3_x100.toInt ≥ 192 := toI_ge c_114 rfl (by decide : (192 : Int32).toInt = 192)
              have hl : lv_has _ _ ([(3, .int l3_x100), (2, .int r2), (0, .ref (hV 0)), (1, .int p1)]) := lv_sub hl [0, 1, 2, 3] rfl
              exact join583 _ _ _ _ ⟨rfl, hP, hD, hS, hl⟩
            · have t_114 : ¬ l3_x100.toInt ≥ 192 := toI_nge c_114 rfl (by decide : (192 : Int32).toInt = 192)
              refine lv_aload_n hx hb dX7_narrowSum_117 rfl (lv_at hl 2 rfl) ?_
              refine va_get (D := (dC, dI)) (ci := 7) (v := .ref (aV 10)) (C := RX7) (T := TX7) (N := 20) hx hb hts iwsMX7_narrowSum_in7 hown hK hP 0 rfl rfl 14 (by decide) (hts _ hm_m_X7_narrowSum_1) (fun _ h9 => h9) rfl dX7_narrowSum_118 ?_
              refine lv_iload_n hx hb dX7_narrowSum_121 rfl (lv_at hl 1 rfl) ?_
              refine lv_iconst (v := 3) hx hb dX7_narrowSum_122 (by decide) ?_
              refine lv_imul hx hb dX7_narrowSum_123 ?_
              refine lv_topi (fun y2907 hy2907 => ?_)
              obtain rfl : (iI (r2.toInt * 3)) = y2907 := (hy2907.trans (iI_mul2 (iI_of _) (by decide : (3 : Int32) = iI 3))).symm
              refine lv_iload_n hx hb dX7_narrowSum_124 rfl (lv_at hl 0 rfl) ?_
              refine lv_bipush (v := 6) hx hb dX7_narrowSum_125 (by decide) ?_
              refine lv_ishr hx hb dX7_narrowSum_127 ?_
              refine lv_topi (fun v2908 hv2908 => ?_)
              have b_v2908 : v2908.toInt = l3_x100.toInt / 64 := by rw [hv2908]; exact shr_t (k := 6) (n := 6) (by decide) rfl (by decide)
              clear hv2908
              refine lv_iadd hx hb dX7_narrowSum_128 ?_
              refine lv_topi (fun y2909 hy2909 => ?_)
              obtain rfl : (iI ((r2.toInt * 3) + v2908.toInt)) = y2909 := (hy2909.trans (iI_add2 rfl (iI_of _))).symm
              refine lv_dup2_11 hx hb dX7_narrowSum_129 rfl rfl ?_
              refine va_lald (cA := kV 10) (n := 33) (f := gV_back_x100) hx hb hK hP 11 10 rfl rfl (vp_iI (by omega) (by omega) (by decide)) dX7_narrowSum_130 ?_
              refine lv_topl (fun v2910 hv2910 => ?_)
              clear hv2910
              refine lv_lconst (v := 1) hx hb dX7_narrowSum_131 (by decide) ?_
              refine lv_iload_n hx hb dX7_narrowSum_132 rfl (lv_at hl 0 rfl) ?_
              refine lv_bipush (v := 63) hx hb dX7_narrowSum_133 (by decide) ?_
              refine lv_iand hx hb dX7_narrowSum_135 ?_
              refine lv_topi (fun v2911 hv2911 => ?_)
              have b_v2911 : 0 ≤ v2911.toInt ∧ v2911.toInt ≤ 63 := by rw [hv2911]; exact and_rng _ (by decide) (by decide)
              clear hv2911
              refine lv_lshl hx hb dX7_narrowSum_136 rfl ?_
              refine lv_topl (fun v2912 hv2912 => ?_)
              clear hv2912
              refine lv_lor hx hb dX7_narrowSum_137 ?_
              refine lv_topl (fun v2913 hv2913 => ?_)
              clear hv2913
              refine va_last (cA := kV 10) (n := 33) (f := gV_back_x100) hx hb hK hP hD hS 11 10 rfl rfl (vp_iI (by omega) (by omega) (by decide)) dX7_narrowSum_138 (fun H locs hP hD hS => ?_)
              obtain ⟨u2914, hu2914⟩ : ∃ f9, f9 = vp_updL gV_back_x100 ((iI ((r2.toInt * 3) + v2908.toInt))).toNatClampNeg v2913 := ⟨_, rfl⟩
              have hP : va_P (dC, dI) vwCl (WV hV aV kV iV_holders iV_rules fV_pairs fV_domain fV_kind fV_a fV_b fV_c fV_rulePairs fV_lastHolder fV_now iV_doneFor iV_changed gV_fore_x36 u2914 fV_together fV_member_2 gV_list dV_list nV_list iV_listed iV_listDone) H := by rw [hu2914]; exact hP
              have hD : va_D A (WV hV aV kV iV_holders iV_rules fV_pairs fV_domain fV_kind fV_a fV_b fV_c fV_rulePairs fV_lastHolder fV_now iV_doneFor iV_changed gV_fore_x36 u2914 fV_together fV_member_2 gV_list dV_list nV_list iV_listed iV_listDone) := by rw [hu2914]; exact hD
              clear hu2914
              refine lv_iinc (v := (iI (l3_x100.toInt + 1))) hx hb dX7_narrowSum_139 hl (k := 0) rfl (iI_add2 (iI_of _) (by decide : (1 : Int32) = iI 1)) (by decide) rfl (fun ls (hl : lv_has ls _ ([(3, .int (iI (l3_x100.toInt + 1))), (2, .int r2), (0, .ref (hV 0)), (1, .int p1)])) => ?_)
              refine lv_goto (tgt := 100) hx hb dX7_narrowSum_142 (by decide) ?_
              have hl : lv_has _ _ ([(3, .int (iI (l3_x100.toInt + 1))), (2, .int r2), (0, .ref (hV 0)), (1, .int p1)]) := lv_sub hl [0, 1, 2, 3] rfl
              exact ihx100 u2914 (iI (l3_x100.toInt + 1)) _ _ _ (iI_rng (Int.le_trans (by decide) (Int.add_le_add (b_l3_x100.1) (Int.le_refl _))) (by omega) (by decide) (by decide)) (by have e9 : ((iI (l3_x100.toInt + 1))).toInt = (l3_x100.toInt + 1) := (iI_t (Int.le_trans (by decide) (Int.add_le_add (b_l3_x100.1) (Int.le_refl _))) (by omega)); omega) hP hD hS hl
        · rintro H locs ls stk ⟨rfl, hP, hD, hS, hl⟩
          refine lv_iload_n hx hb dX7_narrowSum_145 rfl (lv_at hl 1 rfl) ?_
          refine lv_iconst (v := 1) hx hb dX7_narrowSum_146 (by decide) ?_
          refine lv_isub hx hb dX7_narrowSum_147 ?_
          refine lv_topi (fun y2915 hy2915 => ?_)
          obtain rfl : (iI (r2.toInt - 1)) = y2915 := (hy2915.trans (iI_sub2 (iI_of _) (by decide : (1 : Int32) = iI 1))).symm
          refine lv_istore_n hx hb dX7_narrowSum_148 rfl hl (by decide) rfl (fun ls (hl : lv_has ls _ ([(3, .int (iI (r2.toInt - 1))), (2, .int r2), (0, .ref (hV 0)), (1, .int p1)])) => ?_)
          have hl : lv_has _ _ ([(3, .int (iI (r2.toInt - 1))), (2, .int r2), (0, .ref (hV 0)), (1, .int p1)]) := lv_sub hl [0, 1, 2, 3] rfl
          refine (fun (loop : ∀ (n9 : Nat) (fV_now_x149 : Nat → Int32) (iV_changed_x149 : Int32) (gV_back_x149 : Nat → Int64) (l3_x149 : Int32) (H : Heap) (locs : List Loc) (ls : Array Slot), (0 ≤ iV_changed_x149.toInt ∧ iV_changed_x149.toInt ≤ 1) → ((-1) ≤ l3_x149.toInt ∧ l3_x149.toInt ≤ 9) → (l3_x149.toInt < r2.toInt) → (l3_x149.toInt - (-1) < ((n9 : Nat) : Int)) → va_P (dC, dI) vwCl (WV hV aV kV iV_holders iV_rules fV_pairs fV_domain fV_kind fV_a fV_b fV_c fV_rulePairs fV_lastHolder fV_now_x149 iV_doneFor iV_changed_x149 gV_fore_x36 gV_back_x149 fV_together fV_member_2 gV_list dV_list nV_list iV_listed iV_listDone) H → va_D A (WV hV aV kV iV_holders iV_rules fV_pairs fV_domain fV_kind fV_a fV_b fV_c fV_rulePairs fV_lastHolder fV_now_x149 iV_doneFor iV_changed_x149 gV_fore_x36 gV_back_x149 fV_together fV_member_2 gV_list dV_list nV_list iV_listed iV_listDone) → va_S A s.heap H locs → lv_has ls 6 [(3, .int l3_x149), (2, .int r2), (0, .ref (hV 0)), (1, .int p1)] → W p l e _ s m _ below meth c H locs 0 0 _ (F0 m 149 ls [])) => loop (11) fV_now iV_changed gV_back_x100 (iI (r2.toInt - 1)) _ _ _ (b_iV_changed) (iI_rng (by omega) (by omega) (by decide) (by decide)) (show (iI (r2.toInt - 1)).toInt < r2.toInt from by (try rw [iI_t (by omega) (by omega)]); omega) ((by have e9 : ((iI (r2.toInt - 1))).toInt = (r2.toInt - 1) := (iI_t (by omega) (by omega)); omega)) hP hD hS hl) ?_
          intro n9
          induction n9 with
          | zero => intro fV_now_x149 iV_changed_x149 gV_back_x149 l3_x149 H locs ls b_iV_changed_x149 b_l3_x149 hlm hf9; exact False.elim (by omega)
          | succ n9 ihx149 =>
            intro fV_now_x149 iV_changed_x149 gV_back_x149 l3_x149 H locs ls b_iV_changed_x149 b_l3_x149 hlm hfx149 hP hD hS hl
            refine lv_iload_n hx hb dX7_narrowSum_149 rfl (lv_at hl 0 rfl) ?_
            refine lv_if_lt (tgt := 228) hx hb dX7_narrowSum_150 (by decide) (fun c_150 => ?_) (fun c_150 => ?_)
            · have t_150 : l3_x149.toInt < 0 := toI_lt c_150 rfl (by decide : (0 : Int32).toInt = 0)
              refine W.widen (k := 0) (n := 0) (by decide +kernel) (by decide +kernel) ?_
              exact W.vret hx hb hr (fun t9_ ht hW => ⟨⟨(fV_now_x149, iV_changed_x149, gV_fore_x36, gV_back_x149, fV_member_2), rfl, ⟨b_iV_changed_x149, b_fV_member_2⟩, by rw [ht]; exact hP, hD⟩, hS.F ht⟩) hS.2.2 dX7_narrowSum_228
            · have t_150 : ¬ l3_x149.toInt < 0 := toI_nlt c_150 rfl (by decide : (0 : Int32).toInt = 0)
              refine lv_iconst (v := 0) hx hb dX7_narrowSum_153 (by decide) ?_
              refine lv_istore hx hb dX7_narrowSum_154 hl (by decide) rfl (fun ls (hl : lv_has ls _ ([(4, .int 0), (3, .int l3_x149), (2, .int r2), (0, .ref (hV 0)), (1, .int p1)])) => ?_)
              refine lv_iconst (v := 0) hx hb dX7_narrowSum_156 (by decide) ?_
              refine lv_istore hx hb dX7_narrowSum_157 hl (by decide) rfl (fun ls (hl : lv_has ls _ ([(5, .int 0), (4, .int 0), (3, .int l3_x149), (2, .int r2), (0, .ref (hV 0)), (1, .int p1)])) => ?_)
              have hl : lv_has _ _ ([(5, .int 0), (4, .int 0), (3, .int l3_x149), (2, .int r2), (0, .ref (hV 0)), (1, .int p1)]) := lv_sub hl [0, 1, 2, 3, 4, 5] rfl
              refine (fun (loop : ∀ (n9 : Nat) (gV_back_x159 : Nat → Int64) (l5_x159 : Int32) (l4_x159 : Int32) (H : Heap) (locs : List Loc) (ls : Array Slot), (0 ≤ l5_x159.toInt ∧ l5_x159.toInt ≤ 16) → (16 - l5_x159.toInt < ((n9 : Nat) : Int)) → va_P (dC, dI) vwCl (WV hV aV kV iV_holders iV_rules fV_pairs fV_domain fV_kind fV_a fV_b fV_c fV_rulePairs fV_lastHolder fV_now_x149 iV_doneFor iV_changed_x149 gV_fore_x36 gV_back_x159 fV_together fV_member_2 gV_list dV_list nV_list iV_listed iV_listDone) H → va_D A (WV hV aV kV iV_holders iV_rules fV_pairs fV_domain fV_kind fV_a fV_b fV_c fV_rulePairs fV_lastHolder fV_now_x149 iV_doneFor iV_changed_x149 gV_fore_x36 gV_back_x159 fV_together fV_member_2 gV_list dV_list nV_list iV_listed iV_listDone) → va_S A s.heap H locs → lv_has ls 6 [(5, .int l5_x159), (4, .int l4_x159), (3, .int l3_x149), (2, .int r2), (0, .ref (hV 0)), (1, .int p1)] → W p l e _ s m _ below meth c H locs 0 0 _ (F0 m 159 ls [])) => loop (17) gV_back_x149 0 0 _ _ _ (show 0 ≤ (0 : Int32).toInt ∧ (0 : Int32).toInt ≤ 16 from by decide) ((by have e9 : (0 : Int32).toInt = 0 := (by decide : (0 : Int32).toInt = 0); omega)) hP hD hS hl) ?_
              intro n9
              induction n9 with
              | zero => intro gV_back_x159 l5_x159 l4_x159 H locs ls b_l5_x159 hf9; exact False.elim (by omega)
              | succ n9 ihx159 =>
                intro gV_back_x159 l5_x159 l4_x159 H locs ls b_l5_x159 hfx159 hP hD hS hl
                refine lv_iload hx hb dX7_narrowSum_159 (lv_at hl 0 rfl) ?_
                refine lv_bipush (v := 16) hx hb dX7_narrowSum_161 (by decide) ?_
                refine lv_icmp_ge (tgt := 210) hx hb dX7_narrowSum_163 (by decide) (fun c_163 => ?_) (fun c_163 => ?_)
                · have t_163 : l5_x159.toInt ≥ 16 := toI_ge c_163 rfl (by decide : (16 : Int32).toInt = 16)
                  refine lv_aload_n hx hb dX7_narrowSum_210 rfl (lv_at hl 4 rfl) ?_
                  refine lv_aload_n hx hb dX7_narrowSum_211 rfl (lv_at hl 4 rfl) ?_
                  refine va_get (D := (dC, dI)) (ci := 7) (v := .ref (aV 12)) (C := RX7) (T := TX7) (N := 20) hx hb hts iwsMX7_narrowSum_in7 hown hK hP 0 rfl rfl 16 (by decide) (hts _ hm_m_X7_narrowSum_2) (fun _ h9 => h9) rfl dX7_narrowSum_212 ?_
                  refine lv_iload_n hx hb dX7_narrowSum_215 rfl (lv_at hl 2 rfl) ?_
                  refine va_iald (cA := kV 12) (n := 10) (f := fV_member_2) hx hb hK hP 13 12 rfl rfl (vp_in_iff.mpr ⟨(by omega), (Int.lt_of_le_of_lt (b_l3_x149.2) (by decide))⟩) dX7_narrowSum_216 ?_
                  refine lv_topi (fun v3228 hv3228 => ?_)
                  have b_v3228 : 0 ≤ v3228.toInt ∧ v3228.toInt ≤ 9 := by rw [hv3228]; exact MemO.at hMe (by omega) (by omega)
                  clear hv3228
                  refine lv_iload hx hb dX7_narrowSum_217 (lv_at hl 1 rfl) ?_
                  have hFc := allFree hD hS hA
                  refine va_callv (va_runV (As := [.int v3228, .int l4_x159]) (rest := []) ⟨hx, hb, hml, hown, hts⟩ (m_X7_cutTo l dC dI hV aV kV iV_holders iV_rules fV_pairs fV_domain fV_kind fV_a fV_b fV_c fV_rulePairs fV_lastHolder fV_now_x149 iV_doneFor iV_changed_x149 gV_fore_x36 gV_back_x159 fV_together fV_member_2 gV_list dV_list nV_list iV_listed iV_listDone v3228 l4_x159 (b_iV_holders) (b_iV_rules) b_fV_kind (b_iV_changed_x149) b_fV_member_2 (by first | exact b_nV_list | with_reducible assumption | exact ⟨by omega, by omega⟩ | assumption) (b_iV_listed) (b_iV_listDone) (by first | with_reducible assumption | omega | assumption) (by first | with_reducible assumption | omega | assumption) (b_v3228) H.size) (cwV 2 hts gwsMX7_narrowSum_4 rfl rfl rfl hd_yX7_cutTo_RX7 (by decide +kernel)) (fz_pre (va_recv hK hP (ci := 7) (q0 := 0) rfl rfl) hP hK hD) rfl rfl hl.1 rfl (lv_room (Nat.le_of_ble_eq_true rfl)) dX7_narrowSum_219 (by decide +kernel)) hS (fun q _ h => hFc q h) hFc (fun u t9_ H locs ht hvm hw9 hB9 hz1 hk1 hS => ?_)
                  revert u hw9 hB9
                  refine fz_p2 ?_
                  intro fV_now_3229 iV_changed_3229 hw9 hB9
                  try dsimp only at hw9 hB9
                  have b_iV_changed_3229 := hw9
                  try dsimp only at b_iV_changed_3229
                  have hP : va_P (dC, dI) vwCl (WV hV aV kV iV_holders iV_rules fV_pairs fV_domain fV_kind fV_a fV_b fV_c fV_rulePairs fV_lastHolder fV_now_3229 iV_doneFor iV_changed_3229 gV_fore_x36 gV_back_x159 fV_together fV_member_2 gV_list dV_list nV_list iV_listed iV_listDone) H := fz_P ht hB9.1
                  have hD := fz_sd hP (hB9.2.weaken (fun _ q _ h => hFc q.1 h)) rfl
                  refine lv_iinc (v := (iI (l3_x149.toInt + (-1)))) hx hb dX7_narrowSum_222 hl (k := 2) rfl (iI_add2 (iI_of _) (by decide : ((-1) : Int32) = iI (-1))) (by decide) rfl (fun ls (hl : lv_has ls _ ([(3, .int (iI (l3_x149.toInt + (-1)))), (5, .int l5_x159), (4, .int l4_x159), (2, .int r2), (0, .ref (hV 0)), (1, .int p1)])) => ?_)
                  refine lv_goto (tgt := 149) hx hb dX7_narrowSum_225 (by decide) ?_
                  have hl : lv_has _ _ ([(3, .int (iI (l3_x149.toInt + (-1)))), (2, .int r2), (0, .ref (hV 0)), (1, .int p1)]) := lv_sub hl [0, 3, 4, 5] rfl
                  exact ihx149 fV_now_3229 iV_changed_3229 gV_back_x159 (iI (l3_x149.toInt + (-1))) _ _ _ (by first | exact b_iV_changed_3229 | with_reducible assumption | exact ⟨by omega, by omega⟩ | assumption) (iI_rng (by omega) (Int.le_trans (Int.add_le_add (b_l3_x149.2) (Int.le_refl _)) (by decide)) (by decide) (by decide)) (show (iI (l3_x149.toInt + (-1))).toInt < r2.toInt from by (try rw [iI_t (by omega) (by omega)]); omega) (by have e9 : ((iI (l3_x149.toInt + (-1)))).toInt = (l3_x149.toInt + (-1)) := (iI_t (Int.le_trans (by decide) (Int.add_le_add (b_l3_x149.1) (Int.le_refl _))) (Int.le_trans (Int.add_le_add (b_l3_x149.2) (Int.le_refl _)) (by decide))); omega) hP hD hS hl
                · have t_163 : ¬ l5_x159.toInt ≥ 16 := toI_nge c_163 rfl (by decide : (16 : Int32).toInt = 16)
                  refine lv_aload_n hx hb dX7_narrowSum_166 rfl (lv_at hl 4 rfl) ?_
                  refine va_get (D := (dC, dI)) (ci := 7) (v := .ref (aV 8)) (C := RX7) (T := TX7) (N := 20) hx hb hts iwsMX7_narrowSum_in7 hown hK hP 0 rfl rfl 10 (by decide) (hts _ hm_m_X7_narrowSum_3) (fun _ h9 => h9) rfl dX7_narrowSum_167 ?_
                  refine lv_aload_n hx hb dX7_narrowSum_170 rfl (lv_at hl 4 rfl) ?_
                  refine va_get (D := (dC, dI)) (ci := 7) (v := .ref (aV 12)) (C := RX7) (T := TX7) (N := 20) hx hb hts iwsMX7_narrowSum_in7 hown hK hP 0 rfl rfl 16 (by decide) (hts _ hm_m_X7_narrowSum_2) (fun _ h9 => h9) rfl dX7_narrowSum_171 ?_
                  refine lv_iload_n hx hb dX7_narrowSum_174 rfl (lv_at hl 2 rfl) ?_
                  refine va_iald (cA := kV 12) (n := 10) (f := fV_member_2) hx hb hK hP 13 12 rfl rfl (vp_in_iff.mpr ⟨(by omega), (Int.lt_of_le_of_lt (b_l3_x149.2) (by decide))⟩) dX7_narrowSum_175 ?_
                  refine lv_topi (fun v3230 hv3230 => ?_)
                  have b_v3230 : 0 ≤ v3230.toInt ∧ v3230.toInt ≤ 9 := by rw [hv3230]; exact MemO.at hMe (by omega) (by omega)
                  clear hv3230
                  refine va_iald (cA := kV 8) (n := 10) (f := fV_now_x149) hx hb hK hP 9 8 rfl rfl (vp_in_iff.mpr ⟨b_v3230.1, (Int.lt_of_le_of_lt (b_v3230.2) (by decide))⟩) dX7_narrowSum_176 ?_
                  refine lv_topi (fun v3231 hv3231 => ?_)
                  clear hv3231
                  refine lv_iload hx hb dX7_narrowSum_177 (lv_at hl 0 rfl) ?_
                  refine lv_ishr hx hb dX7_narrowSum_179 ?_
                  refine lv_topi (fun v3232 hv3232 => ?_)
                  clear hv3232
                  refine lv_iconst (v := 1) hx hb dX7_narrowSum_180 (by decide) ?_
                  refine lv_iand hx hb dX7_narrowSum_181 ?_
                  refine lv_topi (fun v3233 hv3233 => ?_)
                  have b_v3233 : 0 ≤ v3233.toInt ∧ v3233.toInt ≤ 1 := by rw [hv3233]; exact and_rng _ (by decide) (by decide)
                  clear hv3233
                  refine W.cut (pc := 204) (fun H locs ls stk => ∃ (gV_back_j613 : Nat → Int64) (l4_j613 : Int32),  stk = [] ∧ va_P (dC, dI) vwCl (WV hV aV kV iV_holders iV_rules fV_pairs fV_domain fV_kind fV_a fV_b fV_c fV_rulePairs fV_lastHolder fV_now_x149 iV_doneFor iV_changed_x149 gV_fore_x36 gV_back_j613 fV_together fV_member_2 gV_list dV_list nV_list iV_listed iV_listDone) H ∧ va_D A (WV hV aV kV iV_holders iV_rules fV_pairs fV_domain fV_kind fV_a fV_b fV_c fV_rulePairs fV_lastHolder fV_now_x149 iV_doneFor iV_changed_x149 gV_fore_x36 gV_back_j613 fV_together fV_member_2 gV_list dV_list nV_list iV_listed iV_listDone) ∧ va_S A s.heap H locs ∧ lv_has ls 6 [(5, .int l5_x159), (4, .int l4_j613), (3, .int l3_x149), (2, .int r2), (0, .ref (hV 0)), (1, .int p1)]) (fun join613 => ?_) ?_
                  · refine lv_if_eq (tgt := 204) hx hb dX7_narrowSum_182 (by decide) (fun c_182 => ?_) (fun c_182 => ?_)
                    · have t_182 : v3233.toInt = 0 := toI_eq c_182 rfl (by decide : (0 : Int32).toInt = 0)
                      have hl : lv_has _ _ ([(5, .int l5_x159), (4, .int l4_x159), (3, .int l3_x149), (2, .int r2), (0, .ref (hV 0)), (1, .int p1)]) := lv_sub hl [0, 1, 2, 3, 4, 5] rfl
                      exact join613 _ _ _ _ ⟨gV_back_x159, l4_x159, rfl, hP, hD, hS, hl⟩
                    · have t_182 : ¬ v3233.toInt = 0 := toI_neq c_182 rfl (by decide : (0 : Int32).toInt = 0)
                      refine lv_aload_n hx hb dX7_narrowSum_185 rfl (lv_at hl 4 rfl) ?_
                      refine lv_iload_n hx hb dX7_narrowSum_186 rfl (lv_at hl 2 rfl) ?_
                      refine lv_iload hx hb dX7_narrowSum_187 (lv_at hl 0 rfl) ?_
                      have hFc := allFree hD hS hA
                      refine va_calli (va_runV (As := [.int l3_x149, .int l5_x159]) (rest := []) ⟨hx, hb, hml, hown, hts⟩ (m_X7_moveDown l dC dI hV aV kV iV_holders iV_rules fV_pairs fV_domain fV_kind fV_a fV_b fV_c fV_rulePairs fV_lastHolder fV_now_x149 iV_doneFor iV_changed_x149 gV_fore_x36 gV_back_x159 fV_together fV_member_2 gV_list dV_list nV_list iV_listed iV_listDone l3_x149 l5_x159 (b_iV_holders) (b_iV_rules) b_fV_kind (b_iV_changed_x149) b_fV_member_2 (by first | exact b_nV_list | with_reducible assumption | exact ⟨by omega, by omega⟩ | assumption) (b_iV_listed) (b_iV_listDone) (by first | with_reducible assumption | omega | assumption) (by first | with_reducible assumption | omega | assumption) (by first | exact b_l3_x149 | with_reducible assumption | exact ⟨by omega, by omega⟩ | assumption) H.size) (cwV 2 hts gwsMX7_narrowSum_3 rfl rfl rfl hd_yX7_moveDown_RX7 (by decide +kernel)) (fz_pre (va_recv hK hP (ci := 7) (q0 := 0) rfl rfl) hP hK hD) rfl rfl hl.1 rfl (lv_room (Nat.le_of_ble_eq_true rfl)) dX7_narrowSum_189 (by decide +kernel)) hS (fun q _ h => hFc q h) hFc (fun r3237 gV_back_3237 t9_ H locs ht hvm hw9 hB9 hz1 hk1 hS => ?_)
                      have b_r3237 := hw9
                      try dsimp only at b_r3237
                      have hP : va_P (dC, dI) vwCl (WV hV aV kV iV_holders iV_rules fV_pairs fV_domain fV_kind fV_a fV_b fV_c fV_rulePairs fV_lastHolder fV_now_x149 iV_doneFor iV_changed_x149 gV_fore_x36 gV_back_3237 fV_together fV_member_2 gV_list dV_list nV_list iV_listed iV_listDone) H := fz_P ht hB9.1
                      have hD := fz_sd hP (hB9.2.weaken (fun _ q _ h => hFc q.1 h)) rfl
                      refine lv_if_eq (tgt := 204) hx hb dX7_narrowSum_192 (by decide) (fun c_192 => ?_) (fun c_192 => ?_)
                      · have t_192 : r3237.toInt = 0 := toI_eq c_192 rfl (by decide : (0 : Int32).toInt = 0)
                        have hl : lv_has _ _ ([(5, .int l5_x159), (4, .int l4_x159), (3, .int l3_x149), (2, .int r2), (0, .ref (hV 0)), (1, .int p1)]) := lv_sub hl [0, 1, 2, 3, 4, 5] rfl
                        exact join613 _ _ _ _ ⟨gV_back_3237, l4_x159, rfl, hP, hD, hS, hl⟩
                      · have t_192 : ¬ r3237.toInt = 0 := toI_neq c_192 rfl (by decide : (0 : Int32).toInt = 0)
                        refine lv_iload hx hb dX7_narrowSum_195 (lv_at hl 1 rfl) ?_
                        refine lv_iconst (v := 1) hx hb dX7_narrowSum_197 (by decide) ?_
                        refine lv_iload hx hb dX7_narrowSum_198 (lv_at hl 0 rfl) ?_
                        refine lv_ishl hx hb dX7_narrowSum_200 ?_
                        refine lv_topi (fun v3238 hv3238 => ?_)
                        clear hv3238
                        refine lv_ior hx hb dX7_narrowSum_201 ?_
                        refine lv_topi (fun v3239 hv3239 => ?_)
                        clear hv3239
                        refine lv_istore hx hb dX7_narrowSum_202 hl (by decide) rfl (fun ls (hl : lv_has ls _ ([(4, .int v3239), (5, .int l5_x159), (3, .int l3_x149), (2, .int r2), (0, .ref (hV 0)), (1, .int p1)])) => ?_)
                        have hl : lv_has _ _ ([(5, .int l5_x159), (4, .int v3239), (3, .int l3_x149), (2, .int r2), (0, .ref (hV 0)), (1, .int p1)]) := lv_sub hl [1, 0, 2, 3, 4, 5] rfl
                        exact join613 _ _ _ _ ⟨gV_back_3237, v3239, rfl, hP, hD, hS, hl⟩
                  · rintro H locs ls stk ⟨gV_back_j613, l4_j613, rfl, hP, hD, hS, hl⟩
                    refine lv_iinc (v := (iI (l5_x159.toInt + 1))) hx hb dX7_narrowSum_204 hl (k := 0) rfl (iI_add2 (iI_of _) (by decide : (1 : Int32) = iI 1)) (by decide) rfl (fun ls (hl : lv_has ls _ ([(5, .int (iI (l5_x159.toInt + 1))), (4, .int l4_j613), (3, .int l3_x149), (2, .int r2), (0, .ref (hV 0)), (1, .int p1)])) => ?_)
                    refine lv_goto (tgt := 159) hx hb dX7_narrowSum_207 (by decide) ?_
                    have hl : lv_has _ _ ([(5, .int (iI (l5_x159.toInt + 1))), (4, .int l4_j613), (3, .int l3_x149), (2, .int r2), (0, .ref (hV 0)), (1, .int p1)]) := lv_sub hl [0, 1, 2, 3, 4, 5] rfl
                    exact ihx159 gV_back_j613 (iI (l5_x159.toInt + 1)) l4_j613 _ _ _ (iI_rng (Int.le_trans (by decide) (Int.add_le_add (b_l5_x159.1) (Int.le_refl _))) (by omega) (by decide) (by decide)) (by have e9 : ((iI (l5_x159.toInt + 1))).toInt = (l5_x159.toInt + 1) := (iI_t (Int.le_trans (by decide) (Int.add_le_add (b_l5_x159.1) (Int.le_refl _))) (Int.le_trans (Int.add_le_add (b_l5_x159.2) (Int.le_refl _)) (by decide))); omega) hP hD hS hl
    · have t_38 : ¬ l3_x36.toInt ≥ r2.toInt := toI_nge c_38 rfl rfl
      refine lv_iconst (v := 0) hx hb dX7_narrowSum_41 (by decide) ?_
      refine lv_istore hx hb dX7_narrowSum_42 hl (by decide) rfl (fun ls (hl : lv_has ls _ ([(4, .int 0), (3, .int l3_x36), (2, .int r2), (0, .ref (hV 0)), (1, .int p1)])) => ?_)
      have hl : lv_has _ _ ([(4, .int 0), (3, .int l3_x36), (2, .int r2), (0, .ref (hV 0)), (1, .int p1)]) := lv_sub hl [0, 1, 2, 3, 4] rfl
      refine (fun (loop : ∀ (n9 : Nat) (gV_fore_x44 : Nat → Int64) (l4_x44 : Int32) (H : Heap) (locs : List Loc) (ls : Array Slot), (0 ≤ l4_x44.toInt ∧ l4_x44.toInt ≤ 16) → (16 - l4_x44.toInt < ((n9 : Nat) : Int)) → va_P (dC, dI) vwCl (WV hV aV kV iV_holders iV_rules fV_pairs fV_domain fV_kind fV_a fV_b fV_c fV_rulePairs fV_lastHolder fV_now iV_doneFor iV_changed gV_fore_x44 gZ_4 fV_together fV_member_2 gV_list dV_list nV_list iV_listed iV_listDone) H → va_D A (WV hV aV kV iV_holders iV_rules fV_pairs fV_domain fV_kind fV_a fV_b fV_c fV_rulePairs fV_lastHolder fV_now iV_doneFor iV_changed gV_fore_x44 gZ_4 fV_together fV_member_2 gV_list dV_list nV_list iV_listed iV_listDone) → va_S A s.heap H locs → lv_has ls 6 [(4, .int l4_x44), (3, .int l3_x36), (2, .int r2), (0, .ref (hV 0)), (1, .int p1)] → W p l e _ s m _ below meth c H locs 0 0 _ (F0 m 44 ls [])) => loop (17) gV_fore_x36 0 _ _ _ (show 0 ≤ (0 : Int32).toInt ∧ (0 : Int32).toInt ≤ 16 from by decide) ((by have e9 : (0 : Int32).toInt = 0 := (by decide : (0 : Int32).toInt = 0); omega)) hP hD hS hl) ?_
      intro n9
      induction n9 with
      | zero => intro gV_fore_x44 l4_x44 H locs ls b_l4_x44 hf9; exact False.elim (by omega)
      | succ n9 ihx44 =>
        intro gV_fore_x44 l4_x44 H locs ls b_l4_x44 hfx44 hP hD hS hl
        refine lv_iload hx hb dX7_narrowSum_44 (lv_at hl 0 rfl) ?_
        refine lv_bipush (v := 16) hx hb dX7_narrowSum_46 (by decide) ?_
        refine lv_icmp_ge (tgt := 83) hx hb dX7_narrowSum_48 (by decide) (fun c_48 => ?_) (fun c_48 => ?_)
        · have t_48 : l4_x44.toInt ≥ 16 := toI_ge c_48 rfl (by decide : (16 : Int32).toInt = 16)
          refine lv_iinc (v := (iI (l3_x36.toInt + 1))) hx hb dX7_narrowSum_83 hl (k := 1) rfl (iI_add2 (iI_of _) (by decide : (1 : Int32) = iI 1)) (by decide) rfl (fun ls (hl : lv_has ls _ ([(3, .int (iI (l3_x36.toInt + 1))), (4, .int l4_x44), (2, .int r2), (0, .ref (hV 0)), (1, .int p1)])) => ?_)
          refine lv_goto (tgt := 36) hx hb dX7_narrowSum_86 (by decide) ?_
          have hl : lv_has _ _ ([(3, .int (iI (l3_x36.toInt + 1))), (2, .int r2), (0, .ref (hV 0)), (1, .int p1)]) := lv_sub hl [0, 2, 3, 4] rfl
          exact ihx36 gV_fore_x44 (iI (l3_x36.toInt + 1)) _ _ _ (iI_rng (Int.le_trans (by decide) (Int.add_le_add (b_l3_x36.1) (Int.le_refl _))) (by omega) (by decide) (by decide)) (by have e9 : ((iI (l3_x36.toInt + 1))).toInt = (l3_x36.toInt + 1) := (iI_t (Int.le_trans (by decide) (Int.add_le_add (b_l3_x36.1) (Int.le_refl _))) (Int.le_trans (Int.add_le_add (b_l3_x36.2) (Int.le_refl _)) (by decide))); omega) hP hD hS hl
        · have t_48 : ¬ l4_x44.toInt ≥ 16 := toI_nge c_48 rfl (by decide : (16 : Int32).toInt = 16)
          refine lv_aload_n hx hb dX7_narrowSum_51 rfl (lv_at hl 3 rfl) ?_
          refine va_get (D := (dC, dI)) (ci := 7) (v := .ref (aV 8)) (C := RX7) (T := TX7) (N := 20) hx hb hts iwsMX7_narrowSum_in7 hown hK hP 0 rfl rfl 10 (by decide) (hts _ hm_m_X7_narrowSum_3) (fun _ h9 => h9) rfl dX7_narrowSum_52 ?_
          refine lv_aload_n hx hb dX7_narrowSum_55 rfl (lv_at hl 3 rfl) ?_
          refine va_get (D := (dC, dI)) (ci := 7) (v := .ref (aV 12)) (C := RX7) (T := TX7) (N := 20) hx hb hts iwsMX7_narrowSum_in7 hown hK hP 0 rfl rfl 16 (by decide) (hts _ hm_m_X7_narrowSum_2) (fun _ h9 => h9) rfl dX7_narrowSum_56 ?_
          refine lv_iload_n hx hb dX7_narrowSum_59 rfl (lv_at hl 1 rfl) ?_
          refine va_iald (cA := kV 12) (n := 10) (f := fV_member_2) hx hb hK hP 13 12 rfl rfl (vp_in_iff.mpr ⟨b_l3_x36.1, (by omega)⟩) dX7_narrowSum_60 ?_
          refine lv_topi (fun v3264 hv3264 => ?_)
          have b_v3264 : 0 ≤ v3264.toInt ∧ v3264.toInt ≤ 9 := by rw [hv3264]; exact MemO.at hMe (by omega) (by omega)
          clear hv3264
          refine va_iald (cA := kV 8) (n := 10) (f := fV_now) hx hb hK hP 9 8 rfl rfl (vp_in_iff.mpr ⟨b_v3264.1, (Int.lt_of_le_of_lt (b_v3264.2) (by decide))⟩) dX7_narrowSum_61 ?_
          refine lv_topi (fun v3265 hv3265 => ?_)
          clear hv3265
          refine lv_iload hx hb dX7_narrowSum_62 (lv_at hl 0 rfl) ?_
          refine lv_ishr hx hb dX7_narrowSum_64 ?_
          refine lv_topi (fun v3266 hv3266 => ?_)
          clear hv3266
          refine lv_iconst (v := 1) hx hb dX7_narrowSum_65 (by decide) ?_
          refine lv_iand hx hb dX7_narrowSum_66 ?_
          refine lv_topi (fun v3267 hv3267 => ?_)
          have b_v3267 : 0 ≤ v3267.toInt ∧ v3267.toInt ≤ 1 := by rw [hv3267]; exact and_rng _ (by decide) (by decide)
          clear hv3267
          refine W.cut (pc := 77) (fun H locs ls stk => ∃ (gV_fore_j618 : Nat → Int64),  stk = [] ∧ va_P (dC, dI) vwCl (WV hV aV kV iV_holders iV_rules fV_pairs fV_domain fV_kind fV_a fV_b fV_c fV_rulePairs fV_lastHolder fV_now iV_doneFor iV_changed gV_fore_j618 gZ_4 fV_together fV_member_2 gV_list dV_list nV_list iV_listed iV_listDone) H ∧ va_D A (WV hV aV kV iV_holders iV_rules fV_pairs fV_domain fV_kind fV_a fV_b fV_c fV_rulePairs fV_lastHolder fV_now iV_doneFor iV_changed gV_fore_j618 gZ_4 fV_together fV_member_2 gV_list dV_list nV_list iV_listed iV_listDone) ∧ va_S A s.heap H locs ∧ lv_has ls 6 [(4, .int l4_x44), (3, .int l3_x36), (2, .int r2), (0, .ref (hV 0)), (1, .int p1)]) (fun join618 => ?_) ?_
          · refine lv_if_eq (tgt := 77) hx hb dX7_narrowSum_67 (by decide) (fun c_67 => ?_) (fun c_67 => ?_)
            · have t_67 : v3267.toInt = 0 := toI_eq c_67 rfl (by decide : (0 : Int32).toInt = 0)
              have hl : lv_has _ _ ([(4, .int l4_x44), (3, .int l3_x36), (2, .int r2), (0, .ref (hV 0)), (1, .int p1)]) := lv_sub hl [0, 1, 2, 3, 4] rfl
              exact join618 _ _ _ _ ⟨gV_fore_x44, rfl, hP, hD, hS, hl⟩
            · have t_67 : ¬ v3267.toInt = 0 := toI_neq c_67 rfl (by decide : (0 : Int32).toInt = 0)
              refine lv_aload_n hx hb dX7_narrowSum_70 rfl (lv_at hl 3 rfl) ?_
              refine lv_iload_n hx hb dX7_narrowSum_71 rfl (lv_at hl 1 rfl) ?_
              refine lv_iload hx hb dX7_narrowSum_72 (lv_at hl 0 rfl) ?_
              have hFc := allFree hD hS hA
              refine va_callv (va_runV (As := [.int l3_x36, .int l4_x44]) (rest := []) ⟨hx, hb, hml, hown, hts⟩ (m_X7_moveUp l dC dI hV aV kV iV_holders iV_rules fV_pairs fV_domain fV_kind fV_a fV_b fV_c fV_rulePairs fV_lastHolder fV_now iV_doneFor iV_changed gV_fore_x44 gZ_4 fV_together fV_member_2 gV_list dV_list nV_list iV_listed iV_listDone l3_x36 l4_x44 (b_iV_holders) (b_iV_rules) b_fV_kind (b_iV_changed) b_fV_member_2 (by first | exact b_nV_list | with_reducible assumption | exact ⟨by omega, by omega⟩ | assumption) (b_iV_listed) (b_iV_listDone) (by first | with_reducible assumption | omega | assumption) (by first | with_reducible assumption | omega | assumption) (by first | exact b_l3_x36 | with_reducible assumption | exact ⟨by omega, by omega⟩ | assumption) H.size) (cwV 2 hts gwsMX7_narrowSum_2 rfl rfl rfl hd_yX7_moveUp_RX7 (by decide +kernel)) (fz_pre (va_recv hK hP (ci := 7) (q0 := 0) rfl rfl) hP hK hD) rfl rfl hl.1 rfl (lv_room (Nat.le_of_ble_eq_true rfl)) dX7_narrowSum_74 (by decide +kernel)) hS (fun q _ h => hFc q h) hFc (fun gV_fore_3269 t9_ H locs ht hvm hw9 hB9 hz1 hk1 hS => ?_)
              clear hw9
              have hP : va_P (dC, dI) vwCl (WV hV aV kV iV_holders iV_rules fV_pairs fV_domain fV_kind fV_a fV_b fV_c fV_rulePairs fV_lastHolder fV_now iV_doneFor iV_changed gV_fore_3269 gZ_4 fV_together fV_member_2 gV_list dV_list nV_list iV_listed iV_listDone) H := fz_P ht hB9.1
              have hD := fz_sd hP (hB9.2.weaken (fun _ q _ h => hFc q.1 h)) rfl
              have hl : lv_has _ _ ([(4, .int l4_x44), (3, .int l3_x36), (2, .int r2), (0, .ref (hV 0)), (1, .int p1)]) := lv_sub hl [0, 1, 2, 3, 4] rfl
              exact join618 _ _ _ _ ⟨gV_fore_3269, rfl, hP, hD, hS, hl⟩
          · rintro H locs ls stk ⟨gV_fore_j618, rfl, hP, hD, hS, hl⟩
            refine lv_iinc (v := (iI (l4_x44.toInt + 1))) hx hb dX7_narrowSum_77 hl (k := 0) rfl (iI_add2 (iI_of _) (by decide : (1 : Int32) = iI 1)) (by decide) rfl (fun ls (hl : lv_has ls _ ([(4, .int (iI (l4_x44.toInt + 1))), (3, .int l3_x36), (2, .int r2), (0, .ref (hV 0)), (1, .int p1)])) => ?_)
            refine lv_goto (tgt := 44) hx hb dX7_narrowSum_80 (by decide) ?_
            have hl : lv_has _ _ ([(4, .int (iI (l4_x44.toInt + 1))), (3, .int l3_x36), (2, .int r2), (0, .ref (hV 0)), (1, .int p1)]) := lv_sub hl [0, 1, 2, 3, 4] rfl
            exact ihx44 gV_fore_j618 (iI (l4_x44.toInt + 1)) _ _ _ (iI_rng (Int.le_trans (by decide) (Int.add_le_add (b_l4_x44.1) (Int.le_refl _))) (by omega) (by decide) (by decide)) (by have e9 : ((iI (l4_x44.toInt + 1))).toInt = (l4_x44.toInt + 1) := (iI_t (Int.le_trans (by decide) (Int.add_le_add (b_l4_x44.1) (Int.le_refl _))) (Int.le_trans (Int.add_le_add (b_l4_x44.2) (Int.le_refl _)) (by decide))); omega) hP hD hS hl
theorem dX7_narrowMost_0 : decode cX7_narrowMost 0 = .ok (.aload_n 0, 1) := dk_42 (by decide +kernel)
theorem dX7_narrowMost_1 : decode cX7_narrowMost 1 = .ok (.aload_n 0, 1) := dk_42 (by decide +kernel)
theorem dX7_narrowMost_2 : decode cX7_narrowMost 2 = .ok (.getfield 21, 3) := dk_180 (by decide +kernel)
theorem dX7_narrowMost_5 : decode cX7_narrowMost 5 = .ok (.iload_n 1, 1) := dk_27 (by decide +kernel)
theorem dX7_narrowMost_6 : decode cX7_narrowMost 6 = .ok (.iaload, 1) := dk_46 (by decide +kernel)
theorem dX7_narrowMost_7 : decode cX7_narrowMost 7 = .ok (.invokevirtual 138, 3) := dk_182 (by decide +kernel)
theorem dX7_narrowMost_10 : decode cX7_narrowMost 10 = .ok (.istore_n 2, 1) := dk_61 (by decide +kernel)
theorem dX7_narrowMost_11 : decode cX7_narrowMost 11 = .ok (.iconst 1, 1) := dk_4 (by decide +kernel)
theorem dX7_narrowMost_12 : decode cX7_narrowMost 12 = .ok (.aload_n 0, 1) := dk_42 (by decide +kernel)
theorem dX7_narrowMost_13 : decode cX7_narrowMost 13 = .ok (.getfield 27, 3) := dk_180 (by decide +kernel)
theorem dX7_narrowMost_16 : decode cX7_narrowMost 16 = .ok (.iload_n 1, 1) := dk_27 (by decide +kernel)
theorem dX7_narrowMost_17 : decode cX7_narrowMost 17 = .ok (.iaload, 1) := dk_46 (by decide +kernel)
theorem dX7_narrowMost_18 : decode cX7_narrowMost 18 = .ok (.ishl, 1) := dk_120 (by decide +kernel)
theorem dX7_narrowMost_19 : decode cX7_narrowMost 19 = .ok (.istore_n 3, 1) := dk_62 (by decide +kernel)
theorem dX7_narrowMost_20 : decode cX7_narrowMost 20 = .ok (.iconst 0, 1) := dk_3 (by decide +kernel)
theorem dX7_narrowMost_21 : decode cX7_narrowMost 21 = .ok (.istore 4, 2) := dk_54 (by decide +kernel)
theorem dX7_narrowMost_23 : decode cX7_narrowMost 23 = .ok (.iconst 0, 1) := dk_3 (by decide +kernel)
theorem dX7_narrowMost_24 : decode cX7_narrowMost 24 = .ok (.istore 5, 2) := dk_54 (by decide +kernel)
theorem dX7_narrowMost_26 : decode cX7_narrowMost 26 = .ok (.iload 5, 2) := dk_21 (by decide +kernel)
theorem dX7_narrowMost_28 : decode cX7_narrowMost 28 = .ok (.iload_n 2, 1) := dk_28 (by decide +kernel)
theorem dX7_narrowMost_29 : decode cX7_narrowMost 29 = .ok (.if_icmp .ge 35, 3) := dk_162 (by decide +kernel)
theorem dX7_narrowMost_32 : decode cX7_narrowMost 32 = .ok (.iload 4, 2) := dk_21 (by decide +kernel)
theorem dX7_narrowMost_34 : decode cX7_narrowMost 34 = .ok (.aload_n 0, 1) := dk_42 (by decide +kernel)
theorem dX7_narrowMost_35 : decode cX7_narrowMost 35 = .ok (.getfield 36, 3) := dk_180 (by decide +kernel)
theorem dX7_narrowMost_38 : decode cX7_narrowMost 38 = .ok (.aload_n 0, 1) := dk_42 (by decide +kernel)
theorem dX7_narrowMost_39 : decode cX7_narrowMost 39 = .ok (.getfield 53, 3) := dk_180 (by decide +kernel)
theorem dX7_narrowMost_42 : decode cX7_narrowMost 42 = .ok (.iload 5, 2) := dk_21 (by decide +kernel)
theorem dX7_narrowMost_44 : decode cX7_narrowMost 44 = .ok (.iaload, 1) := dk_46 (by decide +kernel)
theorem dX7_narrowMost_45 : decode cX7_narrowMost 45 = .ok (.iaload, 1) := dk_46 (by decide +kernel)
theorem dX7_narrowMost_46 : decode cX7_narrowMost 46 = .ok (.iload_n 3, 1) := dk_29 (by decide +kernel)
theorem dX7_narrowMost_47 : decode cX7_narrowMost 47 = .ok (.if_icmp .ne 7, 3) := dk_160 (by decide +kernel)
theorem dX7_narrowMost_50 : decode cX7_narrowMost 50 = .ok (.iconst 1, 1) := dk_4 (by decide +kernel)
theorem dX7_narrowMost_51 : decode cX7_narrowMost 51 = .ok (.goto 4, 3) := dk_167 (by decide +kernel)
theorem dX7_narrowMost_54 : decode cX7_narrowMost 54 = .ok (.iconst 0, 1) := dk_3 (by decide +kernel)
theorem dX7_narrowMost_55 : decode cX7_narrowMost 55 = .ok (.iadd, 1) := dk_96 (by decide +kernel)
theorem dX7_narrowMost_56 : decode cX7_narrowMost 56 = .ok (.istore 4, 2) := dk_54 (by decide +kernel)
theorem dX7_narrowMost_58 : decode cX7_narrowMost 58 = .ok (.iinc 5 1, 3) := dk_132 (by decide +kernel)
theorem dX7_narrowMost_61 : decode cX7_narrowMost 61 = .ok (.goto (-35), 3) := dk_167 (by decide +kernel)
theorem dX7_narrowMost_64 : decode cX7_narrowMost 64 = .ok (.iconst 0, 1) := dk_3 (by decide +kernel)
theorem dX7_narrowMost_65 : decode cX7_narrowMost 65 = .ok (.istore 5, 2) := dk_54 (by decide +kernel)
theorem dX7_narrowMost_67 : decode cX7_narrowMost 67 = .ok (.iload 5, 2) := dk_21 (by decide +kernel)
theorem dX7_narrowMost_69 : decode cX7_narrowMost 69 = .ok (.iload_n 2, 1) := dk_28 (by decide +kernel)
theorem dX7_narrowMost_70 : decode cX7_narrowMost 70 = .ok (.if_icmp .ge 76, 3) := dk_162 (by decide +kernel)
theorem dX7_narrowMost_73 : decode cX7_narrowMost 73 = .ok (.iload 4, 2) := dk_21 (by decide +kernel)
theorem dX7_narrowMost_75 : decode cX7_narrowMost 75 = .ok (.aload_n 0, 1) := dk_42 (by decide +kernel)
theorem dX7_narrowMost_76 : decode cX7_narrowMost 76 = .ok (.getfield 24, 3) := dk_180 (by decide +kernel)
theorem dX7_narrowMost_79 : decode cX7_narrowMost 79 = .ok (.iload_n 1, 1) := dk_27 (by decide +kernel)
theorem dX7_narrowMost_80 : decode cX7_narrowMost 80 = .ok (.iaload, 1) := dk_46 (by decide +kernel)
theorem dX7_narrowMost_81 : decode cX7_narrowMost 81 = .ok (.if_icmp .lt 65, 3) := dk_161 (by decide +kernel)
theorem dX7_narrowMost_84 : decode cX7_narrowMost 84 = .ok (.iload 4, 2) := dk_21 (by decide +kernel)
theorem dX7_narrowMost_86 : decode cX7_narrowMost 86 = .ok (.aload_n 0, 1) := dk_42 (by decide +kernel)
theorem dX7_narrowMost_87 : decode cX7_narrowMost 87 = .ok (.getfield 24, 3) := dk_180 (by decide +kernel)
theorem dX7_narrowMost_90 : decode cX7_narrowMost 90 = .ok (.iload_n 1, 1) := dk_27 (by decide +kernel)
theorem dX7_narrowMost_91 : decode cX7_narrowMost 91 = .ok (.iaload, 1) := dk_46 (by decide +kernel)
theorem dX7_narrowMost_92 : decode cX7_narrowMost 92 = .ok (.if_icmp .gt 19, 3) := dk_163 (by decide +kernel)
theorem dX7_narrowMost_95 : decode cX7_narrowMost 95 = .ok (.aload_n 0, 1) := dk_42 (by decide +kernel)
theorem dX7_narrowMost_96 : decode cX7_narrowMost 96 = .ok (.getfield 36, 3) := dk_180 (by decide +kernel)
theorem dX7_narrowMost_99 : decode cX7_narrowMost 99 = .ok (.aload_n 0, 1) := dk_42 (by decide +kernel)
theorem dX7_narrowMost_100 : decode cX7_narrowMost 100 = .ok (.getfield 53, 3) := dk_180 (by decide +kernel)
theorem dX7_narrowMost_103 : decode cX7_narrowMost 103 = .ok (.iload 5, 2) := dk_21 (by decide +kernel)
theorem dX7_narrowMost_105 : decode cX7_narrowMost 105 = .ok (.iaload, 1) := dk_46 (by decide +kernel)
theorem dX7_narrowMost_106 : decode cX7_narrowMost 106 = .ok (.iaload, 1) := dk_46 (by decide +kernel)
theorem dX7_narrowMost_107 : decode cX7_narrowMost 107 = .ok (.iload_n 3, 1) := dk_29 (by decide +kernel)
theorem dX7_narrowMost_108 : decode cX7_narrowMost 108 = .ok (.if_icmp .eq 32, 3) := dk_159 (by decide +kernel)
theorem dX7_narrowMost_111 : decode cX7_narrowMost 111 = .ok (.aload_n 0, 1) := dk_42 (by decide +kernel)
theorem dX7_narrowMost_112 : decode cX7_narrowMost 112 = .ok (.aload_n 0, 1) := dk_42 (by decide +kernel)
theorem dX7_narrowMost_113 : decode cX7_narrowMost 113 = .ok (.getfield 53, 3) := dk_180 (by decide +kernel)
theorem dX7_narrowMost_116 : decode cX7_narrowMost 116 = .ok (.iload 5, 2) := dk_21 (by decide +kernel)
theorem dX7_narrowMost_118 : decode cX7_narrowMost 118 = .ok (.iaload, 1) := dk_46 (by decide +kernel)
theorem dX7_narrowMost_119 : decode cX7_narrowMost 119 = .ok (.iload 4, 2) := dk_21 (by decide +kernel)
theorem dX7_narrowMost_121 : decode cX7_narrowMost 121 = .ok (.aload_n 0, 1) := dk_42 (by decide +kernel)
theorem dX7_narrowMost_122 : decode cX7_narrowMost 122 = .ok (.getfield 24, 3) := dk_180 (by decide +kernel)
theorem dX7_narrowMost_125 : decode cX7_narrowMost 125 = .ok (.iload_n 1, 1) := dk_27 (by decide +kernel)
theorem dX7_narrowMost_126 : decode cX7_narrowMost 126 = .ok (.iaload, 1) := dk_46 (by decide +kernel)
theorem dX7_narrowMost_127 : decode cX7_narrowMost 127 = .ok (.if_icmp .le 7, 3) := dk_164 (by decide +kernel)
theorem dX7_narrowMost_130 : decode cX7_narrowMost 130 = .ok (.iconst 0, 1) := dk_3 (by decide +kernel)
theorem dX7_narrowMost_131 : decode cX7_narrowMost 131 = .ok (.goto 6, 3) := dk_167 (by decide +kernel)
theorem dX7_narrowMost_134 : decode cX7_narrowMost 134 = .ok (.iload_n 3, 1) := dk_29 (by decide +kernel)
theorem dX7_narrowMost_135 : decode cX7_narrowMost 135 = .ok (.iconst (-1), 1) := dk_2 (by decide +kernel)
theorem dX7_narrowMost_136 : decode cX7_narrowMost 136 = .ok (.ixor, 1) := dk_130 (by decide +kernel)
theorem dX7_narrowMost_137 : decode cX7_narrowMost 137 = .ok (.invokevirtual 146, 3) := dk_182 (by decide +kernel)
theorem dX7_narrowMost_140 : decode cX7_narrowMost 140 = .ok (.iinc 5 1, 3) := dk_132 (by decide +kernel)
theorem dX7_narrowMost_143 : decode cX7_narrowMost 143 = .ok (.goto (-76), 3) := dk_167 (by decide +kernel)
theorem dX7_narrowMost_146 : decode cX7_narrowMost 146 = .ok (.return_, 1) := dk_177 (by decide +kernel)
def wsMX7_narrowMost : List Cond := .code yX7_narrowMost cX7_narrowMost 6 none :: ([.fieldLink RX7 21 "OptimaWorks$ValueDesk" "a" "[I", .fieldLink RX7 27 "OptimaWorks$ValueDesk" "c" "[I", .fieldLink RX7 36 "OptimaWorks$ValueDesk" "now" "[I", .fieldLink RX7 53 "OptimaWorks$ValueDesk" "member" "[I", .fieldLink RX7 24 "OptimaWorks$ValueDesk" "b" "[I"] ++ wsX70 ++ (wsV RX7 138 RX7 yX7_takeMembers wsMX7_takeMembers) ++ (wsV RX7 146 RX7 yX7_cutTo wsMX7_cutTo))
theorem iwsMX7_narrowMost_in7 : ∀ w ∈ wsX70, w ∈ wsMX7_narrowMost := fun _ h => List.mem_cons_of_mem _ (List.mem_append_left _ (List.mem_append_left _ (List.mem_append_right _ h)))
theorem gwsMX7_narrowMost_0 : GoodIn wsMX7_narrowMost (wsV RX7 138 RX7 yX7_takeMembers wsMX7_takeMembers) := goodIn_sub (fun _ h => List.mem_cons_of_mem _ (List.mem_append_left _ (List.mem_append_right _ h))) (gdV (by decide +kernel) gdwsMX7_takeMembers)
theorem gwsMX7_narrowMost_1 : GoodIn wsMX7_narrowMost (wsV RX7 146 RX7 yX7_cutTo wsMX7_cutTo) := goodIn_sub (fun _ h => List.mem_cons_of_mem _ (List.mem_append_right _ h)) (gdV (by decide +kernel) gdwsMX7_cutTo)
theorem gdwsMX7_narrowMost : wsMX7_narrowMost.all goodWord = true := gdC rfl (gdA (gdA (gdA (by decide +kernel : ([.fieldLink RX7 21 "OptimaWorks$ValueDesk" "a" "[I", .fieldLink RX7 27 "OptimaWorks$ValueDesk" "c" "[I", .fieldLink RX7 36 "OptimaWorks$ValueDesk" "now" "[I", .fieldLink RX7 53 "OptimaWorks$ValueDesk" "member" "[I", .fieldLink RX7 24 "OptimaWorks$ValueDesk" "b" "[I"] : List Cond).all goodWord = true) gdwsX70) (gdV (by decide +kernel) gdwsMX7_takeMembers)) (gdV (by decide +kernel) gdwsMX7_cutTo))
theorem hm_m_X7_narrowMost_0 : (.fieldLink RX7 24 "OptimaWorks$ValueDesk" "b" "[I" : Cond) ∈ wsMX7_narrowMost := by decide +kernel
theorem hm_m_X7_narrowMost_1 : (.fieldLink RX7 53 "OptimaWorks$ValueDesk" "member" "[I" : Cond) ∈ wsMX7_narrowMost := by decide +kernel
theorem hm_m_X7_narrowMost_2 : (.fieldLink RX7 36 "OptimaWorks$ValueDesk" "now" "[I" : Cond) ∈ wsMX7_narrowMost := by decide +kernel
set_option maxHeartbeats 4000000 in
set_option maxRecDepth 100000 in
/-- at most so many -/
theorem m_X7_narrowMost (l : Launch) (dC : Nat → ClassId) (dI : Nat → Nat → Nat) (hV : Nat → Nat) (aV : Nat → Nat) (kV : Nat → ClassId) (iV_holders : Int32) (iV_rules : Int32) (fV_pairs : Nat → Int32) (fV_domain : Nat → Int32) (fV_kind : Nat → Int32) (fV_a : Nat → Int32) (fV_b : Nat → Int32) (fV_c : Nat → Int32) (fV_rulePairs : Nat → Int32) (fV_lastHolder : Nat → Int32) (fV_now : Nat → Int32) (iV_doneFor : Int32) (iV_changed : Int32) (gV_fore : Nat → Int64) (gV_back : Nat → Int64) (fV_together : Nat → Int32) (fV_member : Nat → Int32) (gV_list : Nat → Int64) (dV_list : Nat) (nV_list : Nat) (iV_listed : Int32) (iV_listDone : Int32) (p1 : Int32) (b_iV_holders : 0 ≤ iV_holders.toInt ∧ iV_holders.toInt ≤ 10) (b_iV_rules : 0 ≤ iV_rules.toInt ∧ iV_rules.toInt ≤ 12) (b_fV_kind : ∀ q : Nat, 0 ≤ (fV_kind q).toInt ∧ (fV_kind q).toInt ≤ 4) (b_iV_changed : 0 ≤ iV_changed.toInt ∧ iV_changed.toInt ≤ 1) (b_fV_member : ∀ q : Nat, (-1) ≤ (fV_member q).toInt ∧ (fV_member q).toInt ≤ 15) (b_nV_list : 0 ≤ nV_list ∧ nV_list ≤ 20000) (b_iV_listed : (-1) ≤ iV_listed.toInt ∧ iV_listed.toInt ≤ 5000) (b_iV_listDone : 0 ≤ iV_listDone.toInt ∧ iV_listDone.toInt ≤ 1) (b_RuV : RuV fV_kind fV_a fV_b fV_c fV_lastHolder) (b_lst : iV_listed.toInt ≤ ((nV_list : Nat) : Int)) (b_p1 : 0 ≤ p1.toInt ∧ p1.toInt ≤ 11) (sz : Nat) : Met l yX7_narrowMost wsMX7_narrowMost ({ frames := 1, cells := 0, slots := 0, locals := 23 }) (va_Pc [.ref (hV 0), .int p1] (fun U => U.heap.size = sz ∧ va_P (dC, dI) vwCl (WV hV aV kV iV_holders iV_rules fV_pairs fV_domain fV_kind fV_a fV_b fV_c fV_rulePairs fV_lastHolder fV_now iV_doneFor iV_changed gV_fore gV_back fV_together fV_member gV_list dV_list nV_list iV_listed iV_listDone) U.heap ∧ va_K (dC, dI) vwCl (tV kV) U ∧ va_D (fun _ => True) (WV hV aV kV iV_holders iV_rules fV_pairs fV_domain fV_kind fV_a fV_b fV_c fV_rulePairs fV_lastHolder fV_now iV_doneFor iV_changed gV_fore gV_back fV_together fV_member gV_list dV_list nV_list iV_listed iV_listDone))) (va_Qv (fun (u : (Nat → Int32) × (Int32) × (Nat → Int32)) => (0 ≤ (u.2.1).toInt ∧ (u.2.1).toInt ≤ 1) ∧ (∀ q : Nat, (-1) ≤ ((u.2.2) q).toInt ∧ ((u.2.2) q).toInt ≤ 15)) (fun (u : (Nat → Int32) × (Int32) × (Nat → Int32)) t => va_P (dC, dI) vwCl (WV hV aV kV iV_holders iV_rules fV_pairs fV_domain fV_kind fV_a fV_b fV_c fV_rulePairs fV_lastHolder (u.1) iV_doneFor (u.2.1) gV_fore gV_back fV_together (u.2.2) gV_list dV_list nV_list iV_listed iV_listDone) t.heap ∧ va_D (va_A (WV hV aV kV iV_holders iV_rules fV_pairs fV_domain fV_kind fV_a fV_b fV_c fV_rulePairs fV_lastHolder fV_now iV_doneFor iV_changed gV_fore gV_back fV_together fV_member gV_list dV_list nV_list iV_listed iV_listDone) sz) (WV hV aV kV iV_holders iV_rules fV_pairs fV_domain fV_kind fV_a fV_b fV_c fV_rulePairs fV_lastHolder (u.1) iV_doneFor (u.2.1) gV_fore gV_back fV_together (u.2.2) gV_list dV_list nV_list iV_listed iV_listDone)) (va_A (WV hV aV kV iV_holders iV_rules fV_pairs fV_domain fV_kind fV_a fV_b fV_c fV_rulePairs fV_lastHolder fV_now iV_doneFor iV_changed gV_fore gV_back fV_together fV_member gV_list dV_list nV_list iV_listed iV_listDone) sz)) 0 0 (va_A (WV hV aV kV iV_holders iV_rules fV_pairs fV_domain fV_kind fV_a fV_b fV_c fV_rulePairs fV_lastHolder fV_now iV_doneFor iV_changed gV_fore gV_back fV_together fV_member gV_list dV_list nV_list iV_listed iV_listDone) sz) := by
  refine Met.ofW (cc := cX7_narrowMost) (maxL := 6) (ret := none) (by decide) rfl ?_
  intro p e s m args below meth c s₁ B hml hv
  obtain ⟨rfl, hsz, hP, hK, hD0⟩ := hv
  have hx := B.exec
  have hb := B.bytes
  have hr := B.returns
  have hts := atoms_spec (ws := wsMX7_narrowMost) B.pre
  have hown : s.vm.findClass RX7 = some m.cls := findClass_of_methodNamed B.named
  have hlocks := B.notSynchronized
  subst hsz
  have hD := hD0.self (sz := s.heap.size)
  generalize hAe : va_A (WV hV aV kV iV_holders iV_rules fV_pairs fV_domain fV_kind fV_a fV_b fV_c fV_rulePairs fV_lastHolder fV_now iV_doneFor iV_changed gV_fore gV_back fV_together fV_member gV_list dV_list nV_list iV_listed iV_listDone) s.heap.size = A at hD ⊢
  have hA : ∀ q : Nat, s.heap.size ≤ q → A q := fun q h => by rw [← hAe]; exact Or.inr h
  have hS : va_S A s.heap s.heap [] := va_S.rf
  have hl := lv_entry ([.ref (hV 0), .int p1]) (n := 6) (Nat.le_of_ble_eq_true rfl)
  rw [lg_entry_eq]
  generalize (lg_sl ([.ref (hV 0), .int p1]) ++ List.replicate (6 - (lg_sl ([.ref (hV 0), .int p1])).length) Slot.unset).toArray = ls at hl ⊢
  have hl : lv_has ls 6 [(0, .ref (hV 0)), (1, .int p1)] := hl
  refine lv_aload_n hx hb dX7_narrowMost_0 rfl (lv_at hl 0 rfl) ?_
  refine lv_aload_n hx hb dX7_narrowMost_1 rfl (lv_at hl 0 rfl) ?_
  refine va_get (D := (dC, dI)) (ci := 7) (v := .ref (aV 3)) (C := RX7) (T := TX7) (N := 20) hx hb hts iwsMX7_narrowMost_in7 hown hK hP 0 rfl rfl 5 (by decide) (hts (.fieldLink RX7 21 "OptimaWorks$ValueDesk" "a" "[I") (by decide +kernel)) (fun _ h9 => h9) rfl dX7_narrowMost_2 ?_
  refine lv_iload_n hx hb dX7_narrowMost_5 rfl (lv_at hl 1 rfl) ?_
  refine va_iald (cA := kV 3) (n := 12) (f := fV_a) hx hb hK hP 4 3 rfl rfl (vp_in_iff.mpr ⟨b_p1.1, (Int.lt_of_le_of_lt (b_p1.2) (by decide))⟩) dX7_narrowMost_6 ?_
  refine lv_topi (fun v1 hv1 => ?_)
  clear hv1
  have hFc := allFree hD hS hA
  refine va_calli (va_runV (As := [.int v1]) (rest := []) ⟨hx, hb, hml, hown, hts⟩ (m_X7_takeMembers l dC dI hV aV kV iV_holders iV_rules fV_pairs fV_domain fV_kind fV_a fV_b fV_c fV_rulePairs fV_lastHolder fV_now iV_doneFor iV_changed gV_fore gV_back fV_together fV_member gV_list dV_list nV_list iV_listed iV_listDone v1 (b_iV_holders) (b_iV_rules) b_fV_kind (b_iV_changed) b_fV_member (by first | exact b_nV_list | with_reducible assumption | exact ⟨by omega, by omega⟩ | assumption) (b_iV_listed) (b_iV_listDone) (by first | with_reducible assumption | omega | assumption) (by first | with_reducible assumption | omega | assumption) s.heap.size) (cwV 1 hts gwsMX7_narrowMost_0 rfl rfl rfl hd_yX7_takeMembers_RX7 (by decide +kernel)) (fz_pre (va_recv hK hP (ci := 7) (q0 := 0) rfl rfl) hP hK hD) rfl rfl hl.1 rfl (lv_room (Nat.le_of_ble_eq_true rfl)) dX7_narrowMost_7 (by decide +kernel)) hS (fun q _ h => hFc q h) hFc (fun r2 fV_member_2 t9_ H locs ht hvm hw9 hB9 hz1 hk1 hS => ?_)
  revert hw9
  refine fz_a3 ?_
  intro b_fV_member_2 b_r2 f2_0
  have hP : va_P (dC, dI) vwCl (WV hV aV kV iV_holders iV_rules fV_pairs fV_domain fV_kind fV_a fV_b fV_c fV_rulePairs fV_lastHolder fV_now iV_doneFor iV_changed gV_fore gV_back fV_together fV_member_2 gV_list dV_list nV_list iV_listed iV_listDone) H := fz_P ht hB9.1
  have hD := fz_sd hP (hB9.2.weaken (fun _ q _ h => hFc q.1 h)) rfl
  have hMe := f2_0
  refine lv_istore_n hx hb dX7_narrowMost_10 rfl hl (by decide) rfl (fun ls (hl : lv_has ls _ ([(2, .int r2), (0, .ref (hV 0)), (1, .int p1)])) => ?_)
  refine lv_iconst (v := 1) hx hb dX7_narrowMost_11 (by decide) ?_
  refine lv_aload_n hx hb dX7_narrowMost_12 rfl (lv_at hl 1 rfl) ?_
  refine va_get (D := (dC, dI)) (ci := 7) (v := .ref (aV 5)) (C := RX7) (T := TX7) (N := 20) hx hb hts iwsMX7_narrowMost_in7 hown hK hP 0 rfl rfl 7 (by decide) (hts (.fieldLink RX7 27 "OptimaWorks$ValueDesk" "c" "[I") (by decide +kernel)) (fun _ h9 => h9) rfl dX7_narrowMost_13 ?_
  refine lv_iload_n hx hb dX7_narrowMost_16 rfl (lv_at hl 2 rfl) ?_
  refine va_iald (cA := kV 5) (n := 12) (f := fV_c) hx hb hK hP 6 5 rfl rfl (vp_in_iff.mpr ⟨b_p1.1, (Int.lt_of_le_of_lt (b_p1.2) (by decide))⟩) dX7_narrowMost_17 ?_
  refine lv_topi (fun v3 hv3 => ?_)
  clear hv3
  refine lv_ishl hx hb dX7_narrowMost_18 ?_
  refine lv_topi (fun v4 hv4 => ?_)
  clear hv4
  refine lv_istore_n hx hb dX7_narrowMost_19 rfl hl (by decide) rfl (fun ls (hl : lv_has ls _ ([(3, .int v4), (2, .int r2), (0, .ref (hV 0)), (1, .int p1)])) => ?_)
  refine lv_iconst (v := 0) hx hb dX7_narrowMost_20 (by decide) ?_
  refine lv_istore hx hb dX7_narrowMost_21 hl (by decide) rfl (fun ls (hl : lv_has ls _ ([(4, .int 0), (3, .int v4), (2, .int r2), (0, .ref (hV 0)), (1, .int p1)])) => ?_)
  refine lv_iconst (v := 0) hx hb dX7_narrowMost_23 (by decide) ?_
  refine lv_istore hx hb dX7_narrowMost_24 hl (by decide) rfl (fun ls (hl : lv_has ls _ ([(5, .int 0), (4, .int 0), (3, .int v4), (2, .int r2), (0, .ref (hV 0)), (1, .int p1)])) => ?_)
  have hl : lv_has _ _ ([(5, .int 0), (4, .int 0), (3, .int v4), (2, .int r2), (0, .ref (hV 0)), (1, .int p1)]) := lv_sub hl [0, 1, 2, 3, 4, 5] rfl
  refine (fun (loop : ∀ (n9 : Nat) (l5_x26 : Int32) (l4_x26 : Int32) (H : Heap) (locs : List Loc) (ls : Array Slot), (0 ≤ l5_x26.toInt ∧ l5_x26.toInt ≤ 10) → (10 - l5_x26.toInt < ((n9 : Nat) : Int)) → va_P (dC, dI) vwCl (WV hV aV kV iV_holders iV_rules fV_pairs fV_domain fV_kind fV_a fV_b fV_c fV_rulePairs fV_lastHolder fV_now iV_doneFor iV_changed gV_fore gV_back fV_together fV_member_2 gV_list dV_list nV_list iV_listed iV_listDone) H → va_D A (WV hV aV kV iV_holders iV_rules fV_pairs fV_domain fV_kind fV_a fV_b fV_c fV_rulePairs fV_lastHolder fV_now iV_doneFor iV_changed gV_fore gV_back fV_together fV_member_2 gV_list dV_list nV_list iV_listed iV_listDone) → va_S A s.heap H locs → lv_has ls 6 [(5, .int l5_x26), (4, .int l4_x26), (3, .int v4), (2, .int r2), (0, .ref (hV 0)), (1, .int p1)] → W p l e _ s m _ below meth c H locs 0 0 _ (F0 m 26 ls [])) => loop (11) 0 0 _ _ _ (show 0 ≤ (0 : Int32).toInt ∧ (0 : Int32).toInt ≤ 10 from by decide) ((by have e9 : (0 : Int32).toInt = 0 := (by decide : (0 : Int32).toInt = 0); omega)) hP hD hS hl) ?_
  intro n9
  induction n9 with
  | zero => intro l5_x26 l4_x26 H locs ls b_l5_x26 hf9; exact False.elim (by omega)
  | succ n9 ihx26 =>
    intro l5_x26 l4_x26 H locs ls b_l5_x26 hfx26 hP hD hS hl
    refine lv_iload hx hb dX7_narrowMost_26 (lv_at hl 0 rfl) ?_
    refine lv_iload_n hx hb dX7_narrowMost_28 rfl (lv_at hl 3 rfl) ?_
    refine lv_icmp_ge (tgt := 64) hx hb dX7_narrowMost_29 (by decide) (fun c_29 => ?_) (fun c_29 => ?_)
    · have t_29 : l5_x26.toInt ≥ r2.toInt := toI_ge c_29 rfl rfl
      refine lv_iconst (v := 0) hx hb dX7_narrowMost_64 (by decide) ?_
      refine lv_istore hx hb dX7_narrowMost_65 hl (by decide) rfl (fun ls (hl : lv_has ls _ ([(5, .int 0), (4, .int l4_x26), (3, .int v4), (2, .int r2), (0, .ref (hV 0)), (1, .int p1)])) => ?_)
      have hl : lv_has _ _ ([(5, .int 0), (4, .int l4_x26), (3, .int v4), (2, .int r2), (0, .ref (hV 0)), (1, .int p1)]) := lv_sub hl [0, 1, 2, 3, 4, 5] rfl
      refine (fun (loop : ∀ (n9 : Nat) (fV_now_x67 : Nat → Int32) (iV_changed_x67 : Int32) (l5_x67 : Int32) (H : Heap) (locs : List Loc) (ls : Array Slot), (0 ≤ iV_changed_x67.toInt ∧ iV_changed_x67.toInt ≤ 1) → (0 ≤ l5_x67.toInt ∧ l5_x67.toInt ≤ 10) → (10 - l5_x67.toInt < ((n9 : Nat) : Int)) → va_P (dC, dI) vwCl (WV hV aV kV iV_holders iV_rules fV_pairs fV_domain fV_kind fV_a fV_b fV_c fV_rulePairs fV_lastHolder fV_now_x67 iV_doneFor iV_changed_x67 gV_fore gV_back fV_together fV_member_2 gV_list dV_list nV_list iV_listed iV_listDone) H → va_D A (WV hV aV kV iV_holders iV_rules fV_pairs fV_domain fV_kind fV_a fV_b fV_c fV_rulePairs fV_lastHolder fV_now_x67 iV_doneFor iV_changed_x67 gV_fore gV_back fV_together fV_member_2 gV_list dV_list nV_list iV_listed iV_listDone) → va_S A s.heap H locs → lv_has ls 6 [(5, .int l5_x67), (4, .int l4_x26), (3, .int v4), (2, .int r2), (0, .ref (hV 0)), (1, .int p1)] → W p l e _ s m _ below meth c H locs 0 0 _ (F0 m 67 ls [])) => loop (11) fV_now iV_changed 0 _ _ _ (b_iV_changed) (show 0 ≤ (0 : Int32).toInt ∧ (0 : Int32).toInt ≤ 10 from by decide) ((by have e9 : (0 : Int32).toInt = 0 := (by decide : (0 : Int32).toInt = 0); omega)) hP hD hS hl) ?_
      intro n9
      induction n9 with
      | zero => intro fV_now_x67 iV_changed_x67 l5_x67 H locs ls b_iV_changed_x67 b_l5_x67 hf9; exact False.elim (by omega)
      | succ n9 ihx67 =>
        intro fV_now_x67 iV_changed_x67 l5_x67 H locs ls b_iV_changed_x67 b_l5_x67 hfx67 hP hD hS hl
        refine lv_iload hx hb dX7_narrowMost_67 (lv_at hl 0 rfl) ?_
        refine lv_iload_n hx hb dX7_narrowMost_69 rfl (lv_at hl 3 rfl) ?_
        refine W.cut (pc := 146) (fun H locs ls stk =>  stk = [] ∧ va_P (dC, dI) vwCl (WV hV aV kV iV_holders iV_rules fV_pairs fV_domain fV_kind fV_a fV_b fV_c fV_rulePairs fV_lastHolder fV_now_x67 iV_doneFor iV_changed_x67 gV_fore gV_back fV_together fV_member_2 gV_list dV_list nV_list iV_listed iV_listDone) H ∧ va_D A (WV hV aV kV iV_holders iV_rules fV_pairs fV_domain fV_kind fV_a fV_b fV_c fV_rulePairs fV_lastHolder fV_now_x67 iV_doneFor iV_changed_x67 gV_fore gV_back fV_together fV_member_2 gV_list dV_list nV_list iV_listed iV_listDone) ∧ va_S A s.heap H locs ∧ lv_has ls 6 [(5, .int l5_x67), (4, .int l4_x26), (3, .int v4), (2, .int r2), (0, .ref (hV 0)), (1, .int p1)]) (fun join204 => ?_) ?_
        · refine lv_icmp_ge (tgt := 146) hx hb dX7_narrowMost_70 (by decide) (fun c_70 => ?_) (fun c_70 => ?_)
          · have t_70 : l5_x67.toInt ≥ r2.toInt := toI_ge c_70 rfl rfl
            have hl : lv_has _ _ ([(5, .int l5_x67), (4, .int l4_x26), (3, .int v4), (2, .int r2), (0, .ref (hV 0)), (1, .int p1)]) := lv_sub hl [0, 1, 2, 3, 4, 5] rfl
            exact join204 _ _ _ _ ⟨rfl, hP, hD, hS, hl⟩
          · have t_70 : ¬ l5_x67.toInt ≥ r2.toInt := toI_nge c_70 rfl rfl
            refine lv_iload hx hb dX7_narrowMost_73 (lv_at hl 1 rfl) ?_
            refine lv_aload_n hx hb dX7_narrowMost_75 rfl (lv_at hl 4 rfl) ?_
            refine va_get (D := (dC, dI)) (ci := 7) (v := .ref (aV 4)) (C := RX7) (T := TX7) (N := 20) hx hb hts iwsMX7_narrowMost_in7 hown hK hP 0 rfl rfl 6 (by decide) (hts _ hm_m_X7_narrowMost_0) (fun _ h9 => h9) rfl dX7_narrowMost_76 ?_
            refine lv_iload_n hx hb dX7_narrowMost_79 rfl (lv_at hl 5 rfl) ?_
            refine va_iald (cA := kV 4) (n := 12) (f := fV_b) hx hb hK hP 5 4 rfl rfl (vp_in_iff.mpr ⟨b_p1.1, (Int.lt_of_le_of_lt (b_p1.2) (by decide))⟩) dX7_narrowMost_80 ?_
            refine lv_topi (fun v462 hv462 => ?_)
            clear hv462
            refine lv_icmp_lt (tgt := 146) hx hb dX7_narrowMost_81 (by decide) (fun c_81 => ?_) (fun c_81 => ?_)
            · have t_81 : l4_x26.toInt < v462.toInt := toI_lt c_81 rfl rfl
              have hl : lv_has _ _ ([(5, .int l5_x67), (4, .int l4_x26), (3, .int v4), (2, .int r2), (0, .ref (hV 0)), (1, .int p1)]) := lv_sub hl [0, 1, 2, 3, 4, 5] rfl
              exact join204 _ _ _ _ ⟨rfl, hP, hD, hS, hl⟩
            · have t_81 : ¬ l4_x26.toInt < v462.toInt := toI_nlt c_81 rfl rfl
              refine lv_iload hx hb dX7_narrowMost_84 (lv_at hl 1 rfl) ?_
              refine lv_aload_n hx hb dX7_narrowMost_86 rfl (lv_at hl 4 rfl) ?_
              refine va_get (D := (dC, dI)) (ci := 7) (v := .ref (aV 4)) (C := RX7) (T := TX7) (N := 20) hx hb hts iwsMX7_narrowMost_in7 hown hK hP 0 rfl rfl 6 (by decide) (hts _ hm_m_X7_narrowMost_0) (fun _ h9 => h9) rfl dX7_narrowMost_87 ?_
              refine lv_iload_n hx hb dX7_narrowMost_90 rfl (lv_at hl 5 rfl) ?_
              refine va_iald (cA := kV 4) (n := 12) (f := fV_b) hx hb hK hP 5 4 rfl rfl (vp_in_iff.mpr ⟨b_p1.1, (Int.lt_of_le_of_lt (b_p1.2) (by decide))⟩) dX7_narrowMost_91 ?_
              refine lv_topi (fun v463 hv463 => ?_)
              clear hv463
              refine W.cut (pc := 140) (fun H locs ls stk => ∃ (fV_now_j207 : Nat → Int32) (iV_changed_j207 : Int32), (0 ≤ iV_changed_j207.toInt ∧ iV_changed_j207.toInt ≤ 1) ∧  stk = [] ∧ va_P (dC, dI) vwCl (WV hV aV kV iV_holders iV_rules fV_pairs fV_domain fV_kind fV_a fV_b fV_c fV_rulePairs fV_lastHolder fV_now_j207 iV_doneFor iV_changed_j207 gV_fore gV_back fV_together fV_member_2 gV_list dV_list nV_list iV_listed iV_listDone) H ∧ va_D A (WV hV aV kV iV_holders iV_rules fV_pairs fV_domain fV_kind fV_a fV_b fV_c fV_rulePairs fV_lastHolder fV_now_j207 iV_doneFor iV_changed_j207 gV_fore gV_back fV_together fV_member_2 gV_list dV_list nV_list iV_listed iV_listDone) ∧ va_S A s.heap H locs ∧ lv_has ls 6 [(5, .int l5_x67), (4, .int l4_x26), (3, .int v4), (2, .int r2), (0, .ref (hV 0)), (1, .int p1)]) (fun join207 => ?_) ?_
              · refine lv_icmp_gt (tgt := 111) hx hb dX7_narrowMost_92 (by decide) (fun c_92 => ?_) (fun c_92 => ?_)
                · have t_92 : l4_x26.toInt > v463.toInt := toI_gt c_92 rfl rfl
                  refine lv_aload_n hx hb dX7_narrowMost_111 rfl (lv_at hl 4 rfl) ?_
                  refine lv_aload_n hx hb dX7_narrowMost_112 rfl (lv_at hl 4 rfl) ?_
                  refine va_get (D := (dC, dI)) (ci := 7) (v := .ref (aV 12)) (C := RX7) (T := TX7) (N := 20) hx hb hts iwsMX7_narrowMost_in7 hown hK hP 0 rfl rfl 16 (by decide) (hts _ hm_m_X7_narrowMost_1) (fun _ h9 => h9) rfl dX7_narrowMost_113 ?_
                  refine lv_iload hx hb dX7_narrowMost_116 (lv_at hl 0 rfl) ?_
                  refine va_iald (cA := kV 12) (n := 10) (f := fV_member_2) hx hb hK hP 13 12 rfl rfl (vp_in_iff.mpr ⟨b_l5_x67.1, (by omega)⟩) dX7_narrowMost_118 ?_
                  refine lv_topi (fun v476 hv476 => ?_)
                  have b_v476 : 0 ≤ v476.toInt ∧ v476.toInt ≤ 9 := by rw [hv476]; exact MemO.at hMe (by omega) (by omega)
                  clear hv476
                  refine lv_iload hx hb dX7_narrowMost_119 (lv_at hl 1 rfl) ?_
                  refine lv_aload_n hx hb dX7_narrowMost_121 rfl (lv_at hl 4 rfl) ?_
                  refine va_get (D := (dC, dI)) (ci := 7) (v := .ref (aV 4)) (C := RX7) (T := TX7) (N := 20) hx hb hts iwsMX7_narrowMost_in7 hown hK hP 0 rfl rfl 6 (by decide) (hts _ hm_m_X7_narrowMost_0) (fun _ h9 => h9) rfl dX7_narrowMost_122 ?_
                  refine lv_iload_n hx hb dX7_narrowMost_125 rfl (lv_at hl 5 rfl) ?_
                  refine va_iald (cA := kV 4) (n := 12) (f := fV_b) hx hb hK hP 5 4 rfl rfl (vp_in_iff.mpr ⟨b_p1.1, (Int.lt_of_le_of_lt (b_p1.2) (by decide))⟩) dX7_narrowMost_126 ?_
                  refine lv_topi (fun v477 hv477 => ?_)
                  clear hv477
                  refine W.cut (pc := 137) (fun H locs ls stk => ∃ (k0_j208 : Int32),  stk = [.int k0_j208, .int v476, .ref (hV 0)] ∧ va_P (dC, dI) vwCl (WV hV aV kV iV_holders iV_rules fV_pairs fV_domain fV_kind fV_a fV_b fV_c fV_rulePairs fV_lastHolder fV_now_x67 iV_doneFor iV_changed_x67 gV_fore gV_back fV_together fV_member_2 gV_list dV_list nV_list iV_listed iV_listDone) H ∧ va_D A (WV hV aV kV iV_holders iV_rules fV_pairs fV_domain fV_kind fV_a fV_b fV_c fV_rulePairs fV_lastHolder fV_now_x67 iV_doneFor iV_changed_x67 gV_fore gV_back fV_together fV_member_2 gV_list dV_list nV_list iV_listed iV_listDone) ∧ va_S A s.heap H locs ∧ lv_has ls 6 [(5, .int l5_x67), (4, .int l4_x26), (3, .int v4), (2, .int r2), (0, .ref (hV 0)), (1, .int p1)]) (fun join208 => ?_) ?_
                  · refine lv_icmp_le (tgt := 134) hx hb dX7_narrowMost_127 (by decide) (fun c_127 => ?_) (fun c_127 => ?_)
                    · have t_127 : l4_x26.toInt ≤ v477.toInt := toI_le c_127 rfl rfl
                      refine lv_iload_n hx hb dX7_narrowMost_134 rfl (lv_at hl 2 rfl) ?_
                      refine lv_iconst (v := (-1)) hx hb dX7_narrowMost_135 (by decide) ?_
                      refine lv_ixor hx hb dX7_narrowMost_136 ?_
                      refine lv_topi (fun v479 hv479 => ?_)
                      clear hv479
                      have hl : lv_has _ _ ([(5, .int l5_x67), (4, .int l4_x26), (3, .int v4), (2, .int r2), (0, .ref (hV 0)), (1, .int p1)]) := lv_sub hl [0, 1, 2, 3, 4, 5] rfl
                      exact join208 _ _ _ _ ⟨v479, rfl, hP, hD, hS, hl⟩
                    · have t_127 : ¬ l4_x26.toInt ≤ v477.toInt := toI_nle c_127 rfl rfl
                      refine lv_iconst (v := 0) hx hb dX7_narrowMost_130 (by decide) ?_
                      refine lv_goto (tgt := 137) hx hb dX7_narrowMost_131 (by decide) ?_
                      have hl : lv_has _ _ ([(5, .int l5_x67), (4, .int l4_x26), (3, .int v4), (2, .int r2), (0, .ref (hV 0)), (1, .int p1)]) := lv_sub hl [0, 1, 2, 3, 4, 5] rfl
                      exact join208 _ _ _ _ ⟨0, rfl, hP, hD, hS, hl⟩
                  · rintro H locs ls stk ⟨k0_j208, rfl, hP, hD, hS, hl⟩
                    have hFc := allFree hD hS hA
                    refine va_callv (va_runV (As := [.int v476, .int k0_j208]) (rest := []) ⟨hx, hb, hml, hown, hts⟩ (m_X7_cutTo l dC dI hV aV kV iV_holders iV_rules fV_pairs fV_domain fV_kind fV_a fV_b fV_c fV_rulePairs fV_lastHolder fV_now_x67 iV_doneFor iV_changed_x67 gV_fore gV_back fV_together fV_member_2 gV_list dV_list nV_list iV_listed iV_listDone v476 k0_j208 (b_iV_holders) (b_iV_rules) b_fV_kind (b_iV_changed_x67) b_fV_member_2 (by first | exact b_nV_list | with_reducible assumption | exact ⟨by omega, by omega⟩ | assumption) (b_iV_listed) (b_iV_listDone) (by first | with_reducible assumption | omega | assumption) (by first | with_reducible assumption | omega | assumption) (b_v476) H.size) (cwV 2 hts gwsMX7_narrowMost_1 rfl rfl rfl hd_yX7_cutTo_RX7 (by decide +kernel)) (fz_pre (va_recv hK hP (ci := 7) (q0 := 0) rfl rfl) hP hK hD) rfl rfl hl.1 rfl (lv_room (Nat.le_of_ble_eq_true rfl)) dX7_narrowMost_137 (by decide +kernel)) hS (fun q _ h => hFc q h) hFc (fun u t9_ H locs ht hvm hw9 hB9 hz1 hk1 hS => ?_)
                    revert u hw9 hB9
                    refine fz_p2 ?_
                    intro fV_now_480 iV_changed_480 hw9 hB9
                    try dsimp only at hw9 hB9
                    have b_iV_changed_480 := hw9
                    try dsimp only at b_iV_changed_480
                    have hP : va_P (dC, dI) vwCl (WV hV aV kV iV_holders iV_rules fV_pairs fV_domain fV_kind fV_a fV_b fV_c fV_rulePairs fV_lastHolder fV_now_480 iV_doneFor iV_changed_480 gV_fore gV_back fV_together fV_member_2 gV_list dV_list nV_list iV_listed iV_listDone) H := fz_P ht hB9.1
                    have hD := fz_sd hP (hB9.2.weaken (fun _ q _ h => hFc q.1 h)) rfl
                    have hl : lv_has _ _ ([(5, .int l5_x67), (4, .int l4_x26), (3, .int v4), (2, .int r2), (0, .ref (hV 0)), (1, .int p1)]) := lv_sub hl [0, 1, 2, 3, 4, 5] rfl
                    exact join207 _ _ _ _ ⟨fV_now_480, iV_changed_480, (by first | exact b_iV_changed_480 | with_reducible assumption | exact ⟨by omega, by omega⟩ | assumption), rfl, hP, hD, hS, hl⟩
                · have t_92 : ¬ l4_x26.toInt > v463.toInt := toI_ngt c_92 rfl rfl
                  refine lv_aload_n hx hb dX7_narrowMost_95 rfl (lv_at hl 4 rfl) ?_
                  refine va_get (D := (dC, dI)) (ci := 7) (v := .ref (aV 8)) (C := RX7) (T := TX7) (N := 20) hx hb hts iwsMX7_narrowMost_in7 hown hK hP 0 rfl rfl 10 (by decide) (hts _ hm_m_X7_narrowMost_2) (fun _ h9 => h9) rfl dX7_narrowMost_96 ?_
                  refine lv_aload_n hx hb dX7_narrowMost_99 rfl (lv_at hl 4 rfl) ?_
                  refine va_get (D := (dC, dI)) (ci := 7) (v := .ref (aV 12)) (C := RX7) (T := TX7) (N := 20) hx hb hts iwsMX7_narrowMost_in7 hown hK hP 0 rfl rfl 16 (by decide) (hts _ hm_m_X7_narrowMost_1) (fun _ h9 => h9) rfl dX7_narrowMost_100 ?_
                  refine lv_iload hx hb dX7_narrowMost_103 (lv_at hl 0 rfl) ?_
                  refine va_iald (cA := kV 12) (n := 10) (f := fV_member_2) hx hb hK hP 13 12 rfl rfl (vp_in_iff.mpr ⟨b_l5_x67.1, (by omega)⟩) dX7_narrowMost_105 ?_
                  refine lv_topi (fun v481 hv481 => ?_)
                  have b_v481 : 0 ≤ v481.toInt ∧ v481.toInt ≤ 9 := by rw [hv481]; exact MemO.at hMe (by omega) (by omega)
                  clear hv481
                  refine va_iald (cA := kV 8) (n := 10) (f := fV_now_x67) hx hb hK hP 9 8 rfl rfl (vp_in_iff.mpr ⟨b_v481.1, (Int.lt_of_le_of_lt (b_v481.2) (by decide))⟩) dX7_narrowMost_106 ?_
                  refine lv_topi (fun v482 hv482 => ?_)
                  clear hv482
                  refine lv_iload_n hx hb dX7_narrowMost_107 rfl (lv_at hl 2 rfl) ?_
                  refine lv_icmp_eq (tgt := 140) hx hb dX7_narrowMost_108 (by decide) (fun c_108 => ?_) (fun c_108 => ?_)
                  · have t_108 : v482.toInt = v4.toInt := toI_eq c_108 rfl rfl
                    have hl : lv_has _ _ ([(5, .int l5_x67), (4, .int l4_x26), (3, .int v4), (2, .int r2), (0, .ref (hV 0)), (1, .int p1)]) := lv_sub hl [0, 1, 2, 3, 4, 5] rfl
                    exact join207 _ _ _ _ ⟨fV_now_x67, iV_changed_x67, (b_iV_changed_x67), rfl, hP, hD, hS, hl⟩
                  · have t_108 : ¬ v482.toInt = v4.toInt := toI_neq c_108 rfl rfl
                    refine lv_aload_n hx hb dX7_narrowMost_111 rfl (lv_at hl 4 rfl) ?_
                    refine lv_aload_n hx hb dX7_narrowMost_112 rfl (lv_at hl 4 rfl) ?_
                    refine va_get (D := (dC, dI)) (ci := 7) (v := .ref (aV 12)) (C := RX7) (T := TX7) (N := 20) hx hb hts iwsMX7_narrowMost_in7 hown hK hP 0 rfl rfl 16 (by decide) (hts _ hm_m_X7_narrowMost_1) (fun _ h9 => h9) rfl dX7_narrowMost_113 ?_
                    refine lv_iload hx hb dX7_narrowMost_116 (lv_at hl 0 rfl) ?_
                    refine va_iald (cA := kV 12) (n := 10) (f := fV_member_2) hx hb hK hP 13 12 rfl rfl (vp_in_iff.mpr ⟨b_l5_x67.1, (by omega)⟩) dX7_narrowMost_118 ?_
                    refine lv_topi (fun v483 hv483 => ?_)
                    have b_v483 : 0 ≤ v483.toInt ∧ v483.toInt ≤ 9 := by rw [hv483]; exact MemO.at hMe (by omega) (by omega)
                    clear hv483
                    refine lv_iload hx hb dX7_narrowMost_119 (lv_at hl 1 rfl) ?_
                    refine lv_aload_n hx hb dX7_narrowMost_121 rfl (lv_at hl 4 rfl) ?_
                    refine va_get (D := (dC, dI)) (ci := 7) (v := .ref (aV 4)) (C := RX7) (T := TX7) (N := 20) hx hb hts iwsMX7_narrowMost_in7 hown hK hP 0 rfl rfl 6 (by decide) (hts _ hm_m_X7_narrowMost_0) (fun _ h9 => h9) rfl dX7_narrowMost_122 ?_
                    refine lv_iload_n hx hb dX7_narrowMost_125 rfl (lv_at hl 5 rfl) ?_
                    refine va_iald (cA := kV 4) (n := 12) (f := fV_b) hx hb hK hP 5 4 rfl rfl (vp_in_iff.mpr ⟨b_p1.1, (Int.lt_of_le_of_lt (b_p1.2) (by decide))⟩) dX7_narrowMost_126 ?_
                    refine lv_topi (fun v484 hv484 => ?_)
                    clear hv484
                    refine W.cut (pc := 137) (fun H locs ls stk => ∃ (k0_j209 : Int32),  stk = [.int k0_j209, .int v483, .ref (hV 0)] ∧ va_P (dC, dI) vwCl (WV hV aV kV iV_holders iV_rules fV_pairs fV_domain fV_kind fV_a fV_b fV_c fV_rulePairs fV_lastHolder fV_now_x67 iV_doneFor iV_changed_x67 gV_fore gV_back fV_together fV_member_2 gV_list dV_list nV_list iV_listed iV_listDone) H ∧ va_D A (WV hV aV kV iV_holders iV_rules fV_pairs fV_domain fV_kind fV_a fV_b fV_c fV_rulePairs fV_lastHolder fV_now_x67 iV_doneFor iV_changed_x67 gV_fore gV_back fV_together fV_member_2 gV_list dV_list nV_list iV_listed iV_listDone) ∧ va_S A s.heap H locs ∧ lv_has ls 6 [(5, .int l5_x67), (4, .int l4_x26), (3, .int v4), (2, .int r2), (0, .ref (hV 0)), (1, .int p1)]) (fun join209 => ?_) ?_
                    · refine lv_icmp_le (tgt := 134) hx hb dX7_narrowMost_127 (by decide) (fun c_127 => ?_) (fun c_127 => ?_)
                      · have t_127 : l4_x26.toInt ≤ v484.toInt := toI_le c_127 rfl rfl
                        refine lv_iload_n hx hb dX7_narrowMost_134 rfl (lv_at hl 2 rfl) ?_
                        refine lv_iconst (v := (-1)) hx hb dX7_narrowMost_135 (by decide) ?_
                        refine lv_ixor hx hb dX7_narrowMost_136 ?_
                        refine lv_topi (fun v486 hv486 => ?_)
                        clear hv486
                        have hl : lv_has _ _ ([(5, .int l5_x67), (4, .int l4_x26), (3, .int v4), (2, .int r2), (0, .ref (hV 0)), (1, .int p1)]) := lv_sub hl [0, 1, 2, 3, 4, 5] rfl
                        exact join209 _ _ _ _ ⟨v486, rfl, hP, hD, hS, hl⟩
                      · have t_127 : ¬ l4_x26.toInt ≤ v484.toInt := toI_nle c_127 rfl rfl
                        refine lv_iconst (v := 0) hx hb dX7_narrowMost_130 (by decide) ?_
                        refine lv_goto (tgt := 137) hx hb dX7_narrowMost_131 (by decide) ?_
                        have hl : lv_has _ _ ([(5, .int l5_x67), (4, .int l4_x26), (3, .int v4), (2, .int r2), (0, .ref (hV 0)), (1, .int p1)]) := lv_sub hl [0, 1, 2, 3, 4, 5] rfl
                        exact join209 _ _ _ _ ⟨0, rfl, hP, hD, hS, hl⟩
                    · rintro H locs ls stk ⟨k0_j209, rfl, hP, hD, hS, hl⟩
                      have hFc := allFree hD hS hA
                      refine va_callv (va_runV (As := [.int v483, .int k0_j209]) (rest := []) ⟨hx, hb, hml, hown, hts⟩ (m_X7_cutTo l dC dI hV aV kV iV_holders iV_rules fV_pairs fV_domain fV_kind fV_a fV_b fV_c fV_rulePairs fV_lastHolder fV_now_x67 iV_doneFor iV_changed_x67 gV_fore gV_back fV_together fV_member_2 gV_list dV_list nV_list iV_listed iV_listDone v483 k0_j209 (b_iV_holders) (b_iV_rules) b_fV_kind (b_iV_changed_x67) b_fV_member_2 (by first | exact b_nV_list | with_reducible assumption | exact ⟨by omega, by omega⟩ | assumption) (b_iV_listed) (b_iV_listDone) (by first | with_reducible assumption | omega | assumption) (by first | with_reducible assumption | omega | assumption) (b_v483) H.size) (cwV 2 hts gwsMX7_narrowMost_1 rfl rfl rfl hd_yX7_cutTo_RX7 (by decide +kernel)) (fz_pre (va_recv hK hP (ci := 7) (q0 := 0) rfl rfl) hP hK hD) rfl rfl hl.1 rfl (lv_room (Nat.le_of_ble_eq_true rfl)) dX7_narrowMost_137 (by decide +kernel)) hS (fun q _ h => hFc q h) hFc (fun u t9_ H locs ht hvm hw9 hB9 hz1 hk1 hS => ?_)
                      revert u hw9 hB9
                      refine fz_p2 ?_
                      intro fV_now_487 iV_changed_487 hw9 hB9
                      try dsimp only at hw9 hB9
                      have b_iV_changed_487 := hw9
                      try dsimp only at b_iV_changed_487
                      have hP : va_P (dC, dI) vwCl (WV hV aV kV iV_holders iV_rules fV_pairs fV_domain fV_kind fV_a fV_b fV_c fV_rulePairs fV_lastHolder fV_now_487 iV_doneFor iV_changed_487 gV_fore gV_back fV_together fV_member_2 gV_list dV_list nV_list iV_listed iV_listDone) H := fz_P ht hB9.1
                      have hD := fz_sd hP (hB9.2.weaken (fun _ q _ h => hFc q.1 h)) rfl
                      have hl : lv_has _ _ ([(5, .int l5_x67), (4, .int l4_x26), (3, .int v4), (2, .int r2), (0, .ref (hV 0)), (1, .int p1)]) := lv_sub hl [0, 1, 2, 3, 4, 5] rfl
                      exact join207 _ _ _ _ ⟨fV_now_487, iV_changed_487, (by first | exact b_iV_changed_487 | with_reducible assumption | exact ⟨by omega, by omega⟩ | assumption), rfl, hP, hD, hS, hl⟩
              · rintro H locs ls stk ⟨fV_now_j207, iV_changed_j207, b_iV_changed_j207, rfl, hP, hD, hS, hl⟩
                refine lv_iinc (v := (iI (l5_x67.toInt + 1))) hx hb dX7_narrowMost_140 hl (k := 0) rfl (iI_add2 (iI_of _) (by decide : (1 : Int32) = iI 1)) (by decide) rfl (fun ls (hl : lv_has ls _ ([(5, .int (iI (l5_x67.toInt + 1))), (4, .int l4_x26), (3, .int v4), (2, .int r2), (0, .ref (hV 0)), (1, .int p1)])) => ?_)
                refine lv_goto (tgt := 67) hx hb dX7_narrowMost_143 (by decide) ?_
                have hl : lv_has _ _ ([(5, .int (iI (l5_x67.toInt + 1))), (4, .int l4_x26), (3, .int v4), (2, .int r2), (0, .ref (hV 0)), (1, .int p1)]) := lv_sub hl [0, 1, 2, 3, 4, 5] rfl
                exact ihx67 fV_now_j207 iV_changed_j207 (iI (l5_x67.toInt + 1)) _ _ _ (by first | exact b_iV_changed_j207 | with_reducible assumption | exact ⟨by omega, by omega⟩ | assumption) (iI_rng (Int.le_trans (by decide) (Int.add_le_add (b_l5_x67.1) (Int.le_refl _))) (by omega) (by decide) (by decide)) (by have e9 : ((iI (l5_x67.toInt + 1))).toInt = (l5_x67.toInt + 1) := (iI_t (Int.le_trans (by decide) (Int.add_le_add (b_l5_x67.1) (Int.le_refl _))) (Int.le_trans (Int.add_le_add (b_l5_x67.2) (Int.le_refl _)) (by decide))); omega) hP hD hS hl
        · rintro H locs ls stk ⟨rfl, hP, hD, hS, hl⟩
          refine W.widen (k := 0) (n := 0) (by decide +kernel) (by decide +kernel) ?_
          exact W.vret hx hb hr (fun t9_ ht hW => ⟨⟨(fV_now_x67, iV_changed_x67, fV_member_2), rfl, ⟨b_iV_changed_x67, b_fV_member_2⟩, by rw [ht]; exact hP, hD⟩, hS.F ht⟩) hS.2.2 dX7_narrowMost_146
    · have t_29 : ¬ l5_x26.toInt ≥ r2.toInt := toI_nge c_29 rfl rfl
      refine lv_iload hx hb dX7_narrowMost_32 (lv_at hl 1 rfl) ?_
      refine lv_aload_n hx hb dX7_narrowMost_34 rfl (lv_at hl 4 rfl) ?_
      refine va_get (D := (dC, dI)) (ci := 7) (v := .ref (aV 8)) (C := RX7) (T := TX7) (N := 20) hx hb hts iwsMX7_narrowMost_in7 hown hK hP 0 rfl rfl 10 (by decide) (hts _ hm_m_X7_narrowMost_2) (fun _ h9 => h9) rfl dX7_narrowMost_35 ?_
      refine lv_aload_n hx hb dX7_narrowMost_38 rfl (lv_at hl 4 rfl) ?_
      refine va_get (D := (dC, dI)) (ci := 7) (v := .ref (aV 12)) (C := RX7) (T := TX7) (N := 20) hx hb hts iwsMX7_narrowMost_in7 hown hK hP 0 rfl rfl 16 (by decide) (hts _ hm_m_X7_narrowMost_1) (fun _ h9 => h9) rfl dX7_narrowMost_39 ?_
      refine lv_iload hx hb dX7_narrowMost_42 (lv_at hl 0 rfl) ?_
      refine va_iald (cA := kV 12) (n := 10) (f := fV_member_2) hx hb hK hP 13 12 rfl rfl (vp_in_iff.mpr ⟨b_l5_x26.1, (by omega)⟩) dX7_narrowMost_44 ?_
      refine lv_topi (fun v488 hv488 => ?_)
      have b_v488 : 0 ≤ v488.toInt ∧ v488.toInt ≤ 9 := by rw [hv488]; exact MemO.at hMe (by omega) (by omega)
      clear hv488
      refine va_iald (cA := kV 8) (n := 10) (f := fV_now) hx hb hK hP 9 8 rfl rfl (vp_in_iff.mpr ⟨b_v488.1, (Int.lt_of_le_of_lt (b_v488.2) (by decide))⟩) dX7_narrowMost_45 ?_
      refine lv_topi (fun v489 hv489 => ?_)
      clear hv489
      refine lv_iload_n hx hb dX7_narrowMost_46 rfl (lv_at hl 2 rfl) ?_
      refine W.cut (pc := 55) (fun H locs ls stk => ∃ (k0_j210 : Int32), (0 ≤ k0_j210.toInt ∧ k0_j210.toInt ≤ 1) ∧  stk = [.int k0_j210, .int l4_x26] ∧ va_P (dC, dI) vwCl (WV hV aV kV iV_holders iV_rules fV_pairs fV_domain fV_kind fV_a fV_b fV_c fV_rulePairs fV_lastHolder fV_now iV_doneFor iV_changed gV_fore gV_back fV_together fV_member_2 gV_list dV_list nV_list iV_listed iV_listDone) H ∧ va_D A (WV hV aV kV iV_holders iV_rules fV_pairs fV_domain fV_kind fV_a fV_b fV_c fV_rulePairs fV_lastHolder fV_now iV_doneFor iV_changed gV_fore gV_back fV_together fV_member_2 gV_list dV_list nV_list iV_listed iV_listDone) ∧ va_S A s.heap H locs ∧ lv_has ls 6 [(5, .int l5_x26), (4, .int l4_x26), (3, .int v4), (2, .int r2), (0, .ref (hV 0)), (1, .int p1)]) (fun join210 => ?_) ?_
      · refine lv_icmp_ne (tgt := 54) hx hb dX7_narrowMost_47 (by decide) (fun c_47 => ?_) (fun c_47 => ?_)
        · have t_47 : v489.toInt ≠ v4.toInt := toI_ne c_47 rfl rfl
          refine lv_iconst (v := 0) hx hb dX7_narrowMost_54 (by decide) ?_
          have hl : lv_has _ _ ([(5, .int l5_x26), (4, .int l4_x26), (3, .int v4), (2, .int r2), (0, .ref (hV 0)), (1, .int p1)]) := lv_sub hl [0, 1, 2, 3, 4, 5] rfl
          exact join210 _ _ _ _ ⟨0, (show 0 ≤ (0 : Int32).toInt ∧ (0 : Int32).toInt ≤ 1 from by decide), rfl, hP, hD, hS, hl⟩
        · have t_47 : v489.toInt = v4.toInt := toI_nne c_47 rfl rfl
          refine lv_iconst (v := 1) hx hb dX7_narrowMost_50 (by decide) ?_
          refine lv_goto (tgt := 55) hx hb dX7_narrowMost_51 (by decide) ?_
          have hl : lv_has _ _ ([(5, .int l5_x26), (4, .int l4_x26), (3, .int v4), (2, .int r2), (0, .ref (hV 0)), (1, .int p1)]) := lv_sub hl [0, 1, 2, 3, 4, 5] rfl
          exact join210 _ _ _ _ ⟨1, (show 0 ≤ (1 : Int32).toInt ∧ (1 : Int32).toInt ≤ 1 from by decide), rfl, hP, hD, hS, hl⟩
      · rintro H locs ls stk ⟨k0_j210, b_k0_j210, rfl, hP, hD, hS, hl⟩
        refine lv_iadd hx hb dX7_narrowMost_55 ?_
        refine lv_topi (fun y490 hy490 => ?_)
        obtain rfl : (iI (l4_x26.toInt + k0_j210.toInt)) = y490 := (hy490.trans (iI_add2 (iI_of _) (iI_of _))).symm
        refine lv_istore hx hb dX7_narrowMost_56 hl (by decide) rfl (fun ls (hl : lv_has ls _ ([(4, .int (iI (l4_x26.toInt + k0_j210.toInt))), (5, .int l5_x26), (3, .int v4), (2, .int r2), (0, .ref (hV 0)), (1, .int p1)])) => ?_)
        refine lv_iinc (v := (iI (l5_x26.toInt + 1))) hx hb dX7_narrowMost_58 hl (k := 1) rfl (iI_add2 (iI_of _) (by decide : (1 : Int32) = iI 1)) (by decide) rfl (fun ls (hl : lv_has ls _ ([(5, .int (iI (l5_x26.toInt + 1))), (4, .int (iI (l4_x26.toInt + k0_j210.toInt))), (3, .int v4), (2, .int r2), (0, .ref (hV 0)), (1, .int p1)])) => ?_)
        refine lv_goto (tgt := 26) hx hb dX7_narrowMost_61 (by decide) ?_
        have hl : lv_has _ _ ([(5, .int (iI (l5_x26.toInt + 1))), (4, .int (iI (l4_x26.toInt + k0_j210.toInt))), (3, .int v4), (2, .int r2), (0, .ref (hV 0)), (1, .int p1)]) := lv_sub hl [0, 1, 2, 3, 4, 5] rfl
        exact ihx26 (iI (l5_x26.toInt + 1)) (iI (l4_x26.toInt + k0_j210.toInt)) _ _ _ (iI_rng (Int.le_trans (by decide) (Int.add_le_add (b_l5_x26.1) (Int.le_refl _))) (by omega) (by decide) (by decide)) (by have e9 : ((iI (l5_x26.toInt + 1))).toInt = (l5_x26.toInt + 1) := (iI_t (Int.le_trans (by decide) (Int.add_le_add (b_l5_x26.1) (Int.le_refl _))) (Int.le_trans (Int.add_le_add (b_l5_x26.2) (Int.le_refl _)) (by decide))); omega) hP hD hS hl
theorem dX7_narrowPairs_0 : decode cX7_narrowPairs 0 = .ok (.aload_n 0, 1) := dk_42 (by decide +kernel)
theorem dX7_narrowPairs_1 : decode cX7_narrowPairs 1 = .ok (.getfield 21, 3) := dk_180 (by decide +kernel)
theorem dX7_narrowPairs_4 : decode cX7_narrowPairs 4 = .ok (.iload_n 1, 1) := dk_27 (by decide +kernel)
theorem dX7_narrowPairs_5 : decode cX7_narrowPairs 5 = .ok (.iaload, 1) := dk_46 (by decide +kernel)
theorem dX7_narrowPairs_6 : decode cX7_narrowPairs 6 = .ok (.istore_n 2, 1) := dk_61 (by decide +kernel)
theorem dX7_narrowPairs_7 : decode cX7_narrowPairs 7 = .ok (.aload_n 0, 1) := dk_42 (by decide +kernel)
theorem dX7_narrowPairs_8 : decode cX7_narrowPairs 8 = .ok (.getfield 24, 3) := dk_180 (by decide +kernel)
theorem dX7_narrowPairs_11 : decode cX7_narrowPairs 11 = .ok (.iload_n 1, 1) := dk_27 (by decide +kernel)
theorem dX7_narrowPairs_12 : decode cX7_narrowPairs 12 = .ok (.iaload, 1) := dk_46 (by decide +kernel)
theorem dX7_narrowPairs_13 : decode cX7_narrowPairs 13 = .ok (.istore_n 3, 1) := dk_62 (by decide +kernel)
theorem dX7_narrowPairs_14 : decode cX7_narrowPairs 14 = .ok (.iconst 0, 1) := dk_3 (by decide +kernel)
theorem dX7_narrowPairs_15 : decode cX7_narrowPairs 15 = .ok (.istore 4, 2) := dk_54 (by decide +kernel)
theorem dX7_narrowPairs_17 : decode cX7_narrowPairs 17 = .ok (.iconst 0, 1) := dk_3 (by decide +kernel)
theorem dX7_narrowPairs_18 : decode cX7_narrowPairs 18 = .ok (.istore 5, 2) := dk_54 (by decide +kernel)
theorem dX7_narrowPairs_20 : decode cX7_narrowPairs 20 = .ok (.iconst 0, 1) := dk_3 (by decide +kernel)
theorem dX7_narrowPairs_21 : decode cX7_narrowPairs 21 = .ok (.istore 6, 2) := dk_54 (by decide +kernel)
theorem dX7_narrowPairs_23 : decode cX7_narrowPairs 23 = .ok (.iload 6, 2) := dk_21 (by decide +kernel)
theorem dX7_narrowPairs_25 : decode cX7_narrowPairs 25 = .ok (.bipush 16, 2) := dk_16 (by decide +kernel)
theorem dX7_narrowPairs_27 : decode cX7_narrowPairs 27 = .ok (.if_icmp .ge 65, 3) := dk_162 (by decide +kernel)
theorem dX7_narrowPairs_30 : decode cX7_narrowPairs 30 = .ok (.aload_n 0, 1) := dk_42 (by decide +kernel)
theorem dX7_narrowPairs_31 : decode cX7_narrowPairs 31 = .ok (.getfield 30, 3) := dk_180 (by decide +kernel)
theorem dX7_narrowPairs_34 : decode cX7_narrowPairs 34 = .ok (.iload_n 1, 1) := dk_27 (by decide +kernel)
theorem dX7_narrowPairs_35 : decode cX7_narrowPairs 35 = .ok (.bipush 16, 2) := dk_16 (by decide +kernel)
theorem dX7_narrowPairs_37 : decode cX7_narrowPairs 37 = .ok (.imul, 1) := dk_104 (by decide +kernel)
theorem dX7_narrowPairs_38 : decode cX7_narrowPairs 38 = .ok (.iload 6, 2) := dk_21 (by decide +kernel)
theorem dX7_narrowPairs_40 : decode cX7_narrowPairs 40 = .ok (.iadd, 1) := dk_96 (by decide +kernel)
theorem dX7_narrowPairs_41 : decode cX7_narrowPairs 41 = .ok (.iaload, 1) := dk_46 (by decide +kernel)
theorem dX7_narrowPairs_42 : decode cX7_narrowPairs 42 = .ok (.aload_n 0, 1) := dk_42 (by decide +kernel)
theorem dX7_narrowPairs_43 : decode cX7_narrowPairs 43 = .ok (.getfield 36, 3) := dk_180 (by decide +kernel)
theorem dX7_narrowPairs_46 : decode cX7_narrowPairs 46 = .ok (.iload_n 3, 1) := dk_29 (by decide +kernel)
theorem dX7_narrowPairs_47 : decode cX7_narrowPairs 47 = .ok (.iaload, 1) := dk_46 (by decide +kernel)
theorem dX7_narrowPairs_48 : decode cX7_narrowPairs 48 = .ok (.iand, 1) := dk_126 (by decide +kernel)
theorem dX7_narrowPairs_49 : decode cX7_narrowPairs 49 = .ok (.istore 7, 2) := dk_54 (by decide +kernel)
theorem dX7_narrowPairs_51 : decode cX7_narrowPairs 51 = .ok (.aload_n 0, 1) := dk_42 (by decide +kernel)
theorem dX7_narrowPairs_52 : decode cX7_narrowPairs 52 = .ok (.getfield 36, 3) := dk_180 (by decide +kernel)
theorem dX7_narrowPairs_55 : decode cX7_narrowPairs 55 = .ok (.iload_n 2, 1) := dk_28 (by decide +kernel)
theorem dX7_narrowPairs_56 : decode cX7_narrowPairs 56 = .ok (.iaload, 1) := dk_46 (by decide +kernel)
theorem dX7_narrowPairs_57 : decode cX7_narrowPairs 57 = .ok (.iload 6, 2) := dk_21 (by decide +kernel)
theorem dX7_narrowPairs_59 : decode cX7_narrowPairs 59 = .ok (.ishr, 1) := dk_122 (by decide +kernel)
theorem dX7_narrowPairs_60 : decode cX7_narrowPairs 60 = .ok (.iconst 1, 1) := dk_4 (by decide +kernel)
theorem dX7_narrowPairs_61 : decode cX7_narrowPairs 61 = .ok (.iand, 1) := dk_126 (by decide +kernel)
theorem dX7_narrowPairs_62 : decode cX7_narrowPairs 62 = .ok (.ifCond .eq 24, 3) := dk_153 (by decide +kernel)
theorem dX7_narrowPairs_65 : decode cX7_narrowPairs 65 = .ok (.iload 7, 2) := dk_21 (by decide +kernel)
theorem dX7_narrowPairs_67 : decode cX7_narrowPairs 67 = .ok (.ifCond .eq 19, 3) := dk_153 (by decide +kernel)
theorem dX7_narrowPairs_70 : decode cX7_narrowPairs 70 = .ok (.iload 4, 2) := dk_21 (by decide +kernel)
theorem dX7_narrowPairs_72 : decode cX7_narrowPairs 72 = .ok (.iconst 1, 1) := dk_4 (by decide +kernel)
theorem dX7_narrowPairs_73 : decode cX7_narrowPairs 73 = .ok (.iload 6, 2) := dk_21 (by decide +kernel)
theorem dX7_narrowPairs_75 : decode cX7_narrowPairs 75 = .ok (.ishl, 1) := dk_120 (by decide +kernel)
theorem dX7_narrowPairs_76 : decode cX7_narrowPairs 76 = .ok (.ior, 1) := dk_128 (by decide +kernel)
theorem dX7_narrowPairs_77 : decode cX7_narrowPairs 77 = .ok (.istore 4, 2) := dk_54 (by decide +kernel)
theorem dX7_narrowPairs_79 : decode cX7_narrowPairs 79 = .ok (.iload 5, 2) := dk_21 (by decide +kernel)
theorem dX7_narrowPairs_81 : decode cX7_narrowPairs 81 = .ok (.iload 7, 2) := dk_21 (by decide +kernel)
theorem dX7_narrowPairs_83 : decode cX7_narrowPairs 83 = .ok (.ior, 1) := dk_128 (by decide +kernel)
theorem dX7_narrowPairs_84 : decode cX7_narrowPairs 84 = .ok (.istore 5, 2) := dk_54 (by decide +kernel)
theorem dX7_narrowPairs_86 : decode cX7_narrowPairs 86 = .ok (.iinc 6 1, 3) := dk_132 (by decide +kernel)
theorem dX7_narrowPairs_89 : decode cX7_narrowPairs 89 = .ok (.goto (-66), 3) := dk_167 (by decide +kernel)
theorem dX7_narrowPairs_92 : decode cX7_narrowPairs 92 = .ok (.aload_n 0, 1) := dk_42 (by decide +kernel)
theorem dX7_narrowPairs_93 : decode cX7_narrowPairs 93 = .ok (.iload_n 2, 1) := dk_28 (by decide +kernel)
theorem dX7_narrowPairs_94 : decode cX7_narrowPairs 94 = .ok (.iload 4, 2) := dk_21 (by decide +kernel)
theorem dX7_narrowPairs_96 : decode cX7_narrowPairs 96 = .ok (.invokevirtual 146, 3) := dk_182 (by decide +kernel)
theorem dX7_narrowPairs_99 : decode cX7_narrowPairs 99 = .ok (.aload_n 0, 1) := dk_42 (by decide +kernel)
theorem dX7_narrowPairs_100 : decode cX7_narrowPairs 100 = .ok (.iload_n 3, 1) := dk_29 (by decide +kernel)
theorem dX7_narrowPairs_101 : decode cX7_narrowPairs 101 = .ok (.iload 5, 2) := dk_21 (by decide +kernel)
theorem dX7_narrowPairs_103 : decode cX7_narrowPairs 103 = .ok (.invokevirtual 146, 3) := dk_182 (by decide +kernel)
theorem dX7_narrowPairs_106 : decode cX7_narrowPairs 106 = .ok (.return_, 1) := dk_177 (by decide +kernel)
def wsMX7_narrowPairs : List Cond := .code yX7_narrowPairs cX7_narrowPairs 8 none :: ([.fieldLink RX7 21 "OptimaWorks$ValueDesk" "a" "[I", .fieldLink RX7 24 "OptimaWorks$ValueDesk" "b" "[I", .fieldLink RX7 30 "OptimaWorks$ValueDesk" "rulePairs" "[I", .fieldLink RX7 36 "OptimaWorks$ValueDesk" "now" "[I"] ++ wsX70 ++ (wsV RX7 146 RX7 yX7_cutTo wsMX7_cutTo))
theorem iwsMX7_narrowPairs_in7 : ∀ w ∈ wsX70, w ∈ wsMX7_narrowPairs := fun _ h => List.mem_cons_of_mem _ (List.mem_append_left _ (List.mem_append_right _ h))
theorem gwsMX7_narrowPairs_0 : GoodIn wsMX7_narrowPairs (wsV RX7 146 RX7 yX7_cutTo wsMX7_cutTo) := goodIn_sub (fun _ h => List.mem_cons_of_mem _ (List.mem_append_right _ h)) (gdV (by decide +kernel) gdwsMX7_cutTo)
theorem gdwsMX7_narrowPairs : wsMX7_narrowPairs.all goodWord = true := gdC rfl (gdA (gdA (by decide +kernel : ([.fieldLink RX7 21 "OptimaWorks$ValueDesk" "a" "[I", .fieldLink RX7 24 "OptimaWorks$ValueDesk" "b" "[I", .fieldLink RX7 30 "OptimaWorks$ValueDesk" "rulePairs" "[I", .fieldLink RX7 36 "OptimaWorks$ValueDesk" "now" "[I"] : List Cond).all goodWord = true) gdwsX70) (gdV (by decide +kernel) gdwsMX7_cutTo))
theorem hm_m_X7_narrowPairs_0 : (.fieldLink RX7 36 "OptimaWorks$ValueDesk" "now" "[I" : Cond) ∈ wsMX7_narrowPairs := by decide +kernel
set_option maxHeartbeats 4000000 in
set_option maxRecDepth 100000 in
/-- pairs -/
theorem m_X7_narrowPairs (l : Launch) (dC : Nat → ClassId) (dI : Nat → Nat → Nat) (hV : Nat → Nat) (aV : Nat → Nat) (kV : Nat → ClassId) (iV_holders : Int32) (iV_rules : Int32) (fV_pairs : Nat → Int32) (fV_domain : Nat → Int32) (fV_kind : Nat → Int32) (fV_a : Nat → Int32) (fV_b : Nat → Int32) (fV_c : Nat → Int32) (fV_rulePairs : Nat → Int32) (fV_lastHolder : Nat → Int32) (fV_now : Nat → Int32) (iV_doneFor : Int32) (iV_changed : Int32) (gV_fore : Nat → Int64) (gV_back : Nat → Int64) (fV_together : Nat → Int32) (fV_member : Nat → Int32) (gV_list : Nat → Int64) (dV_list : Nat) (nV_list : Nat) (iV_listed : Int32) (iV_listDone : Int32) (p1 : Int32) (b_iV_holders : 0 ≤ iV_holders.toInt ∧ iV_holders.toInt ≤ 10) (b_iV_rules : 0 ≤ iV_rules.toInt ∧ iV_rules.toInt ≤ 12) (b_fV_kind : ∀ q : Nat, 0 ≤ (fV_kind q).toInt ∧ (fV_kind q).toInt ≤ 4) (b_iV_changed : 0 ≤ iV_changed.toInt ∧ iV_changed.toInt ≤ 1) (b_fV_member : ∀ q : Nat, (-1) ≤ (fV_member q).toInt ∧ (fV_member q).toInt ≤ 15) (b_nV_list : 0 ≤ nV_list ∧ nV_list ≤ 20000) (b_iV_listed : (-1) ≤ iV_listed.toInt ∧ iV_listed.toInt ≤ 5000) (b_iV_listDone : 0 ≤ iV_listDone.toInt ∧ iV_listDone.toInt ≤ 1) (b_RuV : RuV fV_kind fV_a fV_b fV_c fV_lastHolder) (b_lst : iV_listed.toInt ≤ ((nV_list : Nat) : Int)) (b_p1 : 0 ≤ p1.toInt ∧ p1.toInt ≤ 11) (hk4 : (fV_kind p1.toNatClampNeg).toInt = 4) (sz : Nat) : Met l yX7_narrowPairs wsMX7_narrowPairs ({ frames := 1, cells := 0, slots := 0, locals := 22 }) (va_Pc [.ref (hV 0), .int p1] (fun U => U.heap.size = sz ∧ va_P (dC, dI) vwCl (WV hV aV kV iV_holders iV_rules fV_pairs fV_domain fV_kind fV_a fV_b fV_c fV_rulePairs fV_lastHolder fV_now iV_doneFor iV_changed gV_fore gV_back fV_together fV_member gV_list dV_list nV_list iV_listed iV_listDone) U.heap ∧ va_K (dC, dI) vwCl (tV kV) U ∧ va_D (fun _ => True) (WV hV aV kV iV_holders iV_rules fV_pairs fV_domain fV_kind fV_a fV_b fV_c fV_rulePairs fV_lastHolder fV_now iV_doneFor iV_changed gV_fore gV_back fV_together fV_member gV_list dV_list nV_list iV_listed iV_listDone))) (va_Qv (fun (u : (Nat → Int32) × (Int32)) => (0 ≤ (u.2).toInt ∧ (u.2).toInt ≤ 1)) (fun (u : (Nat → Int32) × (Int32)) t => va_P (dC, dI) vwCl (WV hV aV kV iV_holders iV_rules fV_pairs fV_domain fV_kind fV_a fV_b fV_c fV_rulePairs fV_lastHolder (u.1) iV_doneFor (u.2) gV_fore gV_back fV_together fV_member gV_list dV_list nV_list iV_listed iV_listDone) t.heap ∧ va_D (va_A (WV hV aV kV iV_holders iV_rules fV_pairs fV_domain fV_kind fV_a fV_b fV_c fV_rulePairs fV_lastHolder fV_now iV_doneFor iV_changed gV_fore gV_back fV_together fV_member gV_list dV_list nV_list iV_listed iV_listDone) sz) (WV hV aV kV iV_holders iV_rules fV_pairs fV_domain fV_kind fV_a fV_b fV_c fV_rulePairs fV_lastHolder (u.1) iV_doneFor (u.2) gV_fore gV_back fV_together fV_member gV_list dV_list nV_list iV_listed iV_listDone)) (va_A (WV hV aV kV iV_holders iV_rules fV_pairs fV_domain fV_kind fV_a fV_b fV_c fV_rulePairs fV_lastHolder fV_now iV_doneFor iV_changed gV_fore gV_back fV_together fV_member gV_list dV_list nV_list iV_listed iV_listDone) sz)) 0 0 (va_A (WV hV aV kV iV_holders iV_rules fV_pairs fV_domain fV_kind fV_a fV_b fV_c fV_rulePairs fV_lastHolder fV_now iV_doneFor iV_changed gV_fore gV_back fV_together fV_member gV_list dV_list nV_list iV_listed iV_listDone) sz) := by
  refine Met.ofW (cc := cX7_narrowPairs) (maxL := 8) (ret := none) (by decide) rfl ?_
  intro p e s m args below meth c s₁ B hml hv
  obtain ⟨rfl, hsz, hP, hK, hD0⟩ := hv
  have hx := B.exec
  have hb := B.bytes
  have hr := B.returns
  have hts := atoms_spec (ws := wsMX7_narrowPairs) B.pre
  have hown : s.vm.findClass RX7 = some m.cls := findClass_of_methodNamed B.named
  have hlocks := B.notSynchronized
  subst hsz
  have hD := hD0.self (sz := s.heap.size)
  generalize hAe : va_A (WV hV aV kV iV_holders iV_rules fV_pairs fV_domain fV_kind fV_a fV_b fV_c fV_rulePairs fV_lastHolder fV_now iV_doneFor iV_changed gV_fore gV_back fV_together fV_member gV_list dV_list nV_list iV_listed iV_listDone) s.heap.size = A at hD ⊢
  have hA : ∀ q : Nat, s.heap.size ≤ q → A q := fun q h => by rw [← hAe]; exact Or.inr h
  have hS : va_S A s.heap s.heap [] := va_S.rf
  have hl := lv_entry ([.ref (hV 0), .int p1]) (n := 8) (Nat.le_of_ble_eq_true rfl)
  rw [lg_entry_eq]
  generalize (lg_sl ([.ref (hV 0), .int p1]) ++ List.replicate (8 - (lg_sl ([.ref (hV 0), .int p1])).length) Slot.unset).toArray = ls at hl ⊢
  have hl : lv_has ls 8 [(0, .ref (hV 0)), (1, .int p1)] := hl
  refine lv_aload_n hx hb dX7_narrowPairs_0 rfl (lv_at hl 0 rfl) ?_
  refine va_get (D := (dC, dI)) (ci := 7) (v := .ref (aV 3)) (C := RX7) (T := TX7) (N := 20) hx hb hts iwsMX7_narrowPairs_in7 hown hK hP 0 rfl rfl 5 (by decide) (hts (.fieldLink RX7 21 "OptimaWorks$ValueDesk" "a" "[I") (by decide +kernel)) (fun _ h9 => h9) rfl dX7_narrowPairs_1 ?_
  refine lv_iload_n hx hb dX7_narrowPairs_4 rfl (lv_at hl 1 rfl) ?_
  refine va_iald (cA := kV 3) (n := 12) (f := fV_a) hx hb hK hP 4 3 rfl rfl (vp_in_iff.mpr ⟨b_p1.1, (Int.lt_of_le_of_lt (b_p1.2) (by decide))⟩) dX7_narrowPairs_5 ?_
  refine lv_topi (fun v1 hv1 => ?_)
  have b_v1 : 0 ≤ v1.toInt ∧ v1.toInt ≤ 9 := by rw [hv1]; exact ((b_RuV _).2 hk4).1
  clear hv1
  refine lv_istore_n hx hb dX7_narrowPairs_6 rfl hl (by decide) rfl (fun ls (hl : lv_has ls _ ([(2, .int v1), (0, .ref (hV 0)), (1, .int p1)])) => ?_)
  refine lv_aload_n hx hb dX7_narrowPairs_7 rfl (lv_at hl 1 rfl) ?_
  refine va_get (D := (dC, dI)) (ci := 7) (v := .ref (aV 4)) (C := RX7) (T := TX7) (N := 20) hx hb hts iwsMX7_narrowPairs_in7 hown hK hP 0 rfl rfl 6 (by decide) (hts (.fieldLink RX7 24 "OptimaWorks$ValueDesk" "b" "[I") (by decide +kernel)) (fun _ h9 => h9) rfl dX7_narrowPairs_8 ?_
  refine lv_iload_n hx hb dX7_narrowPairs_11 rfl (lv_at hl 2 rfl) ?_
  refine va_iald (cA := kV 4) (n := 12) (f := fV_b) hx hb hK hP 5 4 rfl rfl (vp_in_iff.mpr ⟨b_p1.1, (Int.lt_of_le_of_lt (b_p1.2) (by decide))⟩) dX7_narrowPairs_12 ?_
  refine lv_topi (fun v2 hv2 => ?_)
  have b_v2 : 0 ≤ v2.toInt ∧ v2.toInt ≤ 9 := by rw [hv2]; exact ((b_RuV _).2 hk4).2.1
  clear hv2
  refine lv_istore_n hx hb dX7_narrowPairs_13 rfl hl (by decide) rfl (fun ls (hl : lv_has ls _ ([(3, .int v2), (2, .int v1), (0, .ref (hV 0)), (1, .int p1)])) => ?_)
  refine lv_iconst (v := 0) hx hb dX7_narrowPairs_14 (by decide) ?_
  refine lv_istore hx hb dX7_narrowPairs_15 hl (by decide) rfl (fun ls (hl : lv_has ls _ ([(4, .int 0), (3, .int v2), (2, .int v1), (0, .ref (hV 0)), (1, .int p1)])) => ?_)
  refine lv_iconst (v := 0) hx hb dX7_narrowPairs_17 (by decide) ?_
  refine lv_istore hx hb dX7_narrowPairs_18 hl (by decide) rfl (fun ls (hl : lv_has ls _ ([(5, .int 0), (4, .int 0), (3, .int v2), (2, .int v1), (0, .ref (hV 0)), (1, .int p1)])) => ?_)
  refine lv_iconst (v := 0) hx hb dX7_narrowPairs_20 (by decide) ?_
  refine lv_istore hx hb dX7_narrowPairs_21 hl (by decide) rfl (fun ls (hl : lv_has ls _ ([(6, .int 0), (5, .int 0), (4, .int 0), (3, .int v2), (2, .int v1), (0, .ref (hV 0)), (1, .int p1)])) => ?_)
  have hl : lv_has _ _ ([(6, .int 0), (5, .int 0), (4, .int 0), (3, .int v2), (2, .int v1), (0, .ref (hV 0)), (1, .int p1)]) := lv_sub hl [0, 1, 2, 3, 4, 5, 6] rfl
  refine (fun (loop : ∀ (n9 : Nat) (l6_x23 : Int32) (l5_x23 : Int32) (l4_x23 : Int32) (H : Heap) (locs : List Loc) (ls : Array Slot), (0 ≤ l6_x23.toInt ∧ l6_x23.toInt ≤ 16) → (16 - l6_x23.toInt < ((n9 : Nat) : Int)) → va_P (dC, dI) vwCl (WV hV aV kV iV_holders iV_rules fV_pairs fV_domain fV_kind fV_a fV_b fV_c fV_rulePairs fV_lastHolder fV_now iV_doneFor iV_changed gV_fore gV_back fV_together fV_member gV_list dV_list nV_list iV_listed iV_listDone) H → va_D A (WV hV aV kV iV_holders iV_rules fV_pairs fV_domain fV_kind fV_a fV_b fV_c fV_rulePairs fV_lastHolder fV_now iV_doneFor iV_changed gV_fore gV_back fV_together fV_member gV_list dV_list nV_list iV_listed iV_listDone) → va_S A s.heap H locs → lv_has ls 8 [(6, .int l6_x23), (5, .int l5_x23), (4, .int l4_x23), (3, .int v2), (2, .int v1), (0, .ref (hV 0)), (1, .int p1)] → W p l e _ s m _ below meth c H locs 0 0 _ (F0 m 23 ls [])) => loop (17) 0 0 0 _ _ _ (show 0 ≤ (0 : Int32).toInt ∧ (0 : Int32).toInt ≤ 16 from by decide) ((by have e9 : (0 : Int32).toInt = 0 := (by decide : (0 : Int32).toInt = 0); omega)) hP hD hS hl) ?_
  intro n9
  induction n9 with
  | zero => intro l6_x23 l5_x23 l4_x23 H locs ls b_l6_x23 hf9; exact False.elim (by omega)
  | succ n9 ihx23 =>
    intro l6_x23 l5_x23 l4_x23 H locs ls b_l6_x23 hfx23 hP hD hS hl
    refine lv_iload hx hb dX7_narrowPairs_23 (lv_at hl 0 rfl) ?_
    refine lv_bipush (v := 16) hx hb dX7_narrowPairs_25 (by decide) ?_
    refine lv_icmp_ge (tgt := 92) hx hb dX7_narrowPairs_27 (by decide) (fun c_27 => ?_) (fun c_27 => ?_)
    · have t_27 : l6_x23.toInt ≥ 16 := toI_ge c_27 rfl (by decide : (16 : Int32).toInt = 16)
      refine lv_aload_n hx hb dX7_narrowPairs_92 rfl (lv_at hl 5 rfl) ?_
      refine lv_iload_n hx hb dX7_narrowPairs_93 rfl (lv_at hl 4 rfl) ?_
      refine lv_iload hx hb dX7_narrowPairs_94 (lv_at hl 2 rfl) ?_
      have hFc := allFree hD hS hA
      refine va_callv (va_runV (As := [.int v1, .int l4_x23]) (rest := []) ⟨hx, hb, hml, hown, hts⟩ (m_X7_cutTo l dC dI hV aV kV iV_holders iV_rules fV_pairs fV_domain fV_kind fV_a fV_b fV_c fV_rulePairs fV_lastHolder fV_now iV_doneFor iV_changed gV_fore gV_back fV_together fV_member gV_list dV_list nV_list iV_listed iV_listDone v1 l4_x23 (b_iV_holders) (b_iV_rules) b_fV_kind (b_iV_changed) b_fV_member (by first | exact b_nV_list | with_reducible assumption | exact ⟨by omega, by omega⟩ | assumption) (b_iV_listed) (b_iV_listDone) (by first | with_reducible assumption | omega | assumption) (by first | with_reducible assumption | omega | assumption) (b_v1) H.size) (cwV 2 hts gwsMX7_narrowPairs_0 rfl rfl rfl hd_yX7_cutTo_RX7 (by decide +kernel)) (fz_pre (va_recv hK hP (ci := 7) (q0 := 0) rfl rfl) hP hK hD) rfl rfl hl.1 rfl (lv_room (Nat.le_of_ble_eq_true rfl)) dX7_narrowPairs_96 (by decide +kernel)) hS (fun q _ h => hFc q h) hFc (fun u t9_ H locs ht hvm hw9 hB9 hz1 hk1 hS => ?_)
      revert u hw9 hB9
      refine fz_p2 ?_
      intro fV_now_61 iV_changed_61 hw9 hB9
      try dsimp only at hw9 hB9
      have b_iV_changed_61 := hw9
      try dsimp only at b_iV_changed_61
      have hP : va_P (dC, dI) vwCl (WV hV aV kV iV_holders iV_rules fV_pairs fV_domain fV_kind fV_a fV_b fV_c fV_rulePairs fV_lastHolder fV_now_61 iV_doneFor iV_changed_61 gV_fore gV_back fV_together fV_member gV_list dV_list nV_list iV_listed iV_listDone) H := fz_P ht hB9.1
      have hD := fz_sd hP (hB9.2.weaken (fun _ q _ h => hFc q.1 h)) rfl
      refine lv_aload_n hx hb dX7_narrowPairs_99 rfl (lv_at hl 5 rfl) ?_
      refine lv_iload_n hx hb dX7_narrowPairs_100 rfl (lv_at hl 3 rfl) ?_
      refine lv_iload hx hb dX7_narrowPairs_101 (lv_at hl 1 rfl) ?_
      have hFc := allFree hD hS hA
      refine va_callv (va_runV (As := [.int v2, .int l5_x23]) (rest := []) ⟨hx, hb, hml, hown, hts⟩ (m_X7_cutTo l dC dI hV aV kV iV_holders iV_rules fV_pairs fV_domain fV_kind fV_a fV_b fV_c fV_rulePairs fV_lastHolder fV_now_61 iV_doneFor iV_changed_61 gV_fore gV_back fV_together fV_member gV_list dV_list nV_list iV_listed iV_listDone v2 l5_x23 (b_iV_holders) (b_iV_rules) b_fV_kind (by first | exact b_iV_changed_61 | with_reducible assumption | exact ⟨by omega, by omega⟩ | assumption) b_fV_member (by first | exact b_nV_list | with_reducible assumption | exact ⟨by omega, by omega⟩ | assumption) (b_iV_listed) (b_iV_listDone) (by first | with_reducible assumption | omega | assumption) (by first | with_reducible assumption | omega | assumption) (b_v2) H.size) (cwV 2 hts gwsMX7_narrowPairs_0 rfl rfl rfl hd_yX7_cutTo_RX7 (by decide +kernel)) (fz_pre (va_recv hK hP (ci := 7) (q0 := 0) rfl rfl) hP hK hD) rfl rfl hl.1 rfl (lv_room (Nat.le_of_ble_eq_true rfl)) dX7_narrowPairs_103 (by decide +kernel)) hS (fun q _ h => hFc q h) hFc (fun u t9_ H locs ht hvm hw9 hB9 hz1 hk1 hS => ?_)
      revert u hw9 hB9
      refine fz_p2 ?_
      intro fV_now_62 iV_changed_62 hw9 hB9
      try dsimp only at hw9 hB9
      have b_iV_changed_62 := hw9
      try dsimp only at b_iV_changed_62
      have hP : va_P (dC, dI) vwCl (WV hV aV kV iV_holders iV_rules fV_pairs fV_domain fV_kind fV_a fV_b fV_c fV_rulePairs fV_lastHolder fV_now_62 iV_doneFor iV_changed_62 gV_fore gV_back fV_together fV_member gV_list dV_list nV_list iV_listed iV_listDone) H := fz_P ht hB9.1
      have hD := fz_sd hP (hB9.2.weaken (fun _ q _ h => hFc q.1 h)) rfl
      refine W.widen (k := 0) (n := 0) (by decide +kernel) (by decide +kernel) ?_
      exact W.vret hx hb hr (fun t9_ ht hW => ⟨⟨(fV_now_62, iV_changed_62), rfl, (by (try dsimp only); exact (by first | exact b_iV_changed_62 | with_reducible assumption | exact ⟨by omega, by omega⟩ | assumption)), by rw [ht]; exact hP, hD⟩, hS.F ht⟩) hS.2.2 dX7_narrowPairs_106
    · have t_27 : ¬ l6_x23.toInt ≥ 16 := toI_nge c_27 rfl (by decide : (16 : Int32).toInt = 16)
      refine lv_aload_n hx hb dX7_narrowPairs_30 rfl (lv_at hl 5 rfl) ?_
      refine va_get (D := (dC, dI)) (ci := 7) (v := .ref (aV 6)) (C := RX7) (T := TX7) (N := 20) hx hb hts iwsMX7_narrowPairs_in7 hown hK hP 0 rfl rfl 8 (by decide) (hts (.fieldLink RX7 30 "OptimaWorks$ValueDesk" "rulePairs" "[I") (by decide +kernel)) (fun _ h9 => h9) rfl dX7_narrowPairs_31 ?_
      refine lv_iload_n hx hb dX7_narrowPairs_34 rfl (lv_at hl 6 rfl) ?_
      refine lv_bipush (v := 16) hx hb dX7_narrowPairs_35 (by decide) ?_
      refine lv_imul hx hb dX7_narrowPairs_37 ?_
      refine lv_topi (fun y63 hy63 => ?_)
      obtain rfl : (iI (p1.toInt * 16)) = y63 := (hy63.trans (iI_mul2 (iI_of _) (by decide : (16 : Int32) = iI 16))).symm
      refine lv_iload hx hb dX7_narrowPairs_38 (lv_at hl 0 rfl) ?_
      refine lv_iadd hx hb dX7_narrowPairs_40 ?_
      refine lv_topi (fun y64 hy64 => ?_)
      obtain rfl : (iI ((p1.toInt * 16) + l6_x23.toInt)) = y64 := (hy64.trans (iI_add2 rfl (iI_of _))).symm
      refine va_iald (cA := kV 6) (n := 192) (f := fV_rulePairs) hx hb hK hP 7 6 rfl rfl (vp_iI (Int.le_trans (by decide) (Int.add_le_add (Int.mul_le_mul_of_nonneg_right (b_p1.1) (by decide)) (b_l6_x23.1))) (by omega) (by decide)) dX7_narrowPairs_41 ?_
      refine lv_topi (fun v65 hv65 => ?_)
      clear hv65
      refine lv_aload_n hx hb dX7_narrowPairs_42 rfl (lv_at hl 5 rfl) ?_
      refine va_get (D := (dC, dI)) (ci := 7) (v := .ref (aV 8)) (C := RX7) (T := TX7) (N := 20) hx hb hts iwsMX7_narrowPairs_in7 hown hK hP 0 rfl rfl 10 (by decide) (hts _ hm_m_X7_narrowPairs_0) (fun _ h9 => h9) rfl dX7_narrowPairs_43 ?_
      refine lv_iload_n hx hb dX7_narrowPairs_46 rfl (lv_at hl 3 rfl) ?_
      refine va_iald (cA := kV 8) (n := 10) (f := fV_now) hx hb hK hP 9 8 rfl rfl (vp_in_iff.mpr ⟨b_v2.1, (Int.lt_of_le_of_lt (b_v2.2) (by decide))⟩) dX7_narrowPairs_47 ?_
      refine lv_topi (fun v66 hv66 => ?_)
      clear hv66
      refine lv_iand hx hb dX7_narrowPairs_48 ?_
      refine lv_topi (fun v67 hv67 => ?_)
      clear hv67
      refine lv_istore hx hb dX7_narrowPairs_49 hl (by decide) rfl (fun ls (hl : lv_has ls _ ([(7, .int v67), (6, .int l6_x23), (5, .int l5_x23), (4, .int l4_x23), (3, .int v2), (2, .int v1), (0, .ref (hV 0)), (1, .int p1)])) => ?_)
      refine lv_aload_n hx hb dX7_narrowPairs_51 rfl (lv_at hl 6 rfl) ?_
      refine va_get (D := (dC, dI)) (ci := 7) (v := .ref (aV 8)) (C := RX7) (T := TX7) (N := 20) hx hb hts iwsMX7_narrowPairs_in7 hown hK hP 0 rfl rfl 10 (by decide) (hts _ hm_m_X7_narrowPairs_0) (fun _ h9 => h9) rfl dX7_narrowPairs_52 ?_
      refine lv_iload_n hx hb dX7_narrowPairs_55 rfl (lv_at hl 5 rfl) ?_
      refine va_iald (cA := kV 8) (n := 10) (f := fV_now) hx hb hK hP 9 8 rfl rfl (vp_in_iff.mpr ⟨b_v1.1, (Int.lt_of_le_of_lt (b_v1.2) (by decide))⟩) dX7_narrowPairs_56 ?_
      refine lv_topi (fun v68 hv68 => ?_)
      clear hv68
      refine lv_iload hx hb dX7_narrowPairs_57 (lv_at hl 1 rfl) ?_
      refine lv_ishr hx hb dX7_narrowPairs_59 ?_
      refine lv_topi (fun v69 hv69 => ?_)
      clear hv69
      refine lv_iconst (v := 1) hx hb dX7_narrowPairs_60 (by decide) ?_
      refine lv_iand hx hb dX7_narrowPairs_61 ?_
      refine lv_topi (fun v70 hv70 => ?_)
      have b_v70 : 0 ≤ v70.toInt ∧ v70.toInt ≤ 1 := by rw [hv70]; exact and_rng _ (by decide) (by decide)
      clear hv70
      refine W.cut (pc := 86) (fun H locs ls stk => ∃ (l5_j10 : Int32) (l4_j10 : Int32),  stk = [] ∧ va_P (dC, dI) vwCl (WV hV aV kV iV_holders iV_rules fV_pairs fV_domain fV_kind fV_a fV_b fV_c fV_rulePairs fV_lastHolder fV_now iV_doneFor iV_changed gV_fore gV_back fV_together fV_member gV_list dV_list nV_list iV_listed iV_listDone) H ∧ va_D A (WV hV aV kV iV_holders iV_rules fV_pairs fV_domain fV_kind fV_a fV_b fV_c fV_rulePairs fV_lastHolder fV_now iV_doneFor iV_changed gV_fore gV_back fV_together fV_member gV_list dV_list nV_list iV_listed iV_listDone) ∧ va_S A s.heap H locs ∧ lv_has ls 8 [(7, .int v67), (6, .int l6_x23), (5, .int l5_j10), (4, .int l4_j10), (3, .int v2), (2, .int v1), (0, .ref (hV 0)), (1, .int p1)]) (fun join10 => ?_) ?_
      · refine lv_if_eq (tgt := 86) hx hb dX7_narrowPairs_62 (by decide) (fun c_62 => ?_) (fun c_62 => ?_)
        · have t_62 : v70.toInt = 0 := toI_eq c_62 rfl (by decide : (0 : Int32).toInt = 0)
          have hl : lv_has _ _ ([(7, .int v67), (6, .int l6_x23), (5, .int l5_x23), (4, .int l4_x23), (3, .int v2), (2, .int v1), (0, .ref (hV 0)), (1, .int p1)]) := lv_sub hl [0, 1, 2, 3, 4, 5, 6, 7] rfl
          exact join10 _ _ _ _ ⟨l5_x23, l4_x23, rfl, hP, hD, hS, hl⟩
        · have t_62 : ¬ v70.toInt = 0 := toI_neq c_62 rfl (by decide : (0 : Int32).toInt = 0)
          refine lv_iload hx hb dX7_narrowPairs_65 (lv_at hl 0 rfl) ?_
          refine lv_if_eq (tgt := 86) hx hb dX7_narrowPairs_67 (by decide) (fun c_67 => ?_) (fun c_67 => ?_)
          · have t_67 : v67.toInt = 0 := toI_eq c_67 rfl (by decide : (0 : Int32).toInt = 0)
            have hl : lv_has _ _ ([(7, .int v67), (6, .int l6_x23), (5, .int l5_x23), (4, .int l4_x23), (3, .int v2), (2, .int v1), (0, .ref (hV 0)), (1, .int p1)]) := lv_sub hl [0, 1, 2, 3, 4, 5, 6, 7] rfl
            exact join10 _ _ _ _ ⟨l5_x23, l4_x23, rfl, hP, hD, hS, hl⟩
          · have t_67 : ¬ v67.toInt = 0 := toI_neq c_67 rfl (by decide : (0 : Int32).toInt = 0)
            refine lv_iload hx hb dX7_narrowPairs_70 (lv_at hl 3 rfl) ?_
            refine lv_iconst (v := 1) hx hb dX7_narrowPairs_72 (by decide) ?_
            refine lv_iload hx hb dX7_narrowPairs_73 (lv_at hl 1 rfl) ?_
            refine lv_ishl hx hb dX7_narrowPairs_75 ?_
            refine lv_topi (fun v74 hv74 => ?_)
            clear hv74
            refine lv_ior hx hb dX7_narrowPairs_76 ?_
            refine lv_topi (fun v75 hv75 => ?_)
            clear hv75
            refine lv_istore hx hb dX7_narrowPairs_77 hl (by decide) rfl (fun ls (hl : lv_has ls _ ([(4, .int v75), (7, .int v67), (6, .int l6_x23), (5, .int l5_x23), (3, .int v2), (2, .int v1), (0, .ref (hV 0)), (1, .int p1)])) => ?_)
            refine lv_iload hx hb dX7_narrowPairs_79 (lv_at hl 3 rfl) ?_
            refine lv_iload hx hb dX7_narrowPairs_81 (lv_at hl 1 rfl) ?_
            refine lv_ior hx hb dX7_narrowPairs_83 ?_
            refine lv_topi (fun v76 hv76 => ?_)
            clear hv76
            refine lv_istore hx hb dX7_narrowPairs_84 hl (by decide) rfl (fun ls (hl : lv_has ls _ ([(5, .int v76), (4, .int v75), (7, .int v67), (6, .int l6_x23), (3, .int v2), (2, .int v1), (0, .ref (hV 0)), (1, .int p1)])) => ?_)
            have hl : lv_has _ _ ([(7, .int v67), (6, .int l6_x23), (5, .int v76), (4, .int v75), (3, .int v2), (2, .int v1), (0, .ref (hV 0)), (1, .int p1)]) := lv_sub hl [2, 3, 0, 1, 4, 5, 6, 7] rfl
            exact join10 _ _ _ _ ⟨v76, v75, rfl, hP, hD, hS, hl⟩
      · rintro H locs ls stk ⟨l5_j10, l4_j10, rfl, hP, hD, hS, hl⟩
        refine lv_iinc (v := (iI (l6_x23.toInt + 1))) hx hb dX7_narrowPairs_86 hl (k := 1) rfl (iI_add2 (iI_of _) (by decide : (1 : Int32) = iI 1)) (by decide) rfl (fun ls (hl : lv_has ls _ ([(6, .int (iI (l6_x23.toInt + 1))), (7, .int v67), (5, .int l5_j10), (4, .int l4_j10), (3, .int v2), (2, .int v1), (0, .ref (hV 0)), (1, .int p1)])) => ?_)
        refine lv_goto (tgt := 23) hx hb dX7_narrowPairs_89 (by decide) ?_
        have hl : lv_has _ _ ([(6, .int (iI (l6_x23.toInt + 1))), (5, .int l5_j10), (4, .int l4_j10), (3, .int v2), (2, .int v1), (0, .ref (hV 0)), (1, .int p1)]) := lv_sub hl [0, 2, 3, 4, 5, 6, 7] rfl
        exact ihx23 (iI (l6_x23.toInt + 1)) l5_j10 l4_j10 _ _ _ (iI_rng (Int.le_trans (by decide) (Int.add_le_add (b_l6_x23.1) (Int.le_refl _))) (by omega) (by decide) (by decide)) (by have e9 : ((iI (l6_x23.toInt + 1))).toInt = (l6_x23.toInt + 1) := (iI_t (Int.le_trans (by decide) (Int.add_le_add (b_l6_x23.1) (Int.le_refl _))) (Int.le_trans (Int.add_le_add (b_l6_x23.2) (Int.le_refl _)) (by decide))); omega) hP hD hS hl
theorem dX7_narrowBy_0 : decode cX7_narrowBy 0 = .ok (.aload_n 0, 1) := dk_42 (by decide +kernel)
theorem dX7_narrowBy_1 : decode cX7_narrowBy 1 = .ok (.getfield 18, 3) := dk_180 (by decide +kernel)
theorem dX7_narrowBy_4 : decode cX7_narrowBy 4 = .ok (.iload_n 1, 1) := dk_27 (by decide +kernel)
theorem dX7_narrowBy_5 : decode cX7_narrowBy 5 = .ok (.iaload, 1) := dk_46 (by decide +kernel)
theorem dX7_narrowBy_6 : decode cX7_narrowBy 6 = .ok (.tableswitch 84 0 3 #[30, 43, 68, 76], 30) := by decide +kernel
theorem dX7_narrowBy_36 : decode cX7_narrowBy 36 = .ok (.aload_n 0, 1) := dk_42 (by decide +kernel)
theorem dX7_narrowBy_37 : decode cX7_narrowBy 37 = .ok (.aload_n 0, 1) := dk_42 (by decide +kernel)
theorem dX7_narrowBy_38 : decode cX7_narrowBy 38 = .ok (.getfield 21, 3) := dk_180 (by decide +kernel)
theorem dX7_narrowBy_41 : decode cX7_narrowBy 41 = .ok (.iload_n 1, 1) := dk_27 (by decide +kernel)
theorem dX7_narrowBy_42 : decode cX7_narrowBy 42 = .ok (.iaload, 1) := dk_46 (by decide +kernel)
theorem dX7_narrowBy_43 : decode cX7_narrowBy 43 = .ok (.invokevirtual 122, 3) := dk_182 (by decide +kernel)
theorem dX7_narrowBy_46 : decode cX7_narrowBy 46 = .ok (.goto 49, 3) := dk_167 (by decide +kernel)
theorem dX7_narrowBy_49 : decode cX7_narrowBy 49 = .ok (.aload_n 0, 1) := dk_42 (by decide +kernel)
theorem dX7_narrowBy_50 : decode cX7_narrowBy 50 = .ok (.aload_n 0, 1) := dk_42 (by decide +kernel)
theorem dX7_narrowBy_51 : decode cX7_narrowBy 51 = .ok (.getfield 21, 3) := dk_180 (by decide +kernel)
theorem dX7_narrowBy_54 : decode cX7_narrowBy 54 = .ok (.iload_n 1, 1) := dk_27 (by decide +kernel)
theorem dX7_narrowBy_55 : decode cX7_narrowBy 55 = .ok (.iaload, 1) := dk_46 (by decide +kernel)
theorem dX7_narrowBy_56 : decode cX7_narrowBy 56 = .ok (.aload_n 0, 1) := dk_42 (by decide +kernel)
theorem dX7_narrowBy_57 : decode cX7_narrowBy 57 = .ok (.getfield 24, 3) := dk_180 (by decide +kernel)
theorem dX7_narrowBy_60 : decode cX7_narrowBy 60 = .ok (.iload_n 1, 1) := dk_27 (by decide +kernel)
theorem dX7_narrowBy_61 : decode cX7_narrowBy 61 = .ok (.iaload, 1) := dk_46 (by decide +kernel)
theorem dX7_narrowBy_62 : decode cX7_narrowBy 62 = .ok (.aload_n 0, 1) := dk_42 (by decide +kernel)
theorem dX7_narrowBy_63 : decode cX7_narrowBy 63 = .ok (.getfield 27, 3) := dk_180 (by decide +kernel)
theorem dX7_narrowBy_66 : decode cX7_narrowBy 66 = .ok (.iload_n 1, 1) := dk_27 (by decide +kernel)
theorem dX7_narrowBy_67 : decode cX7_narrowBy 67 = .ok (.iaload, 1) := dk_46 (by decide +kernel)
theorem dX7_narrowBy_68 : decode cX7_narrowBy 68 = .ok (.invokevirtual 125, 3) := dk_182 (by decide +kernel)
theorem dX7_narrowBy_71 : decode cX7_narrowBy 71 = .ok (.goto 24, 3) := dk_167 (by decide +kernel)
theorem dX7_narrowBy_74 : decode cX7_narrowBy 74 = .ok (.aload_n 0, 1) := dk_42 (by decide +kernel)
theorem dX7_narrowBy_75 : decode cX7_narrowBy 75 = .ok (.iload_n 1, 1) := dk_27 (by decide +kernel)
theorem dX7_narrowBy_76 : decode cX7_narrowBy 76 = .ok (.invokevirtual 129, 3) := dk_182 (by decide +kernel)
theorem dX7_narrowBy_79 : decode cX7_narrowBy 79 = .ok (.goto 16, 3) := dk_167 (by decide +kernel)
theorem dX7_narrowBy_82 : decode cX7_narrowBy 82 = .ok (.aload_n 0, 1) := dk_42 (by decide +kernel)
theorem dX7_narrowBy_83 : decode cX7_narrowBy 83 = .ok (.iload_n 1, 1) := dk_27 (by decide +kernel)
theorem dX7_narrowBy_84 : decode cX7_narrowBy 84 = .ok (.invokevirtual 132, 3) := dk_182 (by decide +kernel)
theorem dX7_narrowBy_87 : decode cX7_narrowBy 87 = .ok (.goto 8, 3) := dk_167 (by decide +kernel)
theorem dX7_narrowBy_90 : decode cX7_narrowBy 90 = .ok (.aload_n 0, 1) := dk_42 (by decide +kernel)
theorem dX7_narrowBy_91 : decode cX7_narrowBy 91 = .ok (.iload_n 1, 1) := dk_27 (by decide +kernel)
theorem dX7_narrowBy_92 : decode cX7_narrowBy 92 = .ok (.invokevirtual 135, 3) := dk_182 (by decide +kernel)
theorem dX7_narrowBy_95 : decode cX7_narrowBy 95 = .ok (.return_, 1) := dk_177 (by decide +kernel)
def wsMX7_narrowBy : List Cond := .code yX7_narrowBy cX7_narrowBy 2 none :: ([.fieldLink RX7 18 "OptimaWorks$ValueDesk" "kind" "[I", .fieldLink RX7 21 "OptimaWorks$ValueDesk" "a" "[I", .fieldLink RX7 24 "OptimaWorks$ValueDesk" "b" "[I", .fieldLink RX7 27 "OptimaWorks$ValueDesk" "c" "[I"] ++ wsX70 ++ (wsV RX7 122 RX7 yX7_narrowDifferent wsMX7_narrowDifferent) ++ (wsV RX7 125 RX7 yX7_narrowOrder wsMX7_narrowOrder) ++ (wsV RX7 129 RX7 yX7_narrowSum wsMX7_narrowSum) ++ (wsV RX7 132 RX7 yX7_narrowMost wsMX7_narrowMost) ++ (wsV RX7 135 RX7 yX7_narrowPairs wsMX7_narrowPairs))
theorem iwsMX7_narrowBy_in7 : ∀ w ∈ wsX70, w ∈ wsMX7_narrowBy := fun _ h => List.mem_cons_of_mem _ (List.mem_append_left _ (List.mem_append_left _ (List.mem_append_left _ (List.mem_append_left _ (List.mem_append_left _ (List.mem_append_right _ h))))))
theorem gwsMX7_narrowBy_0 : GoodIn wsMX7_narrowBy (wsV RX7 122 RX7 yX7_narrowDifferent wsMX7_narrowDifferent) := goodIn_sub (fun _ h => List.mem_cons_of_mem _ (List.mem_append_left _ (List.mem_append_left _ (List.mem_append_left _ (List.mem_append_left _ (List.mem_append_right _ h)))))) (gdV (by decide +kernel) gdwsMX7_narrowDifferent)
theorem gwsMX7_narrowBy_1 : GoodIn wsMX7_narrowBy (wsV RX7 125 RX7 yX7_narrowOrder wsMX7_narrowOrder) := goodIn_sub (fun _ h => List.mem_cons_of_mem _ (List.mem_append_left _ (List.mem_append_left _ (List.mem_append_left _ (List.mem_append_right _ h))))) (gdV (by decide +kernel) gdwsMX7_narrowOrder)
theorem gwsMX7_narrowBy_2 : GoodIn wsMX7_narrowBy (wsV RX7 129 RX7 yX7_narrowSum wsMX7_narrowSum) := goodIn_sub (fun _ h => List.mem_cons_of_mem _ (List.mem_append_left _ (List.mem_append_left _ (List.mem_append_right _ h)))) (gdV (by decide +kernel) gdwsMX7_narrowSum)
theorem gwsMX7_narrowBy_3 : GoodIn wsMX7_narrowBy (wsV RX7 132 RX7 yX7_narrowMost wsMX7_narrowMost) := goodIn_sub (fun _ h => List.mem_cons_of_mem _ (List.mem_append_left _ (List.mem_append_right _ h))) (gdV (by decide +kernel) gdwsMX7_narrowMost)
theorem gwsMX7_narrowBy_4 : GoodIn wsMX7_narrowBy (wsV RX7 135 RX7 yX7_narrowPairs wsMX7_narrowPairs) := goodIn_sub (fun _ h => List.mem_cons_of_mem _ (List.mem_append_right _ h)) (gdV (by decide +kernel) gdwsMX7_narrowPairs)
theorem gdwsMX7_narrowBy : wsMX7_narrowBy.all goodWord = true := gdC rfl (gdA (gdA (gdA (gdA (gdA (gdA (by decide +kernel : ([.fieldLink RX7 18 "OptimaWorks$ValueDesk" "kind" "[I", .fieldLink RX7 21 "OptimaWorks$ValueDesk" "a" "[I", .fieldLink RX7 24 "OptimaWorks$ValueDesk" "b" "[I", .fieldLink RX7 27 "OptimaWorks$ValueDesk" "c" "[I"] : List Cond).all goodWord = true) gdwsX70) (gdV (by decide +kernel) gdwsMX7_narrowDifferent)) (gdV (by decide +kernel) gdwsMX7_narrowOrder)) (gdV (by decide +kernel) gdwsMX7_narrowSum)) (gdV (by decide +kernel) gdwsMX7_narrowMost)) (gdV (by decide +kernel) gdwsMX7_narrowPairs))
theorem hm_m_X7_narrowBy_0 : (.fieldLink RX7 21 "OptimaWorks$ValueDesk" "a" "[I" : Cond) ∈ wsMX7_narrowBy := by decide +kernel
set_option maxHeartbeats 4000000 in
set_option maxRecDepth 100000 in
/-- by a rule -/
theorem m_X7_narrowBy (l : Launch) (dC : Nat → ClassId) (dI : Nat → Nat → Nat) (hV : Nat → Nat) (aV : Nat → Nat) (kV : Nat → ClassId) (iV_holders : Int32) (iV_rules : Int32) (fV_pairs : Nat → Int32) (fV_domain : Nat → Int32) (fV_kind : Nat → Int32) (fV_a : Nat → Int32) (fV_b : Nat → Int32) (fV_c : Nat → Int32) (fV_rulePairs : Nat → Int32) (fV_lastHolder : Nat → Int32) (fV_now : Nat → Int32) (iV_doneFor : Int32) (iV_changed : Int32) (gV_fore : Nat → Int64) (gV_back : Nat → Int64) (fV_together : Nat → Int32) (fV_member : Nat → Int32) (gV_list : Nat → Int64) (dV_list : Nat) (nV_list : Nat) (iV_listed : Int32) (iV_listDone : Int32) (p1 : Int32) (b_iV_holders : 0 ≤ iV_holders.toInt ∧ iV_holders.toInt ≤ 10) (b_iV_rules : 0 ≤ iV_rules.toInt ∧ iV_rules.toInt ≤ 12) (b_fV_kind : ∀ q : Nat, 0 ≤ (fV_kind q).toInt ∧ (fV_kind q).toInt ≤ 4) (b_iV_changed : 0 ≤ iV_changed.toInt ∧ iV_changed.toInt ≤ 1) (b_fV_member : ∀ q : Nat, (-1) ≤ (fV_member q).toInt ∧ (fV_member q).toInt ≤ 15) (b_nV_list : 0 ≤ nV_list ∧ nV_list ≤ 20000) (b_iV_listed : (-1) ≤ iV_listed.toInt ∧ iV_listed.toInt ≤ 5000) (b_iV_listDone : 0 ≤ iV_listDone.toInt ∧ iV_listDone.toInt ≤ 1) (b_RuV : RuV fV_kind fV_a fV_b fV_c fV_lastHolder) (b_lst : iV_listed.toInt ≤ ((nV_list : Nat) : Int)) (b_p1 : 0 ≤ p1.toInt ∧ p1.toInt ≤ 11) (sz : Nat) : Met l yX7_narrowBy wsMX7_narrowBy ({ frames := 2, cells := 0, slots := 0, locals := 55 }) (va_Pc [.ref (hV 0), .int p1] (fun U => U.heap.size = sz ∧ va_P (dC, dI) vwCl (WV hV aV kV iV_holders iV_rules fV_pairs fV_domain fV_kind fV_a fV_b fV_c fV_rulePairs fV_lastHolder fV_now iV_doneFor iV_changed gV_fore gV_back fV_together fV_member gV_list dV_list nV_list iV_listed iV_listDone) U.heap ∧ va_K (dC, dI) vwCl (tV kV) U ∧ va_D (fun _ => True) (WV hV aV kV iV_holders iV_rules fV_pairs fV_domain fV_kind fV_a fV_b fV_c fV_rulePairs fV_lastHolder fV_now iV_doneFor iV_changed gV_fore gV_back fV_together fV_member gV_list dV_list nV_list iV_listed iV_listDone))) (va_Qv (fun (u : (Nat → Int32) × (Int32) × (Nat → Int64) × (Nat → Int64) × (Nat → Int32) × (Nat → Int32)) => (0 ≤ (u.2.1).toInt ∧ (u.2.1).toInt ≤ 1) ∧ (∀ q : Nat, (-1) ≤ ((u.2.2.2.2.2) q).toInt ∧ ((u.2.2.2.2.2) q).toInt ≤ 15)) (fun (u : (Nat → Int32) × (Int32) × (Nat → Int64) × (Nat → Int64) × (Nat → Int32) × (Nat → Int32)) t => va_P (dC, dI) vwCl (WV hV aV kV iV_holders iV_rules fV_pairs fV_domain fV_kind fV_a fV_b fV_c fV_rulePairs fV_lastHolder (u.1) iV_doneFor (u.2.1) (u.2.2.1) (u.2.2.2.1) (u.2.2.2.2.1) (u.2.2.2.2.2) gV_list dV_list nV_list iV_listed iV_listDone) t.heap ∧ va_D (va_A (WV hV aV kV iV_holders iV_rules fV_pairs fV_domain fV_kind fV_a fV_b fV_c fV_rulePairs fV_lastHolder fV_now iV_doneFor iV_changed gV_fore gV_back fV_together fV_member gV_list dV_list nV_list iV_listed iV_listDone) sz) (WV hV aV kV iV_holders iV_rules fV_pairs fV_domain fV_kind fV_a fV_b fV_c fV_rulePairs fV_lastHolder (u.1) iV_doneFor (u.2.1) (u.2.2.1) (u.2.2.2.1) (u.2.2.2.2.1) (u.2.2.2.2.2) gV_list dV_list nV_list iV_listed iV_listDone)) (va_A (WV hV aV kV iV_holders iV_rules fV_pairs fV_domain fV_kind fV_a fV_b fV_c fV_rulePairs fV_lastHolder fV_now iV_doneFor iV_changed gV_fore gV_back fV_together fV_member gV_list dV_list nV_list iV_listed iV_listDone) sz)) 0 0 (va_A (WV hV aV kV iV_holders iV_rules fV_pairs fV_domain fV_kind fV_a fV_b fV_c fV_rulePairs fV_lastHolder fV_now iV_doneFor iV_changed gV_fore gV_back fV_together fV_member gV_list dV_list nV_list iV_listed iV_listDone) sz) := by
  refine Met.ofW (cc := cX7_narrowBy) (maxL := 2) (ret := none) (by decide) rfl ?_
  intro p e s m args below meth c s₁ B hml hv
  obtain ⟨rfl, hsz, hP, hK, hD0⟩ := hv
  have hx := B.exec
  have hb := B.bytes
  have hr := B.returns
  have hts := atoms_spec (ws := wsMX7_narrowBy) B.pre
  have hown : s.vm.findClass RX7 = some m.cls := findClass_of_methodNamed B.named
  have hlocks := B.notSynchronized
  subst hsz
  have hD := hD0.self (sz := s.heap.size)
  generalize hAe : va_A (WV hV aV kV iV_holders iV_rules fV_pairs fV_domain fV_kind fV_a fV_b fV_c fV_rulePairs fV_lastHolder fV_now iV_doneFor iV_changed gV_fore gV_back fV_together fV_member gV_list dV_list nV_list iV_listed iV_listDone) s.heap.size = A at hD ⊢
  have hA : ∀ q : Nat, s.heap.size ≤ q → A q := fun q h => by rw [← hAe]; exact Or.inr h
  have hS : va_S A s.heap s.heap [] := va_S.rf
  have hl := lv_entry ([.ref (hV 0), .int p1]) (n := 2) (Nat.le_of_ble_eq_true rfl)
  rw [lg_entry_eq]
  generalize (lg_sl ([.ref (hV 0), .int p1]) ++ List.replicate (2 - (lg_sl ([.ref (hV 0), .int p1])).length) Slot.unset).toArray = ls at hl ⊢
  have hl : lv_has ls 2 [(0, .ref (hV 0)), (1, .int p1)] := hl
  refine lv_aload_n hx hb dX7_narrowBy_0 rfl (lv_at hl 0 rfl) ?_
  refine va_get (D := (dC, dI)) (ci := 7) (v := .ref (aV 2)) (C := RX7) (T := TX7) (N := 20) hx hb hts iwsMX7_narrowBy_in7 hown hK hP 0 rfl rfl 4 (by decide) (hts (.fieldLink RX7 18 "OptimaWorks$ValueDesk" "kind" "[I") (by decide +kernel)) (fun _ h9 => h9) rfl dX7_narrowBy_1 ?_
  refine lv_iload_n hx hb dX7_narrowBy_4 rfl (lv_at hl 1 rfl) ?_
  refine va_iald (cA := kV 2) (n := 12) (f := fV_kind) hx hb hK hP 3 2 rfl rfl (vp_in_iff.mpr ⟨b_p1.1, (Int.lt_of_le_of_lt (b_p1.2) (by decide))⟩) dX7_narrowBy_5 ?_
  refine lv_topi (fun v1 hv1 => ?_)
  have b_v1 : 0 ≤ v1.toInt ∧ v1.toInt ≤ 4 := by rw [hv1]; exact b_fV_kind _
  have b1_v1 : v1 = fV_kind (p1).toNatClampNeg := hv1
  clear hv1
  refine W.cut (pc := 95) (fun H locs ls stk => ∃ (fV_now_j2 : Nat → Int32) (iV_changed_j2 : Int32) (gV_fore_j2 : Nat → Int64) (gV_back_j2 : Nat → Int64) (fV_together_j2 : Nat → Int32) (fV_member_j2 : Nat → Int32), (0 ≤ iV_changed_j2.toInt ∧ iV_changed_j2.toInt ≤ 1) ∧ (∀ q : Nat, (-1) ≤ (fV_member_j2 q).toInt ∧ (fV_member_j2 q).toInt ≤ 15) ∧  stk = [] ∧ va_P (dC, dI) vwCl (WV hV aV kV iV_holders iV_rules fV_pairs fV_domain fV_kind fV_a fV_b fV_c fV_rulePairs fV_lastHolder fV_now_j2 iV_doneFor iV_changed_j2 gV_fore_j2 gV_back_j2 fV_together_j2 fV_member_j2 gV_list dV_list nV_list iV_listed iV_listDone) H ∧ va_D A (WV hV aV kV iV_holders iV_rules fV_pairs fV_domain fV_kind fV_a fV_b fV_c fV_rulePairs fV_lastHolder fV_now_j2 iV_doneFor iV_changed_j2 gV_fore_j2 gV_back_j2 fV_together_j2 fV_member_j2 gV_list dV_list nV_list iV_listed iV_listDone) ∧ va_S A s.heap H locs ∧ lv_has ls 2 [(0, .ref (hV 0)), (1, .int p1)]) (fun join2 => ?_) ?_
  · by_cases s_6_0 : v1 = 0
    · have ts_6_0 : v1.toInt = 0 := toI_eq s_6_0 rfl (by decide)
      refine lv_tableIn (off := 30) (tgt := 36) hx hb dX7_narrowBy_6 (by rw [s_6_0]; decide) (by rw [s_6_0]; decide) (by rw [s_6_0]; decide) (by decide) ?_
      refine lv_aload_n hx hb dX7_narrowBy_36 rfl (lv_at hl 0 rfl) ?_
      refine lv_aload_n hx hb dX7_narrowBy_37 rfl (lv_at hl 0 rfl) ?_
      refine va_get (D := (dC, dI)) (ci := 7) (v := .ref (aV 3)) (C := RX7) (T := TX7) (N := 20) hx hb hts iwsMX7_narrowBy_in7 hown hK hP 0 rfl rfl 5 (by decide) (hts _ hm_m_X7_narrowBy_0) (fun _ h9 => h9) rfl dX7_narrowBy_38 ?_
      refine lv_iload_n hx hb dX7_narrowBy_41 rfl (lv_at hl 1 rfl) ?_
      refine va_iald (cA := kV 3) (n := 12) (f := fV_a) hx hb hK hP 4 3 rfl rfl (vp_in_iff.mpr ⟨b_p1.1, (Int.lt_of_le_of_lt (b_p1.2) (by decide))⟩) dX7_narrowBy_42 ?_
      refine lv_topi (fun v11 hv11 => ?_)
      clear hv11
      have hFc := allFree hD hS hA
      refine va_callv (va_runV (As := [.int v11]) (rest := []) ⟨hx, hb, hml, hown, hts⟩ (m_X7_narrowDifferent l dC dI hV aV kV iV_holders iV_rules fV_pairs fV_domain fV_kind fV_a fV_b fV_c fV_rulePairs fV_lastHolder fV_now iV_doneFor iV_changed gV_fore gV_back fV_together fV_member gV_list dV_list nV_list iV_listed iV_listDone v11 (b_iV_holders) (b_iV_rules) b_fV_kind (b_iV_changed) b_fV_member (by first | exact b_nV_list | with_reducible assumption | exact ⟨by omega, by omega⟩ | assumption) (b_iV_listed) (b_iV_listDone) (by first | with_reducible assumption | omega | assumption) (by first | with_reducible assumption | omega | assumption) s.heap.size) (cwV 1 hts gwsMX7_narrowBy_0 rfl rfl rfl hd_yX7_narrowDifferent_RX7 (by decide +kernel)) (fz_pre (va_recv hK hP (ci := 7) (q0 := 0) rfl rfl) hP hK hD) rfl rfl hl.1 rfl (lv_room (Nat.le_of_ble_eq_true rfl)) dX7_narrowBy_43 (by decide +kernel)) hS (fun q _ h => hFc q h) hFc (fun u t9_ H locs ht hvm hw9 hB9 hz1 hk1 hS => ?_)
      revert u hw9 hB9
      refine fz_p4 ?_
      intro fV_now_12 iV_changed_12 fV_together_12 fV_member_12 hw9 hB9
      try dsimp only at hw9 hB9
      revert hw9
      refine fz_a2 ?_
      intro b_iV_changed_12 b_fV_member_12
      have hP : va_P (dC, dI) vwCl (WV hV aV kV iV_holders iV_rules fV_pairs fV_domain fV_kind fV_a fV_b fV_c fV_rulePairs fV_lastHolder fV_now_12 iV_doneFor iV_changed_12 gV_fore gV_back fV_together_12 fV_member_12 gV_list dV_list nV_list iV_listed iV_listDone) H := fz_P ht hB9.1
      have hD := fz_sd hP (hB9.2.weaken (fun _ q _ h => hFc q.1 h)) rfl
      refine lv_goto (tgt := 95) hx hb dX7_narrowBy_46 (by decide) ?_
      have hl : lv_has _ _ ([(0, .ref (hV 0)), (1, .int p1)]) := lv_sub hl [0, 1] rfl
      exact join2 _ _ _ _ ⟨fV_now_12, iV_changed_12, gV_fore, gV_back, fV_together_12, fV_member_12, (b_iV_changed_12), b_fV_member_12, rfl, hP, hD, hS, hl⟩
    · have ts_6_0 : ¬ v1.toInt = 0 := toI_neq s_6_0 rfl (by decide)
      by_cases s_6_1 : v1 = 1
      · have ts_6_1 : v1.toInt = 1 := toI_eq s_6_1 rfl (by decide)
        refine lv_tableIn (off := 43) (tgt := 49) hx hb dX7_narrowBy_6 (by rw [s_6_1]; decide) (by rw [s_6_1]; decide) (by rw [s_6_1]; decide) (by decide) ?_
        refine lv_aload_n hx hb dX7_narrowBy_49 rfl (lv_at hl 0 rfl) ?_
        refine lv_aload_n hx hb dX7_narrowBy_50 rfl (lv_at hl 0 rfl) ?_
        refine va_get (D := (dC, dI)) (ci := 7) (v := .ref (aV 3)) (C := RX7) (T := TX7) (N := 20) hx hb hts iwsMX7_narrowBy_in7 hown hK hP 0 rfl rfl 5 (by decide) (hts _ hm_m_X7_narrowBy_0) (fun _ h9 => h9) rfl dX7_narrowBy_51 ?_
        refine lv_iload_n hx hb dX7_narrowBy_54 rfl (lv_at hl 1 rfl) ?_
        refine va_iald (cA := kV 3) (n := 12) (f := fV_a) hx hb hK hP 4 3 rfl rfl (vp_in_iff.mpr ⟨b_p1.1, (Int.lt_of_le_of_lt (b_p1.2) (by decide))⟩) dX7_narrowBy_55 ?_
        refine lv_topi (fun v13 hv13 => ?_)
        have b_v13 : 0 ≤ v13.toInt ∧ v13.toInt ≤ 9 := by rw [hv13]; exact ((b_RuV _).1 (by rw [← b1_v1]; omega)).1
        clear hv13
        refine lv_aload_n hx hb dX7_narrowBy_56 rfl (lv_at hl 0 rfl) ?_
        refine va_get (D := (dC, dI)) (ci := 7) (v := .ref (aV 4)) (C := RX7) (T := TX7) (N := 20) hx hb hts iwsMX7_narrowBy_in7 hown hK hP 0 rfl rfl 6 (by decide) (hts (.fieldLink RX7 24 "OptimaWorks$ValueDesk" "b" "[I") (by decide +kernel)) (fun _ h9 => h9) rfl dX7_narrowBy_57 ?_
        refine lv_iload_n hx hb dX7_narrowBy_60 rfl (lv_at hl 1 rfl) ?_
        refine va_iald (cA := kV 4) (n := 12) (f := fV_b) hx hb hK hP 5 4 rfl rfl (vp_in_iff.mpr ⟨b_p1.1, (Int.lt_of_le_of_lt (b_p1.2) (by decide))⟩) dX7_narrowBy_61 ?_
        refine lv_topi (fun v14 hv14 => ?_)
        clear hv14
        refine lv_aload_n hx hb dX7_narrowBy_62 rfl (lv_at hl 0 rfl) ?_
        refine va_get (D := (dC, dI)) (ci := 7) (v := .ref (aV 5)) (C := RX7) (T := TX7) (N := 20) hx hb hts iwsMX7_narrowBy_in7 hown hK hP 0 rfl rfl 7 (by decide) (hts (.fieldLink RX7 27 "OptimaWorks$ValueDesk" "c" "[I") (by decide +kernel)) (fun _ h9 => h9) rfl dX7_narrowBy_63 ?_
        refine lv_iload_n hx hb dX7_narrowBy_66 rfl (lv_at hl 1 rfl) ?_
        refine va_iald (cA := kV 5) (n := 12) (f := fV_c) hx hb hK hP 6 5 rfl rfl (vp_in_iff.mpr ⟨b_p1.1, (Int.lt_of_le_of_lt (b_p1.2) (by decide))⟩) dX7_narrowBy_67 ?_
        refine lv_topi (fun v15 hv15 => ?_)
        have b_v15 : 0 ≤ v15.toInt ∧ v15.toInt ≤ 9 := by rw [hv15]; exact ((b_RuV _).1 (by rw [← b1_v1]; omega)).2
        clear hv15
        have hFc := allFree hD hS hA
        refine va_callv (va_runV (As := [.int v13, .int v14, .int v15]) (rest := []) ⟨hx, hb, hml, hown, hts⟩ (m_X7_narrowOrder l dC dI hV aV kV iV_holders iV_rules fV_pairs fV_domain fV_kind fV_a fV_b fV_c fV_rulePairs fV_lastHolder fV_now iV_doneFor iV_changed gV_fore gV_back fV_together fV_member gV_list dV_list nV_list iV_listed iV_listDone v13 v14 v15 (b_iV_holders) (b_iV_rules) b_fV_kind (b_iV_changed) b_fV_member (by first | exact b_nV_list | with_reducible assumption | exact ⟨by omega, by omega⟩ | assumption) (b_iV_listed) (b_iV_listDone) (by first | with_reducible assumption | omega | assumption) (by first | with_reducible assumption | omega | assumption) (b_v13) (b_v15) s.heap.size) (cwV 3 hts gwsMX7_narrowBy_1 rfl rfl rfl hd_yX7_narrowOrder_RX7 (by decide +kernel)) (fz_pre (va_recv hK hP (ci := 7) (q0 := 0) rfl rfl) hP hK hD) rfl rfl hl.1 rfl (lv_room (Nat.le_of_ble_eq_true rfl)) dX7_narrowBy_68 (by decide +kernel)) hS (fun q _ h => hFc q h) hFc (fun u t9_ H locs ht hvm hw9 hB9 hz1 hk1 hS => ?_)
        revert u hw9 hB9
        refine fz_p2 ?_
        intro fV_now_16 iV_changed_16 hw9 hB9
        try dsimp only at hw9 hB9
        have b_iV_changed_16 := hw9
        try dsimp only at b_iV_changed_16
        have hP : va_P (dC, dI) vwCl (WV hV aV kV iV_holders iV_rules fV_pairs fV_domain fV_kind fV_a fV_b fV_c fV_rulePairs fV_lastHolder fV_now_16 iV_doneFor iV_changed_16 gV_fore gV_back fV_together fV_member gV_list dV_list nV_list iV_listed iV_listDone) H := fz_P ht hB9.1
        have hD := fz_sd hP (hB9.2.weaken (fun _ q _ h => hFc q.1 h)) rfl
        refine lv_goto (tgt := 95) hx hb dX7_narrowBy_71 (by decide) ?_
        have hl : lv_has _ _ ([(0, .ref (hV 0)), (1, .int p1)]) := lv_sub hl [0, 1] rfl
        exact join2 _ _ _ _ ⟨fV_now_16, iV_changed_16, gV_fore, gV_back, fV_together, fV_member, (by first | exact b_iV_changed_16 | with_reducible assumption | exact ⟨by omega, by omega⟩ | assumption), b_fV_member, rfl, hP, hD, hS, hl⟩
      · have ts_6_1 : ¬ v1.toInt = 1 := toI_neq s_6_1 rfl (by decide)
        by_cases s_6_2 : v1 = 2
        · have ts_6_2 : v1.toInt = 2 := toI_eq s_6_2 rfl (by decide)
          refine lv_tableIn (off := 68) (tgt := 74) hx hb dX7_narrowBy_6 (by rw [s_6_2]; decide) (by rw [s_6_2]; decide) (by rw [s_6_2]; decide) (by decide) ?_
          refine lv_aload_n hx hb dX7_narrowBy_74 rfl (lv_at hl 0 rfl) ?_
          refine lv_iload_n hx hb dX7_narrowBy_75 rfl (lv_at hl 1 rfl) ?_
          have hFc := allFree hD hS hA
          refine va_callv (va_runV (As := [.int p1]) (rest := []) ⟨hx, hb, hml, hown, hts⟩ (m_X7_narrowSum l dC dI hV aV kV iV_holders iV_rules fV_pairs fV_domain fV_kind fV_a fV_b fV_c fV_rulePairs fV_lastHolder fV_now iV_doneFor iV_changed gV_fore gV_back fV_together fV_member gV_list dV_list nV_list iV_listed iV_listDone p1 (b_iV_holders) (b_iV_rules) b_fV_kind (b_iV_changed) b_fV_member (by first | exact b_nV_list | with_reducible assumption | exact ⟨by omega, by omega⟩ | assumption) (b_iV_listed) (b_iV_listDone) (by first | with_reducible assumption | omega | assumption) (by first | with_reducible assumption | omega | assumption) (b_p1) s.heap.size) (cwV 1 hts gwsMX7_narrowBy_2 rfl rfl rfl hd_yX7_narrowSum_RX7 (by decide +kernel)) (fz_pre (va_recv hK hP (ci := 7) (q0 := 0) rfl rfl) hP hK hD) rfl rfl hl.1 rfl (lv_room (Nat.le_of_ble_eq_true rfl)) dX7_narrowBy_76 (by decide +kernel)) hS (fun q _ h => hFc q h) hFc (fun u t9_ H locs ht hvm hw9 hB9 hz1 hk1 hS => ?_)
          revert u hw9 hB9
          refine fz_p5 ?_
          intro fV_now_17 iV_changed_17 gV_fore_17 gV_back_17 fV_member_17 hw9 hB9
          try dsimp only at hw9 hB9
          revert hw9
          refine fz_a2 ?_
          intro b_iV_changed_17 b_fV_member_17
          have hP : va_P (dC, dI) vwCl (WV hV aV kV iV_holders iV_rules fV_pairs fV_domain fV_kind fV_a fV_b fV_c fV_rulePairs fV_lastHolder fV_now_17 iV_doneFor iV_changed_17 gV_fore_17 gV_back_17 fV_together fV_member_17 gV_list dV_list nV_list iV_listed iV_listDone) H := fz_P ht hB9.1
          have hD := fz_sd hP (hB9.2.weaken (fun _ q _ h => hFc q.1 h)) rfl
          refine lv_goto (tgt := 95) hx hb dX7_narrowBy_79 (by decide) ?_
          have hl : lv_has _ _ ([(0, .ref (hV 0)), (1, .int p1)]) := lv_sub hl [0, 1] rfl
          exact join2 _ _ _ _ ⟨fV_now_17, iV_changed_17, gV_fore_17, gV_back_17, fV_together, fV_member_17, (b_iV_changed_17), b_fV_member_17, rfl, hP, hD, hS, hl⟩
        · have ts_6_2 : ¬ v1.toInt = 2 := toI_neq s_6_2 rfl (by decide)
          by_cases s_6_3 : v1 = 3
          · have ts_6_3 : v1.toInt = 3 := toI_eq s_6_3 rfl (by decide)
            refine lv_tableIn (off := 76) (tgt := 82) hx hb dX7_narrowBy_6 (by rw [s_6_3]; decide) (by rw [s_6_3]; decide) (by rw [s_6_3]; decide) (by decide) ?_
            refine lv_aload_n hx hb dX7_narrowBy_82 rfl (lv_at hl 0 rfl) ?_
            refine lv_iload_n hx hb dX7_narrowBy_83 rfl (lv_at hl 1 rfl) ?_
            have hFc := allFree hD hS hA
            refine va_callv (va_runV (As := [.int p1]) (rest := []) ⟨hx, hb, hml, hown, hts⟩ (m_X7_narrowMost l dC dI hV aV kV iV_holders iV_rules fV_pairs fV_domain fV_kind fV_a fV_b fV_c fV_rulePairs fV_lastHolder fV_now iV_doneFor iV_changed gV_fore gV_back fV_together fV_member gV_list dV_list nV_list iV_listed iV_listDone p1 (b_iV_holders) (b_iV_rules) b_fV_kind (b_iV_changed) b_fV_member (by first | exact b_nV_list | with_reducible assumption | exact ⟨by omega, by omega⟩ | assumption) (b_iV_listed) (b_iV_listDone) (by first | with_reducible assumption | omega | assumption) (by first | with_reducible assumption | omega | assumption) (b_p1) s.heap.size) (cwV 1 hts gwsMX7_narrowBy_3 rfl rfl rfl hd_yX7_narrowMost_RX7 (by decide +kernel)) (fz_pre (va_recv hK hP (ci := 7) (q0 := 0) rfl rfl) hP hK hD) rfl rfl hl.1 rfl (lv_room (Nat.le_of_ble_eq_true rfl)) dX7_narrowBy_84 (by decide +kernel)) hS (fun q _ h => hFc q h) hFc (fun u t9_ H locs ht hvm hw9 hB9 hz1 hk1 hS => ?_)
            revert u hw9 hB9
            refine fz_p3 ?_
            intro fV_now_18 iV_changed_18 fV_member_18 hw9 hB9
            try dsimp only at hw9 hB9
            revert hw9
            refine fz_a2 ?_
            intro b_iV_changed_18 b_fV_member_18
            have hP : va_P (dC, dI) vwCl (WV hV aV kV iV_holders iV_rules fV_pairs fV_domain fV_kind fV_a fV_b fV_c fV_rulePairs fV_lastHolder fV_now_18 iV_doneFor iV_changed_18 gV_fore gV_back fV_together fV_member_18 gV_list dV_list nV_list iV_listed iV_listDone) H := fz_P ht hB9.1
            have hD := fz_sd hP (hB9.2.weaken (fun _ q _ h => hFc q.1 h)) rfl
            refine lv_goto (tgt := 95) hx hb dX7_narrowBy_87 (by decide) ?_
            have hl : lv_has _ _ ([(0, .ref (hV 0)), (1, .int p1)]) := lv_sub hl [0, 1] rfl
            exact join2 _ _ _ _ ⟨fV_now_18, iV_changed_18, gV_fore, gV_back, fV_together, fV_member_18, (b_iV_changed_18), b_fV_member_18, rfl, hP, hD, hS, hl⟩
          · have ts_6_3 : ¬ v1.toInt = 3 := toI_neq s_6_3 rfl (by decide)
            refine lv_tableOut (tgt := 90) hx hb dX7_narrowBy_6 (by have := lv_neT s_6_0 (show Int32.toInt 0 = 0 by decide); have := lv_neT s_6_1 (show Int32.toInt 1 = 1 by decide); have := lv_neT s_6_2 (show Int32.toInt 2 = 2 by decide); have := lv_neT s_6_3 (show Int32.toInt 3 = 3 by decide); omega) (by decide) ?_
            refine lv_aload_n hx hb dX7_narrowBy_90 rfl (lv_at hl 0 rfl) ?_
            refine lv_iload_n hx hb dX7_narrowBy_91 rfl (lv_at hl 1 rfl) ?_
            have hFc := allFree hD hS hA
            refine va_callv (va_runV (As := [.int p1]) (rest := []) ⟨hx, hb, hml, hown, hts⟩ (m_X7_narrowPairs l dC dI hV aV kV iV_holders iV_rules fV_pairs fV_domain fV_kind fV_a fV_b fV_c fV_rulePairs fV_lastHolder fV_now iV_doneFor iV_changed gV_fore gV_back fV_together fV_member gV_list dV_list nV_list iV_listed iV_listDone p1 (b_iV_holders) (b_iV_rules) b_fV_kind (b_iV_changed) b_fV_member (by first | exact b_nV_list | with_reducible assumption | exact ⟨by omega, by omega⟩ | assumption) (b_iV_listed) (b_iV_listDone) (by first | with_reducible assumption | omega | assumption) (by first | with_reducible assumption | omega | assumption) (b_p1) (by rw [← b1_v1]; omega) s.heap.size) (cwV 1 hts gwsMX7_narrowBy_4 rfl rfl rfl hd_yX7_narrowPairs_RX7 (by decide +kernel)) (fz_pre (va_recv hK hP (ci := 7) (q0 := 0) rfl rfl) hP hK hD) rfl rfl hl.1 rfl (lv_room (Nat.le_of_ble_eq_true rfl)) dX7_narrowBy_92 (by decide +kernel)) hS (fun q _ h => hFc q h) hFc (fun u t9_ H locs ht hvm hw9 hB9 hz1 hk1 hS => ?_)
            revert u hw9 hB9
            refine fz_p2 ?_
            intro fV_now_19 iV_changed_19 hw9 hB9
            try dsimp only at hw9 hB9
            have b_iV_changed_19 := hw9
            try dsimp only at b_iV_changed_19
            have hP : va_P (dC, dI) vwCl (WV hV aV kV iV_holders iV_rules fV_pairs fV_domain fV_kind fV_a fV_b fV_c fV_rulePairs fV_lastHolder fV_now_19 iV_doneFor iV_changed_19 gV_fore gV_back fV_together fV_member gV_list dV_list nV_list iV_listed iV_listDone) H := fz_P ht hB9.1
            have hD := fz_sd hP (hB9.2.weaken (fun _ q _ h => hFc q.1 h)) rfl
            have hl : lv_has _ _ ([(0, .ref (hV 0)), (1, .int p1)]) := lv_sub hl [0, 1] rfl
            exact join2 _ _ _ _ ⟨fV_now_19, iV_changed_19, gV_fore, gV_back, fV_together, fV_member, (by first | exact b_iV_changed_19 | with_reducible assumption | exact ⟨by omega, by omega⟩ | assumption), b_fV_member, rfl, hP, hD, hS, hl⟩
  · rintro H locs ls stk ⟨fV_now_j2, iV_changed_j2, gV_fore_j2, gV_back_j2, fV_together_j2, fV_member_j2, b_iV_changed_j2, b_fV_member_j2, rfl, hP, hD, hS, hl⟩
    refine W.widen (k := 0) (n := 0) (by decide +kernel) (by decide +kernel) ?_
    exact W.vret hx hb hr (fun t9_ ht hW => ⟨⟨(fV_now_j2, iV_changed_j2, gV_fore_j2, gV_back_j2, fV_together_j2, fV_member_j2), rfl, ⟨b_iV_changed_j2, b_fV_member_j2⟩, by rw [ht]; exact hP, hD⟩, hS.F ht⟩) hS.2.2 dX7_narrowBy_95
theorem dX7_narrow_0 : decode cX7_narrow 0 = .ok (.aload_n 0, 1) := dk_42 (by decide +kernel)
theorem dX7_narrow_1 : decode cX7_narrow 1 = .ok (.getfield 39, 3) := dk_180 (by decide +kernel)
theorem dX7_narrow_4 : decode cX7_narrow 4 = .ok (.iload_n 1, 1) := dk_27 (by decide +kernel)
theorem dX7_narrow_5 : decode cX7_narrow 5 = .ok (.if_icmp .ne 4, 3) := dk_160 (by decide +kernel)
theorem dX7_narrow_8 : decode cX7_narrow 8 = .ok (.return_, 1) := dk_177 (by decide +kernel)
theorem dX7_narrow_9 : decode cX7_narrow 9 = .ok (.aload_n 0, 1) := dk_42 (by decide +kernel)
theorem dX7_narrow_10 : decode cX7_narrow 10 = .ok (.iload_n 1, 1) := dk_27 (by decide +kernel)
theorem dX7_narrow_11 : decode cX7_narrow 11 = .ok (.putfield 39, 3) := dk_181 (by decide +kernel)
theorem dX7_narrow_14 : decode cX7_narrow 14 = .ok (.aload_n 0, 1) := dk_42 (by decide +kernel)
theorem dX7_narrow_15 : decode cX7_narrow 15 = .ok (.getfield 15, 3) := dk_180 (by decide +kernel)
theorem dX7_narrow_18 : decode cX7_narrow 18 = .ok (.iconst 0, 1) := dk_3 (by decide +kernel)
theorem dX7_narrow_19 : decode cX7_narrow 19 = .ok (.aload_n 0, 1) := dk_42 (by decide +kernel)
theorem dX7_narrow_20 : decode cX7_narrow 20 = .ok (.getfield 36, 3) := dk_180 (by decide +kernel)
theorem dX7_narrow_23 : decode cX7_narrow 23 = .ok (.iconst 0, 1) := dk_3 (by decide +kernel)
theorem dX7_narrow_24 : decode cX7_narrow 24 = .ok (.aload_n 0, 1) := dk_42 (by decide +kernel)
theorem dX7_narrow_25 : decode cX7_narrow 25 = .ok (.getfield 59, 3) := dk_180 (by decide +kernel)
theorem dX7_narrow_28 : decode cX7_narrow 28 = .ok (.invokestatic 83, 3) := dk_184 (by decide +kernel)
theorem dX7_narrow_31 : decode cX7_narrow 31 = .ok (.aload_n 0, 1) := dk_42 (by decide +kernel)
theorem dX7_narrow_32 : decode cX7_narrow 32 = .ok (.iconst 1, 1) := dk_4 (by decide +kernel)
theorem dX7_narrow_33 : decode cX7_narrow 33 = .ok (.putfield 106, 3) := dk_181 (by decide +kernel)
theorem dX7_narrow_36 : decode cX7_narrow 36 = .ok (.iconst 0, 1) := dk_3 (by decide +kernel)
theorem dX7_narrow_37 : decode cX7_narrow 37 = .ok (.istore_n 2, 1) := dk_61 (by decide +kernel)
theorem dX7_narrow_38 : decode cX7_narrow 38 = .ok (.iload_n 2, 1) := dk_28 (by decide +kernel)
theorem dX7_narrow_39 : decode cX7_narrow 39 = .ok (.sipush 160, 3) := dk_17 (by decide +kernel)
theorem dX7_narrow_42 : decode cX7_narrow 42 = .ok (.if_icmp .gt 66, 3) := dk_163 (by decide +kernel)
theorem dX7_narrow_45 : decode cX7_narrow 45 = .ok (.aload_n 0, 1) := dk_42 (by decide +kernel)
theorem dX7_narrow_46 : decode cX7_narrow 46 = .ok (.getfield 106, 3) := dk_180 (by decide +kernel)
theorem dX7_narrow_49 : decode cX7_narrow 49 = .ok (.ifCond .eq 59, 3) := dk_153 (by decide +kernel)
theorem dX7_narrow_52 : decode cX7_narrow 52 = .ok (.aload_n 0, 1) := dk_42 (by decide +kernel)
theorem dX7_narrow_53 : decode cX7_narrow 53 = .ok (.iconst 0, 1) := dk_3 (by decide +kernel)
theorem dX7_narrow_54 : decode cX7_narrow 54 = .ok (.putfield 106, 3) := dk_181 (by decide +kernel)
theorem dX7_narrow_57 : decode cX7_narrow 57 = .ok (.iconst 0, 1) := dk_3 (by decide +kernel)
theorem dX7_narrow_58 : decode cX7_narrow 58 = .ok (.istore_n 3, 1) := dk_62 (by decide +kernel)
theorem dX7_narrow_59 : decode cX7_narrow 59 = .ok (.iload_n 3, 1) := dk_29 (by decide +kernel)
theorem dX7_narrow_60 : decode cX7_narrow 60 = .ok (.aload_n 0, 1) := dk_42 (by decide +kernel)
theorem dX7_narrow_61 : decode cX7_narrow 61 = .ok (.getfield 62, 3) := dk_180 (by decide +kernel)
theorem dX7_narrow_64 : decode cX7_narrow 64 = .ok (.if_icmp .ge 38, 3) := dk_162 (by decide +kernel)
theorem dX7_narrow_67 : decode cX7_narrow 67 = .ok (.iload_n 1, 1) := dk_27 (by decide +kernel)
theorem dX7_narrow_68 : decode cX7_narrow 68 = .ok (.iload_n 3, 1) := dk_29 (by decide +kernel)
theorem dX7_narrow_69 : decode cX7_narrow 69 = .ok (.ishr, 1) := dk_122 (by decide +kernel)
theorem dX7_narrow_70 : decode cX7_narrow 70 = .ok (.iconst 1, 1) := dk_4 (by decide +kernel)
theorem dX7_narrow_71 : decode cX7_narrow 71 = .ok (.iand, 1) := dk_126 (by decide +kernel)
theorem dX7_narrow_72 : decode cX7_narrow 72 = .ok (.ifCond .eq 24, 3) := dk_153 (by decide +kernel)
theorem dX7_narrow_75 : decode cX7_narrow 75 = .ok (.aload_n 0, 1) := dk_42 (by decide +kernel)
theorem dX7_narrow_76 : decode cX7_narrow 76 = .ok (.iload_n 3, 1) := dk_29 (by decide +kernel)
theorem dX7_narrow_77 : decode cX7_narrow 77 = .ok (.invokevirtual 109, 3) := dk_182 (by decide +kernel)
theorem dX7_narrow_80 : decode cX7_narrow 80 = .ok (.aload_n 0, 1) := dk_42 (by decide +kernel)
theorem dX7_narrow_81 : decode cX7_narrow 81 = .ok (.invokevirtual 112, 3) := dk_182 (by decide +kernel)
theorem dX7_narrow_84 : decode cX7_narrow 84 = .ok (.ifCond .eq 12, 3) := dk_153 (by decide +kernel)
theorem dX7_narrow_87 : decode cX7_narrow 87 = .ok (.aload_n 0, 1) := dk_42 (by decide +kernel)
theorem dX7_narrow_88 : decode cX7_narrow 88 = .ok (.getfield 36, 3) := dk_180 (by decide +kernel)
theorem dX7_narrow_91 : decode cX7_narrow 91 = .ok (.iconst 0, 1) := dk_3 (by decide +kernel)
theorem dX7_narrow_92 : decode cX7_narrow 92 = .ok (.invokestatic 116, 3) := dk_184 (by decide +kernel)
theorem dX7_narrow_95 : decode cX7_narrow 95 = .ok (.return_, 1) := dk_177 (by decide +kernel)
theorem dX7_narrow_96 : decode cX7_narrow 96 = .ok (.iinc 3 1, 3) := dk_132 (by decide +kernel)
theorem dX7_narrow_99 : decode cX7_narrow 99 = .ok (.goto (-40), 3) := dk_167 (by decide +kernel)
theorem dX7_narrow_102 : decode cX7_narrow 102 = .ok (.iinc 2 1, 3) := dk_132 (by decide +kernel)
theorem dX7_narrow_105 : decode cX7_narrow 105 = .ok (.goto (-67), 3) := dk_167 (by decide +kernel)
theorem dX7_narrow_108 : decode cX7_narrow 108 = .ok (.return_, 1) := dk_177 (by decide +kernel)
def wsMX7_narrow : List Cond := .code yX7_narrow cX7_narrow 4 none :: ([.fieldLink RX7 39 "OptimaWorks$ValueDesk" "doneFor" "I", .fieldLink RX7 15 "OptimaWorks$ValueDesk" "domain" "[I", .fieldLink RX7 36 "OptimaWorks$ValueDesk" "now" "[I", .fieldLink RX7 59 "OptimaWorks$ValueDesk" "holders" "I", .methodLink RX7 83 arraycopyName, .native arraycopyName, .static arraycopyName, .initialized "java/lang/System", .fieldLink RX7 106 "OptimaWorks$ValueDesk" "changed" "Z", .fieldLink RX7 62 "OptimaWorks$ValueDesk" "rules" "I"] ++ wsX70 ++ (wsV RX7 109 RX7 yX7_narrowBy wsMX7_narrowBy) ++ (wsV RX7 112 RX7 yX7_isAnyEmpty wsMX7_isAnyEmpty) ++ (va_wsS RX7 116 yJ7_fill_53178 wsMJ7_fill_53178))
theorem iwsMX7_narrow_in7 : ∀ w ∈ wsX70, w ∈ wsMX7_narrow := fun _ h => List.mem_cons_of_mem _ (List.mem_append_left _ (List.mem_append_left _ (List.mem_append_left _ (List.mem_append_right _ h))))
theorem gwsMX7_narrow_0 : GoodIn wsMX7_narrow (wsV RX7 109 RX7 yX7_narrowBy wsMX7_narrowBy) := goodIn_sub (fun _ h => List.mem_cons_of_mem _ (List.mem_append_left _ (List.mem_append_left _ (List.mem_append_right _ h)))) (gdV (by decide +kernel) gdwsMX7_narrowBy)
theorem gwsMX7_narrow_1 : GoodIn wsMX7_narrow (wsV RX7 112 RX7 yX7_isAnyEmpty wsMX7_isAnyEmpty) := goodIn_sub (fun _ h => List.mem_cons_of_mem _ (List.mem_append_left _ (List.mem_append_right _ h))) (gdV (by decide +kernel) gdwsMX7_isAnyEmpty)
theorem gwsMX7_narrow_2 : GoodIn wsMX7_narrow (va_wsS RX7 116 yJ7_fill_53178 wsMJ7_fill_53178) := goodIn_sub (fun _ h => List.mem_cons_of_mem _ (List.mem_append_right _ h)) (gdS (by decide +kernel) gdwsMJ7_fill_53178)
theorem gdwsMX7_narrow : wsMX7_narrow.all goodWord = true := gdC rfl (gdA (gdA (gdA (gdA (by decide +kernel : ([.fieldLink RX7 39 "OptimaWorks$ValueDesk" "doneFor" "I", .fieldLink RX7 15 "OptimaWorks$ValueDesk" "domain" "[I", .fieldLink RX7 36 "OptimaWorks$ValueDesk" "now" "[I", .fieldLink RX7 59 "OptimaWorks$ValueDesk" "holders" "I", .methodLink RX7 83 arraycopyName, .native arraycopyName, .static arraycopyName, .initialized "java/lang/System", .fieldLink RX7 106 "OptimaWorks$ValueDesk" "changed" "Z", .fieldLink RX7 62 "OptimaWorks$ValueDesk" "rules" "I"] : List Cond).all goodWord = true) gdwsX70) (gdV (by decide +kernel) gdwsMX7_narrowBy)) (gdV (by decide +kernel) gdwsMX7_isAnyEmpty)) (gdS (by decide +kernel) gdwsMJ7_fill_53178))
theorem hm_m_X7_narrow_0 : (.fieldLink RX7 39 "OptimaWorks$ValueDesk" "doneFor" "I" : Cond) ∈ wsMX7_narrow := by decide +kernel
theorem hm_m_X7_narrow_1 : (.fieldLink RX7 36 "OptimaWorks$ValueDesk" "now" "[I" : Cond) ∈ wsMX7_narrow := by decide +kernel
theorem hm_m_X7_narrow_2 : (.fieldLink RX7 106 "OptimaWorks$ValueDesk" "changed" "Z" : Cond) ∈ wsMX7_narrow := by decide +kernel
set_option maxHeartbeats 4000000 in
set_option maxRecDepth 100000 in
/-- what is left -/
theorem m_X7_narrow (l : Launch) (dC : Nat → ClassId) (dI : Nat → Nat → Nat) (hV : Nat → Nat) (aV : Nat → Nat) (kV : Nat → ClassId) (iV_holders : Int32) (iV_rules : Int32) (fV_pairs : Nat → Int32) (fV_domain : Nat → Int32) (fV_kind : Nat → Int32) (fV_a : Nat → Int32) (fV_b : Nat → Int32) (fV_c : Nat → Int32) (fV_rulePairs : Nat → Int32) (fV_lastHolder : Nat → Int32) (fV_now : Nat → Int32) (iV_doneFor : Int32) (iV_changed : Int32) (gV_fore : Nat → Int64) (gV_back : Nat → Int64) (fV_together : Nat → Int32) (fV_member : Nat → Int32) (gV_list : Nat → Int64) (dV_list : Nat) (nV_list : Nat) (iV_listed : Int32) (iV_listDone : Int32) (p1 : Int32) (b_iV_holders : 0 ≤ iV_holders.toInt ∧ iV_holders.toInt ≤ 10) (b_iV_rules : 0 ≤ iV_rules.toInt ∧ iV_rules.toInt ≤ 12) (b_fV_kind : ∀ q : Nat, 0 ≤ (fV_kind q).toInt ∧ (fV_kind q).toInt ≤ 4) (b_iV_changed : 0 ≤ iV_changed.toInt ∧ iV_changed.toInt ≤ 1) (b_fV_member : ∀ q : Nat, (-1) ≤ (fV_member q).toInt ∧ (fV_member q).toInt ≤ 15) (b_nV_list : 0 ≤ nV_list ∧ nV_list ≤ 20000) (b_iV_listed : (-1) ≤ iV_listed.toInt ∧ iV_listed.toInt ≤ 5000) (b_iV_listDone : 0 ≤ iV_listDone.toInt ∧ iV_listDone.toInt ≤ 1) (b_RuV : RuV fV_kind fV_a fV_b fV_c fV_lastHolder) (b_lst : iV_listed.toInt ≤ ((nV_list : Nat) : Int)) (sz : Nat) : Met l yX7_narrow wsMX7_narrow ({ frames := 3, cells := 0, slots := 0, locals := 76 }) (va_Pc [.ref (hV 0), .int p1] (fun U => U.heap.size = sz ∧ va_P (dC, dI) vwCl (WV hV aV kV iV_holders iV_rules fV_pairs fV_domain fV_kind fV_a fV_b fV_c fV_rulePairs fV_lastHolder fV_now iV_doneFor iV_changed gV_fore gV_back fV_together fV_member gV_list dV_list nV_list iV_listed iV_listDone) U.heap ∧ va_K (dC, dI) vwCl (tV kV) U ∧ va_D (fun _ => True) (WV hV aV kV iV_holders iV_rules fV_pairs fV_domain fV_kind fV_a fV_b fV_c fV_rulePairs fV_lastHolder fV_now iV_doneFor iV_changed gV_fore gV_back fV_together fV_member gV_list dV_list nV_list iV_listed iV_listDone))) (va_Qv (fun (u : (Nat → Int32) × (Int32) × (Int32) × (Nat → Int64) × (Nat → Int64) × (Nat → Int32) × (Nat → Int32)) => (0 ≤ (u.2.2.1).toInt ∧ (u.2.2.1).toInt ≤ 1) ∧ (∀ q : Nat, (-1) ≤ ((u.2.2.2.2.2.2) q).toInt ∧ ((u.2.2.2.2.2.2) q).toInt ≤ 15)) (fun (u : (Nat → Int32) × (Int32) × (Int32) × (Nat → Int64) × (Nat → Int64) × (Nat → Int32) × (Nat → Int32)) t => va_P (dC, dI) vwCl (WV hV aV kV iV_holders iV_rules fV_pairs fV_domain fV_kind fV_a fV_b fV_c fV_rulePairs fV_lastHolder (u.1) (u.2.1) (u.2.2.1) (u.2.2.2.1) (u.2.2.2.2.1) (u.2.2.2.2.2.1) (u.2.2.2.2.2.2) gV_list dV_list nV_list iV_listed iV_listDone) t.heap ∧ va_D (va_A (WV hV aV kV iV_holders iV_rules fV_pairs fV_domain fV_kind fV_a fV_b fV_c fV_rulePairs fV_lastHolder fV_now iV_doneFor iV_changed gV_fore gV_back fV_together fV_member gV_list dV_list nV_list iV_listed iV_listDone) sz) (WV hV aV kV iV_holders iV_rules fV_pairs fV_domain fV_kind fV_a fV_b fV_c fV_rulePairs fV_lastHolder (u.1) (u.2.1) (u.2.2.1) (u.2.2.2.1) (u.2.2.2.2.1) (u.2.2.2.2.2.1) (u.2.2.2.2.2.2) gV_list dV_list nV_list iV_listed iV_listDone)) (va_A (WV hV aV kV iV_holders iV_rules fV_pairs fV_domain fV_kind fV_a fV_b fV_c fV_rulePairs fV_lastHolder fV_now iV_doneFor iV_changed gV_fore gV_back fV_together fV_member gV_list dV_list nV_list iV_listed iV_listDone) sz)) 0 0 (va_A (WV hV aV kV iV_holders iV_rules fV_pairs fV_domain fV_kind fV_a fV_b fV_c fV_rulePairs fV_lastHolder fV_now iV_doneFor iV_changed gV_fore gV_back fV_together fV_member gV_list dV_list nV_list iV_listed iV_listDone) sz) := by
  refine Met.ofW (cc := cX7_narrow) (maxL := 4) (ret := none) (by decide) rfl ?_
  intro p e s m args below meth c s₁ B hml hv
  obtain ⟨rfl, hsz, hP, hK, hD0⟩ := hv
  have hx := B.exec
  have hb := B.bytes
  have hr := B.returns
  have hts := atoms_spec (ws := wsMX7_narrow) B.pre
  have hown : s.vm.findClass RX7 = some m.cls := findClass_of_methodNamed B.named
  have hlocks := B.notSynchronized
  subst hsz
  have hD := hD0.self (sz := s.heap.size)
  generalize hAe : va_A (WV hV aV kV iV_holders iV_rules fV_pairs fV_domain fV_kind fV_a fV_b fV_c fV_rulePairs fV_lastHolder fV_now iV_doneFor iV_changed gV_fore gV_back fV_together fV_member gV_list dV_list nV_list iV_listed iV_listDone) s.heap.size = A at hD ⊢
  have hA : ∀ q : Nat, s.heap.size ≤ q → A q := fun q h => by rw [← hAe]; exact Or.inr h
  have hS : va_S A s.heap s.heap [] := va_S.rf
  have hl := lv_entry ([.ref (hV 0), .int p1]) (n := 4) (Nat.le_of_ble_eq_true rfl)
  rw [lg_entry_eq]
  generalize (lg_sl ([.ref (hV 0), .int p1]) ++ List.replicate (4 - (lg_sl ([.ref (hV 0), .int p1])).length) Slot.unset).toArray = ls at hl ⊢
  have hl : lv_has ls 4 [(0, .ref (hV 0)), (1, .int p1)] := hl
  refine lv_aload_n hx hb dX7_narrow_0 rfl (lv_at hl 0 rfl) ?_
  refine va_get (D := (dC, dI)) (ci := 7) (v := .int iV_doneFor) (C := RX7) (T := TX7) (N := 20) hx hb hts iwsMX7_narrow_in7 hown hK hP 0 rfl rfl 11 (by decide) (hts _ hm_m_X7_narrow_0) (fun _ h9 => h9) rfl dX7_narrow_1 ?_
  refine lv_iload_n hx hb dX7_narrow_4 rfl (lv_at hl 1 rfl) ?_
  refine lv_icmp_ne (tgt := 9) hx hb dX7_narrow_5 (by decide) (fun c_5 => ?_) (fun c_5 => ?_)
  · have t_5 : iV_doneFor.toInt ≠ p1.toInt := toI_ne c_5 rfl rfl
    refine lv_aload_n hx hb dX7_narrow_9 rfl (lv_at hl 0 rfl) ?_
    refine lv_iload_n hx hb dX7_narrow_10 rfl (lv_at hl 1 rfl) ?_
    refine va_put (D := (dC, dI)) (ci := 7) (v := .int p1) (ty := .int) (C := RX7) (T := TX7) (N := 20) hx hb hts iwsMX7_narrow_in7 tyX7 tyX7_ok nmX7 hown hK hP hD hS 0 rfl rfl 11 (by decide) (hts _ hm_m_X7_narrow_0) (fun _ h9 => h9) rfl (by decide +kernel) rfl rfl (Nat.le_of_ble_eq_true rfl) dX7_narrow_11 (fun H locs hP hD hS => ?_)
    have hP : va_P (dC, dI) vwCl (WV hV aV kV iV_holders iV_rules fV_pairs fV_domain fV_kind fV_a fV_b fV_c fV_rulePairs fV_lastHolder fV_now p1 iV_changed gV_fore gV_back fV_together fV_member gV_list dV_list nV_list iV_listed iV_listDone) H := hP
    have hD := fz_sd hP (hD) rfl
    refine lv_aload_n hx hb dX7_narrow_14 rfl (lv_at hl 0 rfl) ?_
    refine va_get (D := (dC, dI)) (ci := 7) (v := .ref (aV 1)) (C := RX7) (T := TX7) (N := 20) hx hb hts iwsMX7_narrow_in7 hown hK hP 0 rfl rfl 3 (by decide) (hts (.fieldLink RX7 15 "OptimaWorks$ValueDesk" "domain" "[I") (by decide +kernel)) (fun _ h9 => h9) rfl dX7_narrow_15 ?_
    refine lv_iconst (v := 0) hx hb dX7_narrow_18 (by decide) ?_
    refine lv_aload_n hx hb dX7_narrow_19 rfl (lv_at hl 0 rfl) ?_
    refine va_get (D := (dC, dI)) (ci := 7) (v := .ref (aV 8)) (C := RX7) (T := TX7) (N := 20) hx hb hts iwsMX7_narrow_in7 hown hK hP 0 rfl rfl 10 (by decide) (hts _ hm_m_X7_narrow_1) (fun _ h9 => h9) rfl dX7_narrow_20 ?_
    refine lv_iconst (v := 0) hx hb dX7_narrow_23 (by decide) ?_
    refine lv_aload_n hx hb dX7_narrow_24 rfl (lv_at hl 0 rfl) ?_
    refine va_get (D := (dC, dI)) (ci := 7) (v := .int iV_holders) (C := RX7) (T := TX7) (N := 20) hx hb hts iwsMX7_narrow_in7 hown hK hP 0 rfl rfl 0 (by decide) (hts (.fieldLink RX7 59 "OptimaWorks$ValueDesk" "holders" "I") (by decide +kernel)) (fun _ h9 => h9) rfl dX7_narrow_25 ?_
    refine va_copyi hx hb (by rw [hml]; exact hl.1.symm) hown (hts (.methodLink RX7 83 arraycopyName) (by decide +kernel)) (hts (.native arraycopyName) (by decide +kernel)) (hts (.static arraycopyName) (by decide +kernel)) (hts (.initialized "java/lang/System") (by decide +kernel)) hK hP hD hS 2 9 1 8 rfl rfl rfl rfl rfl (by decide) (by decide) (nn_i rfl (by omega)) (cp_fit (by decide : (0 : Int32).toInt = 0) rfl (by omega) (by omega) (by omega)) (cp_fit (by decide : (0 : Int32).toInt = 0) rfl (by omega) (by omega) (by omega)) (fun i9 h9 => rfl) (by decide +kernel) (Nat.le_of_ble_eq_true rfl) dX7_narrow_28 (fun H locs hP hD hS => ?_)
    obtain ⟨u1, hu1⟩ : ∃ f9, f9 = va_cpy fV_domain fV_now (0 : Int32).toNatClampNeg (0 : Int32).toNatClampNeg (iV_holders).toNatClampNeg := ⟨_, rfl⟩
    have hP : va_P (dC, dI) vwCl (WV hV aV kV iV_holders iV_rules fV_pairs fV_domain fV_kind fV_a fV_b fV_c fV_rulePairs fV_lastHolder u1 p1 iV_changed gV_fore gV_back fV_together fV_member gV_list dV_list nV_list iV_listed iV_listDone) H := by rw [hu1]; exact hP
    have hD : va_D A (WV hV aV kV iV_holders iV_rules fV_pairs fV_domain fV_kind fV_a fV_b fV_c fV_rulePairs fV_lastHolder u1 p1 iV_changed gV_fore gV_back fV_together fV_member gV_list dV_list nV_list iV_listed iV_listDone) := by rw [hu1]; exact hD
    clear hu1
    refine lv_aload_n hx hb dX7_narrow_31 rfl (lv_at hl 0 rfl) ?_
    refine lv_iconst (v := 1) hx hb dX7_narrow_32 (by decide) ?_
    refine va_put (D := (dC, dI)) (ci := 7) (v := .int 1) (ty := .boolean) (C := RX7) (T := TX7) (N := 20) hx hb hts iwsMX7_narrow_in7 tyX7 tyX7_ok nmX7 hown hK hP hD hS 0 rfl rfl 12 (by decide) (hts _ hm_m_X7_narrow_2) (fun _ h9 => h9) rfl (by decide +kernel) rfl rfl (Nat.le_of_ble_eq_true rfl) dX7_narrow_33 (fun H locs hP hD hS => ?_)
    have hP : va_P (dC, dI) vwCl (WV hV aV kV iV_holders iV_rules fV_pairs fV_domain fV_kind fV_a fV_b fV_c fV_rulePairs fV_lastHolder u1 p1 1 gV_fore gV_back fV_together fV_member gV_list dV_list nV_list iV_listed iV_listDone) H := hP
    have hD := fz_sd hP (hD) rfl
    refine lv_iconst (v := 0) hx hb dX7_narrow_36 (by decide) ?_
    refine lv_istore_n hx hb dX7_narrow_37 rfl hl (by decide) rfl (fun ls (hl : lv_has ls _ ([(2, .int 0), (0, .ref (hV 0)), (1, .int p1)])) => ?_)
    have hl : lv_has _ _ ([(2, .int 0), (0, .ref (hV 0)), (1, .int p1)]) := lv_sub hl [0, 1, 2] rfl
    refine (fun (loop : ∀ (n9 : Nat) (fV_now_x38 : Nat → Int32) (iV_changed_x38 : Int32) (gV_fore_x38 : Nat → Int64) (gV_back_x38 : Nat → Int64) (fV_together_x38 : Nat → Int32) (fV_member_x38 : Nat → Int32) (l2_x38 : Int32) (H : Heap) (locs : List Loc) (ls : Array Slot), (0 ≤ iV_changed_x38.toInt ∧ iV_changed_x38.toInt ≤ 1) → (∀ q : Nat, (-1) ≤ (fV_member_x38 q).toInt ∧ (fV_member_x38 q).toInt ≤ 15) → (0 ≤ l2_x38.toInt ∧ l2_x38.toInt ≤ 161) → (161 - l2_x38.toInt < ((n9 : Nat) : Int)) → va_P (dC, dI) vwCl (WV hV aV kV iV_holders iV_rules fV_pairs fV_domain fV_kind fV_a fV_b fV_c fV_rulePairs fV_lastHolder fV_now_x38 p1 iV_changed_x38 gV_fore_x38 gV_back_x38 fV_together_x38 fV_member_x38 gV_list dV_list nV_list iV_listed iV_listDone) H → va_D A (WV hV aV kV iV_holders iV_rules fV_pairs fV_domain fV_kind fV_a fV_b fV_c fV_rulePairs fV_lastHolder fV_now_x38 p1 iV_changed_x38 gV_fore_x38 gV_back_x38 fV_together_x38 fV_member_x38 gV_list dV_list nV_list iV_listed iV_listDone) → va_S A s.heap H locs → lv_has ls 4 [(2, .int l2_x38), (0, .ref (hV 0)), (1, .int p1)] → W p l e _ s m _ below meth c H locs 0 0 _ (F0 m 38 ls [])) => loop (162) u1 1 gV_fore gV_back fV_together fV_member 0 _ _ _ (show 0 ≤ (1 : Int32).toInt ∧ (1 : Int32).toInt ≤ 1 from by decide) b_fV_member (show 0 ≤ (0 : Int32).toInt ∧ (0 : Int32).toInt ≤ 161 from by decide) ((by have e9 : (0 : Int32).toInt = 0 := (by decide : (0 : Int32).toInt = 0); omega)) hP hD hS hl) ?_
    intro n9
    induction n9 with
    | zero => intro fV_now_x38 iV_changed_x38 gV_fore_x38 gV_back_x38 fV_together_x38 fV_member_x38 l2_x38 H locs ls b_iV_changed_x38 b_fV_member_x38 b_l2_x38 hf9; exact False.elim (by omega)
    | succ n9 ihx38 =>
      intro fV_now_x38 iV_changed_x38 gV_fore_x38 gV_back_x38 fV_together_x38 fV_member_x38 l2_x38 H locs ls b_iV_changed_x38 b_fV_member_x38 b_l2_x38 hfx38 hP hD hS hl
      refine lv_iload_n hx hb dX7_narrow_38 rfl (lv_at hl 0 rfl) ?_
      refine lv_sipush (v := 160) hx hb dX7_narrow_39 (by decide) ?_
      refine lv_icmp_gt (tgt := 108) hx hb dX7_narrow_42 (by decide) (fun c_42 => ?_) (fun c_42 => ?_)
      · have t_42 : l2_x38.toInt > 160 := toI_gt c_42 rfl (by decide : (160 : Int32).toInt = 160)
        refine W.widen (k := 0) (n := 0) (by decide +kernel) (by decide +kernel) ?_
        exact W.vret hx hb hr (fun t9_ ht hW => ⟨⟨(fV_now_x38, p1, iV_changed_x38, gV_fore_x38, gV_back_x38, fV_together_x38, fV_member_x38), rfl, ⟨b_iV_changed_x38, b_fV_member_x38⟩, by rw [ht]; exact hP, hD⟩, hS.F ht⟩) hS.2.2 dX7_narrow_108
      · have t_42 : ¬ l2_x38.toInt > 160 := toI_ngt c_42 rfl (by decide : (160 : Int32).toInt = 160)
        refine lv_aload_n hx hb dX7_narrow_45 rfl (lv_at hl 1 rfl) ?_
        refine va_get (D := (dC, dI)) (ci := 7) (v := .int iV_changed_x38) (C := RX7) (T := TX7) (N := 20) hx hb hts iwsMX7_narrow_in7 hown hK hP 0 rfl rfl 12 (by decide) (hts _ hm_m_X7_narrow_2) (fun _ h9 => h9) rfl dX7_narrow_46 ?_
        refine lv_if_eq (tgt := 108) hx hb dX7_narrow_49 (by decide) (fun c_49 => ?_) (fun c_49 => ?_)
        · have t_49 : iV_changed_x38.toInt = 0 := toI_eq c_49 rfl (by decide : (0 : Int32).toInt = 0)
          refine W.widen (k := 0) (n := 0) (by decide +kernel) (by decide +kernel) ?_
          exact W.vret hx hb hr (fun t9_ ht hW => ⟨⟨(fV_now_x38, p1, iV_changed_x38, gV_fore_x38, gV_back_x38, fV_together_x38, fV_member_x38), rfl, ⟨b_iV_changed_x38, b_fV_member_x38⟩, by rw [ht]; exact hP, hD⟩, hS.F ht⟩) hS.2.2 dX7_narrow_108
        · have t_49 : ¬ iV_changed_x38.toInt = 0 := toI_neq c_49 rfl (by decide : (0 : Int32).toInt = 0)
          refine lv_aload_n hx hb dX7_narrow_52 rfl (lv_at hl 1 rfl) ?_
          refine lv_iconst (v := 0) hx hb dX7_narrow_53 (by decide) ?_
          refine va_put (D := (dC, dI)) (ci := 7) (v := .int 0) (ty := .boolean) (C := RX7) (T := TX7) (N := 20) hx hb hts iwsMX7_narrow_in7 tyX7 tyX7_ok nmX7 hown hK hP hD hS 0 rfl rfl 12 (by decide) (hts _ hm_m_X7_narrow_2) (fun _ h9 => h9) rfl (by decide +kernel) rfl rfl (Nat.le_of_ble_eq_true rfl) dX7_narrow_54 (fun H locs hP hD hS => ?_)
          have hP : va_P (dC, dI) vwCl (WV hV aV kV iV_holders iV_rules fV_pairs fV_domain fV_kind fV_a fV_b fV_c fV_rulePairs fV_lastHolder fV_now_x38 p1 0 gV_fore_x38 gV_back_x38 fV_together_x38 fV_member_x38 gV_list dV_list nV_list iV_listed iV_listDone) H := hP
          have hD := fz_sd hP (hD) rfl
          refine lv_iconst (v := 0) hx hb dX7_narrow_57 (by decide) ?_
          refine lv_istore_n hx hb dX7_narrow_58 rfl hl (by decide) rfl (fun ls (hl : lv_has ls _ ([(3, .int 0), (2, .int l2_x38), (0, .ref (hV 0)), (1, .int p1)])) => ?_)
          have hl : lv_has _ _ ([(3, .int 0), (2, .int l2_x38), (0, .ref (hV 0)), (1, .int p1)]) := lv_sub hl [0, 1, 2, 3] rfl
          refine (fun (loop : ∀ (n9 : Nat) (fV_now_x59 : Nat → Int32) (iV_changed_x59 : Int32) (gV_fore_x59 : Nat → Int64) (gV_back_x59 : Nat → Int64) (fV_together_x59 : Nat → Int32) (fV_member_x59 : Nat → Int32) (l3_x59 : Int32) (H : Heap) (locs : List Loc) (ls : Array Slot), (0 ≤ iV_changed_x59.toInt ∧ iV_changed_x59.toInt ≤ 1) → (∀ q : Nat, (-1) ≤ (fV_member_x59 q).toInt ∧ (fV_member_x59 q).toInt ≤ 15) → (0 ≤ l3_x59.toInt ∧ l3_x59.toInt ≤ 12) → (12 - l3_x59.toInt < ((n9 : Nat) : Int)) → va_P (dC, dI) vwCl (WV hV aV kV iV_holders iV_rules fV_pairs fV_domain fV_kind fV_a fV_b fV_c fV_rulePairs fV_lastHolder fV_now_x59 p1 iV_changed_x59 gV_fore_x59 gV_back_x59 fV_together_x59 fV_member_x59 gV_list dV_list nV_list iV_listed iV_listDone) H → va_D A (WV hV aV kV iV_holders iV_rules fV_pairs fV_domain fV_kind fV_a fV_b fV_c fV_rulePairs fV_lastHolder fV_now_x59 p1 iV_changed_x59 gV_fore_x59 gV_back_x59 fV_together_x59 fV_member_x59 gV_list dV_list nV_list iV_listed iV_listDone) → va_S A s.heap H locs → lv_has ls 4 [(3, .int l3_x59), (2, .int l2_x38), (0, .ref (hV 0)), (1, .int p1)] → W p l e _ s m _ below meth c H locs 0 0 _ (F0 m 59 ls [])) => loop (13) fV_now_x38 0 gV_fore_x38 gV_back_x38 fV_together_x38 fV_member_x38 0 _ _ _ (show 0 ≤ (0 : Int32).toInt ∧ (0 : Int32).toInt ≤ 1 from by decide) b_fV_member_x38 (show 0 ≤ (0 : Int32).toInt ∧ (0 : Int32).toInt ≤ 12 from by decide) ((by have e9 : (0 : Int32).toInt = 0 := (by decide : (0 : Int32).toInt = 0); omega)) hP hD hS hl) ?_
          intro n9
          induction n9 with
          | zero => intro fV_now_x59 iV_changed_x59 gV_fore_x59 gV_back_x59 fV_together_x59 fV_member_x59 l3_x59 H locs ls b_iV_changed_x59 b_fV_member_x59 b_l3_x59 hf9; exact False.elim (by omega)
          | succ n9 ihx59 =>
            intro fV_now_x59 iV_changed_x59 gV_fore_x59 gV_back_x59 fV_together_x59 fV_member_x59 l3_x59 H locs ls b_iV_changed_x59 b_fV_member_x59 b_l3_x59 hfx59 hP hD hS hl
            refine lv_iload_n hx hb dX7_narrow_59 rfl (lv_at hl 0 rfl) ?_
            refine lv_aload_n hx hb dX7_narrow_60 rfl (lv_at hl 2 rfl) ?_
            refine va_get (D := (dC, dI)) (ci := 7) (v := .int iV_rules) (C := RX7) (T := TX7) (N := 20) hx hb hts iwsMX7_narrow_in7 hown hK hP 0 rfl rfl 1 (by decide) (hts (.fieldLink RX7 62 "OptimaWorks$ValueDesk" "rules" "I") (by decide +kernel)) (fun _ h9 => h9) rfl dX7_narrow_61 ?_
            refine lv_icmp_ge (tgt := 102) hx hb dX7_narrow_64 (by decide) (fun c_64 => ?_) (fun c_64 => ?_)
            · have t_64 : l3_x59.toInt ≥ iV_rules.toInt := toI_ge c_64 rfl rfl
              refine lv_iinc (v := (iI (l2_x38.toInt + 1))) hx hb dX7_narrow_102 hl (k := 1) rfl (iI_add2 (iI_of _) (by decide : (1 : Int32) = iI 1)) (by decide) rfl (fun ls (hl : lv_has ls _ ([(2, .int (iI (l2_x38.toInt + 1))), (3, .int l3_x59), (0, .ref (hV 0)), (1, .int p1)])) => ?_)
              refine lv_goto (tgt := 38) hx hb dX7_narrow_105 (by decide) ?_
              have hl : lv_has _ _ ([(2, .int (iI (l2_x38.toInt + 1))), (0, .ref (hV 0)), (1, .int p1)]) := lv_sub hl [0, 2, 3] rfl
              exact ihx38 fV_now_x59 iV_changed_x59 gV_fore_x59 gV_back_x59 fV_together_x59 fV_member_x59 (iI (l2_x38.toInt + 1)) _ _ _ (b_iV_changed_x59) b_fV_member_x59 (iI_rng (Int.le_trans (by decide) (Int.add_le_add (b_l2_x38.1) (Int.le_refl _))) (by omega) (by decide) (by decide)) (by have e9 : ((iI (l2_x38.toInt + 1))).toInt = (l2_x38.toInt + 1) := (iI_t (Int.le_trans (by decide) (Int.add_le_add (b_l2_x38.1) (Int.le_refl _))) (Int.le_trans (Int.add_le_add (b_l2_x38.2) (Int.le_refl _)) (by decide))); omega) hP hD hS hl
            · have t_64 : ¬ l3_x59.toInt ≥ iV_rules.toInt := toI_nge c_64 rfl rfl
              refine lv_iload_n hx hb dX7_narrow_67 rfl (lv_at hl 3 rfl) ?_
              refine lv_iload_n hx hb dX7_narrow_68 rfl (lv_at hl 0 rfl) ?_
              refine lv_ishr hx hb dX7_narrow_69 ?_
              refine lv_topi (fun v42 hv42 => ?_)
              clear hv42
              refine lv_iconst (v := 1) hx hb dX7_narrow_70 (by decide) ?_
              refine lv_iand hx hb dX7_narrow_71 ?_
              refine lv_topi (fun v43 hv43 => ?_)
              have b_v43 : 0 ≤ v43.toInt ∧ v43.toInt ≤ 1 := by rw [hv43]; exact and_rng _ (by decide) (by decide)
              clear hv43
              refine lv_if_eq (tgt := 96) hx hb dX7_narrow_72 (by decide) (fun c_72 => ?_) (fun c_72 => ?_)
              · have t_72 : v43.toInt = 0 := toI_eq c_72 rfl (by decide : (0 : Int32).toInt = 0)
                refine lv_iinc (v := (iI (l3_x59.toInt + 1))) hx hb dX7_narrow_96 hl (k := 0) rfl (iI_add2 (iI_of _) (by decide : (1 : Int32) = iI 1)) (by decide) rfl (fun ls (hl : lv_has ls _ ([(3, .int (iI (l3_x59.toInt + 1))), (2, .int l2_x38), (0, .ref (hV 0)), (1, .int p1)])) => ?_)
                refine lv_goto (tgt := 59) hx hb dX7_narrow_99 (by decide) ?_
                have hl : lv_has _ _ ([(3, .int (iI (l3_x59.toInt + 1))), (2, .int l2_x38), (0, .ref (hV 0)), (1, .int p1)]) := lv_sub hl [0, 1, 2, 3] rfl
                exact ihx59 fV_now_x59 iV_changed_x59 gV_fore_x59 gV_back_x59 fV_together_x59 fV_member_x59 (iI (l3_x59.toInt + 1)) _ _ _ (b_iV_changed_x59) b_fV_member_x59 (iI_rng (Int.le_trans (by decide) (Int.add_le_add (b_l3_x59.1) (Int.le_refl _))) (by omega) (by decide) (by decide)) (by have e9 : ((iI (l3_x59.toInt + 1))).toInt = (l3_x59.toInt + 1) := (iI_t (Int.le_trans (by decide) (Int.add_le_add (b_l3_x59.1) (Int.le_refl _))) (Int.le_trans (Int.add_le_add (b_l3_x59.2) (Int.le_refl _)) (by decide))); omega) hP hD hS hl
              · have t_72 : ¬ v43.toInt = 0 := toI_neq c_72 rfl (by decide : (0 : Int32).toInt = 0)
                refine lv_aload_n hx hb dX7_narrow_75 rfl (lv_at hl 2 rfl) ?_
                refine lv_iload_n hx hb dX7_narrow_76 rfl (lv_at hl 0 rfl) ?_
                have hFc := allFree hD hS hA
                refine va_callv (va_runV (As := [.int l3_x59]) (rest := []) ⟨hx, hb, hml, hown, hts⟩ (m_X7_narrowBy l dC dI hV aV kV iV_holders iV_rules fV_pairs fV_domain fV_kind fV_a fV_b fV_c fV_rulePairs fV_lastHolder fV_now_x59 p1 iV_changed_x59 gV_fore_x59 gV_back_x59 fV_together_x59 fV_member_x59 gV_list dV_list nV_list iV_listed iV_listDone l3_x59 (b_iV_holders) (b_iV_rules) b_fV_kind (b_iV_changed_x59) b_fV_member_x59 (by first | exact b_nV_list | with_reducible assumption | exact ⟨by omega, by omega⟩ | assumption) (b_iV_listed) (b_iV_listDone) (by first | with_reducible assumption | omega | assumption) (by first | with_reducible assumption | omega | assumption) (by first | exact b_l3_x59 | with_reducible assumption | exact ⟨by omega, by omega⟩ | assumption) H.size) (cwV 1 hts gwsMX7_narrow_0 rfl rfl rfl hd_yX7_narrowBy_RX7 (by decide +kernel)) (fz_pre (va_recv hK hP (ci := 7) (q0 := 0) rfl rfl) hP hK hD) rfl rfl hl.1 rfl (lv_room (Nat.le_of_ble_eq_true rfl)) dX7_narrow_77 (by decide +kernel)) hS (fun q _ h => hFc q h) hFc (fun u t9_ H locs ht hvm hw9 hB9 hz1 hk1 hS => ?_)
                revert u hw9 hB9
                refine fz_p6 ?_
                intro fV_now_44 iV_changed_44 gV_fore_44 gV_back_44 fV_together_44 fV_member_44 hw9 hB9
                try dsimp only at hw9 hB9
                revert hw9
                refine fz_a2 ?_
                intro b_iV_changed_44 b_fV_member_44
                have hP : va_P (dC, dI) vwCl (WV hV aV kV iV_holders iV_rules fV_pairs fV_domain fV_kind fV_a fV_b fV_c fV_rulePairs fV_lastHolder fV_now_44 p1 iV_changed_44 gV_fore_44 gV_back_44 fV_together_44 fV_member_44 gV_list dV_list nV_list iV_listed iV_listDone) H := fz_P ht hB9.1
                have hD := fz_sd hP (hB9.2.weaken (fun _ q _ h => hFc q.1 h)) rfl
                refine lv_aload_n hx hb dX7_narrow_80 rfl (lv_at hl 2 rfl) ?_
                have hFc := allFree hD hS hA
                refine va_calli (va_runV (As := []) (rest := []) ⟨hx, hb, hml, hown, hts⟩ (m_X7_isAnyEmpty l dC dI hV aV kV iV_holders iV_rules fV_pairs fV_domain fV_kind fV_a fV_b fV_c fV_rulePairs fV_lastHolder fV_now_44 p1 iV_changed_44 gV_fore_44 gV_back_44 fV_together_44 fV_member_44 gV_list dV_list nV_list iV_listed iV_listDone (b_iV_holders) (b_iV_rules) b_fV_kind (b_iV_changed_44) b_fV_member_44 (by first | exact b_nV_list | with_reducible assumption | exact ⟨by omega, by omega⟩ | assumption) (b_iV_listed) (b_iV_listDone) (by first | with_reducible assumption | omega | assumption) (by first | with_reducible assumption | omega | assumption) H.size) (cwV 0 hts gwsMX7_narrow_1 rfl rfl rfl hd_yX7_isAnyEmpty_RX7 (by decide +kernel)) (fz_pre (va_recv hK hP (ci := 7) (q0 := 0) rfl rfl) hP hK hD) rfl rfl hl.1 rfl (lv_room (Nat.le_of_ble_eq_true rfl)) dX7_narrow_81 (by decide +kernel)) hS (fun q _ h => hFc q h) hFc (fun r45 u t9_ H locs ht hvm hw9 hB9 hz1 hk1 hS => ?_)
                have b_r45 := hw9
                try dsimp only at b_r45
                have hP : va_P (dC, dI) vwCl (WV hV aV kV iV_holders iV_rules fV_pairs fV_domain fV_kind fV_a fV_b fV_c fV_rulePairs fV_lastHolder fV_now_44 p1 iV_changed_44 gV_fore_44 gV_back_44 fV_together_44 fV_member_44 gV_list dV_list nV_list iV_listed iV_listDone) H := fz_P ht hB9.1
                have hD := fz_sd hP (hB9.2.weaken (fun _ q _ h => hFc q.1 h)) rfl
                refine lv_if_eq (tgt := 96) hx hb dX7_narrow_84 (by decide) (fun c_84 => ?_) (fun c_84 => ?_)
                · have t_84 : r45.toInt = 0 := toI_eq c_84 rfl (by decide : (0 : Int32).toInt = 0)
                  refine lv_iinc (v := (iI (l3_x59.toInt + 1))) hx hb dX7_narrow_96 hl (k := 0) rfl (iI_add2 (iI_of _) (by decide : (1 : Int32) = iI 1)) (by decide) rfl (fun ls (hl : lv_has ls _ ([(3, .int (iI (l3_x59.toInt + 1))), (2, .int l2_x38), (0, .ref (hV 0)), (1, .int p1)])) => ?_)
                  refine lv_goto (tgt := 59) hx hb dX7_narrow_99 (by decide) ?_
                  have hl : lv_has _ _ ([(3, .int (iI (l3_x59.toInt + 1))), (2, .int l2_x38), (0, .ref (hV 0)), (1, .int p1)]) := lv_sub hl [0, 1, 2, 3] rfl
                  exact ihx59 fV_now_44 iV_changed_44 gV_fore_44 gV_back_44 fV_together_44 fV_member_44 (iI (l3_x59.toInt + 1)) _ _ _ (b_iV_changed_44) b_fV_member_44 (iI_rng (Int.le_trans (by decide) (Int.add_le_add (b_l3_x59.1) (Int.le_refl _))) (by omega) (by decide) (by decide)) (by have e9 : ((iI (l3_x59.toInt + 1))).toInt = (l3_x59.toInt + 1) := (iI_t (Int.le_trans (by decide) (Int.add_le_add (b_l3_x59.1) (Int.le_refl _))) (Int.le_trans (Int.add_le_add (b_l3_x59.2) (Int.le_refl _)) (by decide))); omega) hP hD hS hl
                · have t_84 : ¬ r45.toInt = 0 := toI_neq c_84 rfl (by decide : (0 : Int32).toInt = 0)
                  refine lv_aload_n hx hb dX7_narrow_87 rfl (lv_at hl 2 rfl) ?_
                  refine va_get (D := (dC, dI)) (ci := 7) (v := .ref (aV 8)) (C := RX7) (T := TX7) (N := 20) hx hb hts iwsMX7_narrow_in7 hown hK hP 0 rfl rfl 10 (by decide) (hts _ hm_m_X7_narrow_1) (fun _ h9 => h9) rfl dX7_narrow_88 ?_
                  refine lv_iconst (v := 0) hx hb dX7_narrow_91 (by decide) ?_
                  have hPc : va_P (dC, dI) vwCl (WY (fun _ => 0) (fun _ => aV 8) (fun _ => kV 8) 10 fV_now_44) _ := hP.sub [9] rfl
                  have hDc : va_D _ (WY (fun _ => 0) (fun _ => aV 8) (fun _ => kV 8) 10 fV_now_44) := hD.sub [9] (by decide) rfl
                  have hKc : va_K (dC, dI) vwCl (tY (fun _ => kV 8)) _ := hK.sub [8] rfl
                  have hFc := va_free (wc := WY (fun _ => 0) (fun _ => aV 8) (fun _ => kV 8) 10 fV_now_44) hD hS hA [9] rfl
                  refine va_callv (va_runS (As := [.ref (aV 8), .int 0]) (rest := []) ⟨hx, hb, hml, hown, hts⟩ (m_J7_fill_53178 l dC dI (fun _ => 0) (fun _ => aV 8) (fun _ => kV 8) 10 fV_now_44 0 (by first | assumption | exact ⟨by omega, by omega⟩) H.size) (va_cwS 2 hts gwsMX7_narrow_2 rfl rfl rfl (by decide +kernel) ⟨by decide +kernel, by decide +kernel⟩) ⟨fun a U g mk q => by obtain ⟨q0, q1, qP, qK, qD⟩ := q; exact ⟨q0, q1, qP, va_K.moved (u := U) (U := U.calling g mk a) (Vm.Alike.refl U.vm) qK, qD⟩, fun U hU9 hW => ⟨rfl, by rw [hU9], by rw [hU9]; exact hPc, va_K.moved hW.alike hKc, hDc.weaken (fun _ _ _ _ => trivial)⟩⟩ rfl rfl hl.1 rfl (lv_room (Nat.le_of_ble_eq_true rfl)) dX7_narrow_92 (by decide +kernel)) hS (fun q _ h => hFc q h) hFc (fun fY_46 t9_ H locs ht hvm hw9 hB9 hz1 hk1 hS => ?_)
                  have f46_0 := hw9
                  try dsimp only at f46_0
                  obtain ⟨hP, hD⟩ := va_join (wr := [(hV 0, .inr (7, [.int iV_holders, .int iV_rules, .ref (aV 0), .ref (aV 1), .ref (aV 2), .ref (aV 3), .ref (aV 4), .ref (aV 5), .ref (aV 6), .ref (aV 7), .ref (aV 8), .int p1, .int iV_changed_44, .ref (aV 9), .ref (aV 10), .ref (aV 11), .ref (aV 12), .ref dV_list, .int iV_listed, .int iV_listDone])), (aV 0, .inl (kV 0, 16, .inl fV_pairs)), (aV 1, .inl (kV 1, 10, .inl fV_domain)), (aV 2, .inl (kV 2, 12, .inl fV_kind)), (aV 3, .inl (kV 3, 12, .inl fV_a)), (aV 4, .inl (kV 4, 12, .inl fV_b)), (aV 5, .inl (kV 5, 12, .inl fV_c)), (aV 6, .inl (kV 6, 192, .inl fV_rulePairs)), (aV 7, .inl (kV 7, 12, .inl fV_lastHolder)), (aV 9, .inl (kV 9, 33, .inr (.inl gV_fore_44))), (aV 10, .inl (kV 10, 33, .inr (.inl gV_back_44))), (aV 11, .inl (kV 11, 1024, .inl fV_together_44)), (aV 12, .inl (kV 12, 10, .inl fV_member_44)), (dV_list, .inl (kV 13, nV_list, .inr (.inl gV_list)))]) (w1 := WY (fun _ => 0) (fun _ => aV 8) (fun _ => kV 8) 10 fY_46) hP hD [9] [0, 1, 2, 3, 4, 5, 6, 7, 8, 10, 11, 12, 13, 14] rfl rfl (by decide) (by decide) hk1 hFc (fz_P ht hB9.1) hB9.2
                  have hP : va_P (dC, dI) vwCl (WV hV aV kV iV_holders iV_rules fV_pairs fV_domain fV_kind fV_a fV_b fV_c fV_rulePairs fV_lastHolder fY_46 p1 iV_changed_44 gV_fore_44 gV_back_44 fV_together_44 fV_member_44 gV_list dV_list nV_list iV_listed iV_listDone) H := hP.sub [0, 1, 2, 3, 4, 5, 6, 7, 8, 14, 9, 10, 11, 12, 13] rfl
                  have hD : va_D A (WV hV aV kV iV_holders iV_rules fV_pairs fV_domain fV_kind fV_a fV_b fV_c fV_rulePairs fV_lastHolder fY_46 p1 iV_changed_44 gV_fore_44 gV_back_44 fV_together_44 fV_member_44 gV_list dV_list nV_list iV_listed iV_listDone) := hD.sub [0, 1, 2, 3, 4, 5, 6, 7, 8, 14, 9, 10, 11, 12, 13] (by decide) rfl
                  refine W.widen (k := 0) (n := 0) (by decide +kernel) (by decide +kernel) ?_
                  exact W.vret hx hb hr (fun t9_ ht hW => ⟨⟨(fY_46, p1, iV_changed_44, gV_fore_44, gV_back_44, fV_together_44, fV_member_44), rfl, ⟨b_iV_changed_44, b_fV_member_44⟩, by rw [ht]; exact hP, hD⟩, hS.F ht⟩) hS.2.2 dX7_narrow_95
  · have t_5 : iV_doneFor.toInt = p1.toInt := toI_nne c_5 rfl rfl
    refine W.widen (k := 0) (n := 0) (by decide +kernel) (by decide +kernel) ?_
    exact W.vret hx hb hr (fun t9_ ht hW => ⟨⟨(fV_now, iV_doneFor, iV_changed, gV_fore, gV_back, fV_together, fV_member), rfl, ⟨b_iV_changed, b_fV_member⟩, by rw [ht]; exact hP, hD⟩, hS.F ht⟩) hS.2.2 dX7_narrow_8
theorem dX7_leftOf_0 : decode cX7_leftOf 0 = .ok (.aload_n 0, 1) := dk_42 (by decide +kernel)
theorem dX7_leftOf_1 : decode cX7_leftOf 1 = .ok (.iconst 1, 1) := dk_4 (by decide +kernel)
theorem dX7_leftOf_2 : decode cX7_leftOf 2 = .ok (.aload_n 0, 1) := dk_42 (by decide +kernel)
theorem dX7_leftOf_3 : decode cX7_leftOf 3 = .ok (.getfield 62, 3) := dk_180 (by decide +kernel)
theorem dX7_leftOf_6 : decode cX7_leftOf 6 = .ok (.ishl, 1) := dk_120 (by decide +kernel)
theorem dX7_leftOf_7 : decode cX7_leftOf 7 = .ok (.iconst 1, 1) := dk_4 (by decide +kernel)
theorem dX7_leftOf_8 : decode cX7_leftOf 8 = .ok (.isub, 1) := dk_100 (by decide +kernel)
theorem dX7_leftOf_9 : decode cX7_leftOf 9 = .ok (.invokevirtual 99, 3) := dk_182 (by decide +kernel)
theorem dX7_leftOf_12 : decode cX7_leftOf 12 = .ok (.aload_n 0, 1) := dk_42 (by decide +kernel)
theorem dX7_leftOf_13 : decode cX7_leftOf 13 = .ok (.getfield 36, 3) := dk_180 (by decide +kernel)
theorem dX7_leftOf_16 : decode cX7_leftOf 16 = .ok (.iload_n 1, 1) := dk_27 (by decide +kernel)
theorem dX7_leftOf_17 : decode cX7_leftOf 17 = .ok (.iaload, 1) := dk_46 (by decide +kernel)
theorem dX7_leftOf_18 : decode cX7_leftOf 18 = .ok (.ireturn, 1) := dk_172 (by decide +kernel)
def wsMX7_leftOf : List Cond := .code yX7_leftOf cX7_leftOf 2 (some .int) :: ([.fieldLink RX7 62 "OptimaWorks$ValueDesk" "rules" "I", .fieldLink RX7 36 "OptimaWorks$ValueDesk" "now" "[I"] ++ wsX70 ++ (wsV RX7 99 RX7 yX7_narrow wsMX7_narrow))
theorem iwsMX7_leftOf_in7 : ∀ w ∈ wsX70, w ∈ wsMX7_leftOf := fun _ h => List.mem_cons_of_mem _ (List.mem_append_left _ (List.mem_append_right _ h))
theorem gwsMX7_leftOf_0 : GoodIn wsMX7_leftOf (wsV RX7 99 RX7 yX7_narrow wsMX7_narrow) := goodIn_sub (fun _ h => List.mem_cons_of_mem _ (List.mem_append_right _ h)) (gdV (by decide +kernel) gdwsMX7_narrow)
theorem gdwsMX7_leftOf : wsMX7_leftOf.all goodWord = true := gdC rfl (gdA (gdA (by decide +kernel : ([.fieldLink RX7 62 "OptimaWorks$ValueDesk" "rules" "I", .fieldLink RX7 36 "OptimaWorks$ValueDesk" "now" "[I"] : List Cond).all goodWord = true) gdwsX70) (gdV (by decide +kernel) gdwsMX7_narrow))
set_option maxHeartbeats 4000000 in
set_option maxRecDepth 100000 in
/-- what is left of one -/
theorem m_X7_leftOf (l : Launch) (dC : Nat → ClassId) (dI : Nat → Nat → Nat) (hV : Nat → Nat) (aV : Nat → Nat) (kV : Nat → ClassId) (iV_holders : Int32) (iV_rules : Int32) (fV_pairs : Nat → Int32) (fV_domain : Nat → Int32) (fV_kind : Nat → Int32) (fV_a : Nat → Int32) (fV_b : Nat → Int32) (fV_c : Nat → Int32) (fV_rulePairs : Nat → Int32) (fV_lastHolder : Nat → Int32) (fV_now : Nat → Int32) (iV_doneFor : Int32) (iV_changed : Int32) (gV_fore : Nat → Int64) (gV_back : Nat → Int64) (fV_together : Nat → Int32) (fV_member : Nat → Int32) (gV_list : Nat → Int64) (dV_list : Nat) (nV_list : Nat) (iV_listed : Int32) (iV_listDone : Int32) (p1 : Int32) (b_iV_holders : 0 ≤ iV_holders.toInt ∧ iV_holders.toInt ≤ 10) (b_iV_rules : 0 ≤ iV_rules.toInt ∧ iV_rules.toInt ≤ 12) (b_fV_kind : ∀ q : Nat, 0 ≤ (fV_kind q).toInt ∧ (fV_kind q).toInt ≤ 4) (b_iV_changed : 0 ≤ iV_changed.toInt ∧ iV_changed.toInt ≤ 1) (b_fV_member : ∀ q : Nat, (-1) ≤ (fV_member q).toInt ∧ (fV_member q).toInt ≤ 15) (b_nV_list : 0 ≤ nV_list ∧ nV_list ≤ 20000) (b_iV_listed : (-1) ≤ iV_listed.toInt ∧ iV_listed.toInt ≤ 5000) (b_iV_listDone : 0 ≤ iV_listDone.toInt ∧ iV_listDone.toInt ≤ 1) (b_RuV : RuV fV_kind fV_a fV_b fV_c fV_lastHolder) (b_lst : iV_listed.toInt ≤ ((nV_list : Nat) : Int)) (b_p1 : 0 ≤ p1.toInt ∧ p1.toInt ≤ 9) (sz : Nat) : Met l yX7_leftOf wsMX7_leftOf ({ frames := 4, cells := 0, slots := 0, locals := 99 }) (va_Pc [.ref (hV 0), .int p1] (fun U => U.heap.size = sz ∧ va_P (dC, dI) vwCl (WV hV aV kV iV_holders iV_rules fV_pairs fV_domain fV_kind fV_a fV_b fV_c fV_rulePairs fV_lastHolder fV_now iV_doneFor iV_changed gV_fore gV_back fV_together fV_member gV_list dV_list nV_list iV_listed iV_listDone) U.heap ∧ va_K (dC, dI) vwCl (tV kV) U ∧ va_D (fun _ => True) (WV hV aV kV iV_holders iV_rules fV_pairs fV_domain fV_kind fV_a fV_b fV_c fV_rulePairs fV_lastHolder fV_now iV_doneFor iV_changed gV_fore gV_back fV_together fV_member gV_list dV_list nV_list iV_listed iV_listDone))) (va_Qi (fun (r : Int32) (u : (Nat → Int32) × (Int32) × (Int32) × (Nat → Int64) × (Nat → Int64) × (Nat → Int32) × (Nat → Int32)) => (0 ≤ (u.2.2.1).toInt ∧ (u.2.2.1).toInt ≤ 1) ∧ (∀ q : Nat, (-1) ≤ ((u.2.2.2.2.2.2) q).toInt ∧ ((u.2.2.2.2.2.2) q).toInt ≤ 15)) (fun (u : (Nat → Int32) × (Int32) × (Int32) × (Nat → Int64) × (Nat → Int64) × (Nat → Int32) × (Nat → Int32)) t => va_P (dC, dI) vwCl (WV hV aV kV iV_holders iV_rules fV_pairs fV_domain fV_kind fV_a fV_b fV_c fV_rulePairs fV_lastHolder (u.1) (u.2.1) (u.2.2.1) (u.2.2.2.1) (u.2.2.2.2.1) (u.2.2.2.2.2.1) (u.2.2.2.2.2.2) gV_list dV_list nV_list iV_listed iV_listDone) t.heap ∧ va_D (va_A (WV hV aV kV iV_holders iV_rules fV_pairs fV_domain fV_kind fV_a fV_b fV_c fV_rulePairs fV_lastHolder fV_now iV_doneFor iV_changed gV_fore gV_back fV_together fV_member gV_list dV_list nV_list iV_listed iV_listDone) sz) (WV hV aV kV iV_holders iV_rules fV_pairs fV_domain fV_kind fV_a fV_b fV_c fV_rulePairs fV_lastHolder (u.1) (u.2.1) (u.2.2.1) (u.2.2.2.1) (u.2.2.2.2.1) (u.2.2.2.2.2.1) (u.2.2.2.2.2.2) gV_list dV_list nV_list iV_listed iV_listDone)) (va_A (WV hV aV kV iV_holders iV_rules fV_pairs fV_domain fV_kind fV_a fV_b fV_c fV_rulePairs fV_lastHolder fV_now iV_doneFor iV_changed gV_fore gV_back fV_together fV_member gV_list dV_list nV_list iV_listed iV_listDone) sz)) 0 0 (va_A (WV hV aV kV iV_holders iV_rules fV_pairs fV_domain fV_kind fV_a fV_b fV_c fV_rulePairs fV_lastHolder fV_now iV_doneFor iV_changed gV_fore gV_back fV_together fV_member gV_list dV_list nV_list iV_listed iV_listDone) sz) := by
  refine Met.ofW (cc := cX7_leftOf) (maxL := 2) (ret := (some .int)) (by decide) rfl ?_
  intro p e s m args below meth c s₁ B hml hv
  obtain ⟨rfl, hsz, hP, hK, hD0⟩ := hv
  have hx := B.exec
  have hb := B.bytes
  have hr := B.returns
  have hts := atoms_spec (ws := wsMX7_leftOf) B.pre
  have hown : s.vm.findClass RX7 = some m.cls := findClass_of_methodNamed B.named
  have hlocks := B.notSynchronized
  subst hsz
  have hD := hD0.self (sz := s.heap.size)
  generalize hAe : va_A (WV hV aV kV iV_holders iV_rules fV_pairs fV_domain fV_kind fV_a fV_b fV_c fV_rulePairs fV_lastHolder fV_now iV_doneFor iV_changed gV_fore gV_back fV_together fV_member gV_list dV_list nV_list iV_listed iV_listDone) s.heap.size = A at hD ⊢
  have hA : ∀ q : Nat, s.heap.size ≤ q → A q := fun q h => by rw [← hAe]; exact Or.inr h
  have hS : va_S A s.heap s.heap [] := va_S.rf
  have hl := lv_entry ([.ref (hV 0), .int p1]) (n := 2) (Nat.le_of_ble_eq_true rfl)
  rw [lg_entry_eq]
  generalize (lg_sl ([.ref (hV 0), .int p1]) ++ List.replicate (2 - (lg_sl ([.ref (hV 0), .int p1])).length) Slot.unset).toArray = ls at hl ⊢
  have hl : lv_has ls 2 [(0, .ref (hV 0)), (1, .int p1)] := hl
  refine lv_aload_n hx hb dX7_leftOf_0 rfl (lv_at hl 0 rfl) ?_
  refine lv_iconst (v := 1) hx hb dX7_leftOf_1 (by decide) ?_
  refine lv_aload_n hx hb dX7_leftOf_2 rfl (lv_at hl 0 rfl) ?_
  refine va_get (D := (dC, dI)) (ci := 7) (v := .int iV_rules) (C := RX7) (T := TX7) (N := 20) hx hb hts iwsMX7_leftOf_in7 hown hK hP 0 rfl rfl 1 (by decide) (hts (.fieldLink RX7 62 "OptimaWorks$ValueDesk" "rules" "I") (by decide +kernel)) (fun _ h9 => h9) rfl dX7_leftOf_3 ?_
  refine lv_ishl hx hb dX7_leftOf_6 ?_
  refine lv_topi (fun v1 hv1 => ?_)
  clear hv1
  refine lv_iconst (v := 1) hx hb dX7_leftOf_7 (by decide) ?_
  refine lv_isub hx hb dX7_leftOf_8 ?_
  refine lv_topi (fun y2 hy2 => ?_)
  obtain rfl : (iI (v1.toInt - 1)) = y2 := (hy2.trans (iI_sub2 (iI_of _) (by decide : (1 : Int32) = iI 1))).symm
  have hFc := allFree hD hS hA
  refine va_callv (va_runV (As := [.int (iI (v1.toInt - 1))]) (rest := []) ⟨hx, hb, hml, hown, hts⟩ (m_X7_narrow l dC dI hV aV kV iV_holders iV_rules fV_pairs fV_domain fV_kind fV_a fV_b fV_c fV_rulePairs fV_lastHolder fV_now iV_doneFor iV_changed gV_fore gV_back fV_together fV_member gV_list dV_list nV_list iV_listed iV_listDone (iI (v1.toInt - 1)) (b_iV_holders) (b_iV_rules) b_fV_kind (b_iV_changed) b_fV_member (by first | exact b_nV_list | with_reducible assumption | exact ⟨by omega, by omega⟩ | assumption) (b_iV_listed) (b_iV_listDone) (by first | with_reducible assumption | omega | assumption) (by first | with_reducible assumption | omega | assumption) s.heap.size) (cwV 1 hts gwsMX7_leftOf_0 rfl rfl rfl hd_yX7_narrow_RX7 (by decide +kernel)) (fz_pre (va_recv hK hP (ci := 7) (q0 := 0) rfl rfl) hP hK hD) rfl rfl hl.1 rfl (lv_room (Nat.le_of_ble_eq_true rfl)) dX7_leftOf_9 (by decide +kernel)) hS (fun q _ h => hFc q h) hFc (fun u t9_ H locs ht hvm hw9 hB9 hz1 hk1 hS => ?_)
  revert u hw9 hB9
  refine fz_p7 ?_
  intro fV_now_3 iV_doneFor_3 iV_changed_3 gV_fore_3 gV_back_3 fV_together_3 fV_member_3 hw9 hB9
  try dsimp only at hw9 hB9
  revert hw9
  refine fz_a2 ?_
  intro b_iV_changed_3 b_fV_member_3
  have hP : va_P (dC, dI) vwCl (WV hV aV kV iV_holders iV_rules fV_pairs fV_domain fV_kind fV_a fV_b fV_c fV_rulePairs fV_lastHolder fV_now_3 iV_doneFor_3 iV_changed_3 gV_fore_3 gV_back_3 fV_together_3 fV_member_3 gV_list dV_list nV_list iV_listed iV_listDone) H := fz_P ht hB9.1
  have hD := fz_sd hP (hB9.2.weaken (fun _ q _ h => hFc q.1 h)) rfl
  refine lv_aload_n hx hb dX7_leftOf_12 rfl (lv_at hl 0 rfl) ?_
  refine va_get (D := (dC, dI)) (ci := 7) (v := .ref (aV 8)) (C := RX7) (T := TX7) (N := 20) hx hb hts iwsMX7_leftOf_in7 hown hK hP 0 rfl rfl 10 (by decide) (hts (.fieldLink RX7 36 "OptimaWorks$ValueDesk" "now" "[I") (by decide +kernel)) (fun _ h9 => h9) rfl dX7_leftOf_13 ?_
  refine lv_iload_n hx hb dX7_leftOf_16 rfl (lv_at hl 1 rfl) ?_
  refine va_iald (cA := kV 8) (n := 10) (f := fV_now_3) hx hb hK hP 9 8 rfl rfl (vp_in_iff.mpr ⟨b_p1.1, (Int.lt_of_le_of_lt (b_p1.2) (by decide))⟩) dX7_leftOf_17 ?_
  refine lv_topi (fun v4 hv4 => ?_)
  clear hv4
  refine W.widen (k := 0) (n := 0) (by decide +kernel) (by decide +kernel) ?_
  exact W.iret (v := v4) hx hb hr (fun t9_ ht hW => ⟨⟨v4, (fV_now_3, iV_doneFor_3, iV_changed_3, gV_fore_3, gV_back_3, fV_together_3, fV_member_3), rfl, ⟨b_iV_changed_3, b_fV_member_3⟩, by rw [ht]; exact hP, hD⟩, hS.F ht⟩) hS.2.2 dX7_leftOf_18
theorem dX7_reasonFor_0 : decode cX7_reasonFor 0 = .ok (.aload_n 0, 1) := dk_42 (by decide +kernel)
theorem dX7_reasonFor_1 : decode cX7_reasonFor 1 = .ok (.getfield 15, 3) := dk_180 (by decide +kernel)
theorem dX7_reasonFor_4 : decode cX7_reasonFor 4 = .ok (.iload_n 1, 1) := dk_27 (by decide +kernel)
theorem dX7_reasonFor_5 : decode cX7_reasonFor 5 = .ok (.iaload, 1) := dk_46 (by decide +kernel)
theorem dX7_reasonFor_6 : decode cX7_reasonFor 6 = .ok (.iload_n 2, 1) := dk_28 (by decide +kernel)
theorem dX7_reasonFor_7 : decode cX7_reasonFor 7 = .ok (.ishr, 1) := dk_122 (by decide +kernel)
theorem dX7_reasonFor_8 : decode cX7_reasonFor 8 = .ok (.iconst 1, 1) := dk_4 (by decide +kernel)
theorem dX7_reasonFor_9 : decode cX7_reasonFor 9 = .ok (.iand, 1) := dk_126 (by decide +kernel)
theorem dX7_reasonFor_10 : decode cX7_reasonFor 10 = .ok (.ifCond .eq 15, 3) := dk_153 (by decide +kernel)
theorem dX7_reasonFor_13 : decode cX7_reasonFor 13 = .ok (.aload_n 0, 1) := dk_42 (by decide +kernel)
theorem dX7_reasonFor_14 : decode cX7_reasonFor 14 = .ok (.iload_n 1, 1) := dk_27 (by decide +kernel)
theorem dX7_reasonFor_15 : decode cX7_reasonFor 15 = .ok (.invokevirtual 103, 3) := dk_182 (by decide +kernel)
theorem dX7_reasonFor_18 : decode cX7_reasonFor 18 = .ok (.iload_n 2, 1) := dk_28 (by decide +kernel)
theorem dX7_reasonFor_19 : decode cX7_reasonFor 19 = .ok (.ishr, 1) := dk_122 (by decide +kernel)
theorem dX7_reasonFor_20 : decode cX7_reasonFor 20 = .ok (.iconst 1, 1) := dk_4 (by decide +kernel)
theorem dX7_reasonFor_21 : decode cX7_reasonFor 21 = .ok (.iand, 1) := dk_126 (by decide +kernel)
theorem dX7_reasonFor_22 : decode cX7_reasonFor 22 = .ok (.ifCond .eq 5, 3) := dk_153 (by decide +kernel)
theorem dX7_reasonFor_25 : decode cX7_reasonFor 25 = .ok (.iconst (-1), 1) := dk_2 (by decide +kernel)
theorem dX7_reasonFor_26 : decode cX7_reasonFor 26 = .ok (.ireturn, 1) := dk_172 (by decide +kernel)
theorem dX7_reasonFor_27 : decode cX7_reasonFor 27 = .ok (.iconst 1, 1) := dk_4 (by decide +kernel)
theorem dX7_reasonFor_28 : decode cX7_reasonFor 28 = .ok (.aload_n 0, 1) := dk_42 (by decide +kernel)
theorem dX7_reasonFor_29 : decode cX7_reasonFor 29 = .ok (.getfield 62, 3) := dk_180 (by decide +kernel)
theorem dX7_reasonFor_32 : decode cX7_reasonFor 32 = .ok (.ishl, 1) := dk_120 (by decide +kernel)
theorem dX7_reasonFor_33 : decode cX7_reasonFor 33 = .ok (.iconst 1, 1) := dk_4 (by decide +kernel)
theorem dX7_reasonFor_34 : decode cX7_reasonFor 34 = .ok (.isub, 1) := dk_100 (by decide +kernel)
theorem dX7_reasonFor_35 : decode cX7_reasonFor 35 = .ok (.istore_n 3, 1) := dk_62 (by decide +kernel)
theorem dX7_reasonFor_36 : decode cX7_reasonFor 36 = .ok (.aload_n 0, 1) := dk_42 (by decide +kernel)
theorem dX7_reasonFor_37 : decode cX7_reasonFor 37 = .ok (.getfield 62, 3) := dk_180 (by decide +kernel)
theorem dX7_reasonFor_40 : decode cX7_reasonFor 40 = .ok (.iconst 1, 1) := dk_4 (by decide +kernel)
theorem dX7_reasonFor_41 : decode cX7_reasonFor 41 = .ok (.isub, 1) := dk_100 (by decide +kernel)
theorem dX7_reasonFor_42 : decode cX7_reasonFor 42 = .ok (.istore 4, 2) := dk_54 (by decide +kernel)
theorem dX7_reasonFor_44 : decode cX7_reasonFor 44 = .ok (.iload 4, 2) := dk_21 (by decide +kernel)
theorem dX7_reasonFor_46 : decode cX7_reasonFor 46 = .ok (.ifCond .lt 41, 3) := dk_155 (by decide +kernel)
theorem dX7_reasonFor_49 : decode cX7_reasonFor 49 = .ok (.iload_n 3, 1) := dk_29 (by decide +kernel)
theorem dX7_reasonFor_50 : decode cX7_reasonFor 50 = .ok (.iconst 1, 1) := dk_4 (by decide +kernel)
theorem dX7_reasonFor_51 : decode cX7_reasonFor 51 = .ok (.iload 4, 2) := dk_21 (by decide +kernel)
theorem dX7_reasonFor_53 : decode cX7_reasonFor 53 = .ok (.ishl, 1) := dk_120 (by decide +kernel)
theorem dX7_reasonFor_54 : decode cX7_reasonFor 54 = .ok (.iconst (-1), 1) := dk_2 (by decide +kernel)
theorem dX7_reasonFor_55 : decode cX7_reasonFor 55 = .ok (.ixor, 1) := dk_130 (by decide +kernel)
theorem dX7_reasonFor_56 : decode cX7_reasonFor 56 = .ok (.iand, 1) := dk_126 (by decide +kernel)
theorem dX7_reasonFor_57 : decode cX7_reasonFor 57 = .ok (.istore 5, 2) := dk_54 (by decide +kernel)
theorem dX7_reasonFor_59 : decode cX7_reasonFor 59 = .ok (.aload_n 0, 1) := dk_42 (by decide +kernel)
theorem dX7_reasonFor_60 : decode cX7_reasonFor 60 = .ok (.iload 5, 2) := dk_21 (by decide +kernel)
theorem dX7_reasonFor_62 : decode cX7_reasonFor 62 = .ok (.invokevirtual 99, 3) := dk_182 (by decide +kernel)
theorem dX7_reasonFor_65 : decode cX7_reasonFor 65 = .ok (.aload_n 0, 1) := dk_42 (by decide +kernel)
theorem dX7_reasonFor_66 : decode cX7_reasonFor 66 = .ok (.getfield 36, 3) := dk_180 (by decide +kernel)
theorem dX7_reasonFor_69 : decode cX7_reasonFor 69 = .ok (.iload_n 1, 1) := dk_27 (by decide +kernel)
theorem dX7_reasonFor_70 : decode cX7_reasonFor 70 = .ok (.iaload, 1) := dk_46 (by decide +kernel)
theorem dX7_reasonFor_71 : decode cX7_reasonFor 71 = .ok (.iload_n 2, 1) := dk_28 (by decide +kernel)
theorem dX7_reasonFor_72 : decode cX7_reasonFor 72 = .ok (.ishr, 1) := dk_122 (by decide +kernel)
theorem dX7_reasonFor_73 : decode cX7_reasonFor 73 = .ok (.iconst 1, 1) := dk_4 (by decide +kernel)
theorem dX7_reasonFor_74 : decode cX7_reasonFor 74 = .ok (.iand, 1) := dk_126 (by decide +kernel)
theorem dX7_reasonFor_75 : decode cX7_reasonFor 75 = .ok (.ifCond .ne 6, 3) := dk_154 (by decide +kernel)
theorem dX7_reasonFor_78 : decode cX7_reasonFor 78 = .ok (.iload 5, 2) := dk_21 (by decide +kernel)
theorem dX7_reasonFor_80 : decode cX7_reasonFor 80 = .ok (.istore_n 3, 1) := dk_62 (by decide +kernel)
theorem dX7_reasonFor_81 : decode cX7_reasonFor 81 = .ok (.iinc 4 (-1), 3) := dk_132 (by decide +kernel)
theorem dX7_reasonFor_84 : decode cX7_reasonFor 84 = .ok (.goto (-40), 3) := dk_167 (by decide +kernel)
theorem dX7_reasonFor_87 : decode cX7_reasonFor 87 = .ok (.iload_n 3, 1) := dk_29 (by decide +kernel)
theorem dX7_reasonFor_88 : decode cX7_reasonFor 88 = .ok (.ireturn, 1) := dk_172 (by decide +kernel)
def wsMX7_reasonFor : List Cond := .code yX7_reasonFor cX7_reasonFor 6 (some .int) :: ([.fieldLink RX7 15 "OptimaWorks$ValueDesk" "domain" "[I", .fieldLink RX7 62 "OptimaWorks$ValueDesk" "rules" "I", .fieldLink RX7 36 "OptimaWorks$ValueDesk" "now" "[I"] ++ wsX70 ++ (wsV RX7 103 RX7 yX7_leftOf wsMX7_leftOf) ++ (wsV RX7 99 RX7 yX7_narrow wsMX7_narrow))
theorem iwsMX7_reasonFor_in7 : ∀ w ∈ wsX70, w ∈ wsMX7_reasonFor := fun _ h => List.mem_cons_of_mem _ (List.mem_append_left _ (List.mem_append_left _ (List.mem_append_right _ h)))
theorem gwsMX7_reasonFor_0 : GoodIn wsMX7_reasonFor (wsV RX7 103 RX7 yX7_leftOf wsMX7_leftOf) := goodIn_sub (fun _ h => List.mem_cons_of_mem _ (List.mem_append_left _ (List.mem_append_right _ h))) (gdV (by decide +kernel) gdwsMX7_leftOf)
theorem gwsMX7_reasonFor_1 : GoodIn wsMX7_reasonFor (wsV RX7 99 RX7 yX7_narrow wsMX7_narrow) := goodIn_sub (fun _ h => List.mem_cons_of_mem _ (List.mem_append_right _ h)) (gdV (by decide +kernel) gdwsMX7_narrow)
theorem gdwsMX7_reasonFor : wsMX7_reasonFor.all goodWord = true := gdC rfl (gdA (gdA (gdA (by decide +kernel : ([.fieldLink RX7 15 "OptimaWorks$ValueDesk" "domain" "[I", .fieldLink RX7 62 "OptimaWorks$ValueDesk" "rules" "I", .fieldLink RX7 36 "OptimaWorks$ValueDesk" "now" "[I"] : List Cond).all goodWord = true) gdwsX70) (gdV (by decide +kernel) gdwsMX7_leftOf)) (gdV (by decide +kernel) gdwsMX7_narrow))
theorem hm_m_X7_reasonFor_0 : (.fieldLink RX7 62 "OptimaWorks$ValueDesk" "rules" "I" : Cond) ∈ wsMX7_reasonFor := by decide +kernel
set_option maxHeartbeats 4000000 in
set_option maxRecDepth 100000 in
/-- a reason -/
theorem m_X7_reasonFor (l : Launch) (dC : Nat → ClassId) (dI : Nat → Nat → Nat) (hV : Nat → Nat) (aV : Nat → Nat) (kV : Nat → ClassId) (iV_holders : Int32) (iV_rules : Int32) (fV_pairs : Nat → Int32) (fV_domain : Nat → Int32) (fV_kind : Nat → Int32) (fV_a : Nat → Int32) (fV_b : Nat → Int32) (fV_c : Nat → Int32) (fV_rulePairs : Nat → Int32) (fV_lastHolder : Nat → Int32) (fV_now : Nat → Int32) (iV_doneFor : Int32) (iV_changed : Int32) (gV_fore : Nat → Int64) (gV_back : Nat → Int64) (fV_together : Nat → Int32) (fV_member : Nat → Int32) (gV_list : Nat → Int64) (dV_list : Nat) (nV_list : Nat) (iV_listed : Int32) (iV_listDone : Int32) (p1 : Int32) (p2 : Int32) (b_iV_holders : 0 ≤ iV_holders.toInt ∧ iV_holders.toInt ≤ 10) (b_iV_rules : 0 ≤ iV_rules.toInt ∧ iV_rules.toInt ≤ 12) (b_fV_kind : ∀ q : Nat, 0 ≤ (fV_kind q).toInt ∧ (fV_kind q).toInt ≤ 4) (b_iV_changed : 0 ≤ iV_changed.toInt ∧ iV_changed.toInt ≤ 1) (b_fV_member : ∀ q : Nat, (-1) ≤ (fV_member q).toInt ∧ (fV_member q).toInt ≤ 15) (b_nV_list : 0 ≤ nV_list ∧ nV_list ≤ 20000) (b_iV_listed : (-1) ≤ iV_listed.toInt ∧ iV_listed.toInt ≤ 5000) (b_iV_listDone : 0 ≤ iV_listDone.toInt ∧ iV_listDone.toInt ≤ 1) (b_RuV : RuV fV_kind fV_a fV_b fV_c fV_lastHolder) (b_lst : iV_listed.toInt ≤ ((nV_list : Nat) : Int)) (b_p1 : 0 ≤ p1.toInt ∧ p1.toInt ≤ 9) (sz : Nat) : Met l yX7_reasonFor wsMX7_reasonFor ({ frames := 5, cells := 0, slots := 0, locals := 120 }) (va_Pc [.ref (hV 0), .int p1, .int p2] (fun U => U.heap.size = sz ∧ va_P (dC, dI) vwCl (WV hV aV kV iV_holders iV_rules fV_pairs fV_domain fV_kind fV_a fV_b fV_c fV_rulePairs fV_lastHolder fV_now iV_doneFor iV_changed gV_fore gV_back fV_together fV_member gV_list dV_list nV_list iV_listed iV_listDone) U.heap ∧ va_K (dC, dI) vwCl (tV kV) U ∧ va_D (fun _ => True) (WV hV aV kV iV_holders iV_rules fV_pairs fV_domain fV_kind fV_a fV_b fV_c fV_rulePairs fV_lastHolder fV_now iV_doneFor iV_changed gV_fore gV_back fV_together fV_member gV_list dV_list nV_list iV_listed iV_listDone))) (va_Qi (fun (r : Int32) (u : (Nat → Int32) × (Int32) × (Int32) × (Nat → Int64) × (Nat → Int64) × (Nat → Int32) × (Nat → Int32)) => (0 ≤ (u.2.2.1).toInt ∧ (u.2.2.1).toInt ≤ 1) ∧ (∀ q : Nat, (-1) ≤ ((u.2.2.2.2.2.2) q).toInt ∧ ((u.2.2.2.2.2.2) q).toInt ≤ 15)) (fun (u : (Nat → Int32) × (Int32) × (Int32) × (Nat → Int64) × (Nat → Int64) × (Nat → Int32) × (Nat → Int32)) t => va_P (dC, dI) vwCl (WV hV aV kV iV_holders iV_rules fV_pairs fV_domain fV_kind fV_a fV_b fV_c fV_rulePairs fV_lastHolder (u.1) (u.2.1) (u.2.2.1) (u.2.2.2.1) (u.2.2.2.2.1) (u.2.2.2.2.2.1) (u.2.2.2.2.2.2) gV_list dV_list nV_list iV_listed iV_listDone) t.heap ∧ va_D (va_A (WV hV aV kV iV_holders iV_rules fV_pairs fV_domain fV_kind fV_a fV_b fV_c fV_rulePairs fV_lastHolder fV_now iV_doneFor iV_changed gV_fore gV_back fV_together fV_member gV_list dV_list nV_list iV_listed iV_listDone) sz) (WV hV aV kV iV_holders iV_rules fV_pairs fV_domain fV_kind fV_a fV_b fV_c fV_rulePairs fV_lastHolder (u.1) (u.2.1) (u.2.2.1) (u.2.2.2.1) (u.2.2.2.2.1) (u.2.2.2.2.2.1) (u.2.2.2.2.2.2) gV_list dV_list nV_list iV_listed iV_listDone)) (va_A (WV hV aV kV iV_holders iV_rules fV_pairs fV_domain fV_kind fV_a fV_b fV_c fV_rulePairs fV_lastHolder fV_now iV_doneFor iV_changed gV_fore gV_back fV_together fV_member gV_list dV_list nV_list iV_listed iV_listDone) sz)) 0 0 (va_A (WV hV aV kV iV_holders iV_rules fV_pairs fV_domain fV_kind fV_a fV_b fV_c fV_rulePairs fV_lastHolder fV_now iV_doneFor iV_changed gV_fore gV_back fV_together fV_member gV_list dV_list nV_list iV_listed iV_listDone) sz) := by
  refine Met.ofW (cc := cX7_reasonFor) (maxL := 6) (ret := (some .int)) (by decide) rfl ?_
  intro p e s m args below meth c s₁ B hml hv
  obtain ⟨rfl, hsz, hP, hK, hD0⟩ := hv
  have hx := B.exec
  have hb := B.bytes
  have hr := B.returns
  have hts := atoms_spec (ws := wsMX7_reasonFor) B.pre
  have hown : s.vm.findClass RX7 = some m.cls := findClass_of_methodNamed B.named
  have hlocks := B.notSynchronized
  subst hsz
  have hD := hD0.self (sz := s.heap.size)
  generalize hAe : va_A (WV hV aV kV iV_holders iV_rules fV_pairs fV_domain fV_kind fV_a fV_b fV_c fV_rulePairs fV_lastHolder fV_now iV_doneFor iV_changed gV_fore gV_back fV_together fV_member gV_list dV_list nV_list iV_listed iV_listDone) s.heap.size = A at hD ⊢
  have hA : ∀ q : Nat, s.heap.size ≤ q → A q := fun q h => by rw [← hAe]; exact Or.inr h
  have hS : va_S A s.heap s.heap [] := va_S.rf
  have hl := lv_entry ([.ref (hV 0), .int p1, .int p2]) (n := 6) (Nat.le_of_ble_eq_true rfl)
  rw [lg_entry_eq]
  generalize (lg_sl ([.ref (hV 0), .int p1, .int p2]) ++ List.replicate (6 - (lg_sl ([.ref (hV 0), .int p1, .int p2])).length) Slot.unset).toArray = ls at hl ⊢
  have hl : lv_has ls 6 [(0, .ref (hV 0)), (1, .int p1), (2, .int p2)] := hl
  refine lv_aload_n hx hb dX7_reasonFor_0 rfl (lv_at hl 0 rfl) ?_
  refine va_get (D := (dC, dI)) (ci := 7) (v := .ref (aV 1)) (C := RX7) (T := TX7) (N := 20) hx hb hts iwsMX7_reasonFor_in7 hown hK hP 0 rfl rfl 3 (by decide) (hts (.fieldLink RX7 15 "OptimaWorks$ValueDesk" "domain" "[I") (by decide +kernel)) (fun _ h9 => h9) rfl dX7_reasonFor_1 ?_
  refine lv_iload_n hx hb dX7_reasonFor_4 rfl (lv_at hl 1 rfl) ?_
  refine va_iald (cA := kV 1) (n := 10) (f := fV_domain) hx hb hK hP 2 1 rfl rfl (vp_in_iff.mpr ⟨b_p1.1, (Int.lt_of_le_of_lt (b_p1.2) (by decide))⟩) dX7_reasonFor_5 ?_
  refine lv_topi (fun v1 hv1 => ?_)
  clear hv1
  refine lv_iload_n hx hb dX7_reasonFor_6 rfl (lv_at hl 2 rfl) ?_
  refine lv_ishr hx hb dX7_reasonFor_7 ?_
  refine lv_topi (fun v2 hv2 => ?_)
  clear hv2
  refine lv_iconst (v := 1) hx hb dX7_reasonFor_8 (by decide) ?_
  refine lv_iand hx hb dX7_reasonFor_9 ?_
  refine lv_topi (fun v3 hv3 => ?_)
  have b_v3 : 0 ≤ v3.toInt ∧ v3.toInt ≤ 1 := by rw [hv3]; exact and_rng _ (by decide) (by decide)
  clear hv3
  refine lv_if_eq (tgt := 25) hx hb dX7_reasonFor_10 (by decide) (fun c_10 => ?_) (fun c_10 => ?_)
  · have t_10 : v3.toInt = 0 := toI_eq c_10 rfl (by decide : (0 : Int32).toInt = 0)
    refine lv_iconst (v := (-1)) hx hb dX7_reasonFor_25 (by decide) ?_
    refine W.widen (k := 0) (n := 0) (by decide +kernel) (by decide +kernel) ?_
    exact W.iret (v := (-1)) hx hb hr (fun t9_ ht hW => ⟨⟨((-1) : Int32), (fV_now, iV_doneFor, iV_changed, gV_fore, gV_back, fV_together, fV_member), rfl, ⟨b_iV_changed, b_fV_member⟩, by rw [ht]; exact hP, hD⟩, hS.F ht⟩) hS.2.2 dX7_reasonFor_26
  · have t_10 : ¬ v3.toInt = 0 := toI_neq c_10 rfl (by decide : (0 : Int32).toInt = 0)
    refine lv_aload_n hx hb dX7_reasonFor_13 rfl (lv_at hl 0 rfl) ?_
    refine lv_iload_n hx hb dX7_reasonFor_14 rfl (lv_at hl 1 rfl) ?_
    have hFc := allFree hD hS hA
    refine va_calli (va_runV (As := [.int p1]) (rest := []) ⟨hx, hb, hml, hown, hts⟩ (m_X7_leftOf l dC dI hV aV kV iV_holders iV_rules fV_pairs fV_domain fV_kind fV_a fV_b fV_c fV_rulePairs fV_lastHolder fV_now iV_doneFor iV_changed gV_fore gV_back fV_together fV_member gV_list dV_list nV_list iV_listed iV_listDone p1 (b_iV_holders) (b_iV_rules) b_fV_kind (b_iV_changed) b_fV_member (by first | exact b_nV_list | with_reducible assumption | exact ⟨by omega, by omega⟩ | assumption) (b_iV_listed) (b_iV_listDone) (by first | with_reducible assumption | omega | assumption) (by first | with_reducible assumption | omega | assumption) (b_p1) s.heap.size) (cwV 1 hts gwsMX7_reasonFor_0 rfl rfl rfl hd_yX7_leftOf_RX7 (by decide +kernel)) (fz_pre (va_recv hK hP (ci := 7) (q0 := 0) rfl rfl) hP hK hD) rfl rfl hl.1 rfl (lv_room (Nat.le_of_ble_eq_true rfl)) dX7_reasonFor_15 (by decide +kernel)) hS (fun q _ h => hFc q h) hFc (fun r4 u t9_ H locs ht hvm hw9 hB9 hz1 hk1 hS => ?_)
    revert u hw9 hB9
    refine fz_p7 ?_
    intro fV_now_4 iV_doneFor_4 iV_changed_4 gV_fore_4 gV_back_4 fV_together_4 fV_member_4 hw9 hB9
    try dsimp only at hw9 hB9
    revert hw9
    refine fz_a2 ?_
    intro b_iV_changed_4 b_fV_member_4
    have hP : va_P (dC, dI) vwCl (WV hV aV kV iV_holders iV_rules fV_pairs fV_domain fV_kind fV_a fV_b fV_c fV_rulePairs fV_lastHolder fV_now_4 iV_doneFor_4 iV_changed_4 gV_fore_4 gV_back_4 fV_together_4 fV_member_4 gV_list dV_list nV_list iV_listed iV_listDone) H := fz_P ht hB9.1
    have hD := fz_sd hP (hB9.2.weaken (fun _ q _ h => hFc q.1 h)) rfl
    refine lv_iload_n hx hb dX7_reasonFor_18 rfl (lv_at hl 2 rfl) ?_
    refine lv_ishr hx hb dX7_reasonFor_19 ?_
    refine lv_topi (fun v5 hv5 => ?_)
    clear hv5
    refine lv_iconst (v := 1) hx hb dX7_reasonFor_20 (by decide) ?_
    refine lv_iand hx hb dX7_reasonFor_21 ?_
    refine lv_topi (fun v6 hv6 => ?_)
    have b_v6 : 0 ≤ v6.toInt ∧ v6.toInt ≤ 1 := by rw [hv6]; exact and_rng _ (by decide) (by decide)
    clear hv6
    refine lv_if_eq (tgt := 27) hx hb dX7_reasonFor_22 (by decide) (fun c_22 => ?_) (fun c_22 => ?_)
    · have t_22 : v6.toInt = 0 := toI_eq c_22 rfl (by decide : (0 : Int32).toInt = 0)
      refine lv_iconst (v := 1) hx hb dX7_reasonFor_27 (by decide) ?_
      refine lv_aload_n hx hb dX7_reasonFor_28 rfl (lv_at hl 0 rfl) ?_
      refine va_get (D := (dC, dI)) (ci := 7) (v := .int iV_rules) (C := RX7) (T := TX7) (N := 20) hx hb hts iwsMX7_reasonFor_in7 hown hK hP 0 rfl rfl 1 (by decide) (hts _ hm_m_X7_reasonFor_0) (fun _ h9 => h9) rfl dX7_reasonFor_29 ?_
      refine lv_ishl hx hb dX7_reasonFor_32 ?_
      refine lv_topi (fun v7 hv7 => ?_)
      clear hv7
      refine lv_iconst (v := 1) hx hb dX7_reasonFor_33 (by decide) ?_
      refine lv_isub hx hb dX7_reasonFor_34 ?_
      refine lv_topi (fun y8 hy8 => ?_)
      obtain rfl : (iI (v7.toInt - 1)) = y8 := (hy8.trans (iI_sub2 (iI_of _) (by decide : (1 : Int32) = iI 1))).symm
      refine lv_istore_n hx hb dX7_reasonFor_35 rfl hl (by decide) rfl (fun ls (hl : lv_has ls _ ([(3, .int (iI (v7.toInt - 1))), (0, .ref (hV 0)), (1, .int p1), (2, .int p2)])) => ?_)
      refine lv_aload_n hx hb dX7_reasonFor_36 rfl (lv_at hl 1 rfl) ?_
      refine va_get (D := (dC, dI)) (ci := 7) (v := .int iV_rules) (C := RX7) (T := TX7) (N := 20) hx hb hts iwsMX7_reasonFor_in7 hown hK hP 0 rfl rfl 1 (by decide) (hts _ hm_m_X7_reasonFor_0) (fun _ h9 => h9) rfl dX7_reasonFor_37 ?_
      refine lv_iconst (v := 1) hx hb dX7_reasonFor_40 (by decide) ?_
      refine lv_isub hx hb dX7_reasonFor_41 ?_
      refine lv_topi (fun y9 hy9 => ?_)
      obtain rfl : (iI (iV_rules.toInt - 1)) = y9 := (hy9.trans (iI_sub2 (iI_of _) (by decide : (1 : Int32) = iI 1))).symm
      refine lv_istore hx hb dX7_reasonFor_42 hl (by decide) rfl (fun ls (hl : lv_has ls _ ([(4, .int (iI (iV_rules.toInt - 1))), (3, .int (iI (v7.toInt - 1))), (0, .ref (hV 0)), (1, .int p1), (2, .int p2)])) => ?_)
      have hl : lv_has _ _ ([(4, .int (iI (iV_rules.toInt - 1))), (3, .int (iI (v7.toInt - 1))), (0, .ref (hV 0)), (1, .int p1), (2, .int p2)]) := lv_sub hl [0, 1, 2, 3, 4] rfl
      refine (fun (loop : ∀ (n9 : Nat) (fV_now_x44 : Nat → Int32) (iV_doneFor_x44 : Int32) (iV_changed_x44 : Int32) (gV_fore_x44 : Nat → Int64) (gV_back_x44 : Nat → Int64) (fV_together_x44 : Nat → Int32) (fV_member_x44 : Nat → Int32) (l4_x44 : Int32) (l3_x44 : Int32) (H : Heap) (locs : List Loc) (ls : Array Slot), (0 ≤ iV_changed_x44.toInt ∧ iV_changed_x44.toInt ≤ 1) → (∀ q : Nat, (-1) ≤ (fV_member_x44 q).toInt ∧ (fV_member_x44 q).toInt ≤ 15) → ((-1) ≤ l4_x44.toInt ∧ l4_x44.toInt ≤ 11) → (l4_x44.toInt - (-1) < ((n9 : Nat) : Int)) → va_P (dC, dI) vwCl (WV hV aV kV iV_holders iV_rules fV_pairs fV_domain fV_kind fV_a fV_b fV_c fV_rulePairs fV_lastHolder fV_now_x44 iV_doneFor_x44 iV_changed_x44 gV_fore_x44 gV_back_x44 fV_together_x44 fV_member_x44 gV_list dV_list nV_list iV_listed iV_listDone) H → va_D A (WV hV aV kV iV_holders iV_rules fV_pairs fV_domain fV_kind fV_a fV_b fV_c fV_rulePairs fV_lastHolder fV_now_x44 iV_doneFor_x44 iV_changed_x44 gV_fore_x44 gV_back_x44 fV_together_x44 fV_member_x44 gV_list dV_list nV_list iV_listed iV_listDone) → va_S A s.heap H locs → lv_has ls 6 [(4, .int l4_x44), (3, .int l3_x44), (0, .ref (hV 0)), (1, .int p1), (2, .int p2)] → W p l e _ s m _ below meth c H locs 0 0 _ (F0 m 44 ls [])) => loop (13) fV_now_4 iV_doneFor_4 iV_changed_4 gV_fore_4 gV_back_4 fV_together_4 fV_member_4 (iI (iV_rules.toInt - 1)) (iI (v7.toInt - 1)) _ _ _ (b_iV_changed_4) b_fV_member_4 (iI_rng (Int.le_trans (by decide) (Int.sub_le_sub (b_iV_rules.1) (Int.le_refl _))) (Int.le_trans (Int.sub_le_sub (b_iV_rules.2) (Int.le_refl _)) (by decide)) (by decide) (by decide)) ((by have e9 : ((iI (iV_rules.toInt - 1))).toInt = (iV_rules.toInt - 1) := (iI_t (Int.le_trans (by decide) (Int.sub_le_sub (b_iV_rules.1) (Int.le_refl _))) (Int.le_trans (Int.sub_le_sub (b_iV_rules.2) (Int.le_refl _)) (by decide))); omega)) hP hD hS hl) ?_
      intro n9
      induction n9 with
      | zero => intro fV_now_x44 iV_doneFor_x44 iV_changed_x44 gV_fore_x44 gV_back_x44 fV_together_x44 fV_member_x44 l4_x44 l3_x44 H locs ls b_iV_changed_x44 b_fV_member_x44 b_l4_x44 hf9; exact False.elim (by omega)
      | succ n9 ihx44 =>
        intro fV_now_x44 iV_doneFor_x44 iV_changed_x44 gV_fore_x44 gV_back_x44 fV_together_x44 fV_member_x44 l4_x44 l3_x44 H locs ls b_iV_changed_x44 b_fV_member_x44 b_l4_x44 hfx44 hP hD hS hl
        refine lv_iload hx hb dX7_reasonFor_44 (lv_at hl 0 rfl) ?_
        refine lv_if_lt (tgt := 87) hx hb dX7_reasonFor_46 (by decide) (fun c_46 => ?_) (fun c_46 => ?_)
        · have t_46 : l4_x44.toInt < 0 := toI_lt c_46 rfl (by decide : (0 : Int32).toInt = 0)
          refine lv_iload_n hx hb dX7_reasonFor_87 rfl (lv_at hl 1 rfl) ?_
          refine W.widen (k := 0) (n := 0) (by decide +kernel) (by decide +kernel) ?_
          exact W.iret (v := l3_x44) hx hb hr (fun t9_ ht hW => ⟨⟨l3_x44, (fV_now_x44, iV_doneFor_x44, iV_changed_x44, gV_fore_x44, gV_back_x44, fV_together_x44, fV_member_x44), rfl, ⟨b_iV_changed_x44, b_fV_member_x44⟩, by rw [ht]; exact hP, hD⟩, hS.F ht⟩) hS.2.2 dX7_reasonFor_88
        · have t_46 : ¬ l4_x44.toInt < 0 := toI_nlt c_46 rfl (by decide : (0 : Int32).toInt = 0)
          refine lv_iload_n hx hb dX7_reasonFor_49 rfl (lv_at hl 1 rfl) ?_
          refine lv_iconst (v := 1) hx hb dX7_reasonFor_50 (by decide) ?_
          refine lv_iload hx hb dX7_reasonFor_51 (lv_at hl 0 rfl) ?_
          refine lv_ishl hx hb dX7_reasonFor_53 ?_
          refine lv_topi (fun v45 hv45 => ?_)
          clear hv45
          refine lv_iconst (v := (-1)) hx hb dX7_reasonFor_54 (by decide) ?_
          refine lv_ixor hx hb dX7_reasonFor_55 ?_
          refine lv_topi (fun v46 hv46 => ?_)
          clear hv46
          refine lv_iand hx hb dX7_reasonFor_56 ?_
          refine lv_topi (fun v47 hv47 => ?_)
          clear hv47
          refine lv_istore hx hb dX7_reasonFor_57 hl (by decide) rfl (fun ls (hl : lv_has ls _ ([(5, .int v47), (4, .int l4_x44), (3, .int l3_x44), (0, .ref (hV 0)), (1, .int p1), (2, .int p2)])) => ?_)
          refine lv_aload_n hx hb dX7_reasonFor_59 rfl (lv_at hl 3 rfl) ?_
          refine lv_iload hx hb dX7_reasonFor_60 (lv_at hl 0 rfl) ?_
          have hFc := allFree hD hS hA
          refine va_callv (va_runV (As := [.int v47]) (rest := []) ⟨hx, hb, hml, hown, hts⟩ (m_X7_narrow l dC dI hV aV kV iV_holders iV_rules fV_pairs fV_domain fV_kind fV_a fV_b fV_c fV_rulePairs fV_lastHolder fV_now_x44 iV_doneFor_x44 iV_changed_x44 gV_fore_x44 gV_back_x44 fV_together_x44 fV_member_x44 gV_list dV_list nV_list iV_listed iV_listDone v47 (b_iV_holders) (b_iV_rules) b_fV_kind (b_iV_changed_x44) b_fV_member_x44 (by first | exact b_nV_list | with_reducible assumption | exact ⟨by omega, by omega⟩ | assumption) (b_iV_listed) (b_iV_listDone) (by first | with_reducible assumption | omega | assumption) (by first | with_reducible assumption | omega | assumption) H.size) (cwV 1 hts gwsMX7_reasonFor_1 rfl rfl rfl hd_yX7_narrow_RX7 (by decide +kernel)) (fz_pre (va_recv hK hP (ci := 7) (q0 := 0) rfl rfl) hP hK hD) rfl rfl hl.1 rfl (lv_room (Nat.le_of_ble_eq_true rfl)) dX7_reasonFor_62 (by decide +kernel)) hS (fun q _ h => hFc q h) hFc (fun u t9_ H locs ht hvm hw9 hB9 hz1 hk1 hS => ?_)
          revert u hw9 hB9
          refine fz_p7 ?_
          intro fV_now_48 iV_doneFor_48 iV_changed_48 gV_fore_48 gV_back_48 fV_together_48 fV_member_48 hw9 hB9
          try dsimp only at hw9 hB9
          revert hw9
          refine fz_a2 ?_
          intro b_iV_changed_48 b_fV_member_48
          have hP : va_P (dC, dI) vwCl (WV hV aV kV iV_holders iV_rules fV_pairs fV_domain fV_kind fV_a fV_b fV_c fV_rulePairs fV_lastHolder fV_now_48 iV_doneFor_48 iV_changed_48 gV_fore_48 gV_back_48 fV_together_48 fV_member_48 gV_list dV_list nV_list iV_listed iV_listDone) H := fz_P ht hB9.1
          have hD := fz_sd hP (hB9.2.weaken (fun _ q _ h => hFc q.1 h)) rfl
          refine lv_aload_n hx hb dX7_reasonFor_65 rfl (lv_at hl 3 rfl) ?_
          refine va_get (D := (dC, dI)) (ci := 7) (v := .ref (aV 8)) (C := RX7) (T := TX7) (N := 20) hx hb hts iwsMX7_reasonFor_in7 hown hK hP 0 rfl rfl 10 (by decide) (hts (.fieldLink RX7 36 "OptimaWorks$ValueDesk" "now" "[I") (by decide +kernel)) (fun _ h9 => h9) rfl dX7_reasonFor_66 ?_
          refine lv_iload_n hx hb dX7_reasonFor_69 rfl (lv_at hl 4 rfl) ?_
          refine va_iald (cA := kV 8) (n := 10) (f := fV_now_48) hx hb hK hP 9 8 rfl rfl (vp_in_iff.mpr ⟨b_p1.1, (Int.lt_of_le_of_lt (b_p1.2) (by decide))⟩) dX7_reasonFor_70 ?_
          refine lv_topi (fun v49 hv49 => ?_)
          clear hv49
          refine lv_iload_n hx hb dX7_reasonFor_71 rfl (lv_at hl 5 rfl) ?_
          refine lv_ishr hx hb dX7_reasonFor_72 ?_
          refine lv_topi (fun v50 hv50 => ?_)
          clear hv50
          refine lv_iconst (v := 1) hx hb dX7_reasonFor_73 (by decide) ?_
          refine lv_iand hx hb dX7_reasonFor_74 ?_
          refine lv_topi (fun v51 hv51 => ?_)
          have b_v51 : 0 ≤ v51.toInt ∧ v51.toInt ≤ 1 := by rw [hv51]; exact and_rng _ (by decide) (by decide)
          clear hv51
          refine W.cut (pc := 81) (fun H locs ls stk => ∃ (l3_j12 : Int32),  stk = [] ∧ va_P (dC, dI) vwCl (WV hV aV kV iV_holders iV_rules fV_pairs fV_domain fV_kind fV_a fV_b fV_c fV_rulePairs fV_lastHolder fV_now_48 iV_doneFor_48 iV_changed_48 gV_fore_48 gV_back_48 fV_together_48 fV_member_48 gV_list dV_list nV_list iV_listed iV_listDone) H ∧ va_D A (WV hV aV kV iV_holders iV_rules fV_pairs fV_domain fV_kind fV_a fV_b fV_c fV_rulePairs fV_lastHolder fV_now_48 iV_doneFor_48 iV_changed_48 gV_fore_48 gV_back_48 fV_together_48 fV_member_48 gV_list dV_list nV_list iV_listed iV_listDone) ∧ va_S A s.heap H locs ∧ lv_has ls 6 [(5, .int v47), (4, .int l4_x44), (3, .int l3_j12), (0, .ref (hV 0)), (1, .int p1), (2, .int p2)]) (fun join12 => ?_) ?_
          · refine lv_if_ne (tgt := 81) hx hb dX7_reasonFor_75 (by decide) (fun c_75 => ?_) (fun c_75 => ?_)
            · have t_75 : v51.toInt ≠ 0 := toI_ne c_75 rfl (by decide : (0 : Int32).toInt = 0)
              have hl : lv_has _ _ ([(5, .int v47), (4, .int l4_x44), (3, .int l3_x44), (0, .ref (hV 0)), (1, .int p1), (2, .int p2)]) := lv_sub hl [0, 1, 2, 3, 4, 5] rfl
              exact join12 _ _ _ _ ⟨l3_x44, rfl, hP, hD, hS, hl⟩
            · have t_75 : v51.toInt = 0 := toI_nne c_75 rfl (by decide : (0 : Int32).toInt = 0)
              refine lv_iload hx hb dX7_reasonFor_78 (lv_at hl 0 rfl) ?_
              refine lv_istore_n hx hb dX7_reasonFor_80 rfl hl (by decide) rfl (fun ls (hl : lv_has ls _ ([(3, .int v47), (5, .int v47), (4, .int l4_x44), (0, .ref (hV 0)), (1, .int p1), (2, .int p2)])) => ?_)
              have hl : lv_has _ _ ([(5, .int v47), (4, .int l4_x44), (3, .int v47), (0, .ref (hV 0)), (1, .int p1), (2, .int p2)]) := lv_sub hl [1, 2, 0, 3, 4, 5] rfl
              exact join12 _ _ _ _ ⟨v47, rfl, hP, hD, hS, hl⟩
          · rintro H locs ls stk ⟨l3_j12, rfl, hP, hD, hS, hl⟩
            refine lv_iinc (v := (iI (l4_x44.toInt + (-1)))) hx hb dX7_reasonFor_81 hl (k := 1) rfl (iI_add2 (iI_of _) (by decide : ((-1) : Int32) = iI (-1))) (by decide) rfl (fun ls (hl : lv_has ls _ ([(4, .int (iI (l4_x44.toInt + (-1)))), (5, .int v47), (3, .int l3_j12), (0, .ref (hV 0)), (1, .int p1), (2, .int p2)])) => ?_)
            refine lv_goto (tgt := 44) hx hb dX7_reasonFor_84 (by decide) ?_
            have hl : lv_has _ _ ([(4, .int (iI (l4_x44.toInt + (-1)))), (3, .int l3_j12), (0, .ref (hV 0)), (1, .int p1), (2, .int p2)]) := lv_sub hl [0, 2, 3, 4, 5] rfl
            exact ihx44 fV_now_48 iV_doneFor_48 iV_changed_48 gV_fore_48 gV_back_48 fV_together_48 fV_member_48 (iI (l4_x44.toInt + (-1))) l3_j12 _ _ _ (b_iV_changed_48) b_fV_member_48 (iI_rng (by omega) (Int.le_trans (Int.add_le_add (b_l4_x44.2) (Int.le_refl _)) (by decide)) (by decide) (by decide)) (by have e9 : ((iI (l4_x44.toInt + (-1)))).toInt = (l4_x44.toInt + (-1)) := (iI_t (Int.le_trans (by decide) (Int.add_le_add (b_l4_x44.1) (Int.le_refl _))) (Int.le_trans (Int.add_le_add (b_l4_x44.2) (Int.le_refl _)) (by decide))); omega) hP hD hS hl
    · have t_22 : ¬ v6.toInt = 0 := toI_neq c_22 rfl (by decide : (0 : Int32).toInt = 0)
      refine lv_iconst (v := (-1)) hx hb dX7_reasonFor_25 (by decide) ?_
      refine W.widen (k := 0) (n := 0) (by decide +kernel) (by decide +kernel) ?_
      exact W.iret (v := (-1)) hx hb hr (fun t9_ ht hW => ⟨⟨((-1) : Int32), (fV_now_4, iV_doneFor_4, iV_changed_4, gV_fore_4, gV_back_4, fV_together_4, fV_member_4), rfl, ⟨b_iV_changed_4, b_fV_member_4⟩, by rw [ht]; exact hP, hD⟩, hS.F ht⟩) hS.2.2 dX7_reasonFor_26
theorem dX7_isListable_0 : decode cX7_isListable 0 = .ok (.iconst 1, 1) := dk_4 (by decide +kernel)
theorem dX7_isListable_1 : decode cX7_isListable 1 = .ok (.istore_n 1, 1) := dk_60 (by decide +kernel)
theorem dX7_isListable_2 : decode cX7_isListable 2 = .ok (.iconst 0, 1) := dk_3 (by decide +kernel)
theorem dX7_isListable_3 : decode cX7_isListable 3 = .ok (.istore_n 2, 1) := dk_61 (by decide +kernel)
theorem dX7_isListable_4 : decode cX7_isListable 4 = .ok (.iload_n 2, 1) := dk_28 (by decide +kernel)
theorem dX7_isListable_5 : decode cX7_isListable 5 = .ok (.aload_n 0, 1) := dk_42 (by decide +kernel)
theorem dX7_isListable_6 : decode cX7_isListable 6 = .ok (.getfield 59, 3) := dk_180 (by decide +kernel)
theorem dX7_isListable_9 : decode cX7_isListable 9 = .ok (.if_icmp .ge 28, 3) := dk_162 (by decide +kernel)
theorem dX7_isListable_12 : decode cX7_isListable 12 = .ok (.iload_n 1, 1) := dk_27 (by decide +kernel)
theorem dX7_isListable_13 : decode cX7_isListable 13 = .ok (.sipush 20000, 3) := dk_17 (by decide +kernel)
theorem dX7_isListable_16 : decode cX7_isListable 16 = .ok (.if_icmp .gt 21, 3) := dk_163 (by decide +kernel)
theorem dX7_isListable_19 : decode cX7_isListable 19 = .ok (.iload_n 1, 1) := dk_27 (by decide +kernel)
theorem dX7_isListable_20 : decode cX7_isListable 20 = .ok (.aload_n 0, 1) := dk_42 (by decide +kernel)
theorem dX7_isListable_21 : decode cX7_isListable 21 = .ok (.getfield 15, 3) := dk_180 (by decide +kernel)
theorem dX7_isListable_24 : decode cX7_isListable 24 = .ok (.iload_n 2, 1) := dk_28 (by decide +kernel)
theorem dX7_isListable_25 : decode cX7_isListable 25 = .ok (.iaload, 1) := dk_46 (by decide +kernel)
theorem dX7_isListable_26 : decode cX7_isListable 26 = .ok (.invokestatic 141, 3) := dk_184 (by decide +kernel)
theorem dX7_isListable_29 : decode cX7_isListable 29 = .ok (.imul, 1) := dk_104 (by decide +kernel)
theorem dX7_isListable_30 : decode cX7_isListable 30 = .ok (.istore_n 1, 1) := dk_60 (by decide +kernel)
theorem dX7_isListable_31 : decode cX7_isListable 31 = .ok (.iinc 2 1, 3) := dk_132 (by decide +kernel)
theorem dX7_isListable_34 : decode cX7_isListable 34 = .ok (.goto (-30), 3) := dk_167 (by decide +kernel)
theorem dX7_isListable_37 : decode cX7_isListable 37 = .ok (.iload_n 1, 1) := dk_27 (by decide +kernel)
theorem dX7_isListable_38 : decode cX7_isListable 38 = .ok (.sipush 20000, 3) := dk_17 (by decide +kernel)
theorem dX7_isListable_41 : decode cX7_isListable 41 = .ok (.if_icmp .gt 7, 3) := dk_163 (by decide +kernel)
theorem dX7_isListable_44 : decode cX7_isListable 44 = .ok (.iconst 1, 1) := dk_4 (by decide +kernel)
theorem dX7_isListable_45 : decode cX7_isListable 45 = .ok (.goto 4, 3) := dk_167 (by decide +kernel)
theorem dX7_isListable_48 : decode cX7_isListable 48 = .ok (.iconst 0, 1) := dk_3 (by decide +kernel)
theorem dX7_isListable_49 : decode cX7_isListable 49 = .ok (.ireturn, 1) := dk_172 (by decide +kernel)
def wsMX7_isListable : List Cond := .code yX7_isListable cX7_isListable 3 (some .boolean) :: ([.fieldLink RX7 59 "OptimaWorks$ValueDesk" "holders" "I", .fieldLink RX7 15 "OptimaWorks$ValueDesk" "domain" "[I"] ++ wsX70 ++ (va_wsS RX7 141 yJ6_bitCount_0f7a4 wsMJ6_bitCount_0f7a4))
theorem iwsMX7_isListable_in7 : ∀ w ∈ wsX70, w ∈ wsMX7_isListable := fun _ h => List.mem_cons_of_mem _ (List.mem_append_left _ (List.mem_append_right _ h))
theorem gwsMX7_isListable_0 : GoodIn wsMX7_isListable (va_wsS RX7 141 yJ6_bitCount_0f7a4 wsMJ6_bitCount_0f7a4) := goodIn_sub (fun _ h => List.mem_cons_of_mem _ (List.mem_append_right _ h)) (gdS (by decide +kernel) gdwsMJ6_bitCount_0f7a4)
theorem gdwsMX7_isListable : wsMX7_isListable.all goodWord = true := gdC rfl (gdA (gdA (by decide +kernel : ([.fieldLink RX7 59 "OptimaWorks$ValueDesk" "holders" "I", .fieldLink RX7 15 "OptimaWorks$ValueDesk" "domain" "[I"] : List Cond).all goodWord = true) gdwsX70) (gdS (by decide +kernel) gdwsMJ6_bitCount_0f7a4))
set_option maxHeartbeats 4000000 in
set_option maxRecDepth 100000 in
/-- few enough -/
theorem m_X7_isListable (l : Launch) (dC : Nat → ClassId) (dI : Nat → Nat → Nat) (hV : Nat → Nat) (aV : Nat → Nat) (kV : Nat → ClassId) (iV_holders : Int32) (iV_rules : Int32) (fV_pairs : Nat → Int32) (fV_domain : Nat → Int32) (fV_kind : Nat → Int32) (fV_a : Nat → Int32) (fV_b : Nat → Int32) (fV_c : Nat → Int32) (fV_rulePairs : Nat → Int32) (fV_lastHolder : Nat → Int32) (fV_now : Nat → Int32) (iV_doneFor : Int32) (iV_changed : Int32) (gV_fore : Nat → Int64) (gV_back : Nat → Int64) (fV_together : Nat → Int32) (fV_member : Nat → Int32) (gV_list : Nat → Int64) (dV_list : Nat) (nV_list : Nat) (iV_listed : Int32) (iV_listDone : Int32) (b_iV_holders : 0 ≤ iV_holders.toInt ∧ iV_holders.toInt ≤ 10) (b_iV_rules : 0 ≤ iV_rules.toInt ∧ iV_rules.toInt ≤ 12) (b_fV_kind : ∀ q : Nat, 0 ≤ (fV_kind q).toInt ∧ (fV_kind q).toInt ≤ 4) (b_iV_changed : 0 ≤ iV_changed.toInt ∧ iV_changed.toInt ≤ 1) (b_fV_member : ∀ q : Nat, (-1) ≤ (fV_member q).toInt ∧ (fV_member q).toInt ≤ 15) (b_nV_list : 0 ≤ nV_list ∧ nV_list ≤ 20000) (b_iV_listed : (-1) ≤ iV_listed.toInt ∧ iV_listed.toInt ≤ 5000) (b_iV_listDone : 0 ≤ iV_listDone.toInt ∧ iV_listDone.toInt ≤ 1) (b_RuV : RuV fV_kind fV_a fV_b fV_c fV_lastHolder) (b_lst : iV_listed.toInt ≤ ((nV_list : Nat) : Int)) (sz : Nat) : Met l yX7_isListable wsMX7_isListable ({ frames := 1, cells := 0, slots := 0, locals := 20 }) (va_Pc [.ref (hV 0)] (fun U => U.heap.size = sz ∧ va_P (dC, dI) vwCl (WV hV aV kV iV_holders iV_rules fV_pairs fV_domain fV_kind fV_a fV_b fV_c fV_rulePairs fV_lastHolder fV_now iV_doneFor iV_changed gV_fore gV_back fV_together fV_member gV_list dV_list nV_list iV_listed iV_listDone) U.heap ∧ va_K (dC, dI) vwCl (tV kV) U ∧ va_D (fun _ => True) (WV hV aV kV iV_holders iV_rules fV_pairs fV_domain fV_kind fV_a fV_b fV_c fV_rulePairs fV_lastHolder fV_now iV_doneFor iV_changed gV_fore gV_back fV_together fV_member gV_list dV_list nV_list iV_listed iV_listDone))) (va_Qi (fun (r : Int32) (u : Unit) => (0 ≤ r.toInt ∧ r.toInt ≤ 1)) (fun (u : Unit) t => va_P (dC, dI) vwCl (WV hV aV kV iV_holders iV_rules fV_pairs fV_domain fV_kind fV_a fV_b fV_c fV_rulePairs fV_lastHolder fV_now iV_doneFor iV_changed gV_fore gV_back fV_together fV_member gV_list dV_list nV_list iV_listed iV_listDone) t.heap ∧ va_D (va_A (WV hV aV kV iV_holders iV_rules fV_pairs fV_domain fV_kind fV_a fV_b fV_c fV_rulePairs fV_lastHolder fV_now iV_doneFor iV_changed gV_fore gV_back fV_together fV_member gV_list dV_list nV_list iV_listed iV_listDone) sz) (WV hV aV kV iV_holders iV_rules fV_pairs fV_domain fV_kind fV_a fV_b fV_c fV_rulePairs fV_lastHolder fV_now iV_doneFor iV_changed gV_fore gV_back fV_together fV_member gV_list dV_list nV_list iV_listed iV_listDone)) (va_A (WV hV aV kV iV_holders iV_rules fV_pairs fV_domain fV_kind fV_a fV_b fV_c fV_rulePairs fV_lastHolder fV_now iV_doneFor iV_changed gV_fore gV_back fV_together fV_member gV_list dV_list nV_list iV_listed iV_listDone) sz)) 0 0 (va_A (WV hV aV kV iV_holders iV_rules fV_pairs fV_domain fV_kind fV_a fV_b fV_c fV_rulePairs fV_lastHolder fV_now iV_doneFor iV_changed gV_fore gV_back fV_together fV_member gV_list dV_list nV_list iV_listed iV_listDone) sz) := by
  refine Met.ofW (cc := cX7_isListable) (maxL := 3) (ret := (some .boolean)) (by decide) rfl ?_
  intro p e s m args below meth c s₁ B hml hv
  obtain ⟨rfl, hsz, hP, hK, hD0⟩ := hv
  have hx := B.exec
  have hb := B.bytes
  have hr := B.returns
  have hts := atoms_spec (ws := wsMX7_isListable) B.pre
  have hown : s.vm.findClass RX7 = some m.cls := findClass_of_methodNamed B.named
  have hlocks := B.notSynchronized
  subst hsz
  have hD := hD0.self (sz := s.heap.size)
  generalize hAe : va_A (WV hV aV kV iV_holders iV_rules fV_pairs fV_domain fV_kind fV_a fV_b fV_c fV_rulePairs fV_lastHolder fV_now iV_doneFor iV_changed gV_fore gV_back fV_together fV_member gV_list dV_list nV_list iV_listed iV_listDone) s.heap.size = A at hD ⊢
  have hA : ∀ q : Nat, s.heap.size ≤ q → A q := fun q h => by rw [← hAe]; exact Or.inr h
  have hS : va_S A s.heap s.heap [] := va_S.rf
  have hl := lv_entry ([.ref (hV 0)]) (n := 3) (Nat.le_of_ble_eq_true rfl)
  rw [lg_entry_eq]
  generalize (lg_sl ([.ref (hV 0)]) ++ List.replicate (3 - (lg_sl ([.ref (hV 0)])).length) Slot.unset).toArray = ls at hl ⊢
  have hl : lv_has ls 3 [(0, .ref (hV 0))] := hl
  refine lv_iconst (v := 1) hx hb dX7_isListable_0 (by decide) ?_
  refine lv_istore_n hx hb dX7_isListable_1 rfl hl (by decide) rfl (fun ls (hl : lv_has ls _ ([(1, .int 1), (0, .ref (hV 0))])) => ?_)
  refine lv_iconst (v := 0) hx hb dX7_isListable_2 (by decide) ?_
  refine lv_istore_n hx hb dX7_isListable_3 rfl hl (by decide) rfl (fun ls (hl : lv_has ls _ ([(2, .int 0), (1, .int 1), (0, .ref (hV 0))])) => ?_)
  have hl : lv_has _ _ ([(2, .int 0), (1, .int 1), (0, .ref (hV 0))]) := lv_sub hl [0, 1, 2] rfl
  refine (fun (loop : ∀ (n9 : Nat) (l2_x4 : Int32) (l1_x4 : Int32) (H : Heap) (locs : List Loc) (ls : Array Slot), (0 ≤ l2_x4.toInt ∧ l2_x4.toInt ≤ 10) → (10 - l2_x4.toInt < ((n9 : Nat) : Int)) → va_P (dC, dI) vwCl (WV hV aV kV iV_holders iV_rules fV_pairs fV_domain fV_kind fV_a fV_b fV_c fV_rulePairs fV_lastHolder fV_now iV_doneFor iV_changed gV_fore gV_back fV_together fV_member gV_list dV_list nV_list iV_listed iV_listDone) H → va_D A (WV hV aV kV iV_holders iV_rules fV_pairs fV_domain fV_kind fV_a fV_b fV_c fV_rulePairs fV_lastHolder fV_now iV_doneFor iV_changed gV_fore gV_back fV_together fV_member gV_list dV_list nV_list iV_listed iV_listDone) → va_S A s.heap H locs → lv_has ls 3 [(2, .int l2_x4), (1, .int l1_x4), (0, .ref (hV 0))] → W p l e _ s m _ below meth c H locs 0 0 _ (F0 m 4 ls [])) => loop (11) 0 1 _ _ _ (show 0 ≤ (0 : Int32).toInt ∧ (0 : Int32).toInt ≤ 10 from by decide) ((by have e9 : (0 : Int32).toInt = 0 := (by decide : (0 : Int32).toInt = 0); omega)) hP hD hS hl) ?_
  intro n9
  induction n9 with
  | zero => intro l2_x4 l1_x4 H locs ls b_l2_x4 hf9; exact False.elim (by omega)
  | succ n9 ihx4 =>
    intro l2_x4 l1_x4 H locs ls b_l2_x4 hfx4 hP hD hS hl
    refine lv_iload_n hx hb dX7_isListable_4 rfl (lv_at hl 0 rfl) ?_
    refine lv_aload_n hx hb dX7_isListable_5 rfl (lv_at hl 2 rfl) ?_
    refine va_get (D := (dC, dI)) (ci := 7) (v := .int iV_holders) (C := RX7) (T := TX7) (N := 20) hx hb hts iwsMX7_isListable_in7 hown hK hP 0 rfl rfl 0 (by decide) (hts (.fieldLink RX7 59 "OptimaWorks$ValueDesk" "holders" "I") (by decide +kernel)) (fun _ h9 => h9) rfl dX7_isListable_6 ?_
    refine W.cut (pc := 37) (fun H locs ls stk =>  stk = [] ∧ va_P (dC, dI) vwCl (WV hV aV kV iV_holders iV_rules fV_pairs fV_domain fV_kind fV_a fV_b fV_c fV_rulePairs fV_lastHolder fV_now iV_doneFor iV_changed gV_fore gV_back fV_together fV_member gV_list dV_list nV_list iV_listed iV_listDone) H ∧ va_D A (WV hV aV kV iV_holders iV_rules fV_pairs fV_domain fV_kind fV_a fV_b fV_c fV_rulePairs fV_lastHolder fV_now iV_doneFor iV_changed gV_fore gV_back fV_together fV_member gV_list dV_list nV_list iV_listed iV_listDone) ∧ va_S A s.heap H locs ∧ lv_has ls 3 [(2, .int l2_x4), (1, .int l1_x4), (0, .ref (hV 0))]) (fun join7 => ?_) ?_
    · refine lv_icmp_ge (tgt := 37) hx hb dX7_isListable_9 (by decide) (fun c_9 => ?_) (fun c_9 => ?_)
      · have t_9 : l2_x4.toInt ≥ iV_holders.toInt := toI_ge c_9 rfl rfl
        have hl : lv_has _ _ ([(2, .int l2_x4), (1, .int l1_x4), (0, .ref (hV 0))]) := lv_sub hl [0, 1, 2] rfl
        exact join7 _ _ _ _ ⟨rfl, hP, hD, hS, hl⟩
      · have t_9 : ¬ l2_x4.toInt ≥ iV_holders.toInt := toI_nge c_9 rfl rfl
        refine lv_iload_n hx hb dX7_isListable_12 rfl (lv_at hl 1 rfl) ?_
        refine lv_sipush (v := 20000) hx hb dX7_isListable_13 (by decide) ?_
        refine lv_icmp_gt (tgt := 37) hx hb dX7_isListable_16 (by decide) (fun c_16 => ?_) (fun c_16 => ?_)
        · have t_16 : l1_x4.toInt > 20000 := toI_gt c_16 rfl (by decide : (20000 : Int32).toInt = 20000)
          have hl : lv_has _ _ ([(2, .int l2_x4), (1, .int l1_x4), (0, .ref (hV 0))]) := lv_sub hl [0, 1, 2] rfl
          exact join7 _ _ _ _ ⟨rfl, hP, hD, hS, hl⟩
        · have t_16 : ¬ l1_x4.toInt > 20000 := toI_ngt c_16 rfl (by decide : (20000 : Int32).toInt = 20000)
          refine lv_iload_n hx hb dX7_isListable_19 rfl (lv_at hl 1 rfl) ?_
          refine lv_aload_n hx hb dX7_isListable_20 rfl (lv_at hl 2 rfl) ?_
          refine va_get (D := (dC, dI)) (ci := 7) (v := .ref (aV 1)) (C := RX7) (T := TX7) (N := 20) hx hb hts iwsMX7_isListable_in7 hown hK hP 0 rfl rfl 3 (by decide) (hts (.fieldLink RX7 15 "OptimaWorks$ValueDesk" "domain" "[I") (by decide +kernel)) (fun _ h9 => h9) rfl dX7_isListable_21 ?_
          refine lv_iload_n hx hb dX7_isListable_24 rfl (lv_at hl 0 rfl) ?_
          refine va_iald (cA := kV 1) (n := 10) (f := fV_domain) hx hb hK hP 2 1 rfl rfl (vp_in_iff.mpr ⟨b_l2_x4.1, (Int.lt_of_lt_of_le (Int.not_le.mp t_9) (Int.le_trans b_iV_holders.2 (by decide)))⟩) dX7_isListable_25 ?_
          refine lv_topi (fun v16 hv16 => ?_)
          clear hv16
          have hFc := noneFree hS hA
          refine va_calli (va_runS (As := [.int v16]) (rest := [.int l1_x4]) ⟨hx, hb, hml, hown, hts⟩ (m_J6_bitCount_0f7a4 l dC dI v16 H.size) (va_cwS 1 hts gwsMX7_isListable_0 rfl rfl rfl (by decide +kernel) ⟨by decide +kernel, by decide +kernel⟩) ⟨fun a U g mk q => by obtain ⟨q0, q1, qP, qK, qD⟩ := q; exact ⟨q0, q1, qP, va_K.moved (u := U) (U := U.calling g mk a) (Vm.Alike.refl U.vm) qK, qD⟩, fun U hU9 hW => ⟨rfl, by rw [hU9], by rw [hU9]; exact nilP, va_K.moved hW.alike (hK.sub (tys' := []) [] rfl), nilD⟩⟩ rfl rfl hl.1 rfl (lv_room (Nat.le_of_ble_eq_true rfl)) dX7_isListable_26 (by decide +kernel)) hS (fun q _ h => hFc q h) hFc (fun r17 u t9_ H1 locs ht hvm hw9 hB9 hz1 hk1 hS => ?_)
          revert hw9
          refine fz_a2 ?_
          intro b_r17 f17_0
          clear hB9
          have hP := keepAll hP hk1
          generalize H1 = H at hP hS ⊢
          have hP : va_P (dC, dI) vwCl (WV hV aV kV iV_holders iV_rules fV_pairs fV_domain fV_kind fV_a fV_b fV_c fV_rulePairs fV_lastHolder fV_now iV_doneFor iV_changed gV_fore gV_back fV_together fV_member gV_list dV_list nV_list iV_listed iV_listDone) H := hP
          have hD := fz_sd hP (hD) rfl
          refine lv_imul hx hb dX7_isListable_29 ?_
          refine lv_topi (fun y18 hy18 => ?_)
          obtain rfl : (iI (l1_x4.toInt * r17.toInt)) = y18 := (hy18.trans (iI_mul2 (iI_of _) (iI_of _))).symm
          refine lv_istore_n hx hb dX7_isListable_30 rfl hl (by decide) rfl (fun ls (hl : lv_has ls _ ([(1, .int (iI (l1_x4.toInt * r17.toInt))), (2, .int l2_x4), (0, .ref (hV 0))])) => ?_)
          refine lv_iinc (v := (iI (l2_x4.toInt + 1))) hx hb dX7_isListable_31 hl (k := 1) rfl (iI_add2 (iI_of _) (by decide : (1 : Int32) = iI 1)) (by decide) rfl (fun ls (hl : lv_has ls _ ([(2, .int (iI (l2_x4.toInt + 1))), (1, .int (iI (l1_x4.toInt * r17.toInt))), (0, .ref (hV 0))])) => ?_)
          refine lv_goto (tgt := 4) hx hb dX7_isListable_34 (by decide) ?_
          have hl : lv_has _ _ ([(2, .int (iI (l2_x4.toInt + 1))), (1, .int (iI (l1_x4.toInt * r17.toInt))), (0, .ref (hV 0))]) := lv_sub hl [0, 1, 2] rfl
          exact ihx4 (iI (l2_x4.toInt + 1)) (iI (l1_x4.toInt * r17.toInt)) _ _ _ (iI_rng (Int.le_trans (by decide) (Int.add_le_add (b_l2_x4.1) (Int.le_refl _))) (by omega) (by decide) (by decide)) (by have e9 : ((iI (l2_x4.toInt + 1))).toInt = (l2_x4.toInt + 1) := (iI_t (Int.le_trans (by decide) (Int.add_le_add (b_l2_x4.1) (Int.le_refl _))) (Int.le_trans (Int.add_le_add (b_l2_x4.2) (Int.le_refl _)) (by decide))); omega) hP hD hS hl
    · rintro H locs ls stk ⟨rfl, hP, hD, hS, hl⟩
      refine lv_iload_n hx hb dX7_isListable_37 rfl (lv_at hl 1 rfl) ?_
      refine lv_sipush (v := 20000) hx hb dX7_isListable_38 (by decide) ?_
      refine W.cut (pc := 49) (fun H locs ls stk => ∃ (k0_j8 : Int32), (0 ≤ k0_j8.toInt ∧ k0_j8.toInt ≤ 1) ∧  stk = [.int k0_j8] ∧ va_P (dC, dI) vwCl (WV hV aV kV iV_holders iV_rules fV_pairs fV_domain fV_kind fV_a fV_b fV_c fV_rulePairs fV_lastHolder fV_now iV_doneFor iV_changed gV_fore gV_back fV_together fV_member gV_list dV_list nV_list iV_listed iV_listDone) H ∧ va_D A (WV hV aV kV iV_holders iV_rules fV_pairs fV_domain fV_kind fV_a fV_b fV_c fV_rulePairs fV_lastHolder fV_now iV_doneFor iV_changed gV_fore gV_back fV_together fV_member gV_list dV_list nV_list iV_listed iV_listDone) ∧ va_S A s.heap H locs ∧ lv_has ls 3 [(2, .int l2_x4), (1, .int l1_x4), (0, .ref (hV 0))]) (fun join8 => ?_) ?_
      · refine lv_icmp_gt (tgt := 48) hx hb dX7_isListable_41 (by decide) (fun c_41 => ?_) (fun c_41 => ?_)
        · have t_41 : l1_x4.toInt > 20000 := toI_gt c_41 rfl (by decide : (20000 : Int32).toInt = 20000)
          refine lv_iconst (v := 0) hx hb dX7_isListable_48 (by decide) ?_
          have hl : lv_has _ _ ([(2, .int l2_x4), (1, .int l1_x4), (0, .ref (hV 0))]) := lv_sub hl [0, 1, 2] rfl
          exact join8 _ _ _ _ ⟨0, (show 0 ≤ (0 : Int32).toInt ∧ (0 : Int32).toInt ≤ 1 from by decide), rfl, hP, hD, hS, hl⟩
        · have t_41 : ¬ l1_x4.toInt > 20000 := toI_ngt c_41 rfl (by decide : (20000 : Int32).toInt = 20000)
          refine lv_iconst (v := 1) hx hb dX7_isListable_44 (by decide) ?_
          refine lv_goto (tgt := 49) hx hb dX7_isListable_45 (by decide) ?_
          have hl : lv_has _ _ ([(2, .int l2_x4), (1, .int l1_x4), (0, .ref (hV 0))]) := lv_sub hl [0, 1, 2] rfl
          exact join8 _ _ _ _ ⟨1, (show 0 ≤ (1 : Int32).toInt ∧ (1 : Int32).toInt ≤ 1 from by decide), rfl, hP, hD, hS, hl⟩
      · rintro H locs ls stk ⟨k0_j8, b_k0_j8, rfl, hP, hD, hS, hl⟩
        refine W.widen (k := 0) (n := 0) (by decide +kernel) (by decide +kernel) ?_
        exact W.zret (v := k0_j8) hx hb hr (by rcases z01 (x := k0_j8) (b_k0_j8) with h9 | h9 <;> rw [h9] <;> rfl) (fun t9_ ht hW => ⟨⟨k0_j8, (), rfl, (b_k0_j8), by rw [ht]; exact hP, hD⟩, hS.F ht⟩) hS.2.2 dX7_isListable_49
theorem dX7_nextValue_0 : decode cX7_nextValue 0 = .ok (.aload_n 0, 1) := dk_42 (by decide +kernel)
theorem dX7_nextValue_1 : decode cX7_nextValue 1 = .ok (.getfield 53, 3) := dk_180 (by decide +kernel)
theorem dX7_nextValue_4 : decode cX7_nextValue 4 = .ok (.iload_n 1, 1) := dk_27 (by decide +kernel)
theorem dX7_nextValue_5 : decode cX7_nextValue 5 = .ok (.iaload, 1) := dk_46 (by decide +kernel)
theorem dX7_nextValue_6 : decode cX7_nextValue 6 = .ok (.iconst 1, 1) := dk_4 (by decide +kernel)
theorem dX7_nextValue_7 : decode cX7_nextValue 7 = .ok (.iadd, 1) := dk_96 (by decide +kernel)
theorem dX7_nextValue_8 : decode cX7_nextValue 8 = .ok (.istore_n 2, 1) := dk_61 (by decide +kernel)
theorem dX7_nextValue_9 : decode cX7_nextValue 9 = .ok (.iload_n 2, 1) := dk_28 (by decide +kernel)
theorem dX7_nextValue_10 : decode cX7_nextValue 10 = .ok (.bipush 16, 2) := dk_16 (by decide +kernel)
theorem dX7_nextValue_12 : decode cX7_nextValue 12 = .ok (.if_icmp .ge 24, 3) := dk_162 (by decide +kernel)
theorem dX7_nextValue_15 : decode cX7_nextValue 15 = .ok (.aload_n 0, 1) := dk_42 (by decide +kernel)
theorem dX7_nextValue_16 : decode cX7_nextValue 16 = .ok (.getfield 36, 3) := dk_180 (by decide +kernel)
theorem dX7_nextValue_19 : decode cX7_nextValue 19 = .ok (.iload_n 1, 1) := dk_27 (by decide +kernel)
theorem dX7_nextValue_20 : decode cX7_nextValue 20 = .ok (.iaload, 1) := dk_46 (by decide +kernel)
theorem dX7_nextValue_21 : decode cX7_nextValue 21 = .ok (.iload_n 2, 1) := dk_28 (by decide +kernel)
theorem dX7_nextValue_22 : decode cX7_nextValue 22 = .ok (.ishr, 1) := dk_122 (by decide +kernel)
theorem dX7_nextValue_23 : decode cX7_nextValue 23 = .ok (.iconst 1, 1) := dk_4 (by decide +kernel)
theorem dX7_nextValue_24 : decode cX7_nextValue 24 = .ok (.iand, 1) := dk_126 (by decide +kernel)
theorem dX7_nextValue_25 : decode cX7_nextValue 25 = .ok (.ifCond .eq 5, 3) := dk_153 (by decide +kernel)
theorem dX7_nextValue_28 : decode cX7_nextValue 28 = .ok (.iload_n 2, 1) := dk_28 (by decide +kernel)
theorem dX7_nextValue_29 : decode cX7_nextValue 29 = .ok (.ireturn, 1) := dk_172 (by decide +kernel)
theorem dX7_nextValue_30 : decode cX7_nextValue 30 = .ok (.iinc 2 1, 3) := dk_132 (by decide +kernel)
theorem dX7_nextValue_33 : decode cX7_nextValue 33 = .ok (.goto (-24), 3) := dk_167 (by decide +kernel)
theorem dX7_nextValue_36 : decode cX7_nextValue 36 = .ok (.iconst (-1), 1) := dk_2 (by decide +kernel)
theorem dX7_nextValue_37 : decode cX7_nextValue 37 = .ok (.ireturn, 1) := dk_172 (by decide +kernel)
def wsMX7_nextValue : List Cond := .code yX7_nextValue cX7_nextValue 3 (some .int) :: ([.fieldLink RX7 53 "OptimaWorks$ValueDesk" "member" "[I", .fieldLink RX7 36 "OptimaWorks$ValueDesk" "now" "[I"] ++ wsX70)
theorem iwsMX7_nextValue_in7 : ∀ w ∈ wsX70, w ∈ wsMX7_nextValue := fun _ h => List.mem_cons_of_mem _ (List.mem_append_right _ h)
theorem gdwsMX7_nextValue : wsMX7_nextValue.all goodWord = true := gdC rfl (gdA (by decide +kernel : ([.fieldLink RX7 53 "OptimaWorks$ValueDesk" "member" "[I", .fieldLink RX7 36 "OptimaWorks$ValueDesk" "now" "[I"] : List Cond).all goodWord = true) gdwsX70)
set_option maxHeartbeats 4000000 in
set_option maxRecDepth 100000 in
/-- the next value -/
theorem m_X7_nextValue (l : Launch) (dC : Nat → ClassId) (dI : Nat → Nat → Nat) (hV : Nat → Nat) (aV : Nat → Nat) (kV : Nat → ClassId) (iV_holders : Int32) (iV_rules : Int32) (fV_pairs : Nat → Int32) (fV_domain : Nat → Int32) (fV_kind : Nat → Int32) (fV_a : Nat → Int32) (fV_b : Nat → Int32) (fV_c : Nat → Int32) (fV_rulePairs : Nat → Int32) (fV_lastHolder : Nat → Int32) (fV_now : Nat → Int32) (iV_doneFor : Int32) (iV_changed : Int32) (gV_fore : Nat → Int64) (gV_back : Nat → Int64) (fV_together : Nat → Int32) (fV_member : Nat → Int32) (gV_list : Nat → Int64) (dV_list : Nat) (nV_list : Nat) (iV_listed : Int32) (iV_listDone : Int32) (p1 : Int32) (b_iV_holders : 0 ≤ iV_holders.toInt ∧ iV_holders.toInt ≤ 10) (b_iV_rules : 0 ≤ iV_rules.toInt ∧ iV_rules.toInt ≤ 12) (b_fV_kind : ∀ q : Nat, 0 ≤ (fV_kind q).toInt ∧ (fV_kind q).toInt ≤ 4) (b_iV_changed : 0 ≤ iV_changed.toInt ∧ iV_changed.toInt ≤ 1) (b_fV_member : ∀ q : Nat, (-1) ≤ (fV_member q).toInt ∧ (fV_member q).toInt ≤ 15) (b_nV_list : 0 ≤ nV_list ∧ nV_list ≤ 20000) (b_iV_listed : (-1) ≤ iV_listed.toInt ∧ iV_listed.toInt ≤ 5000) (b_iV_listDone : 0 ≤ iV_listDone.toInt ∧ iV_listDone.toInt ≤ 1) (b_RuV : RuV fV_kind fV_a fV_b fV_c fV_lastHolder) (b_lst : iV_listed.toInt ≤ ((nV_list : Nat) : Int)) (b_p1 : 0 ≤ p1.toInt ∧ p1.toInt ≤ 9) (sz : Nat) : Met l yX7_nextValue wsMX7_nextValue ({ frames := 0, cells := 0, slots := 0, locals := 0 }) (va_Pc [.ref (hV 0), .int p1] (fun U => U.heap.size = sz ∧ va_P (dC, dI) vwCl (WV hV aV kV iV_holders iV_rules fV_pairs fV_domain fV_kind fV_a fV_b fV_c fV_rulePairs fV_lastHolder fV_now iV_doneFor iV_changed gV_fore gV_back fV_together fV_member gV_list dV_list nV_list iV_listed iV_listDone) U.heap ∧ va_K (dC, dI) vwCl (tV kV) U ∧ va_D (fun _ => True) (WV hV aV kV iV_holders iV_rules fV_pairs fV_domain fV_kind fV_a fV_b fV_c fV_rulePairs fV_lastHolder fV_now iV_doneFor iV_changed gV_fore gV_back fV_together fV_member gV_list dV_list nV_list iV_listed iV_listDone))) (va_Qi (fun (r : Int32) (u : Unit) => ((-1) ≤ r.toInt ∧ r.toInt ≤ 15)) (fun (u : Unit) t => va_P (dC, dI) vwCl (WV hV aV kV iV_holders iV_rules fV_pairs fV_domain fV_kind fV_a fV_b fV_c fV_rulePairs fV_lastHolder fV_now iV_doneFor iV_changed gV_fore gV_back fV_together fV_member gV_list dV_list nV_list iV_listed iV_listDone) t.heap ∧ va_D (va_A (WV hV aV kV iV_holders iV_rules fV_pairs fV_domain fV_kind fV_a fV_b fV_c fV_rulePairs fV_lastHolder fV_now iV_doneFor iV_changed gV_fore gV_back fV_together fV_member gV_list dV_list nV_list iV_listed iV_listDone) sz) (WV hV aV kV iV_holders iV_rules fV_pairs fV_domain fV_kind fV_a fV_b fV_c fV_rulePairs fV_lastHolder fV_now iV_doneFor iV_changed gV_fore gV_back fV_together fV_member gV_list dV_list nV_list iV_listed iV_listDone)) (va_A (WV hV aV kV iV_holders iV_rules fV_pairs fV_domain fV_kind fV_a fV_b fV_c fV_rulePairs fV_lastHolder fV_now iV_doneFor iV_changed gV_fore gV_back fV_together fV_member gV_list dV_list nV_list iV_listed iV_listDone) sz)) 0 0 (va_A (WV hV aV kV iV_holders iV_rules fV_pairs fV_domain fV_kind fV_a fV_b fV_c fV_rulePairs fV_lastHolder fV_now iV_doneFor iV_changed gV_fore gV_back fV_together fV_member gV_list dV_list nV_list iV_listed iV_listDone) sz) := by
  refine Met.ofW (cc := cX7_nextValue) (maxL := 3) (ret := (some .int)) (by decide) rfl ?_
  intro p e s m args below meth c s₁ B hml hv
  obtain ⟨rfl, hsz, hP, hK, hD0⟩ := hv
  have hx := B.exec
  have hb := B.bytes
  have hr := B.returns
  have hts := atoms_spec (ws := wsMX7_nextValue) B.pre
  have hown : s.vm.findClass RX7 = some m.cls := findClass_of_methodNamed B.named
  have hlocks := B.notSynchronized
  subst hsz
  have hD := hD0.self (sz := s.heap.size)
  generalize hAe : va_A (WV hV aV kV iV_holders iV_rules fV_pairs fV_domain fV_kind fV_a fV_b fV_c fV_rulePairs fV_lastHolder fV_now iV_doneFor iV_changed gV_fore gV_back fV_together fV_member gV_list dV_list nV_list iV_listed iV_listDone) s.heap.size = A at hD ⊢
  have hA : ∀ q : Nat, s.heap.size ≤ q → A q := fun q h => by rw [← hAe]; exact Or.inr h
  have hS : va_S A s.heap s.heap [] := va_S.rf
  have hl := lv_entry ([.ref (hV 0), .int p1]) (n := 3) (Nat.le_of_ble_eq_true rfl)
  rw [lg_entry_eq]
  generalize (lg_sl ([.ref (hV 0), .int p1]) ++ List.replicate (3 - (lg_sl ([.ref (hV 0), .int p1])).length) Slot.unset).toArray = ls at hl ⊢
  have hl : lv_has ls 3 [(0, .ref (hV 0)), (1, .int p1)] := hl
  refine lv_aload_n hx hb dX7_nextValue_0 rfl (lv_at hl 0 rfl) ?_
  refine va_get (D := (dC, dI)) (ci := 7) (v := .ref (aV 12)) (C := RX7) (T := TX7) (N := 20) hx hb hts iwsMX7_nextValue_in7 hown hK hP 0 rfl rfl 16 (by decide) (hts (.fieldLink RX7 53 "OptimaWorks$ValueDesk" "member" "[I") (by decide +kernel)) (fun _ h9 => h9) rfl dX7_nextValue_1 ?_
  refine lv_iload_n hx hb dX7_nextValue_4 rfl (lv_at hl 1 rfl) ?_
  refine va_iald (cA := kV 12) (n := 10) (f := fV_member) hx hb hK hP 13 12 rfl rfl (vp_in_iff.mpr ⟨b_p1.1, (Int.lt_of_le_of_lt (b_p1.2) (by decide))⟩) dX7_nextValue_5 ?_
  refine lv_topi (fun v1 hv1 => ?_)
  have b_v1 : (-1) ≤ v1.toInt ∧ v1.toInt ≤ 15 := by rw [hv1]; exact b_fV_member _
  clear hv1
  refine lv_iconst (v := 1) hx hb dX7_nextValue_6 (by decide) ?_
  refine lv_iadd hx hb dX7_nextValue_7 ?_
  refine lv_topi (fun y2 hy2 => ?_)
  obtain rfl : (iI (v1.toInt + 1)) = y2 := (hy2.trans (iI_add2 (iI_of _) (by decide : (1 : Int32) = iI 1))).symm
  refine lv_istore_n hx hb dX7_nextValue_8 rfl hl (by decide) rfl (fun ls (hl : lv_has ls _ ([(2, .int (iI (v1.toInt + 1))), (0, .ref (hV 0)), (1, .int p1)])) => ?_)
  have hl : lv_has _ _ ([(2, .int (iI (v1.toInt + 1))), (0, .ref (hV 0)), (1, .int p1)]) := lv_sub hl [0, 1, 2] rfl
  refine (fun (loop : ∀ (n9 : Nat) (l2_x9 : Int32) (H : Heap) (locs : List Loc) (ls : Array Slot), (0 ≤ l2_x9.toInt ∧ l2_x9.toInt ≤ 16) → (16 - l2_x9.toInt < ((n9 : Nat) : Int)) → va_P (dC, dI) vwCl (WV hV aV kV iV_holders iV_rules fV_pairs fV_domain fV_kind fV_a fV_b fV_c fV_rulePairs fV_lastHolder fV_now iV_doneFor iV_changed gV_fore gV_back fV_together fV_member gV_list dV_list nV_list iV_listed iV_listDone) H → va_D A (WV hV aV kV iV_holders iV_rules fV_pairs fV_domain fV_kind fV_a fV_b fV_c fV_rulePairs fV_lastHolder fV_now iV_doneFor iV_changed gV_fore gV_back fV_together fV_member gV_list dV_list nV_list iV_listed iV_listDone) → va_S A s.heap H locs → lv_has ls 3 [(2, .int l2_x9), (0, .ref (hV 0)), (1, .int p1)] → W p l e _ s m _ below meth c H locs 0 0 _ (F0 m 9 ls [])) => loop (17) (iI (v1.toInt + 1)) _ _ _ (iI_rng (Int.le_trans (by decide) (Int.add_le_add (b_v1.1) (Int.le_refl _))) (Int.le_trans (Int.add_le_add (b_v1.2) (Int.le_refl _)) (by decide)) (by decide) (by decide)) ((by have e9 : ((iI (v1.toInt + 1))).toInt = (v1.toInt + 1) := (iI_t (Int.le_trans (by decide) (Int.add_le_add (b_v1.1) (Int.le_refl _))) (Int.le_trans (Int.add_le_add (b_v1.2) (Int.le_refl _)) (by decide))); omega)) hP hD hS hl) ?_
  intro n9
  induction n9 with
  | zero => intro l2_x9 H locs ls b_l2_x9 hf9; exact False.elim (by omega)
  | succ n9 ihx9 =>
    intro l2_x9 H locs ls b_l2_x9 hfx9 hP hD hS hl
    refine lv_iload_n hx hb dX7_nextValue_9 rfl (lv_at hl 0 rfl) ?_
    refine lv_bipush (v := 16) hx hb dX7_nextValue_10 (by decide) ?_
    refine lv_icmp_ge (tgt := 36) hx hb dX7_nextValue_12 (by decide) (fun c_12 => ?_) (fun c_12 => ?_)
    · have t_12 : l2_x9.toInt ≥ 16 := toI_ge c_12 rfl (by decide : (16 : Int32).toInt = 16)
      refine lv_iconst (v := (-1)) hx hb dX7_nextValue_36 (by decide) ?_
      refine W.widen (k := 0) (n := 0) (by decide +kernel) (by decide +kernel) ?_
      exact W.iret (v := (-1)) hx hb hr (fun t9_ ht hW => ⟨⟨((-1) : Int32), (), rfl, (show (-1) ≤ ((-1) : Int32).toInt ∧ ((-1) : Int32).toInt ≤ 15 from by decide), by rw [ht]; exact hP, hD⟩, hS.F ht⟩) hS.2.2 dX7_nextValue_37
    · have t_12 : ¬ l2_x9.toInt ≥ 16 := toI_nge c_12 rfl (by decide : (16 : Int32).toInt = 16)
      refine lv_aload_n hx hb dX7_nextValue_15 rfl (lv_at hl 1 rfl) ?_
      refine va_get (D := (dC, dI)) (ci := 7) (v := .ref (aV 8)) (C := RX7) (T := TX7) (N := 20) hx hb hts iwsMX7_nextValue_in7 hown hK hP 0 rfl rfl 10 (by decide) (hts (.fieldLink RX7 36 "OptimaWorks$ValueDesk" "now" "[I") (by decide +kernel)) (fun _ h9 => h9) rfl dX7_nextValue_16 ?_
      refine lv_iload_n hx hb dX7_nextValue_19 rfl (lv_at hl 2 rfl) ?_
      refine va_iald (cA := kV 8) (n := 10) (f := fV_now) hx hb hK hP 9 8 rfl rfl (vp_in_iff.mpr ⟨b_p1.1, (Int.lt_of_le_of_lt (b_p1.2) (by decide))⟩) dX7_nextValue_20 ?_
      refine lv_topi (fun v9 hv9 => ?_)
      clear hv9
      refine lv_iload_n hx hb dX7_nextValue_21 rfl (lv_at hl 0 rfl) ?_
      refine lv_ishr hx hb dX7_nextValue_22 ?_
      refine lv_topi (fun v10 hv10 => ?_)
      clear hv10
      refine lv_iconst (v := 1) hx hb dX7_nextValue_23 (by decide) ?_
      refine lv_iand hx hb dX7_nextValue_24 ?_
      refine lv_topi (fun v11 hv11 => ?_)
      have b_v11 : 0 ≤ v11.toInt ∧ v11.toInt ≤ 1 := by rw [hv11]; exact and_rng _ (by decide) (by decide)
      clear hv11
      refine lv_if_eq (tgt := 30) hx hb dX7_nextValue_25 (by decide) (fun c_25 => ?_) (fun c_25 => ?_)
      · have t_25 : v11.toInt = 0 := toI_eq c_25 rfl (by decide : (0 : Int32).toInt = 0)
        refine lv_iinc (v := (iI (l2_x9.toInt + 1))) hx hb dX7_nextValue_30 hl (k := 0) rfl (iI_add2 (iI_of _) (by decide : (1 : Int32) = iI 1)) (by decide) rfl (fun ls (hl : lv_has ls _ ([(2, .int (iI (l2_x9.toInt + 1))), (0, .ref (hV 0)), (1, .int p1)])) => ?_)
        refine lv_goto (tgt := 9) hx hb dX7_nextValue_33 (by decide) ?_
        have hl : lv_has _ _ ([(2, .int (iI (l2_x9.toInt + 1))), (0, .ref (hV 0)), (1, .int p1)]) := lv_sub hl [0, 1, 2] rfl
        exact ihx9 (iI (l2_x9.toInt + 1)) _ _ _ (iI_rng (Int.le_trans (by decide) (Int.add_le_add (b_l2_x9.1) (Int.le_refl _))) (by omega) (by decide) (by decide)) (by have e9 : ((iI (l2_x9.toInt + 1))).toInt = (l2_x9.toInt + 1) := (iI_t (Int.le_trans (by decide) (Int.add_le_add (b_l2_x9.1) (Int.le_refl _))) (Int.le_trans (Int.add_le_add (b_l2_x9.2) (Int.le_refl _)) (by decide))); omega) hP hD hS hl
      · have t_25 : ¬ v11.toInt = 0 := toI_neq c_25 rfl (by decide : (0 : Int32).toInt = 0)
        refine lv_iload_n hx hb dX7_nextValue_28 rfl (lv_at hl 0 rfl) ?_
        refine W.widen (k := 0) (n := 0) (by decide +kernel) (by decide +kernel) ?_
        exact W.iret (v := l2_x9) hx hb hr (fun t9_ ht hW => ⟨⟨l2_x9, (), rfl, (by first | exact b_l2_x9 | with_reducible assumption | exact ⟨by omega, by omega⟩ | assumption), by rw [ht]; exact hP, hD⟩, hS.F ht⟩) hS.2.2 dX7_nextValue_29
theorem dX7_keeps_0 : decode cX7_keeps 0 = .ok (.aload_n 0, 1) := dk_42 (by decide +kernel)
theorem dX7_keeps_1 : decode cX7_keeps 1 = .ok (.getfield 18, 3) := dk_180 (by decide +kernel)
theorem dX7_keeps_4 : decode cX7_keeps 4 = .ok (.iload_n 1, 1) := dk_27 (by decide +kernel)
theorem dX7_keeps_5 : decode cX7_keeps 5 = .ok (.iaload, 1) := dk_46 (by decide +kernel)
theorem dX7_keeps_6 : decode cX7_keeps 6 = .ok (.iconst 1, 1) := dk_4 (by decide +kernel)
theorem dX7_keeps_7 : decode cX7_keeps 7 = .ok (.if_icmp .ne 41, 3) := dk_160 (by decide +kernel)
theorem dX7_keeps_10 : decode cX7_keeps 10 = .ok (.aload_n 0, 1) := dk_42 (by decide +kernel)
theorem dX7_keeps_11 : decode cX7_keeps 11 = .ok (.getfield 53, 3) := dk_180 (by decide +kernel)
theorem dX7_keeps_14 : decode cX7_keeps 14 = .ok (.aload_n 0, 1) := dk_42 (by decide +kernel)
theorem dX7_keeps_15 : decode cX7_keeps 15 = .ok (.getfield 21, 3) := dk_180 (by decide +kernel)
theorem dX7_keeps_18 : decode cX7_keeps 18 = .ok (.iload_n 1, 1) := dk_27 (by decide +kernel)
theorem dX7_keeps_19 : decode cX7_keeps 19 = .ok (.iaload, 1) := dk_46 (by decide +kernel)
theorem dX7_keeps_20 : decode cX7_keeps 20 = .ok (.iaload, 1) := dk_46 (by decide +kernel)
theorem dX7_keeps_21 : decode cX7_keeps 21 = .ok (.aload_n 0, 1) := dk_42 (by decide +kernel)
theorem dX7_keeps_22 : decode cX7_keeps 22 = .ok (.getfield 24, 3) := dk_180 (by decide +kernel)
theorem dX7_keeps_25 : decode cX7_keeps 25 = .ok (.iload_n 1, 1) := dk_27 (by decide +kernel)
theorem dX7_keeps_26 : decode cX7_keeps 26 = .ok (.iaload, 1) := dk_46 (by decide +kernel)
theorem dX7_keeps_27 : decode cX7_keeps 27 = .ok (.iadd, 1) := dk_96 (by decide +kernel)
theorem dX7_keeps_28 : decode cX7_keeps 28 = .ok (.aload_n 0, 1) := dk_42 (by decide +kernel)
theorem dX7_keeps_29 : decode cX7_keeps 29 = .ok (.getfield 53, 3) := dk_180 (by decide +kernel)
theorem dX7_keeps_32 : decode cX7_keeps 32 = .ok (.aload_n 0, 1) := dk_42 (by decide +kernel)
theorem dX7_keeps_33 : decode cX7_keeps 33 = .ok (.getfield 27, 3) := dk_180 (by decide +kernel)
theorem dX7_keeps_36 : decode cX7_keeps 36 = .ok (.iload_n 1, 1) := dk_27 (by decide +kernel)
theorem dX7_keeps_37 : decode cX7_keeps 37 = .ok (.iaload, 1) := dk_46 (by decide +kernel)
theorem dX7_keeps_38 : decode cX7_keeps 38 = .ok (.iaload, 1) := dk_46 (by decide +kernel)
theorem dX7_keeps_39 : decode cX7_keeps 39 = .ok (.if_icmp .gt 7, 3) := dk_163 (by decide +kernel)
theorem dX7_keeps_42 : decode cX7_keeps 42 = .ok (.iconst 1, 1) := dk_4 (by decide +kernel)
theorem dX7_keeps_43 : decode cX7_keeps 43 = .ok (.goto 4, 3) := dk_167 (by decide +kernel)
theorem dX7_keeps_46 : decode cX7_keeps 46 = .ok (.iconst 0, 1) := dk_3 (by decide +kernel)
theorem dX7_keeps_47 : decode cX7_keeps 47 = .ok (.ireturn, 1) := dk_172 (by decide +kernel)
theorem dX7_keeps_48 : decode cX7_keeps 48 = .ok (.aload_n 0, 1) := dk_42 (by decide +kernel)
theorem dX7_keeps_49 : decode cX7_keeps 49 = .ok (.getfield 18, 3) := dk_180 (by decide +kernel)
theorem dX7_keeps_52 : decode cX7_keeps 52 = .ok (.iload_n 1, 1) := dk_27 (by decide +kernel)
theorem dX7_keeps_53 : decode cX7_keeps 53 = .ok (.iaload, 1) := dk_46 (by decide +kernel)
theorem dX7_keeps_54 : decode cX7_keeps 54 = .ok (.iconst 4, 1) := dk_7 (by decide +kernel)
theorem dX7_keeps_55 : decode cX7_keeps 55 = .ok (.if_icmp .ne 47, 3) := dk_160 (by decide +kernel)
theorem dX7_keeps_58 : decode cX7_keeps 58 = .ok (.aload_n 0, 1) := dk_42 (by decide +kernel)
theorem dX7_keeps_59 : decode cX7_keeps 59 = .ok (.getfield 30, 3) := dk_180 (by decide +kernel)
theorem dX7_keeps_62 : decode cX7_keeps 62 = .ok (.iload_n 1, 1) := dk_27 (by decide +kernel)
theorem dX7_keeps_63 : decode cX7_keeps 63 = .ok (.bipush 16, 2) := dk_16 (by decide +kernel)
theorem dX7_keeps_65 : decode cX7_keeps 65 = .ok (.imul, 1) := dk_104 (by decide +kernel)
theorem dX7_keeps_66 : decode cX7_keeps 66 = .ok (.aload_n 0, 1) := dk_42 (by decide +kernel)
theorem dX7_keeps_67 : decode cX7_keeps 67 = .ok (.getfield 53, 3) := dk_180 (by decide +kernel)
theorem dX7_keeps_70 : decode cX7_keeps 70 = .ok (.aload_n 0, 1) := dk_42 (by decide +kernel)
theorem dX7_keeps_71 : decode cX7_keeps 71 = .ok (.getfield 21, 3) := dk_180 (by decide +kernel)
theorem dX7_keeps_74 : decode cX7_keeps 74 = .ok (.iload_n 1, 1) := dk_27 (by decide +kernel)
theorem dX7_keeps_75 : decode cX7_keeps 75 = .ok (.iaload, 1) := dk_46 (by decide +kernel)
theorem dX7_keeps_76 : decode cX7_keeps 76 = .ok (.iaload, 1) := dk_46 (by decide +kernel)
theorem dX7_keeps_77 : decode cX7_keeps 77 = .ok (.iadd, 1) := dk_96 (by decide +kernel)
theorem dX7_keeps_78 : decode cX7_keeps 78 = .ok (.iaload, 1) := dk_46 (by decide +kernel)
theorem dX7_keeps_79 : decode cX7_keeps 79 = .ok (.aload_n 0, 1) := dk_42 (by decide +kernel)
theorem dX7_keeps_80 : decode cX7_keeps 80 = .ok (.getfield 53, 3) := dk_180 (by decide +kernel)
theorem dX7_keeps_83 : decode cX7_keeps 83 = .ok (.aload_n 0, 1) := dk_42 (by decide +kernel)
theorem dX7_keeps_84 : decode cX7_keeps 84 = .ok (.getfield 24, 3) := dk_180 (by decide +kernel)
theorem dX7_keeps_87 : decode cX7_keeps 87 = .ok (.iload_n 1, 1) := dk_27 (by decide +kernel)
theorem dX7_keeps_88 : decode cX7_keeps 88 = .ok (.iaload, 1) := dk_46 (by decide +kernel)
theorem dX7_keeps_89 : decode cX7_keeps 89 = .ok (.iaload, 1) := dk_46 (by decide +kernel)
theorem dX7_keeps_90 : decode cX7_keeps 90 = .ok (.ishr, 1) := dk_122 (by decide +kernel)
theorem dX7_keeps_91 : decode cX7_keeps 91 = .ok (.iconst 1, 1) := dk_4 (by decide +kernel)
theorem dX7_keeps_92 : decode cX7_keeps 92 = .ok (.iand, 1) := dk_126 (by decide +kernel)
theorem dX7_keeps_93 : decode cX7_keeps 93 = .ok (.ifCond .eq 7, 3) := dk_153 (by decide +kernel)
theorem dX7_keeps_96 : decode cX7_keeps 96 = .ok (.iconst 1, 1) := dk_4 (by decide +kernel)
theorem dX7_keeps_97 : decode cX7_keeps 97 = .ok (.goto 4, 3) := dk_167 (by decide +kernel)
theorem dX7_keeps_100 : decode cX7_keeps 100 = .ok (.iconst 0, 1) := dk_3 (by decide +kernel)
theorem dX7_keeps_101 : decode cX7_keeps 101 = .ok (.ireturn, 1) := dk_172 (by decide +kernel)
theorem dX7_keeps_102 : decode cX7_keeps 102 = .ok (.iconst 0, 1) := dk_3 (by decide +kernel)
theorem dX7_keeps_103 : decode cX7_keeps 103 = .ok (.istore_n 2, 1) := dk_61 (by decide +kernel)
theorem dX7_keeps_104 : decode cX7_keeps 104 = .ok (.iconst 0, 1) := dk_3 (by decide +kernel)
theorem dX7_keeps_105 : decode cX7_keeps 105 = .ok (.istore_n 3, 1) := dk_62 (by decide +kernel)
theorem dX7_keeps_106 : decode cX7_keeps 106 = .ok (.iconst 0, 1) := dk_3 (by decide +kernel)
theorem dX7_keeps_107 : decode cX7_keeps 107 = .ok (.istore 4, 2) := dk_54 (by decide +kernel)
theorem dX7_keeps_109 : decode cX7_keeps 109 = .ok (.iconst 1, 1) := dk_4 (by decide +kernel)
theorem dX7_keeps_110 : decode cX7_keeps 110 = .ok (.istore 5, 2) := dk_54 (by decide +kernel)
theorem dX7_keeps_112 : decode cX7_keeps 112 = .ok (.iconst 0, 1) := dk_3 (by decide +kernel)
theorem dX7_keeps_113 : decode cX7_keeps 113 = .ok (.istore 6, 2) := dk_54 (by decide +kernel)
theorem dX7_keeps_115 : decode cX7_keeps 115 = .ok (.iload 6, 2) := dk_21 (by decide +kernel)
theorem dX7_keeps_117 : decode cX7_keeps 117 = .ok (.aload_n 0, 1) := dk_42 (by decide +kernel)
theorem dX7_keeps_118 : decode cX7_keeps 118 = .ok (.getfield 59, 3) := dk_180 (by decide +kernel)
theorem dX7_keeps_121 : decode cX7_keeps 121 = .ok (.if_icmp .ge 97, 3) := dk_162 (by decide +kernel)
theorem dX7_keeps_124 : decode cX7_keeps 124 = .ok (.aload_n 0, 1) := dk_42 (by decide +kernel)
theorem dX7_keeps_125 : decode cX7_keeps 125 = .ok (.getfield 21, 3) := dk_180 (by decide +kernel)
theorem dX7_keeps_128 : decode cX7_keeps 128 = .ok (.iload_n 1, 1) := dk_27 (by decide +kernel)
theorem dX7_keeps_129 : decode cX7_keeps 129 = .ok (.iaload, 1) := dk_46 (by decide +kernel)
theorem dX7_keeps_130 : decode cX7_keeps 130 = .ok (.iload 6, 2) := dk_21 (by decide +kernel)
theorem dX7_keeps_132 : decode cX7_keeps 132 = .ok (.ishr, 1) := dk_122 (by decide +kernel)
theorem dX7_keeps_133 : decode cX7_keeps 133 = .ok (.iconst 1, 1) := dk_4 (by decide +kernel)
theorem dX7_keeps_134 : decode cX7_keeps 134 = .ok (.iand, 1) := dk_126 (by decide +kernel)
theorem dX7_keeps_135 : decode cX7_keeps 135 = .ok (.ifCond .eq 77, 3) := dk_153 (by decide +kernel)
theorem dX7_keeps_138 : decode cX7_keeps 138 = .ok (.iload 5, 2) := dk_21 (by decide +kernel)
theorem dX7_keeps_140 : decode cX7_keeps 140 = .ok (.ifCond .eq 21, 3) := dk_153 (by decide +kernel)
theorem dX7_keeps_143 : decode cX7_keeps 143 = .ok (.iload_n 2, 1) := dk_28 (by decide +kernel)
theorem dX7_keeps_144 : decode cX7_keeps 144 = .ok (.aload_n 0, 1) := dk_42 (by decide +kernel)
theorem dX7_keeps_145 : decode cX7_keeps 145 = .ok (.getfield 53, 3) := dk_180 (by decide +kernel)
theorem dX7_keeps_148 : decode cX7_keeps 148 = .ok (.iload 6, 2) := dk_21 (by decide +kernel)
theorem dX7_keeps_150 : decode cX7_keeps 150 = .ok (.iaload, 1) := dk_46 (by decide +kernel)
theorem dX7_keeps_151 : decode cX7_keeps 151 = .ok (.ishr, 1) := dk_122 (by decide +kernel)
theorem dX7_keeps_152 : decode cX7_keeps 152 = .ok (.iconst 1, 1) := dk_4 (by decide +kernel)
theorem dX7_keeps_153 : decode cX7_keeps 153 = .ok (.iand, 1) := dk_126 (by decide +kernel)
theorem dX7_keeps_154 : decode cX7_keeps 154 = .ok (.ifCond .ne 7, 3) := dk_154 (by decide +kernel)
theorem dX7_keeps_157 : decode cX7_keeps 157 = .ok (.iconst 1, 1) := dk_4 (by decide +kernel)
theorem dX7_keeps_158 : decode cX7_keeps 158 = .ok (.goto 4, 3) := dk_167 (by decide +kernel)
theorem dX7_keeps_161 : decode cX7_keeps 161 = .ok (.iconst 0, 1) := dk_3 (by decide +kernel)
theorem dX7_keeps_162 : decode cX7_keeps 162 = .ok (.istore 5, 2) := dk_54 (by decide +kernel)
theorem dX7_keeps_164 : decode cX7_keeps 164 = .ok (.iload_n 2, 1) := dk_28 (by decide +kernel)
theorem dX7_keeps_165 : decode cX7_keeps 165 = .ok (.iconst 1, 1) := dk_4 (by decide +kernel)
theorem dX7_keeps_166 : decode cX7_keeps 166 = .ok (.aload_n 0, 1) := dk_42 (by decide +kernel)
theorem dX7_keeps_167 : decode cX7_keeps 167 = .ok (.getfield 53, 3) := dk_180 (by decide +kernel)
theorem dX7_keeps_170 : decode cX7_keeps 170 = .ok (.iload 6, 2) := dk_21 (by decide +kernel)
theorem dX7_keeps_172 : decode cX7_keeps 172 = .ok (.iaload, 1) := dk_46 (by decide +kernel)
theorem dX7_keeps_173 : decode cX7_keeps 173 = .ok (.ishl, 1) := dk_120 (by decide +kernel)
theorem dX7_keeps_174 : decode cX7_keeps 174 = .ok (.ior, 1) := dk_128 (by decide +kernel)
theorem dX7_keeps_175 : decode cX7_keeps 175 = .ok (.istore_n 2, 1) := dk_61 (by decide +kernel)
theorem dX7_keeps_176 : decode cX7_keeps 176 = .ok (.iload_n 3, 1) := dk_29 (by decide +kernel)
theorem dX7_keeps_177 : decode cX7_keeps 177 = .ok (.aload_n 0, 1) := dk_42 (by decide +kernel)
theorem dX7_keeps_178 : decode cX7_keeps 178 = .ok (.getfield 53, 3) := dk_180 (by decide +kernel)
theorem dX7_keeps_181 : decode cX7_keeps 181 = .ok (.iload 6, 2) := dk_21 (by decide +kernel)
theorem dX7_keeps_183 : decode cX7_keeps 183 = .ok (.iaload, 1) := dk_46 (by decide +kernel)
theorem dX7_keeps_184 : decode cX7_keeps 184 = .ok (.iadd, 1) := dk_96 (by decide +kernel)
theorem dX7_keeps_185 : decode cX7_keeps 185 = .ok (.istore_n 3, 1) := dk_62 (by decide +kernel)
theorem dX7_keeps_186 : decode cX7_keeps 186 = .ok (.iload 4, 2) := dk_21 (by decide +kernel)
theorem dX7_keeps_188 : decode cX7_keeps 188 = .ok (.aload_n 0, 1) := dk_42 (by decide +kernel)
theorem dX7_keeps_189 : decode cX7_keeps 189 = .ok (.getfield 53, 3) := dk_180 (by decide +kernel)
theorem dX7_keeps_192 : decode cX7_keeps 192 = .ok (.iload 6, 2) := dk_21 (by decide +kernel)
theorem dX7_keeps_194 : decode cX7_keeps 194 = .ok (.iaload, 1) := dk_46 (by decide +kernel)
theorem dX7_keeps_195 : decode cX7_keeps 195 = .ok (.aload_n 0, 1) := dk_42 (by decide +kernel)
theorem dX7_keeps_196 : decode cX7_keeps 196 = .ok (.getfield 27, 3) := dk_180 (by decide +kernel)
theorem dX7_keeps_199 : decode cX7_keeps 199 = .ok (.iload_n 1, 1) := dk_27 (by decide +kernel)
theorem dX7_keeps_200 : decode cX7_keeps 200 = .ok (.iaload, 1) := dk_46 (by decide +kernel)
theorem dX7_keeps_201 : decode cX7_keeps 201 = .ok (.if_icmp .ne 7, 3) := dk_160 (by decide +kernel)
theorem dX7_keeps_204 : decode cX7_keeps 204 = .ok (.iconst 1, 1) := dk_4 (by decide +kernel)
theorem dX7_keeps_205 : decode cX7_keeps 205 = .ok (.goto 4, 3) := dk_167 (by decide +kernel)
theorem dX7_keeps_208 : decode cX7_keeps 208 = .ok (.iconst 0, 1) := dk_3 (by decide +kernel)
theorem dX7_keeps_209 : decode cX7_keeps 209 = .ok (.iadd, 1) := dk_96 (by decide +kernel)
theorem dX7_keeps_210 : decode cX7_keeps 210 = .ok (.istore 4, 2) := dk_54 (by decide +kernel)
theorem dX7_keeps_212 : decode cX7_keeps 212 = .ok (.iinc 6 1, 3) := dk_132 (by decide +kernel)
theorem dX7_keeps_215 : decode cX7_keeps 215 = .ok (.goto (-100), 3) := dk_167 (by decide +kernel)
theorem dX7_keeps_218 : decode cX7_keeps 218 = .ok (.aload_n 0, 1) := dk_42 (by decide +kernel)
theorem dX7_keeps_219 : decode cX7_keeps 219 = .ok (.getfield 18, 3) := dk_180 (by decide +kernel)
theorem dX7_keeps_222 : decode cX7_keeps 222 = .ok (.iload_n 1, 1) := dk_27 (by decide +kernel)
theorem dX7_keeps_223 : decode cX7_keeps 223 = .ok (.iaload, 1) := dk_46 (by decide +kernel)
theorem dX7_keeps_224 : decode cX7_keeps 224 = .ok (.ifCond .ne 6, 3) := dk_154 (by decide +kernel)
theorem dX7_keeps_227 : decode cX7_keeps 227 = .ok (.iload 5, 2) := dk_21 (by decide +kernel)
theorem dX7_keeps_229 : decode cX7_keeps 229 = .ok (.ireturn, 1) := dk_172 (by decide +kernel)
theorem dX7_keeps_230 : decode cX7_keeps 230 = .ok (.aload_n 0, 1) := dk_42 (by decide +kernel)
theorem dX7_keeps_231 : decode cX7_keeps 231 = .ok (.getfield 18, 3) := dk_180 (by decide +kernel)
theorem dX7_keeps_234 : decode cX7_keeps 234 = .ok (.iload_n 1, 1) := dk_27 (by decide +kernel)
theorem dX7_keeps_235 : decode cX7_keeps 235 = .ok (.iaload, 1) := dk_46 (by decide +kernel)
theorem dX7_keeps_236 : decode cX7_keeps 236 = .ok (.iconst 2, 1) := dk_5 (by decide +kernel)
theorem dX7_keeps_237 : decode cX7_keeps 237 = .ok (.if_icmp .ne 31, 3) := dk_160 (by decide +kernel)
theorem dX7_keeps_240 : decode cX7_keeps 240 = .ok (.iload_n 3, 1) := dk_29 (by decide +kernel)
theorem dX7_keeps_241 : decode cX7_keeps 241 = .ok (.aload_n 0, 1) := dk_42 (by decide +kernel)
theorem dX7_keeps_242 : decode cX7_keeps 242 = .ok (.getfield 24, 3) := dk_180 (by decide +kernel)
theorem dX7_keeps_245 : decode cX7_keeps 245 = .ok (.iload_n 1, 1) := dk_27 (by decide +kernel)
theorem dX7_keeps_246 : decode cX7_keeps 246 = .ok (.iaload, 1) := dk_46 (by decide +kernel)
theorem dX7_keeps_247 : decode cX7_keeps 247 = .ok (.if_icmp .lt 17, 3) := dk_161 (by decide +kernel)
theorem dX7_keeps_250 : decode cX7_keeps 250 = .ok (.iload_n 3, 1) := dk_29 (by decide +kernel)
theorem dX7_keeps_251 : decode cX7_keeps 251 = .ok (.aload_n 0, 1) := dk_42 (by decide +kernel)
theorem dX7_keeps_252 : decode cX7_keeps 252 = .ok (.getfield 27, 3) := dk_180 (by decide +kernel)
theorem dX7_keeps_255 : decode cX7_keeps 255 = .ok (.iload_n 1, 1) := dk_27 (by decide +kernel)
theorem dX7_keeps_256 : decode cX7_keeps 256 = .ok (.iaload, 1) := dk_46 (by decide +kernel)
theorem dX7_keeps_257 : decode cX7_keeps 257 = .ok (.if_icmp .gt 7, 3) := dk_163 (by decide +kernel)
theorem dX7_keeps_260 : decode cX7_keeps 260 = .ok (.iconst 1, 1) := dk_4 (by decide +kernel)
theorem dX7_keeps_261 : decode cX7_keeps 261 = .ok (.goto 23, 3) := dk_167 (by decide +kernel)
theorem dX7_keeps_264 : decode cX7_keeps 264 = .ok (.iconst 0, 1) := dk_3 (by decide +kernel)
theorem dX7_keeps_265 : decode cX7_keeps 265 = .ok (.goto 19, 3) := dk_167 (by decide +kernel)
theorem dX7_keeps_268 : decode cX7_keeps 268 = .ok (.iload 4, 2) := dk_21 (by decide +kernel)
theorem dX7_keeps_270 : decode cX7_keeps 270 = .ok (.aload_n 0, 1) := dk_42 (by decide +kernel)
theorem dX7_keeps_271 : decode cX7_keeps 271 = .ok (.getfield 24, 3) := dk_180 (by decide +kernel)
theorem dX7_keeps_274 : decode cX7_keeps 274 = .ok (.iload_n 1, 1) := dk_27 (by decide +kernel)
theorem dX7_keeps_275 : decode cX7_keeps 275 = .ok (.iaload, 1) := dk_46 (by decide +kernel)
theorem dX7_keeps_276 : decode cX7_keeps 276 = .ok (.if_icmp .gt 7, 3) := dk_163 (by decide +kernel)
theorem dX7_keeps_279 : decode cX7_keeps 279 = .ok (.iconst 1, 1) := dk_4 (by decide +kernel)
theorem dX7_keeps_280 : decode cX7_keeps 280 = .ok (.goto 4, 3) := dk_167 (by decide +kernel)
theorem dX7_keeps_283 : decode cX7_keeps 283 = .ok (.iconst 0, 1) := dk_3 (by decide +kernel)
theorem dX7_keeps_284 : decode cX7_keeps 284 = .ok (.ireturn, 1) := dk_172 (by decide +kernel)
def wsMX7_keeps : List Cond := .code yX7_keeps cX7_keeps 7 (some .boolean) :: ([.fieldLink RX7 18 "OptimaWorks$ValueDesk" "kind" "[I", .fieldLink RX7 59 "OptimaWorks$ValueDesk" "holders" "I", .fieldLink RX7 21 "OptimaWorks$ValueDesk" "a" "[I", .fieldLink RX7 53 "OptimaWorks$ValueDesk" "member" "[I", .fieldLink RX7 27 "OptimaWorks$ValueDesk" "c" "[I", .fieldLink RX7 24 "OptimaWorks$ValueDesk" "b" "[I", .fieldLink RX7 30 "OptimaWorks$ValueDesk" "rulePairs" "[I"] ++ wsX70)
theorem iwsMX7_keeps_in7 : ∀ w ∈ wsX70, w ∈ wsMX7_keeps := fun _ h => List.mem_cons_of_mem _ (List.mem_append_right _ h)
theorem gdwsMX7_keeps : wsMX7_keeps.all goodWord = true := gdC rfl (gdA (by decide +kernel : ([.fieldLink RX7 18 "OptimaWorks$ValueDesk" "kind" "[I", .fieldLink RX7 59 "OptimaWorks$ValueDesk" "holders" "I", .fieldLink RX7 21 "OptimaWorks$ValueDesk" "a" "[I", .fieldLink RX7 53 "OptimaWorks$ValueDesk" "member" "[I", .fieldLink RX7 27 "OptimaWorks$ValueDesk" "c" "[I", .fieldLink RX7 24 "OptimaWorks$ValueDesk" "b" "[I", .fieldLink RX7 30 "OptimaWorks$ValueDesk" "rulePairs" "[I"] : List Cond).all goodWord = true) gdwsX70)
theorem hm_m_X7_keeps_0 : (.fieldLink RX7 18 "OptimaWorks$ValueDesk" "kind" "[I" : Cond) ∈ wsMX7_keeps := by decide +kernel
theorem hm_m_X7_keeps_1 : (.fieldLink RX7 24 "OptimaWorks$ValueDesk" "b" "[I" : Cond) ∈ wsMX7_keeps := by decide +kernel
theorem hm_m_X7_keeps_2 : (.fieldLink RX7 27 "OptimaWorks$ValueDesk" "c" "[I" : Cond) ∈ wsMX7_keeps := by decide +kernel
theorem hm_m_X7_keeps_3 : (.fieldLink RX7 21 "OptimaWorks$ValueDesk" "a" "[I" : Cond) ∈ wsMX7_keeps := by decide +kernel
theorem hm_m_X7_keeps_4 : (.fieldLink RX7 53 "OptimaWorks$ValueDesk" "member" "[I" : Cond) ∈ wsMX7_keeps := by decide +kernel
set_option maxHeartbeats 4000000 in
set_option maxRecDepth 100000 in
/-- is a rule kept -/
theorem m_X7_keeps (l : Launch) (dC : Nat → ClassId) (dI : Nat → Nat → Nat) (hV : Nat → Nat) (aV : Nat → Nat) (kV : Nat → ClassId) (iV_holders : Int32) (iV_rules : Int32) (fV_pairs : Nat → Int32) (fV_domain : Nat → Int32) (fV_kind : Nat → Int32) (fV_a : Nat → Int32) (fV_b : Nat → Int32) (fV_c : Nat → Int32) (fV_rulePairs : Nat → Int32) (fV_lastHolder : Nat → Int32) (fV_now : Nat → Int32) (iV_doneFor : Int32) (iV_changed : Int32) (gV_fore : Nat → Int64) (gV_back : Nat → Int64) (fV_together : Nat → Int32) (fV_member : Nat → Int32) (gV_list : Nat → Int64) (dV_list : Nat) (nV_list : Nat) (iV_listed : Int32) (iV_listDone : Int32) (p1 : Int32) (b_iV_holders : 0 ≤ iV_holders.toInt ∧ iV_holders.toInt ≤ 10) (b_iV_rules : 0 ≤ iV_rules.toInt ∧ iV_rules.toInt ≤ 12) (b_fV_kind : ∀ q : Nat, 0 ≤ (fV_kind q).toInt ∧ (fV_kind q).toInt ≤ 4) (b_iV_changed : 0 ≤ iV_changed.toInt ∧ iV_changed.toInt ≤ 1) (b_fV_member : ∀ q : Nat, (-1) ≤ (fV_member q).toInt ∧ (fV_member q).toInt ≤ 15) (b_nV_list : 0 ≤ nV_list ∧ nV_list ≤ 20000) (b_iV_listed : (-1) ≤ iV_listed.toInt ∧ iV_listed.toInt ≤ 5000) (b_iV_listDone : 0 ≤ iV_listDone.toInt ∧ iV_listDone.toInt ≤ 1) (b_RuV : RuV fV_kind fV_a fV_b fV_c fV_lastHolder) (b_lst : iV_listed.toInt ≤ ((nV_list : Nat) : Int)) (b_p1 : 0 ≤ p1.toInt ∧ p1.toInt ≤ 11) (hme : MemC fV_member ((fV_lastHolder p1.toNatClampNeg).toInt + 1)) (sz : Nat) : Met l yX7_keeps wsMX7_keeps ({ frames := 0, cells := 0, slots := 0, locals := 0 }) (va_Pc [.ref (hV 0), .int p1] (fun U => U.heap.size = sz ∧ va_P (dC, dI) vwCl (WV hV aV kV iV_holders iV_rules fV_pairs fV_domain fV_kind fV_a fV_b fV_c fV_rulePairs fV_lastHolder fV_now iV_doneFor iV_changed gV_fore gV_back fV_together fV_member gV_list dV_list nV_list iV_listed iV_listDone) U.heap ∧ va_K (dC, dI) vwCl (tV kV) U ∧ va_D (fun _ => True) (WV hV aV kV iV_holders iV_rules fV_pairs fV_domain fV_kind fV_a fV_b fV_c fV_rulePairs fV_lastHolder fV_now iV_doneFor iV_changed gV_fore gV_back fV_together fV_member gV_list dV_list nV_list iV_listed iV_listDone))) (va_Qi (fun (r : Int32) (u : Unit) => (0 ≤ r.toInt ∧ r.toInt ≤ 1)) (fun (u : Unit) t => va_P (dC, dI) vwCl (WV hV aV kV iV_holders iV_rules fV_pairs fV_domain fV_kind fV_a fV_b fV_c fV_rulePairs fV_lastHolder fV_now iV_doneFor iV_changed gV_fore gV_back fV_together fV_member gV_list dV_list nV_list iV_listed iV_listDone) t.heap ∧ va_D (va_A (WV hV aV kV iV_holders iV_rules fV_pairs fV_domain fV_kind fV_a fV_b fV_c fV_rulePairs fV_lastHolder fV_now iV_doneFor iV_changed gV_fore gV_back fV_together fV_member gV_list dV_list nV_list iV_listed iV_listDone) sz) (WV hV aV kV iV_holders iV_rules fV_pairs fV_domain fV_kind fV_a fV_b fV_c fV_rulePairs fV_lastHolder fV_now iV_doneFor iV_changed gV_fore gV_back fV_together fV_member gV_list dV_list nV_list iV_listed iV_listDone)) (va_A (WV hV aV kV iV_holders iV_rules fV_pairs fV_domain fV_kind fV_a fV_b fV_c fV_rulePairs fV_lastHolder fV_now iV_doneFor iV_changed gV_fore gV_back fV_together fV_member gV_list dV_list nV_list iV_listed iV_listDone) sz)) 0 0 (va_A (WV hV aV kV iV_holders iV_rules fV_pairs fV_domain fV_kind fV_a fV_b fV_c fV_rulePairs fV_lastHolder fV_now iV_doneFor iV_changed gV_fore gV_back fV_together fV_member gV_list dV_list nV_list iV_listed iV_listDone) sz) := by
  refine Met.ofW (cc := cX7_keeps) (maxL := 7) (ret := (some .boolean)) (by decide) rfl ?_
  intro p e s m args below meth c s₁ B hml hv
  obtain ⟨rfl, hsz, hP, hK, hD0⟩ := hv
  have hx := B.exec
  have hb := B.bytes
  have hr := B.returns
  have hts := atoms_spec (ws := wsMX7_keeps) B.pre
  have hown : s.vm.findClass RX7 = some m.cls := findClass_of_methodNamed B.named
  have hlocks := B.notSynchronized
  subst hsz
  have hD := hD0.self (sz := s.heap.size)
  generalize hAe : va_A (WV hV aV kV iV_holders iV_rules fV_pairs fV_domain fV_kind fV_a fV_b fV_c fV_rulePairs fV_lastHolder fV_now iV_doneFor iV_changed gV_fore gV_back fV_together fV_member gV_list dV_list nV_list iV_listed iV_listDone) s.heap.size = A at hD ⊢
  have hA : ∀ q : Nat, s.heap.size ≤ q → A q := fun q h => by rw [← hAe]; exact Or.inr h
  have hS : va_S A s.heap s.heap [] := va_S.rf
  have hl := lv_entry ([.ref (hV 0), .int p1]) (n := 7) (Nat.le_of_ble_eq_true rfl)
  rw [lg_entry_eq]
  generalize (lg_sl ([.ref (hV 0), .int p1]) ++ List.replicate (7 - (lg_sl ([.ref (hV 0), .int p1])).length) Slot.unset).toArray = ls at hl ⊢
  have hl : lv_has ls 7 [(0, .ref (hV 0)), (1, .int p1)] := hl
  refine lv_aload_n hx hb dX7_keeps_0 rfl (lv_at hl 0 rfl) ?_
  refine va_get (D := (dC, dI)) (ci := 7) (v := .ref (aV 2)) (C := RX7) (T := TX7) (N := 20) hx hb hts iwsMX7_keeps_in7 hown hK hP 0 rfl rfl 4 (by decide) (hts _ hm_m_X7_keeps_0) (fun _ h9 => h9) rfl dX7_keeps_1 ?_
  refine lv_iload_n hx hb dX7_keeps_4 rfl (lv_at hl 1 rfl) ?_
  refine va_iald (cA := kV 2) (n := 12) (f := fV_kind) hx hb hK hP 3 2 rfl rfl (vp_in_iff.mpr ⟨b_p1.1, (Int.lt_of_le_of_lt (b_p1.2) (by decide))⟩) dX7_keeps_5 ?_
  refine lv_topi (fun v1 hv1 => ?_)
  have b_v1 : 0 ≤ v1.toInt ∧ v1.toInt ≤ 4 := by rw [hv1]; exact b_fV_kind _
  have b1_v1 : v1 = fV_kind (p1).toNatClampNeg := hv1
  clear hv1
  refine lv_iconst (v := 1) hx hb dX7_keeps_6 (by decide) ?_
  refine lv_icmp_ne (tgt := 48) hx hb dX7_keeps_7 (by decide) (fun c_7 => ?_) (fun c_7 => ?_)
  · have t_7 : v1.toInt ≠ 1 := toI_ne c_7 rfl (by decide : (1 : Int32).toInt = 1)
    refine lv_aload_n hx hb dX7_keeps_48 rfl (lv_at hl 0 rfl) ?_
    refine va_get (D := (dC, dI)) (ci := 7) (v := .ref (aV 2)) (C := RX7) (T := TX7) (N := 20) hx hb hts iwsMX7_keeps_in7 hown hK hP 0 rfl rfl 4 (by decide) (hts _ hm_m_X7_keeps_0) (fun _ h9 => h9) rfl dX7_keeps_49 ?_
    refine lv_iload_n hx hb dX7_keeps_52 rfl (lv_at hl 1 rfl) ?_
    refine va_iald (cA := kV 2) (n := 12) (f := fV_kind) hx hb hK hP 3 2 rfl rfl (vp_in_iff.mpr ⟨b_p1.1, (Int.lt_of_le_of_lt (b_p1.2) (by decide))⟩) dX7_keeps_53 ?_
    refine lv_topi (fun v2 hv2 => ?_)
    have b_v2 : 0 ≤ v2.toInt ∧ v2.toInt ≤ 4 := by rw [hv2]; exact b_fV_kind _
    have b1_v2 : v2 = fV_kind (p1).toNatClampNeg := hv2
    clear hv2
    refine lv_iconst (v := 4) hx hb dX7_keeps_54 (by decide) ?_
    refine lv_icmp_ne (tgt := 102) hx hb dX7_keeps_55 (by decide) (fun c_55 => ?_) (fun c_55 => ?_)
    · have t_55 : v2.toInt ≠ 4 := toI_ne c_55 rfl (by decide : (4 : Int32).toInt = 4)
      refine lv_iconst (v := 0) hx hb dX7_keeps_102 (by decide) ?_
      refine lv_istore_n hx hb dX7_keeps_103 rfl hl (by decide) rfl (fun ls (hl : lv_has ls _ ([(2, .int 0), (0, .ref (hV 0)), (1, .int p1)])) => ?_)
      refine lv_iconst (v := 0) hx hb dX7_keeps_104 (by decide) ?_
      refine lv_istore_n hx hb dX7_keeps_105 rfl hl (by decide) rfl (fun ls (hl : lv_has ls _ ([(3, .int 0), (2, .int 0), (0, .ref (hV 0)), (1, .int p1)])) => ?_)
      refine lv_iconst (v := 0) hx hb dX7_keeps_106 (by decide) ?_
      refine lv_istore hx hb dX7_keeps_107 hl (by decide) rfl (fun ls (hl : lv_has ls _ ([(4, .int 0), (3, .int 0), (2, .int 0), (0, .ref (hV 0)), (1, .int p1)])) => ?_)
      refine lv_iconst (v := 1) hx hb dX7_keeps_109 (by decide) ?_
      refine lv_istore hx hb dX7_keeps_110 hl (by decide) rfl (fun ls (hl : lv_has ls _ ([(5, .int 1), (4, .int 0), (3, .int 0), (2, .int 0), (0, .ref (hV 0)), (1, .int p1)])) => ?_)
      refine lv_iconst (v := 0) hx hb dX7_keeps_112 (by decide) ?_
      refine lv_istore hx hb dX7_keeps_113 hl (by decide) rfl (fun ls (hl : lv_has ls _ ([(6, .int 0), (5, .int 1), (4, .int 0), (3, .int 0), (2, .int 0), (0, .ref (hV 0)), (1, .int p1)])) => ?_)
      have hl : lv_has _ _ ([(6, .int 0), (5, .int 1), (4, .int 0), (3, .int 0), (2, .int 0), (0, .ref (hV 0)), (1, .int p1)]) := lv_sub hl [0, 1, 2, 3, 4, 5, 6] rfl
      refine (fun (loop : ∀ (n9 : Nat) (l6_x115 : Int32) (l5_x115 : Int32) (l4_x115 : Int32) (l3_x115 : Int32) (l2_x115 : Int32) (H : Heap) (locs : List Loc) (ls : Array Slot), (0 ≤ l6_x115.toInt ∧ l6_x115.toInt ≤ 10) → (0 ≤ l5_x115.toInt ∧ l5_x115.toInt ≤ 1) → (10 - l6_x115.toInt < ((n9 : Nat) : Int)) → va_P (dC, dI) vwCl (WV hV aV kV iV_holders iV_rules fV_pairs fV_domain fV_kind fV_a fV_b fV_c fV_rulePairs fV_lastHolder fV_now iV_doneFor iV_changed gV_fore gV_back fV_together fV_member gV_list dV_list nV_list iV_listed iV_listDone) H → va_D A (WV hV aV kV iV_holders iV_rules fV_pairs fV_domain fV_kind fV_a fV_b fV_c fV_rulePairs fV_lastHolder fV_now iV_doneFor iV_changed gV_fore gV_back fV_together fV_member gV_list dV_list nV_list iV_listed iV_listDone) → va_S A s.heap H locs → lv_has ls 7 [(6, .int l6_x115), (5, .int l5_x115), (4, .int l4_x115), (3, .int l3_x115), (2, .int l2_x115), (0, .ref (hV 0)), (1, .int p1)] → W p l e _ s m _ below meth c H locs 0 0 _ (F0 m 115 ls [])) => loop (11) 0 1 0 0 0 _ _ _ (show 0 ≤ (0 : Int32).toInt ∧ (0 : Int32).toInt ≤ 10 from by decide) (show 0 ≤ (1 : Int32).toInt ∧ (1 : Int32).toInt ≤ 1 from by decide) ((by have e9 : (0 : Int32).toInt = 0 := (by decide : (0 : Int32).toInt = 0); omega)) hP hD hS hl) ?_
      intro n9
      induction n9 with
      | zero => intro l6_x115 l5_x115 l4_x115 l3_x115 l2_x115 H locs ls b_l6_x115 b_l5_x115 hf9; exact False.elim (by omega)
      | succ n9 ihx115 =>
        intro l6_x115 l5_x115 l4_x115 l3_x115 l2_x115 H locs ls b_l6_x115 b_l5_x115 hfx115 hP hD hS hl
        refine lv_iload hx hb dX7_keeps_115 (lv_at hl 0 rfl) ?_
        refine lv_aload_n hx hb dX7_keeps_117 rfl (lv_at hl 5 rfl) ?_
        refine va_get (D := (dC, dI)) (ci := 7) (v := .int iV_holders) (C := RX7) (T := TX7) (N := 20) hx hb hts iwsMX7_keeps_in7 hown hK hP 0 rfl rfl 0 (by decide) (hts (.fieldLink RX7 59 "OptimaWorks$ValueDesk" "holders" "I") (by decide +kernel)) (fun _ h9 => h9) rfl dX7_keeps_118 ?_
        refine lv_icmp_ge (tgt := 218) hx hb dX7_keeps_121 (by decide) (fun c_121 => ?_) (fun c_121 => ?_)
        · have t_121 : l6_x115.toInt ≥ iV_holders.toInt := toI_ge c_121 rfl rfl
          refine lv_aload_n hx hb dX7_keeps_218 rfl (lv_at hl 5 rfl) ?_
          refine va_get (D := (dC, dI)) (ci := 7) (v := .ref (aV 2)) (C := RX7) (T := TX7) (N := 20) hx hb hts iwsMX7_keeps_in7 hown hK hP 0 rfl rfl 4 (by decide) (hts _ hm_m_X7_keeps_0) (fun _ h9 => h9) rfl dX7_keeps_219 ?_
          refine lv_iload_n hx hb dX7_keeps_222 rfl (lv_at hl 6 rfl) ?_
          refine va_iald (cA := kV 2) (n := 12) (f := fV_kind) hx hb hK hP 3 2 rfl rfl (vp_in_iff.mpr ⟨b_p1.1, (Int.lt_of_le_of_lt (b_p1.2) (by decide))⟩) dX7_keeps_223 ?_
          refine lv_topi (fun v162 hv162 => ?_)
          have b_v162 : 0 ≤ v162.toInt ∧ v162.toInt ≤ 4 := by rw [hv162]; exact b_fV_kind _
          clear hv162
          refine lv_if_ne (tgt := 230) hx hb dX7_keeps_224 (by decide) (fun c_224 => ?_) (fun c_224 => ?_)
          · have t_224 : v162.toInt ≠ 0 := toI_ne c_224 rfl (by decide : (0 : Int32).toInt = 0)
            refine lv_aload_n hx hb dX7_keeps_230 rfl (lv_at hl 5 rfl) ?_
            refine va_get (D := (dC, dI)) (ci := 7) (v := .ref (aV 2)) (C := RX7) (T := TX7) (N := 20) hx hb hts iwsMX7_keeps_in7 hown hK hP 0 rfl rfl 4 (by decide) (hts _ hm_m_X7_keeps_0) (fun _ h9 => h9) rfl dX7_keeps_231 ?_
            refine lv_iload_n hx hb dX7_keeps_234 rfl (lv_at hl 6 rfl) ?_
            refine va_iald (cA := kV 2) (n := 12) (f := fV_kind) hx hb hK hP 3 2 rfl rfl (vp_in_iff.mpr ⟨b_p1.1, (Int.lt_of_le_of_lt (b_p1.2) (by decide))⟩) dX7_keeps_235 ?_
            refine lv_topi (fun v163 hv163 => ?_)
            have b_v163 : 0 ≤ v163.toInt ∧ v163.toInt ≤ 4 := by rw [hv163]; exact b_fV_kind _
            clear hv163
            refine lv_iconst (v := 2) hx hb dX7_keeps_236 (by decide) ?_
            refine W.cut (pc := 284) (fun H locs ls stk => ∃ (k0_j63 : Int32), (0 ≤ k0_j63.toInt ∧ k0_j63.toInt ≤ 1) ∧  stk = [.int k0_j63] ∧ va_P (dC, dI) vwCl (WV hV aV kV iV_holders iV_rules fV_pairs fV_domain fV_kind fV_a fV_b fV_c fV_rulePairs fV_lastHolder fV_now iV_doneFor iV_changed gV_fore gV_back fV_together fV_member gV_list dV_list nV_list iV_listed iV_listDone) H ∧ va_D A (WV hV aV kV iV_holders iV_rules fV_pairs fV_domain fV_kind fV_a fV_b fV_c fV_rulePairs fV_lastHolder fV_now iV_doneFor iV_changed gV_fore gV_back fV_together fV_member gV_list dV_list nV_list iV_listed iV_listDone) ∧ va_S A s.heap H locs ∧ lv_has ls 7 [(6, .int l6_x115), (5, .int l5_x115), (4, .int l4_x115), (3, .int l3_x115), (2, .int l2_x115), (0, .ref (hV 0)), (1, .int p1)]) (fun join63 => ?_) ?_
            · refine lv_icmp_ne (tgt := 268) hx hb dX7_keeps_237 (by decide) (fun c_237 => ?_) (fun c_237 => ?_)
              · have t_237 : v163.toInt ≠ 2 := toI_ne c_237 rfl (by decide : (2 : Int32).toInt = 2)
                refine lv_iload hx hb dX7_keeps_268 (lv_at hl 2 rfl) ?_
                refine lv_aload_n hx hb dX7_keeps_270 rfl (lv_at hl 5 rfl) ?_
                refine va_get (D := (dC, dI)) (ci := 7) (v := .ref (aV 4)) (C := RX7) (T := TX7) (N := 20) hx hb hts iwsMX7_keeps_in7 hown hK hP 0 rfl rfl 6 (by decide) (hts _ hm_m_X7_keeps_1) (fun _ h9 => h9) rfl dX7_keeps_271 ?_
                refine lv_iload_n hx hb dX7_keeps_274 rfl (lv_at hl 6 rfl) ?_
                refine va_iald (cA := kV 4) (n := 12) (f := fV_b) hx hb hK hP 5 4 rfl rfl (vp_in_iff.mpr ⟨b_p1.1, (Int.lt_of_le_of_lt (b_p1.2) (by decide))⟩) dX7_keeps_275 ?_
                refine lv_topi (fun v167 hv167 => ?_)
                clear hv167
                refine lv_icmp_gt (tgt := 283) hx hb dX7_keeps_276 (by decide) (fun c_276 => ?_) (fun c_276 => ?_)
                · have t_276 : l4_x115.toInt > v167.toInt := toI_gt c_276 rfl rfl
                  refine lv_iconst (v := 0) hx hb dX7_keeps_283 (by decide) ?_
                  have hl : lv_has _ _ ([(6, .int l6_x115), (5, .int l5_x115), (4, .int l4_x115), (3, .int l3_x115), (2, .int l2_x115), (0, .ref (hV 0)), (1, .int p1)]) := lv_sub hl [0, 1, 2, 3, 4, 5, 6] rfl
                  exact join63 _ _ _ _ ⟨0, (show 0 ≤ (0 : Int32).toInt ∧ (0 : Int32).toInt ≤ 1 from by decide), rfl, hP, hD, hS, hl⟩
                · have t_276 : ¬ l4_x115.toInt > v167.toInt := toI_ngt c_276 rfl rfl
                  refine lv_iconst (v := 1) hx hb dX7_keeps_279 (by decide) ?_
                  refine lv_goto (tgt := 284) hx hb dX7_keeps_280 (by decide) ?_
                  have hl : lv_has _ _ ([(6, .int l6_x115), (5, .int l5_x115), (4, .int l4_x115), (3, .int l3_x115), (2, .int l2_x115), (0, .ref (hV 0)), (1, .int p1)]) := lv_sub hl [0, 1, 2, 3, 4, 5, 6] rfl
                  exact join63 _ _ _ _ ⟨1, (show 0 ≤ (1 : Int32).toInt ∧ (1 : Int32).toInt ≤ 1 from by decide), rfl, hP, hD, hS, hl⟩
              · have t_237 : v163.toInt = 2 := toI_nne c_237 rfl (by decide : (2 : Int32).toInt = 2)
                refine lv_iload_n hx hb dX7_keeps_240 rfl (lv_at hl 3 rfl) ?_
                refine lv_aload_n hx hb dX7_keeps_241 rfl (lv_at hl 5 rfl) ?_
                refine va_get (D := (dC, dI)) (ci := 7) (v := .ref (aV 4)) (C := RX7) (T := TX7) (N := 20) hx hb hts iwsMX7_keeps_in7 hown hK hP 0 rfl rfl 6 (by decide) (hts _ hm_m_X7_keeps_1) (fun _ h9 => h9) rfl dX7_keeps_242 ?_
                refine lv_iload_n hx hb dX7_keeps_245 rfl (lv_at hl 6 rfl) ?_
                refine va_iald (cA := kV 4) (n := 12) (f := fV_b) hx hb hK hP 5 4 rfl rfl (vp_in_iff.mpr ⟨b_p1.1, (Int.lt_of_le_of_lt (b_p1.2) (by decide))⟩) dX7_keeps_246 ?_
                refine lv_topi (fun v168 hv168 => ?_)
                clear hv168
                refine lv_icmp_lt (tgt := 264) hx hb dX7_keeps_247 (by decide) (fun c_247 => ?_) (fun c_247 => ?_)
                · have t_247 : l3_x115.toInt < v168.toInt := toI_lt c_247 rfl rfl
                  refine lv_iconst (v := 0) hx hb dX7_keeps_264 (by decide) ?_
                  refine lv_goto (tgt := 284) hx hb dX7_keeps_265 (by decide) ?_
                  have hl : lv_has _ _ ([(6, .int l6_x115), (5, .int l5_x115), (4, .int l4_x115), (3, .int l3_x115), (2, .int l2_x115), (0, .ref (hV 0)), (1, .int p1)]) := lv_sub hl [0, 1, 2, 3, 4, 5, 6] rfl
                  exact join63 _ _ _ _ ⟨0, (show 0 ≤ (0 : Int32).toInt ∧ (0 : Int32).toInt ≤ 1 from by decide), rfl, hP, hD, hS, hl⟩
                · have t_247 : ¬ l3_x115.toInt < v168.toInt := toI_nlt c_247 rfl rfl
                  refine lv_iload_n hx hb dX7_keeps_250 rfl (lv_at hl 3 rfl) ?_
                  refine lv_aload_n hx hb dX7_keeps_251 rfl (lv_at hl 5 rfl) ?_
                  refine va_get (D := (dC, dI)) (ci := 7) (v := .ref (aV 5)) (C := RX7) (T := TX7) (N := 20) hx hb hts iwsMX7_keeps_in7 hown hK hP 0 rfl rfl 7 (by decide) (hts _ hm_m_X7_keeps_2) (fun _ h9 => h9) rfl dX7_keeps_252 ?_
                  refine lv_iload_n hx hb dX7_keeps_255 rfl (lv_at hl 6 rfl) ?_
                  refine va_iald (cA := kV 5) (n := 12) (f := fV_c) hx hb hK hP 6 5 rfl rfl (vp_in_iff.mpr ⟨b_p1.1, (Int.lt_of_le_of_lt (b_p1.2) (by decide))⟩) dX7_keeps_256 ?_
                  refine lv_topi (fun v169 hv169 => ?_)
                  clear hv169
                  refine lv_icmp_gt (tgt := 264) hx hb dX7_keeps_257 (by decide) (fun c_257 => ?_) (fun c_257 => ?_)
                  · have t_257 : l3_x115.toInt > v169.toInt := toI_gt c_257 rfl rfl
                    refine lv_iconst (v := 0) hx hb dX7_keeps_264 (by decide) ?_
                    refine lv_goto (tgt := 284) hx hb dX7_keeps_265 (by decide) ?_
                    have hl : lv_has _ _ ([(6, .int l6_x115), (5, .int l5_x115), (4, .int l4_x115), (3, .int l3_x115), (2, .int l2_x115), (0, .ref (hV 0)), (1, .int p1)]) := lv_sub hl [0, 1, 2, 3, 4, 5, 6] rfl
                    exact join63 _ _ _ _ ⟨0, (show 0 ≤ (0 : Int32).toInt ∧ (0 : Int32).toInt ≤ 1 from by decide), rfl, hP, hD, hS, hl⟩
                  · have t_257 : ¬ l3_x115.toInt > v169.toInt := toI_ngt c_257 rfl rfl
                    refine lv_iconst (v := 1) hx hb dX7_keeps_260 (by decide) ?_
                    refine lv_goto (tgt := 284) hx hb dX7_keeps_261 (by decide) ?_
                    have hl : lv_has _ _ ([(6, .int l6_x115), (5, .int l5_x115), (4, .int l4_x115), (3, .int l3_x115), (2, .int l2_x115), (0, .ref (hV 0)), (1, .int p1)]) := lv_sub hl [0, 1, 2, 3, 4, 5, 6] rfl
                    exact join63 _ _ _ _ ⟨1, (show 0 ≤ (1 : Int32).toInt ∧ (1 : Int32).toInt ≤ 1 from by decide), rfl, hP, hD, hS, hl⟩
            · rintro H locs ls stk ⟨k0_j63, b_k0_j63, rfl, hP, hD, hS, hl⟩
              refine W.widen (k := 0) (n := 0) (by decide +kernel) (by decide +kernel) ?_
              exact W.zret (v := k0_j63) hx hb hr (by rcases z01 (x := k0_j63) (b_k0_j63) with h9 | h9 <;> rw [h9] <;> rfl) (fun t9_ ht hW => ⟨⟨k0_j63, (), rfl, (b_k0_j63), by rw [ht]; exact hP, hD⟩, hS.F ht⟩) hS.2.2 dX7_keeps_284
          · have t_224 : v162.toInt = 0 := toI_nne c_224 rfl (by decide : (0 : Int32).toInt = 0)
            refine lv_iload hx hb dX7_keeps_227 (lv_at hl 1 rfl) ?_
            refine W.widen (k := 0) (n := 0) (by decide +kernel) (by decide +kernel) ?_
            exact W.zret (v := l5_x115) hx hb hr (by rcases z01 (x := l5_x115) (b_l5_x115) with h9 | h9 <;> rw [h9] <;> rfl) (fun t9_ ht hW => ⟨⟨l5_x115, (), rfl, (b_l5_x115), by rw [ht]; exact hP, hD⟩, hS.F ht⟩) hS.2.2 dX7_keeps_229
        · have t_121 : ¬ l6_x115.toInt ≥ iV_holders.toInt := toI_nge c_121 rfl rfl
          refine lv_aload_n hx hb dX7_keeps_124 rfl (lv_at hl 5 rfl) ?_
          refine va_get (D := (dC, dI)) (ci := 7) (v := .ref (aV 3)) (C := RX7) (T := TX7) (N := 20) hx hb hts iwsMX7_keeps_in7 hown hK hP 0 rfl rfl 5 (by decide) (hts _ hm_m_X7_keeps_3) (fun _ h9 => h9) rfl dX7_keeps_125 ?_
          refine lv_iload_n hx hb dX7_keeps_128 rfl (lv_at hl 6 rfl) ?_
          refine va_iald (cA := kV 3) (n := 12) (f := fV_a) hx hb hK hP 4 3 rfl rfl (vp_in_iff.mpr ⟨b_p1.1, (Int.lt_of_le_of_lt (b_p1.2) (by decide))⟩) dX7_keeps_129 ?_
          refine lv_topi (fun v170 hv170 => ?_)
          clear hv170
          refine lv_iload hx hb dX7_keeps_130 (lv_at hl 0 rfl) ?_
          refine lv_ishr hx hb dX7_keeps_132 ?_
          refine lv_topi (fun v171 hv171 => ?_)
          clear hv171
          refine lv_iconst (v := 1) hx hb dX7_keeps_133 (by decide) ?_
          refine lv_iand hx hb dX7_keeps_134 ?_
          refine lv_topi (fun v172 hv172 => ?_)
          have b_v172 : 0 ≤ v172.toInt ∧ v172.toInt ≤ 1 := by rw [hv172]; exact and_rng _ (by decide) (by decide)
          clear hv172
          refine W.cut (pc := 212) (fun H locs ls stk => ∃ (l5_j66 : Int32) (l4_j66 : Int32) (l3_j66 : Int32) (l2_j66 : Int32), (0 ≤ l5_j66.toInt ∧ l5_j66.toInt ≤ 1) ∧  stk = [] ∧ va_P (dC, dI) vwCl (WV hV aV kV iV_holders iV_rules fV_pairs fV_domain fV_kind fV_a fV_b fV_c fV_rulePairs fV_lastHolder fV_now iV_doneFor iV_changed gV_fore gV_back fV_together fV_member gV_list dV_list nV_list iV_listed iV_listDone) H ∧ va_D A (WV hV aV kV iV_holders iV_rules fV_pairs fV_domain fV_kind fV_a fV_b fV_c fV_rulePairs fV_lastHolder fV_now iV_doneFor iV_changed gV_fore gV_back fV_together fV_member gV_list dV_list nV_list iV_listed iV_listDone) ∧ va_S A s.heap H locs ∧ lv_has ls 7 [(6, .int l6_x115), (5, .int l5_j66), (4, .int l4_j66), (3, .int l3_j66), (2, .int l2_j66), (0, .ref (hV 0)), (1, .int p1)]) (fun join66 => ?_) ?_
          · refine lv_if_eq (tgt := 212) hx hb dX7_keeps_135 (by decide) (fun c_135 => ?_) (fun c_135 => ?_)
            · have t_135 : v172.toInt = 0 := toI_eq c_135 rfl (by decide : (0 : Int32).toInt = 0)
              have hl : lv_has _ _ ([(6, .int l6_x115), (5, .int l5_x115), (4, .int l4_x115), (3, .int l3_x115), (2, .int l2_x115), (0, .ref (hV 0)), (1, .int p1)]) := lv_sub hl [0, 1, 2, 3, 4, 5, 6] rfl
              exact join66 _ _ _ _ ⟨l5_x115, l4_x115, l3_x115, l2_x115, (b_l5_x115), rfl, hP, hD, hS, hl⟩
            · have t_135 : ¬ v172.toInt = 0 := toI_neq c_135 rfl (by decide : (0 : Int32).toInt = 0)
              refine lv_iload hx hb dX7_keeps_138 (lv_at hl 1 rfl) ?_
              refine W.cut (pc := 162) (fun H locs ls stk => ∃ (k0_j67 : Int32), (0 ≤ k0_j67.toInt ∧ k0_j67.toInt ≤ 1) ∧  stk = [.int k0_j67] ∧ va_P (dC, dI) vwCl (WV hV aV kV iV_holders iV_rules fV_pairs fV_domain fV_kind fV_a fV_b fV_c fV_rulePairs fV_lastHolder fV_now iV_doneFor iV_changed gV_fore gV_back fV_together fV_member gV_list dV_list nV_list iV_listed iV_listDone) H ∧ va_D A (WV hV aV kV iV_holders iV_rules fV_pairs fV_domain fV_kind fV_a fV_b fV_c fV_rulePairs fV_lastHolder fV_now iV_doneFor iV_changed gV_fore gV_back fV_together fV_member gV_list dV_list nV_list iV_listed iV_listDone) ∧ va_S A s.heap H locs ∧ lv_has ls 7 [(6, .int l6_x115), (5, .int l5_x115), (4, .int l4_x115), (3, .int l3_x115), (2, .int l2_x115), (0, .ref (hV 0)), (1, .int p1)]) (fun join67 => ?_) ?_
              · refine lv_if_eq (tgt := 161) hx hb dX7_keeps_140 (by decide) (fun c_140 => ?_) (fun c_140 => ?_)
                · have t_140 : l5_x115.toInt = 0 := toI_eq c_140 rfl (by decide : (0 : Int32).toInt = 0)
                  refine lv_iconst (v := 0) hx hb dX7_keeps_161 (by decide) ?_
                  have hl : lv_has _ _ ([(6, .int l6_x115), (5, .int l5_x115), (4, .int l4_x115), (3, .int l3_x115), (2, .int l2_x115), (0, .ref (hV 0)), (1, .int p1)]) := lv_sub hl [0, 1, 2, 3, 4, 5, 6] rfl
                  exact join67 _ _ _ _ ⟨0, (show 0 ≤ (0 : Int32).toInt ∧ (0 : Int32).toInt ≤ 1 from by decide), rfl, hP, hD, hS, hl⟩
                · have t_140 : ¬ l5_x115.toInt = 0 := toI_neq c_140 rfl (by decide : (0 : Int32).toInt = 0)
                  refine lv_iload_n hx hb dX7_keeps_143 rfl (lv_at hl 4 rfl) ?_
                  refine lv_aload_n hx hb dX7_keeps_144 rfl (lv_at hl 5 rfl) ?_
                  refine va_get (D := (dC, dI)) (ci := 7) (v := .ref (aV 12)) (C := RX7) (T := TX7) (N := 20) hx hb hts iwsMX7_keeps_in7 hown hK hP 0 rfl rfl 16 (by decide) (hts _ hm_m_X7_keeps_4) (fun _ h9 => h9) rfl dX7_keeps_145 ?_
                  refine lv_iload hx hb dX7_keeps_148 (lv_at hl 0 rfl) ?_
                  refine va_iald (cA := kV 12) (n := 10) (f := fV_member) hx hb hK hP 13 12 rfl rfl (vp_in_iff.mpr ⟨b_l6_x115.1, (by omega)⟩) dX7_keeps_150 ?_
                  refine lv_topi (fun v190 hv190 => ?_)
                  have b_v190 : (-1) ≤ v190.toInt ∧ v190.toInt ≤ 15 := by rw [hv190]; exact b_fV_member _
                  clear hv190
                  refine lv_ishr hx hb dX7_keeps_151 ?_
                  refine lv_topi (fun v191 hv191 => ?_)
                  clear hv191
                  refine lv_iconst (v := 1) hx hb dX7_keeps_152 (by decide) ?_
                  refine lv_iand hx hb dX7_keeps_153 ?_
                  refine lv_topi (fun v192 hv192 => ?_)
                  have b_v192 : 0 ≤ v192.toInt ∧ v192.toInt ≤ 1 := by rw [hv192]; exact and_rng _ (by decide) (by decide)
                  clear hv192
                  refine lv_if_ne (tgt := 161) hx hb dX7_keeps_154 (by decide) (fun c_154 => ?_) (fun c_154 => ?_)
                  · have t_154 : v192.toInt ≠ 0 := toI_ne c_154 rfl (by decide : (0 : Int32).toInt = 0)
                    refine lv_iconst (v := 0) hx hb dX7_keeps_161 (by decide) ?_
                    have hl : lv_has _ _ ([(6, .int l6_x115), (5, .int l5_x115), (4, .int l4_x115), (3, .int l3_x115), (2, .int l2_x115), (0, .ref (hV 0)), (1, .int p1)]) := lv_sub hl [0, 1, 2, 3, 4, 5, 6] rfl
                    exact join67 _ _ _ _ ⟨0, (show 0 ≤ (0 : Int32).toInt ∧ (0 : Int32).toInt ≤ 1 from by decide), rfl, hP, hD, hS, hl⟩
                  · have t_154 : v192.toInt = 0 := toI_nne c_154 rfl (by decide : (0 : Int32).toInt = 0)
                    refine lv_iconst (v := 1) hx hb dX7_keeps_157 (by decide) ?_
                    refine lv_goto (tgt := 162) hx hb dX7_keeps_158 (by decide) ?_
                    have hl : lv_has _ _ ([(6, .int l6_x115), (5, .int l5_x115), (4, .int l4_x115), (3, .int l3_x115), (2, .int l2_x115), (0, .ref (hV 0)), (1, .int p1)]) := lv_sub hl [0, 1, 2, 3, 4, 5, 6] rfl
                    exact join67 _ _ _ _ ⟨1, (show 0 ≤ (1 : Int32).toInt ∧ (1 : Int32).toInt ≤ 1 from by decide), rfl, hP, hD, hS, hl⟩
              · rintro H locs ls stk ⟨k0_j67, b_k0_j67, rfl, hP, hD, hS, hl⟩
                refine lv_istore hx hb dX7_keeps_162 hl (by decide) rfl (fun ls (hl : lv_has ls _ ([(5, .int k0_j67), (6, .int l6_x115), (4, .int l4_x115), (3, .int l3_x115), (2, .int l2_x115), (0, .ref (hV 0)), (1, .int p1)])) => ?_)
                refine lv_iload_n hx hb dX7_keeps_164 rfl (lv_at hl 4 rfl) ?_
                refine lv_iconst (v := 1) hx hb dX7_keeps_165 (by decide) ?_
                refine lv_aload_n hx hb dX7_keeps_166 rfl (lv_at hl 5 rfl) ?_
                refine va_get (D := (dC, dI)) (ci := 7) (v := .ref (aV 12)) (C := RX7) (T := TX7) (N := 20) hx hb hts iwsMX7_keeps_in7 hown hK hP 0 rfl rfl 16 (by decide) (hts _ hm_m_X7_keeps_4) (fun _ h9 => h9) rfl dX7_keeps_167 ?_
                refine lv_iload hx hb dX7_keeps_170 (lv_at hl 1 rfl) ?_
                refine va_iald (cA := kV 12) (n := 10) (f := fV_member) hx hb hK hP 13 12 rfl rfl (vp_in_iff.mpr ⟨b_l6_x115.1, (by omega)⟩) dX7_keeps_172 ?_
                refine lv_topi (fun v193 hv193 => ?_)
                have b_v193 : (-1) ≤ v193.toInt ∧ v193.toInt ≤ 15 := by rw [hv193]; exact b_fV_member _
                clear hv193
                refine lv_ishl hx hb dX7_keeps_173 ?_
                refine lv_topi (fun v194 hv194 => ?_)
                clear hv194
                refine lv_ior hx hb dX7_keeps_174 ?_
                refine lv_topi (fun v195 hv195 => ?_)
                clear hv195
                refine lv_istore_n hx hb dX7_keeps_175 rfl hl (by decide) rfl (fun ls (hl : lv_has ls _ ([(2, .int v195), (5, .int k0_j67), (6, .int l6_x115), (4, .int l4_x115), (3, .int l3_x115), (0, .ref (hV 0)), (1, .int p1)])) => ?_)
                refine lv_iload_n hx hb dX7_keeps_176 rfl (lv_at hl 4 rfl) ?_
                refine lv_aload_n hx hb dX7_keeps_177 rfl (lv_at hl 5 rfl) ?_
                refine va_get (D := (dC, dI)) (ci := 7) (v := .ref (aV 12)) (C := RX7) (T := TX7) (N := 20) hx hb hts iwsMX7_keeps_in7 hown hK hP 0 rfl rfl 16 (by decide) (hts _ hm_m_X7_keeps_4) (fun _ h9 => h9) rfl dX7_keeps_178 ?_
                refine lv_iload hx hb dX7_keeps_181 (lv_at hl 2 rfl) ?_
                refine va_iald (cA := kV 12) (n := 10) (f := fV_member) hx hb hK hP 13 12 rfl rfl (vp_in_iff.mpr ⟨b_l6_x115.1, (by omega)⟩) dX7_keeps_183 ?_
                refine lv_topi (fun v196 hv196 => ?_)
                have b_v196 : (-1) ≤ v196.toInt ∧ v196.toInt ≤ 15 := by rw [hv196]; exact b_fV_member _
                clear hv196
                refine lv_iadd hx hb dX7_keeps_184 ?_
                refine lv_topi (fun y197 hy197 => ?_)
                obtain rfl : (iI (l3_x115.toInt + v196.toInt)) = y197 := (hy197.trans (iI_add2 (iI_of _) (iI_of _))).symm
                refine lv_istore_n hx hb dX7_keeps_185 rfl hl (by decide) rfl (fun ls (hl : lv_has ls _ ([(3, .int (iI (l3_x115.toInt + v196.toInt))), (2, .int v195), (5, .int k0_j67), (6, .int l6_x115), (4, .int l4_x115), (0, .ref (hV 0)), (1, .int p1)])) => ?_)
                refine lv_iload hx hb dX7_keeps_186 (lv_at hl 4 rfl) ?_
                refine lv_aload_n hx hb dX7_keeps_188 rfl (lv_at hl 5 rfl) ?_
                refine va_get (D := (dC, dI)) (ci := 7) (v := .ref (aV 12)) (C := RX7) (T := TX7) (N := 20) hx hb hts iwsMX7_keeps_in7 hown hK hP 0 rfl rfl 16 (by decide) (hts _ hm_m_X7_keeps_4) (fun _ h9 => h9) rfl dX7_keeps_189 ?_
                refine lv_iload hx hb dX7_keeps_192 (lv_at hl 3 rfl) ?_
                refine va_iald (cA := kV 12) (n := 10) (f := fV_member) hx hb hK hP 13 12 rfl rfl (vp_in_iff.mpr ⟨b_l6_x115.1, (by omega)⟩) dX7_keeps_194 ?_
                refine lv_topi (fun v198 hv198 => ?_)
                have b_v198 : (-1) ≤ v198.toInt ∧ v198.toInt ≤ 15 := by rw [hv198]; exact b_fV_member _
                clear hv198
                refine lv_aload_n hx hb dX7_keeps_195 rfl (lv_at hl 5 rfl) ?_
                refine va_get (D := (dC, dI)) (ci := 7) (v := .ref (aV 5)) (C := RX7) (T := TX7) (N := 20) hx hb hts iwsMX7_keeps_in7 hown hK hP 0 rfl rfl 7 (by decide) (hts _ hm_m_X7_keeps_2) (fun _ h9 => h9) rfl dX7_keeps_196 ?_
                refine lv_iload_n hx hb dX7_keeps_199 rfl (lv_at hl 6 rfl) ?_
                refine va_iald (cA := kV 5) (n := 12) (f := fV_c) hx hb hK hP 6 5 rfl rfl (vp_in_iff.mpr ⟨b_p1.1, (Int.lt_of_le_of_lt (b_p1.2) (by decide))⟩) dX7_keeps_200 ?_
                refine lv_topi (fun v199 hv199 => ?_)
                clear hv199
                refine W.cut (pc := 209) (fun H locs ls stk => ∃ (k0_j68 : Int32), (0 ≤ k0_j68.toInt ∧ k0_j68.toInt ≤ 1) ∧  stk = [.int k0_j68, .int l4_x115] ∧ va_P (dC, dI) vwCl (WV hV aV kV iV_holders iV_rules fV_pairs fV_domain fV_kind fV_a fV_b fV_c fV_rulePairs fV_lastHolder fV_now iV_doneFor iV_changed gV_fore gV_back fV_together fV_member gV_list dV_list nV_list iV_listed iV_listDone) H ∧ va_D A (WV hV aV kV iV_holders iV_rules fV_pairs fV_domain fV_kind fV_a fV_b fV_c fV_rulePairs fV_lastHolder fV_now iV_doneFor iV_changed gV_fore gV_back fV_together fV_member gV_list dV_list nV_list iV_listed iV_listDone) ∧ va_S A s.heap H locs ∧ lv_has ls 7 [(3, .int (iI (l3_x115.toInt + v196.toInt))), (2, .int v195), (5, .int k0_j67), (6, .int l6_x115), (4, .int l4_x115), (0, .ref (hV 0)), (1, .int p1)]) (fun join68 => ?_) ?_
                · refine lv_icmp_ne (tgt := 208) hx hb dX7_keeps_201 (by decide) (fun c_201 => ?_) (fun c_201 => ?_)
                  · have t_201 : v198.toInt ≠ v199.toInt := toI_ne c_201 rfl rfl
                    refine lv_iconst (v := 0) hx hb dX7_keeps_208 (by decide) ?_
                    have hl : lv_has _ _ ([(3, .int (iI (l3_x115.toInt + v196.toInt))), (2, .int v195), (5, .int k0_j67), (6, .int l6_x115), (4, .int l4_x115), (0, .ref (hV 0)), (1, .int p1)]) := lv_sub hl [0, 1, 2, 3, 4, 5, 6] rfl
                    exact join68 _ _ _ _ ⟨0, (show 0 ≤ (0 : Int32).toInt ∧ (0 : Int32).toInt ≤ 1 from by decide), rfl, hP, hD, hS, hl⟩
                  · have t_201 : v198.toInt = v199.toInt := toI_nne c_201 rfl rfl
                    refine lv_iconst (v := 1) hx hb dX7_keeps_204 (by decide) ?_
                    refine lv_goto (tgt := 209) hx hb dX7_keeps_205 (by decide) ?_
                    have hl : lv_has _ _ ([(3, .int (iI (l3_x115.toInt + v196.toInt))), (2, .int v195), (5, .int k0_j67), (6, .int l6_x115), (4, .int l4_x115), (0, .ref (hV 0)), (1, .int p1)]) := lv_sub hl [0, 1, 2, 3, 4, 5, 6] rfl
                    exact join68 _ _ _ _ ⟨1, (show 0 ≤ (1 : Int32).toInt ∧ (1 : Int32).toInt ≤ 1 from by decide), rfl, hP, hD, hS, hl⟩
                · rintro H locs ls stk ⟨k0_j68, b_k0_j68, rfl, hP, hD, hS, hl⟩
                  refine lv_iadd hx hb dX7_keeps_209 ?_
                  refine lv_topi (fun y200 hy200 => ?_)
                  obtain rfl : (iI (l4_x115.toInt + k0_j68.toInt)) = y200 := (hy200.trans (iI_add2 (iI_of _) (iI_of _))).symm
                  refine lv_istore hx hb dX7_keeps_210 hl (by decide) rfl (fun ls (hl : lv_has ls _ ([(4, .int (iI (l4_x115.toInt + k0_j68.toInt))), (3, .int (iI (l3_x115.toInt + v196.toInt))), (2, .int v195), (5, .int k0_j67), (6, .int l6_x115), (0, .ref (hV 0)), (1, .int p1)])) => ?_)
                  have hl : lv_has _ _ ([(6, .int l6_x115), (5, .int k0_j67), (4, .int (iI (l4_x115.toInt + k0_j68.toInt))), (3, .int (iI (l3_x115.toInt + v196.toInt))), (2, .int v195), (0, .ref (hV 0)), (1, .int p1)]) := lv_sub hl [4, 3, 0, 1, 2, 5, 6] rfl
                  exact join66 _ _ _ _ ⟨k0_j67, (iI (l4_x115.toInt + k0_j68.toInt)), (iI (l3_x115.toInt + v196.toInt)), v195, (b_k0_j67), rfl, hP, hD, hS, hl⟩
          · rintro H locs ls stk ⟨l5_j66, l4_j66, l3_j66, l2_j66, b_l5_j66, rfl, hP, hD, hS, hl⟩
            refine lv_iinc (v := (iI (l6_x115.toInt + 1))) hx hb dX7_keeps_212 hl (k := 0) rfl (iI_add2 (iI_of _) (by decide : (1 : Int32) = iI 1)) (by decide) rfl (fun ls (hl : lv_has ls _ ([(6, .int (iI (l6_x115.toInt + 1))), (5, .int l5_j66), (4, .int l4_j66), (3, .int l3_j66), (2, .int l2_j66), (0, .ref (hV 0)), (1, .int p1)])) => ?_)
            refine lv_goto (tgt := 115) hx hb dX7_keeps_215 (by decide) ?_
            have hl : lv_has _ _ ([(6, .int (iI (l6_x115.toInt + 1))), (5, .int l5_j66), (4, .int l4_j66), (3, .int l3_j66), (2, .int l2_j66), (0, .ref (hV 0)), (1, .int p1)]) := lv_sub hl [0, 1, 2, 3, 4, 5, 6] rfl
            exact ihx115 (iI (l6_x115.toInt + 1)) l5_j66 l4_j66 l3_j66 l2_j66 _ _ _ (iI_rng (Int.le_trans (by decide) (Int.add_le_add (b_l6_x115.1) (Int.le_refl _))) (by omega) (by decide) (by decide)) (by first | exact b_l5_j66 | with_reducible assumption | exact ⟨by omega, by omega⟩ | assumption) (by have e9 : ((iI (l6_x115.toInt + 1))).toInt = (l6_x115.toInt + 1) := (iI_t (Int.le_trans (by decide) (Int.add_le_add (b_l6_x115.1) (Int.le_refl _))) (Int.le_trans (Int.add_le_add (b_l6_x115.2) (Int.le_refl _)) (by decide))); omega) hP hD hS hl
    · have t_55 : v2.toInt = 4 := toI_nne c_55 rfl (by decide : (4 : Int32).toInt = 4)
      refine lv_aload_n hx hb dX7_keeps_58 rfl (lv_at hl 0 rfl) ?_
      refine va_get (D := (dC, dI)) (ci := 7) (v := .ref (aV 6)) (C := RX7) (T := TX7) (N := 20) hx hb hts iwsMX7_keeps_in7 hown hK hP 0 rfl rfl 8 (by decide) (hts (.fieldLink RX7 30 "OptimaWorks$ValueDesk" "rulePairs" "[I") (by decide +kernel)) (fun _ h9 => h9) rfl dX7_keeps_59 ?_
      refine lv_iload_n hx hb dX7_keeps_62 rfl (lv_at hl 1 rfl) ?_
      refine lv_bipush (v := 16) hx hb dX7_keeps_63 (by decide) ?_
      refine lv_imul hx hb dX7_keeps_65 ?_
      refine lv_topi (fun y201 hy201 => ?_)
      obtain rfl : (iI (p1.toInt * 16)) = y201 := (hy201.trans (iI_mul2 (iI_of _) (by decide : (16 : Int32) = iI 16))).symm
      refine lv_aload_n hx hb dX7_keeps_66 rfl (lv_at hl 0 rfl) ?_
      refine va_get (D := (dC, dI)) (ci := 7) (v := .ref (aV 12)) (C := RX7) (T := TX7) (N := 20) hx hb hts iwsMX7_keeps_in7 hown hK hP 0 rfl rfl 16 (by decide) (hts _ hm_m_X7_keeps_4) (fun _ h9 => h9) rfl dX7_keeps_67 ?_
      refine lv_aload_n hx hb dX7_keeps_70 rfl (lv_at hl 0 rfl) ?_
      refine va_get (D := (dC, dI)) (ci := 7) (v := .ref (aV 3)) (C := RX7) (T := TX7) (N := 20) hx hb hts iwsMX7_keeps_in7 hown hK hP 0 rfl rfl 5 (by decide) (hts _ hm_m_X7_keeps_3) (fun _ h9 => h9) rfl dX7_keeps_71 ?_
      refine lv_iload_n hx hb dX7_keeps_74 rfl (lv_at hl 1 rfl) ?_
      refine va_iald (cA := kV 3) (n := 12) (f := fV_a) hx hb hK hP 4 3 rfl rfl (vp_in_iff.mpr ⟨b_p1.1, (Int.lt_of_le_of_lt (b_p1.2) (by decide))⟩) dX7_keeps_75 ?_
      refine lv_topi (fun v202 hv202 => ?_)
      have b_v202 : 0 ≤ v202.toInt ∧ v202.toInt ≤ 9 := by rw [hv202]; exact ((b_RuV _).2 (by rw [← b1_v2]; omega)).1
      have b1_v202 : v202.toInt ≤ (fV_lastHolder p1.toNatClampNeg).toInt := by rw [hv202]; exact ((b_RuV _).2 (by rw [← b1_v2]; omega)).2.2.1
      clear hv202
      refine va_iald (cA := kV 12) (n := 10) (f := fV_member) hx hb hK hP 13 12 rfl rfl (vp_in_iff.mpr ⟨b_v202.1, (Int.lt_of_le_of_lt (b_v202.2) (by decide))⟩) dX7_keeps_76 ?_
      refine lv_topi (fun v203 hv203 => ?_)
      have b_v203 : (-1) ≤ v203.toInt ∧ v203.toInt ≤ 15 := by rw [hv203]; exact b_fV_member _
      have b1_v203 : 0 ≤ v203.toInt := by rw [hv203]; exact hme _ (by show ((v202).toInt.toNat : Int) < _; omega)
      clear hv203
      refine lv_iadd hx hb dX7_keeps_77 ?_
      refine lv_topi (fun y204 hy204 => ?_)
      obtain rfl : (iI ((p1.toInt * 16) + v203.toInt)) = y204 := (hy204.trans (iI_add2 rfl (iI_of _))).symm
      refine va_iald (cA := kV 6) (n := 192) (f := fV_rulePairs) hx hb hK hP 7 6 rfl rfl (vp_iI (by omega) (Int.lt_of_le_of_lt (Int.add_le_add (Int.mul_le_mul_of_nonneg_right (b_p1.2) (by decide)) (b_v203.2)) (by decide)) (by decide)) dX7_keeps_78 ?_
      refine lv_topi (fun v205 hv205 => ?_)
      clear hv205
      refine lv_aload_n hx hb dX7_keeps_79 rfl (lv_at hl 0 rfl) ?_
      refine va_get (D := (dC, dI)) (ci := 7) (v := .ref (aV 12)) (C := RX7) (T := TX7) (N := 20) hx hb hts iwsMX7_keeps_in7 hown hK hP 0 rfl rfl 16 (by decide) (hts _ hm_m_X7_keeps_4) (fun _ h9 => h9) rfl dX7_keeps_80 ?_
      refine lv_aload_n hx hb dX7_keeps_83 rfl (lv_at hl 0 rfl) ?_
      refine va_get (D := (dC, dI)) (ci := 7) (v := .ref (aV 4)) (C := RX7) (T := TX7) (N := 20) hx hb hts iwsMX7_keeps_in7 hown hK hP 0 rfl rfl 6 (by decide) (hts _ hm_m_X7_keeps_1) (fun _ h9 => h9) rfl dX7_keeps_84 ?_
      refine lv_iload_n hx hb dX7_keeps_87 rfl (lv_at hl 1 rfl) ?_
      refine va_iald (cA := kV 4) (n := 12) (f := fV_b) hx hb hK hP 5 4 rfl rfl (vp_in_iff.mpr ⟨b_p1.1, (Int.lt_of_le_of_lt (b_p1.2) (by decide))⟩) dX7_keeps_88 ?_
      refine lv_topi (fun v206 hv206 => ?_)
      have b_v206 : 0 ≤ v206.toInt ∧ v206.toInt ≤ 9 := by rw [hv206]; exact ((b_RuV _).2 (by rw [← b1_v2]; omega)).2.1
      clear hv206
      refine va_iald (cA := kV 12) (n := 10) (f := fV_member) hx hb hK hP 13 12 rfl rfl (vp_in_iff.mpr ⟨b_v206.1, (Int.lt_of_le_of_lt (b_v206.2) (by decide))⟩) dX7_keeps_89 ?_
      refine lv_topi (fun v207 hv207 => ?_)
      have b_v207 : (-1) ≤ v207.toInt ∧ v207.toInt ≤ 15 := by rw [hv207]; exact b_fV_member _
      clear hv207
      refine lv_ishr hx hb dX7_keeps_90 ?_
      refine lv_topi (fun v208 hv208 => ?_)
      clear hv208
      refine lv_iconst (v := 1) hx hb dX7_keeps_91 (by decide) ?_
      refine lv_iand hx hb dX7_keeps_92 ?_
      refine lv_topi (fun v209 hv209 => ?_)
      have b_v209 : 0 ≤ v209.toInt ∧ v209.toInt ≤ 1 := by rw [hv209]; exact and_rng _ (by decide) (by decide)
      clear hv209
      refine W.cut (pc := 101) (fun H locs ls stk => ∃ (k0_j69 : Int32), (0 ≤ k0_j69.toInt ∧ k0_j69.toInt ≤ 1) ∧  stk = [.int k0_j69] ∧ va_P (dC, dI) vwCl (WV hV aV kV iV_holders iV_rules fV_pairs fV_domain fV_kind fV_a fV_b fV_c fV_rulePairs fV_lastHolder fV_now iV_doneFor iV_changed gV_fore gV_back fV_together fV_member gV_list dV_list nV_list iV_listed iV_listDone) H ∧ va_D A (WV hV aV kV iV_holders iV_rules fV_pairs fV_domain fV_kind fV_a fV_b fV_c fV_rulePairs fV_lastHolder fV_now iV_doneFor iV_changed gV_fore gV_back fV_together fV_member gV_list dV_list nV_list iV_listed iV_listDone) ∧ va_S A s.heap H locs ∧ lv_has ls 7 [(0, .ref (hV 0)), (1, .int p1)]) (fun join69 => ?_) ?_
      · refine lv_if_eq (tgt := 100) hx hb dX7_keeps_93 (by decide) (fun c_93 => ?_) (fun c_93 => ?_)
        · have t_93 : v209.toInt = 0 := toI_eq c_93 rfl (by decide : (0 : Int32).toInt = 0)
          refine lv_iconst (v := 0) hx hb dX7_keeps_100 (by decide) ?_
          have hl : lv_has _ _ ([(0, .ref (hV 0)), (1, .int p1)]) := lv_sub hl [0, 1] rfl
          exact join69 _ _ _ _ ⟨0, (show 0 ≤ (0 : Int32).toInt ∧ (0 : Int32).toInt ≤ 1 from by decide), rfl, hP, hD, hS, hl⟩
        · have t_93 : ¬ v209.toInt = 0 := toI_neq c_93 rfl (by decide : (0 : Int32).toInt = 0)
          refine lv_iconst (v := 1) hx hb dX7_keeps_96 (by decide) ?_
          refine lv_goto (tgt := 101) hx hb dX7_keeps_97 (by decide) ?_
          have hl : lv_has _ _ ([(0, .ref (hV 0)), (1, .int p1)]) := lv_sub hl [0, 1] rfl
          exact join69 _ _ _ _ ⟨1, (show 0 ≤ (1 : Int32).toInt ∧ (1 : Int32).toInt ≤ 1 from by decide), rfl, hP, hD, hS, hl⟩
      · rintro H locs ls stk ⟨k0_j69, b_k0_j69, rfl, hP, hD, hS, hl⟩
        refine W.widen (k := 0) (n := 0) (by decide +kernel) (by decide +kernel) ?_
        exact W.zret (v := k0_j69) hx hb hr (by rcases z01 (x := k0_j69) (b_k0_j69) with h9 | h9 <;> rw [h9] <;> rfl) (fun t9_ ht hW => ⟨⟨k0_j69, (), rfl, (b_k0_j69), by rw [ht]; exact hP, hD⟩, hS.F ht⟩) hS.2.2 dX7_keeps_101
  · have t_7 : v1.toInt = 1 := toI_nne c_7 rfl (by decide : (1 : Int32).toInt = 1)
    refine lv_aload_n hx hb dX7_keeps_10 rfl (lv_at hl 0 rfl) ?_
    refine va_get (D := (dC, dI)) (ci := 7) (v := .ref (aV 12)) (C := RX7) (T := TX7) (N := 20) hx hb hts iwsMX7_keeps_in7 hown hK hP 0 rfl rfl 16 (by decide) (hts _ hm_m_X7_keeps_4) (fun _ h9 => h9) rfl dX7_keeps_11 ?_
    refine lv_aload_n hx hb dX7_keeps_14 rfl (lv_at hl 0 rfl) ?_
    refine va_get (D := (dC, dI)) (ci := 7) (v := .ref (aV 3)) (C := RX7) (T := TX7) (N := 20) hx hb hts iwsMX7_keeps_in7 hown hK hP 0 rfl rfl 5 (by decide) (hts _ hm_m_X7_keeps_3) (fun _ h9 => h9) rfl dX7_keeps_15 ?_
    refine lv_iload_n hx hb dX7_keeps_18 rfl (lv_at hl 1 rfl) ?_
    refine va_iald (cA := kV 3) (n := 12) (f := fV_a) hx hb hK hP 4 3 rfl rfl (vp_in_iff.mpr ⟨b_p1.1, (Int.lt_of_le_of_lt (b_p1.2) (by decide))⟩) dX7_keeps_19 ?_
    refine lv_topi (fun v210 hv210 => ?_)
    have b_v210 : 0 ≤ v210.toInt ∧ v210.toInt ≤ 9 := by rw [hv210]; exact ((b_RuV _).1 (by rw [← b1_v1]; omega)).1
    clear hv210
    refine va_iald (cA := kV 12) (n := 10) (f := fV_member) hx hb hK hP 13 12 rfl rfl (vp_in_iff.mpr ⟨b_v210.1, (Int.lt_of_le_of_lt (b_v210.2) (by decide))⟩) dX7_keeps_20 ?_
    refine lv_topi (fun v211 hv211 => ?_)
    have b_v211 : (-1) ≤ v211.toInt ∧ v211.toInt ≤ 15 := by rw [hv211]; exact b_fV_member _
    clear hv211
    refine lv_aload_n hx hb dX7_keeps_21 rfl (lv_at hl 0 rfl) ?_
    refine va_get (D := (dC, dI)) (ci := 7) (v := .ref (aV 4)) (C := RX7) (T := TX7) (N := 20) hx hb hts iwsMX7_keeps_in7 hown hK hP 0 rfl rfl 6 (by decide) (hts _ hm_m_X7_keeps_1) (fun _ h9 => h9) rfl dX7_keeps_22 ?_
    refine lv_iload_n hx hb dX7_keeps_25 rfl (lv_at hl 1 rfl) ?_
    refine va_iald (cA := kV 4) (n := 12) (f := fV_b) hx hb hK hP 5 4 rfl rfl (vp_in_iff.mpr ⟨b_p1.1, (Int.lt_of_le_of_lt (b_p1.2) (by decide))⟩) dX7_keeps_26 ?_
    refine lv_topi (fun v212 hv212 => ?_)
    clear hv212
    refine lv_iadd hx hb dX7_keeps_27 ?_
    refine lv_topi (fun y213 hy213 => ?_)
    obtain rfl : (iI (v211.toInt + v212.toInt)) = y213 := (hy213.trans (iI_add2 (iI_of _) (iI_of _))).symm
    refine lv_aload_n hx hb dX7_keeps_28 rfl (lv_at hl 0 rfl) ?_
    refine va_get (D := (dC, dI)) (ci := 7) (v := .ref (aV 12)) (C := RX7) (T := TX7) (N := 20) hx hb hts iwsMX7_keeps_in7 hown hK hP 0 rfl rfl 16 (by decide) (hts _ hm_m_X7_keeps_4) (fun _ h9 => h9) rfl dX7_keeps_29 ?_
    refine lv_aload_n hx hb dX7_keeps_32 rfl (lv_at hl 0 rfl) ?_
    refine va_get (D := (dC, dI)) (ci := 7) (v := .ref (aV 5)) (C := RX7) (T := TX7) (N := 20) hx hb hts iwsMX7_keeps_in7 hown hK hP 0 rfl rfl 7 (by decide) (hts _ hm_m_X7_keeps_2) (fun _ h9 => h9) rfl dX7_keeps_33 ?_
    refine lv_iload_n hx hb dX7_keeps_36 rfl (lv_at hl 1 rfl) ?_
    refine va_iald (cA := kV 5) (n := 12) (f := fV_c) hx hb hK hP 6 5 rfl rfl (vp_in_iff.mpr ⟨b_p1.1, (Int.lt_of_le_of_lt (b_p1.2) (by decide))⟩) dX7_keeps_37 ?_
    refine lv_topi (fun v214 hv214 => ?_)
    have b_v214 : 0 ≤ v214.toInt ∧ v214.toInt ≤ 9 := by rw [hv214]; exact ((b_RuV _).1 (by rw [← b1_v1]; omega)).2
    clear hv214
    refine va_iald (cA := kV 12) (n := 10) (f := fV_member) hx hb hK hP 13 12 rfl rfl (vp_in_iff.mpr ⟨b_v214.1, (Int.lt_of_le_of_lt (b_v214.2) (by decide))⟩) dX7_keeps_38 ?_
    refine lv_topi (fun v215 hv215 => ?_)
    have b_v215 : (-1) ≤ v215.toInt ∧ v215.toInt ≤ 15 := by rw [hv215]; exact b_fV_member _
    clear hv215
    refine W.cut (pc := 47) (fun H locs ls stk => ∃ (k0_j70 : Int32), (0 ≤ k0_j70.toInt ∧ k0_j70.toInt ≤ 1) ∧  stk = [.int k0_j70] ∧ va_P (dC, dI) vwCl (WV hV aV kV iV_holders iV_rules fV_pairs fV_domain fV_kind fV_a fV_b fV_c fV_rulePairs fV_lastHolder fV_now iV_doneFor iV_changed gV_fore gV_back fV_together fV_member gV_list dV_list nV_list iV_listed iV_listDone) H ∧ va_D A (WV hV aV kV iV_holders iV_rules fV_pairs fV_domain fV_kind fV_a fV_b fV_c fV_rulePairs fV_lastHolder fV_now iV_doneFor iV_changed gV_fore gV_back fV_together fV_member gV_list dV_list nV_list iV_listed iV_listDone) ∧ va_S A s.heap H locs ∧ lv_has ls 7 [(0, .ref (hV 0)), (1, .int p1)]) (fun join70 => ?_) ?_
    · refine lv_icmp_gt (tgt := 46) hx hb dX7_keeps_39 (by decide) (fun c_39 => ?_) (fun c_39 => ?_)
      · first | (have t_39 : (v211.toInt + v212.toInt) > v215.toInt := toI_gt c_39 (iI_t (by omega) (by omega)) rfl) | skip
        refine lv_iconst (v := 0) hx hb dX7_keeps_46 (by decide) ?_
        have hl : lv_has _ _ ([(0, .ref (hV 0)), (1, .int p1)]) := lv_sub hl [0, 1] rfl
        exact join70 _ _ _ _ ⟨0, (show 0 ≤ (0 : Int32).toInt ∧ (0 : Int32).toInt ≤ 1 from by decide), rfl, hP, hD, hS, hl⟩
      · first | (have t_39 : ¬ (v211.toInt + v212.toInt) > v215.toInt := toI_ngt c_39 (iI_t (by omega) (by omega)) rfl) | skip
        refine lv_iconst (v := 1) hx hb dX7_keeps_42 (by decide) ?_
        refine lv_goto (tgt := 47) hx hb dX7_keeps_43 (by decide) ?_
        have hl : lv_has _ _ ([(0, .ref (hV 0)), (1, .int p1)]) := lv_sub hl [0, 1] rfl
        exact join70 _ _ _ _ ⟨1, (show 0 ≤ (1 : Int32).toInt ∧ (1 : Int32).toInt ≤ 1 from by decide), rfl, hP, hD, hS, hl⟩
    · rintro H locs ls stk ⟨k0_j70, b_k0_j70, rfl, hP, hD, hS, hl⟩
      refine W.widen (k := 0) (n := 0) (by decide +kernel) (by decide +kernel) ?_
      exact W.zret (v := k0_j70) hx hb hr (by rcases z01 (x := k0_j70) (b_k0_j70) with h9 | h9 <;> rw [h9] <;> rfl) (fun t9_ ht hW => ⟨⟨k0_j70, (), rfl, (b_k0_j70), by rw [ht]; exact hP, hD⟩, hS.F ht⟩) hS.2.2 dX7_keeps_47
theorem dX7_keepsAt_0 : decode cX7_keepsAt 0 = .ok (.iconst 0, 1) := dk_3 (by decide +kernel)
theorem dX7_keepsAt_1 : decode cX7_keepsAt 1 = .ok (.istore_n 2, 1) := dk_61 (by decide +kernel)
theorem dX7_keepsAt_2 : decode cX7_keepsAt 2 = .ok (.iload_n 2, 1) := dk_28 (by decide +kernel)
theorem dX7_keepsAt_3 : decode cX7_keepsAt 3 = .ok (.aload_n 0, 1) := dk_42 (by decide +kernel)
theorem dX7_keepsAt_4 : decode cX7_keepsAt 4 = .ok (.getfield 62, 3) := dk_180 (by decide +kernel)
theorem dX7_keepsAt_7 : decode cX7_keepsAt 7 = .ok (.if_icmp .ge 29, 3) := dk_162 (by decide +kernel)
theorem dX7_keepsAt_10 : decode cX7_keepsAt 10 = .ok (.aload_n 0, 1) := dk_42 (by decide +kernel)
theorem dX7_keepsAt_11 : decode cX7_keepsAt 11 = .ok (.getfield 33, 3) := dk_180 (by decide +kernel)
theorem dX7_keepsAt_14 : decode cX7_keepsAt 14 = .ok (.iload_n 2, 1) := dk_28 (by decide +kernel)
theorem dX7_keepsAt_15 : decode cX7_keepsAt 15 = .ok (.iaload, 1) := dk_46 (by decide +kernel)
theorem dX7_keepsAt_16 : decode cX7_keepsAt 16 = .ok (.iload_n 1, 1) := dk_27 (by decide +kernel)
theorem dX7_keepsAt_17 : decode cX7_keepsAt 17 = .ok (.if_icmp .ne 13, 3) := dk_160 (by decide +kernel)
theorem dX7_keepsAt_20 : decode cX7_keepsAt 20 = .ok (.aload_n 0, 1) := dk_42 (by decide +kernel)
theorem dX7_keepsAt_21 : decode cX7_keepsAt 21 = .ok (.iload_n 2, 1) := dk_28 (by decide +kernel)
theorem dX7_keepsAt_22 : decode cX7_keepsAt 22 = .ok (.invokevirtual 192, 3) := dk_182 (by decide +kernel)
theorem dX7_keepsAt_25 : decode cX7_keepsAt 25 = .ok (.ifCond .ne 5, 3) := dk_154 (by decide +kernel)
theorem dX7_keepsAt_28 : decode cX7_keepsAt 28 = .ok (.iconst 0, 1) := dk_3 (by decide +kernel)
theorem dX7_keepsAt_29 : decode cX7_keepsAt 29 = .ok (.ireturn, 1) := dk_172 (by decide +kernel)
theorem dX7_keepsAt_30 : decode cX7_keepsAt 30 = .ok (.iinc 2 1, 3) := dk_132 (by decide +kernel)
theorem dX7_keepsAt_33 : decode cX7_keepsAt 33 = .ok (.goto (-31), 3) := dk_167 (by decide +kernel)
theorem dX7_keepsAt_36 : decode cX7_keepsAt 36 = .ok (.iconst 1, 1) := dk_4 (by decide +kernel)
theorem dX7_keepsAt_37 : decode cX7_keepsAt 37 = .ok (.ireturn, 1) := dk_172 (by decide +kernel)
def wsMX7_keepsAt : List Cond := .code yX7_keepsAt cX7_keepsAt 3 (some .boolean) :: ([.fieldLink RX7 62 "OptimaWorks$ValueDesk" "rules" "I", .fieldLink RX7 33 "OptimaWorks$ValueDesk" "lastHolder" "[I"] ++ wsX70 ++ (wsV RX7 192 RX7 yX7_keeps wsMX7_keeps))
theorem iwsMX7_keepsAt_in7 : ∀ w ∈ wsX70, w ∈ wsMX7_keepsAt := fun _ h => List.mem_cons_of_mem _ (List.mem_append_left _ (List.mem_append_right _ h))
theorem gwsMX7_keepsAt_0 : GoodIn wsMX7_keepsAt (wsV RX7 192 RX7 yX7_keeps wsMX7_keeps) := goodIn_sub (fun _ h => List.mem_cons_of_mem _ (List.mem_append_right _ h)) (gdV (by decide +kernel) gdwsMX7_keeps)
theorem gdwsMX7_keepsAt : wsMX7_keepsAt.all goodWord = true := gdC rfl (gdA (gdA (by decide +kernel : ([.fieldLink RX7 62 "OptimaWorks$ValueDesk" "rules" "I", .fieldLink RX7 33 "OptimaWorks$ValueDesk" "lastHolder" "[I"] : List Cond).all goodWord = true) gdwsX70) (gdV (by decide +kernel) gdwsMX7_keeps))
set_option maxHeartbeats 4000000 in
set_option maxRecDepth 100000 in
/-- are the rules kept so far -/
theorem m_X7_keepsAt (l : Launch) (dC : Nat → ClassId) (dI : Nat → Nat → Nat) (hV : Nat → Nat) (aV : Nat → Nat) (kV : Nat → ClassId) (iV_holders : Int32) (iV_rules : Int32) (fV_pairs : Nat → Int32) (fV_domain : Nat → Int32) (fV_kind : Nat → Int32) (fV_a : Nat → Int32) (fV_b : Nat → Int32) (fV_c : Nat → Int32) (fV_rulePairs : Nat → Int32) (fV_lastHolder : Nat → Int32) (fV_now : Nat → Int32) (iV_doneFor : Int32) (iV_changed : Int32) (gV_fore : Nat → Int64) (gV_back : Nat → Int64) (fV_together : Nat → Int32) (fV_member : Nat → Int32) (gV_list : Nat → Int64) (dV_list : Nat) (nV_list : Nat) (iV_listed : Int32) (iV_listDone : Int32) (p1 : Int32) (b_iV_holders : 0 ≤ iV_holders.toInt ∧ iV_holders.toInt ≤ 10) (b_iV_rules : 0 ≤ iV_rules.toInt ∧ iV_rules.toInt ≤ 12) (b_fV_kind : ∀ q : Nat, 0 ≤ (fV_kind q).toInt ∧ (fV_kind q).toInt ≤ 4) (b_iV_changed : 0 ≤ iV_changed.toInt ∧ iV_changed.toInt ≤ 1) (b_fV_member : ∀ q : Nat, (-1) ≤ (fV_member q).toInt ∧ (fV_member q).toInt ≤ 15) (b_nV_list : 0 ≤ nV_list ∧ nV_list ≤ 20000) (b_iV_listed : (-1) ≤ iV_listed.toInt ∧ iV_listed.toInt ≤ 5000) (b_iV_listDone : 0 ≤ iV_listDone.toInt ∧ iV_listDone.toInt ≤ 1) (b_RuV : RuV fV_kind fV_a fV_b fV_c fV_lastHolder) (b_lst : iV_listed.toInt ≤ ((nV_list : Nat) : Int)) (b_p1 : 0 ≤ p1.toInt ∧ p1.toInt ≤ 9) (hme : MemC fV_member (p1.toInt + 1)) (sz : Nat) : Met l yX7_keepsAt wsMX7_keepsAt ({ frames := 1, cells := 0, slots := 0, locals := 26 }) (va_Pc [.ref (hV 0), .int p1] (fun U => U.heap.size = sz ∧ va_P (dC, dI) vwCl (WV hV aV kV iV_holders iV_rules fV_pairs fV_domain fV_kind fV_a fV_b fV_c fV_rulePairs fV_lastHolder fV_now iV_doneFor iV_changed gV_fore gV_back fV_together fV_member gV_list dV_list nV_list iV_listed iV_listDone) U.heap ∧ va_K (dC, dI) vwCl (tV kV) U ∧ va_D (fun _ => True) (WV hV aV kV iV_holders iV_rules fV_pairs fV_domain fV_kind fV_a fV_b fV_c fV_rulePairs fV_lastHolder fV_now iV_doneFor iV_changed gV_fore gV_back fV_together fV_member gV_list dV_list nV_list iV_listed iV_listDone))) (va_Qi (fun (r : Int32) (u : Unit) => (0 ≤ r.toInt ∧ r.toInt ≤ 1)) (fun (u : Unit) t => va_P (dC, dI) vwCl (WV hV aV kV iV_holders iV_rules fV_pairs fV_domain fV_kind fV_a fV_b fV_c fV_rulePairs fV_lastHolder fV_now iV_doneFor iV_changed gV_fore gV_back fV_together fV_member gV_list dV_list nV_list iV_listed iV_listDone) t.heap ∧ va_D (va_A (WV hV aV kV iV_holders iV_rules fV_pairs fV_domain fV_kind fV_a fV_b fV_c fV_rulePairs fV_lastHolder fV_now iV_doneFor iV_changed gV_fore gV_back fV_together fV_member gV_list dV_list nV_list iV_listed iV_listDone) sz) (WV hV aV kV iV_holders iV_rules fV_pairs fV_domain fV_kind fV_a fV_b fV_c fV_rulePairs fV_lastHolder fV_now iV_doneFor iV_changed gV_fore gV_back fV_together fV_member gV_list dV_list nV_list iV_listed iV_listDone)) (va_A (WV hV aV kV iV_holders iV_rules fV_pairs fV_domain fV_kind fV_a fV_b fV_c fV_rulePairs fV_lastHolder fV_now iV_doneFor iV_changed gV_fore gV_back fV_together fV_member gV_list dV_list nV_list iV_listed iV_listDone) sz)) 0 0 (va_A (WV hV aV kV iV_holders iV_rules fV_pairs fV_domain fV_kind fV_a fV_b fV_c fV_rulePairs fV_lastHolder fV_now iV_doneFor iV_changed gV_fore gV_back fV_together fV_member gV_list dV_list nV_list iV_listed iV_listDone) sz) := by
  refine Met.ofW (cc := cX7_keepsAt) (maxL := 3) (ret := (some .boolean)) (by decide) rfl ?_
  intro p e s m args below meth c s₁ B hml hv
  obtain ⟨rfl, hsz, hP, hK, hD0⟩ := hv
  have hx := B.exec
  have hb := B.bytes
  have hr := B.returns
  have hts := atoms_spec (ws := wsMX7_keepsAt) B.pre
  have hown : s.vm.findClass RX7 = some m.cls := findClass_of_methodNamed B.named
  have hlocks := B.notSynchronized
  subst hsz
  have hD := hD0.self (sz := s.heap.size)
  generalize hAe : va_A (WV hV aV kV iV_holders iV_rules fV_pairs fV_domain fV_kind fV_a fV_b fV_c fV_rulePairs fV_lastHolder fV_now iV_doneFor iV_changed gV_fore gV_back fV_together fV_member gV_list dV_list nV_list iV_listed iV_listDone) s.heap.size = A at hD ⊢
  have hA : ∀ q : Nat, s.heap.size ≤ q → A q := fun q h => by rw [← hAe]; exact Or.inr h
  have hS : va_S A s.heap s.heap [] := va_S.rf
  have hl := lv_entry ([.ref (hV 0), .int p1]) (n := 3) (Nat.le_of_ble_eq_true rfl)
  rw [lg_entry_eq]
  generalize (lg_sl ([.ref (hV 0), .int p1]) ++ List.replicate (3 - (lg_sl ([.ref (hV 0), .int p1])).length) Slot.unset).toArray = ls at hl ⊢
  have hl : lv_has ls 3 [(0, .ref (hV 0)), (1, .int p1)] := hl
  refine lv_iconst (v := 0) hx hb dX7_keepsAt_0 (by decide) ?_
  refine lv_istore_n hx hb dX7_keepsAt_1 rfl hl (by decide) rfl (fun ls (hl : lv_has ls _ ([(2, .int 0), (0, .ref (hV 0)), (1, .int p1)])) => ?_)
  have hl : lv_has _ _ ([(2, .int 0), (0, .ref (hV 0)), (1, .int p1)]) := lv_sub hl [0, 1, 2] rfl
  refine (fun (loop : ∀ (n9 : Nat) (l2_x2 : Int32) (H : Heap) (locs : List Loc) (ls : Array Slot), (0 ≤ l2_x2.toInt ∧ l2_x2.toInt ≤ 12) → (12 - l2_x2.toInt < ((n9 : Nat) : Int)) → va_P (dC, dI) vwCl (WV hV aV kV iV_holders iV_rules fV_pairs fV_domain fV_kind fV_a fV_b fV_c fV_rulePairs fV_lastHolder fV_now iV_doneFor iV_changed gV_fore gV_back fV_together fV_member gV_list dV_list nV_list iV_listed iV_listDone) H → va_D A (WV hV aV kV iV_holders iV_rules fV_pairs fV_domain fV_kind fV_a fV_b fV_c fV_rulePairs fV_lastHolder fV_now iV_doneFor iV_changed gV_fore gV_back fV_together fV_member gV_list dV_list nV_list iV_listed iV_listDone) → va_S A s.heap H locs → lv_has ls 3 [(2, .int l2_x2), (0, .ref (hV 0)), (1, .int p1)] → W p l e _ s m _ below meth c H locs 0 0 _ (F0 m 2 ls [])) => loop (13) 0 _ _ _ (show 0 ≤ (0 : Int32).toInt ∧ (0 : Int32).toInt ≤ 12 from by decide) ((by have e9 : (0 : Int32).toInt = 0 := (by decide : (0 : Int32).toInt = 0); omega)) hP hD hS hl) ?_
  intro n9
  induction n9 with
  | zero => intro l2_x2 H locs ls b_l2_x2 hf9; exact False.elim (by omega)
  | succ n9 ihx2 =>
    intro l2_x2 H locs ls b_l2_x2 hfx2 hP hD hS hl
    refine lv_iload_n hx hb dX7_keepsAt_2 rfl (lv_at hl 0 rfl) ?_
    refine lv_aload_n hx hb dX7_keepsAt_3 rfl (lv_at hl 1 rfl) ?_
    refine va_get (D := (dC, dI)) (ci := 7) (v := .int iV_rules) (C := RX7) (T := TX7) (N := 20) hx hb hts iwsMX7_keepsAt_in7 hown hK hP 0 rfl rfl 1 (by decide) (hts (.fieldLink RX7 62 "OptimaWorks$ValueDesk" "rules" "I") (by decide +kernel)) (fun _ h9 => h9) rfl dX7_keepsAt_4 ?_
    refine lv_icmp_ge (tgt := 36) hx hb dX7_keepsAt_7 (by decide) (fun c_7 => ?_) (fun c_7 => ?_)
    · have t_7 : l2_x2.toInt ≥ iV_rules.toInt := toI_ge c_7 rfl rfl
      refine lv_iconst (v := 1) hx hb dX7_keepsAt_36 (by decide) ?_
      refine W.widen (k := 0) (n := 0) (by decide +kernel) (by decide +kernel) ?_
      exact W.zret (v := 1) hx hb hr rfl (fun t9_ ht hW => ⟨⟨(1 : Int32), (), rfl, (show 0 ≤ (1 : Int32).toInt ∧ (1 : Int32).toInt ≤ 1 from by decide), by rw [ht]; exact hP, hD⟩, hS.F ht⟩) hS.2.2 dX7_keepsAt_37
    · have t_7 : ¬ l2_x2.toInt ≥ iV_rules.toInt := toI_nge c_7 rfl rfl
      refine lv_aload_n hx hb dX7_keepsAt_10 rfl (lv_at hl 1 rfl) ?_
      refine va_get (D := (dC, dI)) (ci := 7) (v := .ref (aV 7)) (C := RX7) (T := TX7) (N := 20) hx hb hts iwsMX7_keepsAt_in7 hown hK hP 0 rfl rfl 9 (by decide) (hts (.fieldLink RX7 33 "OptimaWorks$ValueDesk" "lastHolder" "[I") (by decide +kernel)) (fun _ h9 => h9) rfl dX7_keepsAt_11 ?_
      refine lv_iload_n hx hb dX7_keepsAt_14 rfl (lv_at hl 0 rfl) ?_
      refine va_iald (cA := kV 7) (n := 12) (f := fV_lastHolder) hx hb hK hP 8 7 rfl rfl (vp_in_iff.mpr ⟨b_l2_x2.1, (Int.lt_of_lt_of_le (Int.not_le.mp t_7) (Int.le_trans b_iV_rules.2 (by decide)))⟩) dX7_keepsAt_15 ?_
      refine lv_topi (fun v5 hv5 => ?_)
      have b_v5 : v5 = fV_lastHolder (l2_x2).toNatClampNeg := hv5
      clear hv5
      refine lv_iload_n hx hb dX7_keepsAt_16 rfl (lv_at hl 2 rfl) ?_
      refine lv_icmp_ne (tgt := 30) hx hb dX7_keepsAt_17 (by decide) (fun c_17 => ?_) (fun c_17 => ?_)
      · have t_17 : v5.toInt ≠ p1.toInt := toI_ne c_17 rfl rfl
        refine lv_iinc (v := (iI (l2_x2.toInt + 1))) hx hb dX7_keepsAt_30 hl (k := 0) rfl (iI_add2 (iI_of _) (by decide : (1 : Int32) = iI 1)) (by decide) rfl (fun ls (hl : lv_has ls _ ([(2, .int (iI (l2_x2.toInt + 1))), (0, .ref (hV 0)), (1, .int p1)])) => ?_)
        refine lv_goto (tgt := 2) hx hb dX7_keepsAt_33 (by decide) ?_
        have hl : lv_has _ _ ([(2, .int (iI (l2_x2.toInt + 1))), (0, .ref (hV 0)), (1, .int p1)]) := lv_sub hl [0, 1, 2] rfl
        exact ihx2 (iI (l2_x2.toInt + 1)) _ _ _ (iI_rng (Int.le_trans (by decide) (Int.add_le_add (b_l2_x2.1) (Int.le_refl _))) (by omega) (by decide) (by decide)) (by have e9 : ((iI (l2_x2.toInt + 1))).toInt = (l2_x2.toInt + 1) := (iI_t (Int.le_trans (by decide) (Int.add_le_add (b_l2_x2.1) (Int.le_refl _))) (Int.le_trans (Int.add_le_add (b_l2_x2.2) (Int.le_refl _)) (by decide))); omega) hP hD hS hl
      · have t_17 : v5.toInt = p1.toInt := toI_nne c_17 rfl rfl
        refine lv_aload_n hx hb dX7_keepsAt_20 rfl (lv_at hl 1 rfl) ?_
        refine lv_iload_n hx hb dX7_keepsAt_21 rfl (lv_at hl 0 rfl) ?_
        have hFc := allFree hD hS hA
        refine va_calli (va_runV (As := [.int l2_x2]) (rest := []) ⟨hx, hb, hml, hown, hts⟩ (m_X7_keeps l dC dI hV aV kV iV_holders iV_rules fV_pairs fV_domain fV_kind fV_a fV_b fV_c fV_rulePairs fV_lastHolder fV_now iV_doneFor iV_changed gV_fore gV_back fV_together fV_member gV_list dV_list nV_list iV_listed iV_listDone l2_x2 (b_iV_holders) (b_iV_rules) b_fV_kind (b_iV_changed) b_fV_member (by first | exact b_nV_list | with_reducible assumption | exact ⟨by omega, by omega⟩ | assumption) (b_iV_listed) (b_iV_listDone) (by first | with_reducible assumption | omega | assumption) (by first | with_reducible assumption | omega | assumption) (by first | exact b_l2_x2 | with_reducible assumption | exact ⟨by omega, by omega⟩ | assumption) (MemC.less hme (by rw [← b_v5]; omega)) H.size) (cwV 1 hts gwsMX7_keepsAt_0 rfl rfl rfl hd_yX7_keeps_RX7 (by decide +kernel)) (fz_pre (va_recv hK hP (ci := 7) (q0 := 0) rfl rfl) hP hK hD) rfl rfl hl.1 rfl (lv_room (Nat.le_of_ble_eq_true rfl)) dX7_keepsAt_22 (by decide +kernel)) hS (fun q _ h => hFc q h) hFc (fun r6 u t9_ H locs ht hvm hw9 hB9 hz1 hk1 hS => ?_)
        have b_r6 := hw9
        try dsimp only at b_r6
        have hP : va_P (dC, dI) vwCl (WV hV aV kV iV_holders iV_rules fV_pairs fV_domain fV_kind fV_a fV_b fV_c fV_rulePairs fV_lastHolder fV_now iV_doneFor iV_changed gV_fore gV_back fV_together fV_member gV_list dV_list nV_list iV_listed iV_listDone) H := fz_P ht hB9.1
        have hD := fz_sd hP (hB9.2.weaken (fun _ q _ h => hFc q.1 h)) rfl
        refine lv_if_ne (tgt := 30) hx hb dX7_keepsAt_25 (by decide) (fun c_25 => ?_) (fun c_25 => ?_)
        · have t_25 : r6.toInt ≠ 0 := toI_ne c_25 rfl (by decide : (0 : Int32).toInt = 0)
          refine lv_iinc (v := (iI (l2_x2.toInt + 1))) hx hb dX7_keepsAt_30 hl (k := 0) rfl (iI_add2 (iI_of _) (by decide : (1 : Int32) = iI 1)) (by decide) rfl (fun ls (hl : lv_has ls _ ([(2, .int (iI (l2_x2.toInt + 1))), (0, .ref (hV 0)), (1, .int p1)])) => ?_)
          refine lv_goto (tgt := 2) hx hb dX7_keepsAt_33 (by decide) ?_
          have hl : lv_has _ _ ([(2, .int (iI (l2_x2.toInt + 1))), (0, .ref (hV 0)), (1, .int p1)]) := lv_sub hl [0, 1, 2] rfl
          exact ihx2 (iI (l2_x2.toInt + 1)) _ _ _ (iI_rng (Int.le_trans (by decide) (Int.add_le_add (b_l2_x2.1) (Int.le_refl _))) (by omega) (by decide) (by decide)) (by have e9 : ((iI (l2_x2.toInt + 1))).toInt = (l2_x2.toInt + 1) := (iI_t (Int.le_trans (by decide) (Int.add_le_add (b_l2_x2.1) (Int.le_refl _))) (Int.le_trans (Int.add_le_add (b_l2_x2.2) (Int.le_refl _)) (by decide))); omega) hP hD hS hl
        · have t_25 : r6.toInt = 0 := toI_nne c_25 rfl (by decide : (0 : Int32).toInt = 0)
          refine lv_iconst (v := 0) hx hb dX7_keepsAt_28 (by decide) ?_
          refine W.widen (k := 0) (n := 0) (by decide +kernel) (by decide +kernel) ?_
          exact W.zret (v := 0) hx hb hr rfl (fun t9_ ht hW => ⟨⟨(0 : Int32), (), rfl, (show 0 ≤ (0 : Int32).toInt ∧ (0 : Int32).toInt ≤ 1 from by decide), by rw [ht]; exact hP, hD⟩, hS.F ht⟩) hS.2.2 dX7_keepsAt_29
end
section
theorem hd_yJ0_coder_7d493_RJ0 : yJ0_coder_7d493.cls = RJ0 ∧ yJ0_coder_7d493.cls ≠ "java/lang/invoke/MethodHandle" ∧ yJ0_coder_7d493.cls ≠ "java/lang/invoke/VarHandle" ∧ (parseMethodDescriptor yJ0_coder_7d493.desc).map (fun d => d.parameters.length) = some 0 := by decide +kernel
theorem hd_yJ0_length_8abf5_RJ0 : yJ0_length_8abf5.cls = RJ0 ∧ yJ0_length_8abf5.cls ≠ "java/lang/invoke/MethodHandle" ∧ yJ0_length_8abf5.cls ≠ "java/lang/invoke/VarHandle" ∧ (parseMethodDescriptor yJ0_length_8abf5.desc).map (fun d => d.parameters.length) = some 0 := by decide +kernel
theorem hd_yJ0_indexOf_7cf53_RJ0 : yJ0_indexOf_7cf53.cls = RJ0 ∧ yJ0_indexOf_7cf53.cls ≠ "java/lang/invoke/MethodHandle" ∧ yJ0_indexOf_7cf53.cls ≠ "java/lang/invoke/VarHandle" ∧ (parseMethodDescriptor yJ0_indexOf_7cf53.desc).map (fun d => d.parameters.length) = some 2 := by decide +kernel
theorem dJ0_coder_7d493_0 : decode cJ0_coder_7d493 0 = .ok (.getstatic 38, 3) := dk_178 (by decide +kernel)
theorem dJ0_coder_7d493_3 : decode cJ0_coder_7d493 3 = .ok (.ifCond .eq 10, 3) := dk_153 (by decide +kernel)
theorem dJ0_coder_7d493_6 : decode cJ0_coder_7d493 6 = .ok (.aload_n 0, 1) := dk_42 (by decide +kernel)
theorem dJ0_coder_7d493_7 : decode cJ0_coder_7d493 7 = .ok (.getfield 15, 3) := dk_180 (by decide +kernel)
theorem dJ0_coder_7d493_10 : decode cJ0_coder_7d493 10 = .ok (.goto 4, 3) := dk_167 (by decide +kernel)
theorem dJ0_coder_7d493_14 : decode cJ0_coder_7d493 14 = .ok (.ireturn, 1) := dk_172 (by decide +kernel)
def wsMJ0_coder_7d493 : List Cond := .code yJ0_coder_7d493 cJ0_coder_7d493 1 (some .byte) :: ([.fieldLink RJ0 38 "java/lang/String" "COMPACT_STRINGS" "Z", .fieldLink RJ0 15 "java/lang/String" "coder" "B"])
theorem gdwsMJ0_coder_7d493 : wsMJ0_coder_7d493.all goodWord = true := gdC rfl (by decide +kernel : ([.fieldLink RJ0 38 "java/lang/String" "COMPACT_STRINGS" "Z", .fieldLink RJ0 15 "java/lang/String" "coder" "B"] : List Cond).all goodWord = true)
set_option maxHeartbeats 4000000 in
set_option maxRecDepth 100000 in
/-- String.coder -/
theorem m_J0_coder_7d493 (l : Launch) (dC : Nat → ClassId) (dI : Nat → Nat → Nat) (qS : Nat) (nn : Nat) (fB : Nat → Int32) (sz : Nat) : Met l yJ0_coder_7d493 wsMJ0_coder_7d493 ({ frames := 0, cells := 0, slots := 0, locals := 0 }) (va_Pc [.ref qS] (fun U => U.heap.size = sz ∧ va_P (dC, dI) vwCl [] U.heap ∧ va_K (dC, dI) vwCl [] U ∧ va_D (fun _ => True) [] ∧ (StrE qS nn fB) (va_A [] sz) U U.heap)) (va_Qi (fun (r : Int32) (u : Unit) => (0 ≤ r.toInt ∧ r.toInt ≤ 0)) (fun (u : Unit) t => True) (va_A [] sz)) 0 0 (va_A [] sz) := by
  refine Met.ofW (cc := cJ0_coder_7d493) (maxL := 1) (ret := (some .byte)) (by decide) rfl ?_
  intro p e s m args below meth c s₁ B hml hv
  obtain ⟨rfl, hsz, hP, hK, hD0, hE⟩ := hv
  have hx := B.exec
  have hb := B.bytes
  have hr := B.returns
  have hts := atoms_spec (ws := wsMJ0_coder_7d493) B.pre
  have hown : s.vm.findClass RJ0 = some m.cls := findClass_of_methodNamed B.named
  have hlocks := B.notSynchronized
  subst hsz
  have hD := hD0.self (sz := s.heap.size)
  generalize hAe : va_A [] s.heap.size = A at hD hE ⊢
  have hA : ∀ q : Nat, s.heap.size ≤ q → A q := fun q h => by rw [← hAe]; exact Or.inr h
  have hS : va_S A s.heap s.heap [] := va_S.rf
  have hl := lv_entry ([.ref qS]) (n := 1) (Nat.le_of_ble_eq_true rfl)
  rw [lg_entry_eq]
  generalize (lg_sl ([.ref qS]) ++ List.replicate (1 - (lg_sl ([.ref qS])).length) Slot.unset).toArray = ls at hl ⊢
  have hl : lv_has ls 1 [(0, .ref qS)] := hl
  refine va_gets hx hb hE.1.1 hS hown (hts (.fieldLink RJ0 38 "java/lang/String" "COMPACT_STRINGS" "Z") (by decide +kernel)) (fun _ h9 => h9) dJ0_coder_7d493_0 ?_
  refine lv_if_eq (tgt := 13) hx hb dJ0_coder_7d493_3 (by decide) (fun c9 => absurd c9 (by decide)) (fun _ => ?_)
  refine lv_aload_n hx hb dJ0_coder_7d493_6 rfl (lv_at hl 0 rfl) ?_
  refine vk_getf hx hb hE.2.2.1 hS hown (hts (.fieldLink RJ0 15 "java/lang/String" "coder" "B") (by decide +kernel)) (fun _ h9 => h9) dJ0_coder_7d493_7 ?_
  refine lv_goto (tgt := 14) hx hb dJ0_coder_7d493_10 (by decide) ?_
  refine W.widen (k := 0) (n := 0) (by decide +kernel) (by decide +kernel) ?_
  exact W.zret (v := 0) hx hb hr rfl (fun t9_ ht hW => ⟨⟨(0 : Int32), (), rfl, (show 0 ≤ (0 : Int32).toInt ∧ (0 : Int32).toInt ≤ 0 from by decide), trivial⟩, hS.F ht⟩) hS.2.2 dJ0_coder_7d493_14
theorem dJ0_length_8abf5_0 : decode cJ0_length_8abf5 0 = .ok (.aload_n 0, 1) := dk_42 (by decide +kernel)
theorem dJ0_length_8abf5_1 : decode cJ0_length_8abf5 1 = .ok (.getfield 9, 3) := dk_180 (by decide +kernel)
theorem dJ0_length_8abf5_4 : decode cJ0_length_8abf5 4 = .ok (.arraylength, 1) := dk_190 (by decide +kernel)
theorem dJ0_length_8abf5_5 : decode cJ0_length_8abf5 5 = .ok (.aload_n 0, 1) := dk_42 (by decide +kernel)
theorem dJ0_length_8abf5_6 : decode cJ0_length_8abf5 6 = .ok (.invokevirtual 335, 3) := dk_182 (by decide +kernel)
theorem dJ0_length_8abf5_9 : decode cJ0_length_8abf5 9 = .ok (.ishr, 1) := dk_122 (by decide +kernel)
theorem dJ0_length_8abf5_10 : decode cJ0_length_8abf5 10 = .ok (.ireturn, 1) := dk_172 (by decide +kernel)
def wsMJ0_length_8abf5 : List Cond := .code yJ0_length_8abf5 cJ0_length_8abf5 1 (some .int) :: ([.fieldLink RJ0 9 "java/lang/String" "value" "[B"] ++ (wsV RJ0 335 RJ0 yJ0_coder_7d493 wsMJ0_coder_7d493))
theorem gwsMJ0_length_8abf5_0 : GoodIn wsMJ0_length_8abf5 (wsV RJ0 335 RJ0 yJ0_coder_7d493 wsMJ0_coder_7d493) := goodIn_sub (fun _ h => List.mem_cons_of_mem _ (List.mem_append_right _ h)) (gdV (by decide +kernel) gdwsMJ0_coder_7d493)
theorem gdwsMJ0_length_8abf5 : wsMJ0_length_8abf5.all goodWord = true := gdC rfl (gdA (by decide +kernel : ([.fieldLink RJ0 9 "java/lang/String" "value" "[B"] : List Cond).all goodWord = true) (gdV (by decide +kernel) gdwsMJ0_coder_7d493))
set_option maxHeartbeats 4000000 in
set_option maxRecDepth 100000 in
/-- String.length -/
theorem m_J0_length_8abf5 (l : Launch) (dC : Nat → ClassId) (dI : Nat → Nat → Nat) (qS : Nat) (nn : Nat) (fB : Nat → Int32) (hnn : nn ≤ 1000) (sz : Nat) : Met l yJ0_length_8abf5 wsMJ0_length_8abf5 ({ frames := 1, cells := 0, slots := 0, locals := 20 }) (va_Pc [.ref qS] (fun U => U.heap.size = sz ∧ va_P (dC, dI) vwCl [] U.heap ∧ va_K (dC, dI) vwCl [] U ∧ va_D (fun _ => True) [] ∧ (StrE qS nn fB) (va_A [] sz) U U.heap)) (va_Qi (fun (r : Int32) (u : Unit) => (r.toInt = ((nn : Nat) : Int))) (fun (u : Unit) t => True) (va_A [] sz)) 0 0 (va_A [] sz) := by
  refine Met.ofW (cc := cJ0_length_8abf5) (maxL := 1) (ret := (some .int)) (by decide) rfl ?_
  intro p e s m args below meth c s₁ B hml hv
  obtain ⟨rfl, hsz, hP, hK, hD0, hE⟩ := hv
  have hx := B.exec
  have hb := B.bytes
  have hr := B.returns
  have hts := atoms_spec (ws := wsMJ0_length_8abf5) B.pre
  have hown : s.vm.findClass RJ0 = some m.cls := findClass_of_methodNamed B.named
  have hlocks := B.notSynchronized
  subst hsz
  have hD := hD0.self (sz := s.heap.size)
  generalize hAe : va_A [] s.heap.size = A at hD hE ⊢
  have hA : ∀ q : Nat, s.heap.size ≤ q → A q := fun q h => by rw [← hAe]; exact Or.inr h
  have hS : va_S A s.heap s.heap [] := va_S.rf
  have hl := lv_entry ([.ref qS]) (n := 1) (Nat.le_of_ble_eq_true rfl)
  rw [lg_entry_eq]
  generalize (lg_sl ([.ref qS]) ++ List.replicate (1 - (lg_sl ([.ref qS])).length) Slot.unset).toArray = ls at hl ⊢
  have hl : lv_has ls 1 [(0, .ref qS)] := hl
  refine lv_aload_n hx hb dJ0_length_8abf5_0 rfl (lv_at hl 0 rfl) ?_
  obtain ⟨vB, hvB, hfB⟩ := hE.2.2.2
  refine vk_getf hx hb hvB hS hown (hts (.fieldLink RJ0 9 "java/lang/String" "value" "[B") (by decide +kernel)) (fun _ h9 => h9) dJ0_length_8abf5_1 ?_
  refine va_tlen hx hb hfB hS (v := (iI ((nn : Nat) : Int))) (iI_nat _) dJ0_length_8abf5_4 ?_
  refine lv_aload_n hx hb dJ0_length_8abf5_5 rfl (lv_at hl 0 rfl) ?_
  have hFc := noneFree hS hA
  refine va_calli (va_runV (As := []) (rest := [.int (iI ((nn : Nat) : Int))]) ⟨hx, hb, hml, hown, hts⟩ (m_J0_coder_7d493 l dC dI qS nn fB s.heap.size) (cwV 0 hts gwsMJ0_length_8abf5_0 rfl rfl rfl hd_yJ0_coder_7d493_RJ0 (by decide +kernel)) ⟨fun a U g mk q => by obtain ⟨q0, q1, qP, qK, qD, qE⟩ := q; exact ⟨q0, q1, qP, va_K.moved (u := U) (U := U.calling g mk a) (Vm.Alike.refl U.vm) qK, qD, qE.same rfl⟩, hE.recv hS, fun U hU9 hW => ⟨rfl, by rw [hU9], by rw [hU9]; exact nilP, va_K.moved hW.alike (hK.sub (tys' := []) [] rfl), nilD, by rw [hU9]; exact (((hE : (StrE qS nn fB) A s s.heap).kept hS.2.1).narrow (fun q h => hFc q h)).warm hW⟩⟩ rfl rfl hl.1 rfl (lv_room (Nat.le_of_ble_eq_true rfl)) dJ0_length_8abf5_6 (by decide +kernel)) hS (fun q _ h => hFc q h) hFc (fun r1 u t9_ H1 locs ht hvm hw9 hB9 hz1 hk1 hS => ?_)
  have b_r1 := hw9
  try dsimp only at b_r1
  clear hB9
  have hP := keepAll hP hk1
  generalize H1 = H at hP hS ⊢
  have hP : va_P (dC, dI) vwCl ([]) H := hP
  have hD := fz_sd hP (hD) rfl
  refine lv_ishr hx hb dJ0_length_8abf5_9 ?_
  refine lv_topi (fun v2 hv2 => ?_)
  have b_v2 : v2.toInt = ((nn : Nat) : Int) := by rw [hv2]; exact shr0 (iI_t (by omega) (by omega)) (by omega)
  clear hv2
  refine W.widen (k := 0) (n := 0) (by decide +kernel) (by decide +kernel) ?_
  exact W.iret (v := v2) hx hb hr (fun t9_ ht hW => ⟨⟨v2, (), rfl, (by (try dsimp only); omega), trivial⟩, hS.F ht⟩) hS.2.2 dJ0_length_8abf5_10
theorem dJ1_canEncode_9a6ad_0 : decode cJ1_canEncode_9a6ad 0 = .ok (.iload_n 0, 1) := dk_26 (by decide +kernel)
theorem dJ1_canEncode_9a6ad_1 : decode cJ1_canEncode_9a6ad 1 = .ok (.ifCond .lt 14, 3) := dk_155 (by decide +kernel)
theorem dJ1_canEncode_9a6ad_4 : decode cJ1_canEncode_9a6ad 4 = .ok (.iload_n 0, 1) := dk_26 (by decide +kernel)
theorem dJ1_canEncode_9a6ad_5 : decode cJ1_canEncode_9a6ad 5 = .ok (.sipush 255, 3) := dk_17 (by decide +kernel)
theorem dJ1_canEncode_9a6ad_8 : decode cJ1_canEncode_9a6ad 8 = .ok (.if_icmp .gt 7, 3) := dk_163 (by decide +kernel)
theorem dJ1_canEncode_9a6ad_11 : decode cJ1_canEncode_9a6ad 11 = .ok (.iconst 1, 1) := dk_4 (by decide +kernel)
theorem dJ1_canEncode_9a6ad_12 : decode cJ1_canEncode_9a6ad 12 = .ok (.goto 4, 3) := dk_167 (by decide +kernel)
theorem dJ1_canEncode_9a6ad_15 : decode cJ1_canEncode_9a6ad 15 = .ok (.iconst 0, 1) := dk_3 (by decide +kernel)
theorem dJ1_canEncode_9a6ad_16 : decode cJ1_canEncode_9a6ad 16 = .ok (.ireturn, 1) := dk_172 (by decide +kernel)
def wsMJ1_canEncode_9a6ad : List Cond := .code yJ1_canEncode_9a6ad cJ1_canEncode_9a6ad 1 (some .boolean) :: ([])
theorem gdwsMJ1_canEncode_9a6ad : wsMJ1_canEncode_9a6ad.all goodWord = true := gdC rfl (by decide +kernel : ([] : List Cond).all goodWord = true)
set_option maxHeartbeats 4000000 in
set_option maxRecDepth 100000 in
/-- canEncode -/
theorem m_J1_canEncode_9a6ad (l : Launch) (dC : Nat → ClassId) (dI : Nat → Nat → Nat) (p1 : Int32) (sz : Nat) : Met l yJ1_canEncode_9a6ad wsMJ1_canEncode_9a6ad ({ frames := 0, cells := 0, slots := 0, locals := 0 }) (va_Pc [.int p1] (fun U => U.heap.size = sz ∧ va_P (dC, dI) vwCl [] U.heap ∧ va_K (dC, dI) vwCl [] U ∧ va_D (fun _ => True) [])) (va_Qi (fun (r : Int32) (u : Unit) => (0 ≤ r.toInt ∧ r.toInt ≤ 1)) (fun (u : Unit) t => True) (va_A [] sz)) 0 0 (va_A [] sz) := by
  refine Met.ofW (cc := cJ1_canEncode_9a6ad) (maxL := 1) (ret := (some .boolean)) (by decide) rfl ?_
  intro p e s m args below meth c s₁ B hml hv
  obtain ⟨rfl, hsz, hP, hK, hD0⟩ := hv
  have hx := B.exec
  have hb := B.bytes
  have hr := B.returns
  have hts := atoms_spec (ws := wsMJ1_canEncode_9a6ad) B.pre
  have hown : s.vm.findClass RJ1 = some m.cls := findClass_of_methodNamed B.named
  have hlocks := B.notSynchronized
  subst hsz
  have hD := hD0.self (sz := s.heap.size)
  generalize hAe : va_A [] s.heap.size = A at hD ⊢
  have hA : ∀ q : Nat, s.heap.size ≤ q → A q := fun q h => by rw [← hAe]; exact Or.inr h
  have hS : va_S A s.heap s.heap [] := va_S.rf
  have hl := lv_entry ([.int p1]) (n := 1) (Nat.le_of_ble_eq_true rfl)
  rw [lg_entry_eq]
  generalize (lg_sl ([.int p1]) ++ List.replicate (1 - (lg_sl ([.int p1])).length) Slot.unset).toArray = ls at hl ⊢
  have hl : lv_has ls 1 [(0, .int p1)] := hl
  refine lv_iload_n hx hb dJ1_canEncode_9a6ad_0 rfl (lv_at hl 0 rfl) ?_
  refine W.cut (pc := 16) (fun H locs ls stk => ∃ (k0_j2 : Int32), (0 ≤ k0_j2.toInt ∧ k0_j2.toInt ≤ 1) ∧  stk = [.int k0_j2] ∧ va_P (dC, dI) vwCl ([]) H ∧ va_D A ([]) ∧ va_S A s.heap H locs ∧ lv_has ls 1 [(0, .int p1)]) (fun join2 => ?_) ?_
  · refine lv_if_lt (tgt := 15) hx hb dJ1_canEncode_9a6ad_1 (by decide) (fun c_1 => ?_) (fun c_1 => ?_)
    · have t_1 : p1.toInt < 0 := toI_lt c_1 rfl (by decide : (0 : Int32).toInt = 0)
      refine lv_iconst (v := 0) hx hb dJ1_canEncode_9a6ad_15 (by decide) ?_
      have hl : lv_has _ _ ([(0, .int p1)]) := lv_sub hl [0] rfl
      exact join2 _ _ _ _ ⟨0, (show 0 ≤ (0 : Int32).toInt ∧ (0 : Int32).toInt ≤ 1 from by decide), rfl, hP, hD, hS, hl⟩
    · have t_1 : ¬ p1.toInt < 0 := toI_nlt c_1 rfl (by decide : (0 : Int32).toInt = 0)
      refine lv_iload_n hx hb dJ1_canEncode_9a6ad_4 rfl (lv_at hl 0 rfl) ?_
      refine lv_sipush (v := 255) hx hb dJ1_canEncode_9a6ad_5 (by decide) ?_
      refine lv_icmp_gt (tgt := 15) hx hb dJ1_canEncode_9a6ad_8 (by decide) (fun c_8 => ?_) (fun c_8 => ?_)
      · have t_8 : p1.toInt > 255 := toI_gt c_8 rfl (by decide : (255 : Int32).toInt = 255)
        refine lv_iconst (v := 0) hx hb dJ1_canEncode_9a6ad_15 (by decide) ?_
        have hl : lv_has _ _ ([(0, .int p1)]) := lv_sub hl [0] rfl
        exact join2 _ _ _ _ ⟨0, (show 0 ≤ (0 : Int32).toInt ∧ (0 : Int32).toInt ≤ 1 from by decide), rfl, hP, hD, hS, hl⟩
      · have t_8 : ¬ p1.toInt > 255 := toI_ngt c_8 rfl (by decide : (255 : Int32).toInt = 255)
        refine lv_iconst (v := 1) hx hb dJ1_canEncode_9a6ad_11 (by decide) ?_
        refine lv_goto (tgt := 16) hx hb dJ1_canEncode_9a6ad_12 (by decide) ?_
        have hl : lv_has _ _ ([(0, .int p1)]) := lv_sub hl [0] rfl
        exact join2 _ _ _ _ ⟨1, (show 0 ≤ (1 : Int32).toInt ∧ (1 : Int32).toInt ≤ 1 from by decide), rfl, hP, hD, hS, hl⟩
  · rintro H locs ls stk ⟨k0_j2, b_k0_j2, rfl, hP, hD, hS, hl⟩
    refine W.widen (k := 0) (n := 0) (by decide +kernel) (by decide +kernel) ?_
    exact W.zret (v := k0_j2) hx hb hr (by rcases z01 (x := k0_j2) (b_k0_j2) with h9 | h9 <;> rw [h9] <;> rfl) (fun t9_ ht hW => ⟨⟨k0_j2, (), rfl, (b_k0_j2), trivial⟩, hS.F ht⟩) hS.2.2 dJ1_canEncode_9a6ad_16
theorem dJ1_indexOfChar_4cfef_0 : decode cJ1_indexOfChar_4cfef 0 = .ok (.iload_n 1, 1) := dk_27 (by decide +kernel)
theorem dJ1_indexOfChar_4cfef_1 : decode cJ1_indexOfChar_4cfef 1 = .ok (.i2b, 1) := dk_145 (by decide +kernel)
theorem dJ1_indexOfChar_4cfef_2 : decode cJ1_indexOfChar_4cfef 2 = .ok (.istore 4, 2) := dk_54 (by decide +kernel)
theorem dJ1_indexOfChar_4cfef_4 : decode cJ1_indexOfChar_4cfef 4 = .ok (.iload_n 2, 1) := dk_28 (by decide +kernel)
theorem dJ1_indexOfChar_4cfef_5 : decode cJ1_indexOfChar_4cfef 5 = .ok (.istore 5, 2) := dk_54 (by decide +kernel)
theorem dJ1_indexOfChar_4cfef_7 : decode cJ1_indexOfChar_4cfef 7 = .ok (.iload 5, 2) := dk_21 (by decide +kernel)
theorem dJ1_indexOfChar_4cfef_9 : decode cJ1_indexOfChar_4cfef 9 = .ok (.iload_n 3, 1) := dk_29 (by decide +kernel)
theorem dJ1_indexOfChar_4cfef_10 : decode cJ1_indexOfChar_4cfef 10 = .ok (.if_icmp .ge 21, 3) := dk_162 (by decide +kernel)
theorem dJ1_indexOfChar_4cfef_13 : decode cJ1_indexOfChar_4cfef 13 = .ok (.aload_n 0, 1) := dk_42 (by decide +kernel)
theorem dJ1_indexOfChar_4cfef_14 : decode cJ1_indexOfChar_4cfef 14 = .ok (.iload 5, 2) := dk_21 (by decide +kernel)
theorem dJ1_indexOfChar_4cfef_16 : decode cJ1_indexOfChar_4cfef 16 = .ok (.baload, 1) := dk_51 (by decide +kernel)
theorem dJ1_indexOfChar_4cfef_17 : decode cJ1_indexOfChar_4cfef 17 = .ok (.iload 4, 2) := dk_21 (by decide +kernel)
theorem dJ1_indexOfChar_4cfef_19 : decode cJ1_indexOfChar_4cfef 19 = .ok (.if_icmp .ne 6, 3) := dk_160 (by decide +kernel)
theorem dJ1_indexOfChar_4cfef_22 : decode cJ1_indexOfChar_4cfef 22 = .ok (.iload 5, 2) := dk_21 (by decide +kernel)
theorem dJ1_indexOfChar_4cfef_24 : decode cJ1_indexOfChar_4cfef 24 = .ok (.ireturn, 1) := dk_172 (by decide +kernel)
theorem dJ1_indexOfChar_4cfef_25 : decode cJ1_indexOfChar_4cfef 25 = .ok (.iinc 5 1, 3) := dk_132 (by decide +kernel)
theorem dJ1_indexOfChar_4cfef_28 : decode cJ1_indexOfChar_4cfef 28 = .ok (.goto (-21), 3) := dk_167 (by decide +kernel)
theorem dJ1_indexOfChar_4cfef_31 : decode cJ1_indexOfChar_4cfef 31 = .ok (.iconst (-1), 1) := dk_2 (by decide +kernel)
theorem dJ1_indexOfChar_4cfef_32 : decode cJ1_indexOfChar_4cfef 32 = .ok (.ireturn, 1) := dk_172 (by decide +kernel)
def wsMJ1_indexOfChar_4cfef : List Cond := .code yJ1_indexOfChar_4cfef cJ1_indexOfChar_4cfef 6 (some .int) :: ([])
theorem gdwsMJ1_indexOfChar_4cfef : wsMJ1_indexOfChar_4cfef.all goodWord = true := gdC rfl (by decide +kernel : ([] : List Cond).all goodWord = true)
set_option maxHeartbeats 4000000 in
set_option maxRecDepth 100000 in
/-- indexOfChar -/
theorem m_J1_indexOfChar_4cfef (l : Launch) (dC : Nat → ClassId) (dI : Nat → Nat → Nat) (vq : Nat) (nn : Nat) (fB : Nat → Int32) (p1 : Int32) (p2 : Int32) (p3 : Int32) (b_p2 : 0 ≤ p2.toInt ∧ p2.toInt ≤ 1000) (b_p3 : 0 ≤ p3.toInt ∧ p3.toInt ≤ 1000) (hnn : nn ≤ 1000) (hp3 : p3.toInt ≤ ((nn : Nat) : Int)) (sz : Nat) : Met l yJ1_indexOfChar_4cfef wsMJ1_indexOfChar_4cfef ({ frames := 0, cells := 0, slots := 0, locals := 0 }) (va_Pc [.ref vq, .int p1, .int p2, .int p3] (fun U => U.heap.size = sz ∧ va_P (dC, dI) vwCl [] U.heap ∧ va_K (dC, dI) vwCl [] U ∧ va_D (fun _ => True) [] ∧ (ArrE vq nn fB) (va_A [] sz) U U.heap)) (va_Qi (fun (r : Int32) (u : Unit) => True) (fun (u : Unit) t => True) (va_A [] sz)) 0 0 (va_A [] sz) := by
  refine Met.ofW (cc := cJ1_indexOfChar_4cfef) (maxL := 6) (ret := (some .int)) (by decide) rfl ?_
  intro p e s m args below meth c s₁ B hml hv
  obtain ⟨rfl, hsz, hP, hK, hD0, hE⟩ := hv
  have hx := B.exec
  have hb := B.bytes
  have hr := B.returns
  have hts := atoms_spec (ws := wsMJ1_indexOfChar_4cfef) B.pre
  have hown : s.vm.findClass RJ1 = some m.cls := findClass_of_methodNamed B.named
  have hlocks := B.notSynchronized
  subst hsz
  have hD := hD0.self (sz := s.heap.size)
  generalize hAe : va_A [] s.heap.size = A at hD hE ⊢
  have hA : ∀ q : Nat, s.heap.size ≤ q → A q := fun q h => by rw [← hAe]; exact Or.inr h
  have hS : va_S A s.heap s.heap [] := va_S.rf
  have hl := lv_entry ([.ref vq, .int p1, .int p2, .int p3]) (n := 6) (Nat.le_of_ble_eq_true rfl)
  rw [lg_entry_eq]
  generalize (lg_sl ([.ref vq, .int p1, .int p2, .int p3]) ++ List.replicate (6 - (lg_sl ([.ref vq, .int p1, .int p2, .int p3])).length) Slot.unset).toArray = ls at hl ⊢
  have hl : lv_has ls 6 [(0, .ref vq), (1, .int p1), (2, .int p2), (3, .int p3)] := hl
  refine lv_iload_n hx hb dJ1_indexOfChar_4cfef_0 rfl (lv_at hl 1 rfl) ?_
  refine lv_i2b hx hb dJ1_indexOfChar_4cfef_1 rfl ?_
  refine lv_topi (fun v1 hv1 => ?_)
  clear hv1
  refine lv_istore hx hb dJ1_indexOfChar_4cfef_2 hl (by decide) rfl (fun ls (hl : lv_has ls _ ([(4, .int v1), (0, .ref vq), (1, .int p1), (2, .int p2), (3, .int p3)])) => ?_)
  refine lv_iload_n hx hb dJ1_indexOfChar_4cfef_4 rfl (lv_at hl 3 rfl) ?_
  refine lv_istore hx hb dJ1_indexOfChar_4cfef_5 hl (by decide) rfl (fun ls (hl : lv_has ls _ ([(5, .int p2), (4, .int v1), (0, .ref vq), (1, .int p1), (2, .int p2), (3, .int p3)])) => ?_)
  have hl : lv_has _ _ ([(5, .int p2), (4, .int v1), (0, .ref vq), (1, .int p1), (2, .int p2), (3, .int p3)]) := lv_sub hl [0, 1, 2, 3, 4, 5] rfl
  refine (fun (loop : ∀ (n9 : Nat) (l5_x7 : Int32) (H : Heap) (locs : List Loc) (ls : Array Slot), (0 ≤ l5_x7.toInt ∧ l5_x7.toInt ≤ 1000) → (1000 - l5_x7.toInt < ((n9 : Nat) : Int)) → va_P (dC, dI) vwCl ([]) H → va_D A ([]) → va_S A s.heap H locs → lv_has ls 6 [(5, .int l5_x7), (4, .int v1), (0, .ref vq), (1, .int p1), (2, .int p2), (3, .int p3)] → W p l e _ s m _ below meth c H locs 0 0 _ (F0 m 7 ls [])) => loop (1001) p2 _ _ _ (b_p2) ((by have e9 : (p2).toInt = p2.toInt := rfl; omega)) hP hD hS hl) ?_
  intro n9
  induction n9 with
  | zero => intro l5_x7 H locs ls b_l5_x7 hf9; exact False.elim (by omega)
  | succ n9 ihx7 =>
    intro l5_x7 H locs ls b_l5_x7 hfx7 hP hD hS hl
    refine lv_iload hx hb dJ1_indexOfChar_4cfef_7 (lv_at hl 0 rfl) ?_
    refine lv_iload_n hx hb dJ1_indexOfChar_4cfef_9 rfl (lv_at hl 5 rfl) ?_
    refine lv_icmp_ge (tgt := 31) hx hb dJ1_indexOfChar_4cfef_10 (by decide) (fun c_10 => ?_) (fun c_10 => ?_)
    · have t_10 : l5_x7.toInt ≥ p3.toInt := toI_ge c_10 rfl rfl
      refine lv_iconst (v := (-1)) hx hb dJ1_indexOfChar_4cfef_31 (by decide) ?_
      refine W.widen (k := 0) (n := 0) (by decide +kernel) (by decide +kernel) ?_
      exact W.iret (v := (-1)) hx hb hr (fun t9_ ht hW => ⟨⟨((-1) : Int32), (), rfl, trivial, trivial⟩, hS.F ht⟩) hS.2.2 dJ1_indexOfChar_4cfef_32
    · have t_10 : ¬ l5_x7.toInt ≥ p3.toInt := toI_nge c_10 rfl rfl
      refine lv_aload_n hx hb dJ1_indexOfChar_4cfef_13 rfl (lv_at hl 2 rfl) ?_
      refine lv_iload hx hb dJ1_indexOfChar_4cfef_14 (lv_at hl 0 rfl) ?_
      refine va_tb hx hb hE.2 hS (vp_in_iff.mpr ⟨b_l5_x7.1, (by omega)⟩) (v := .int (fB (l5_x7).toNatClampNeg)) rfl dJ1_indexOfChar_4cfef_16 ?_
      refine lv_topi (fun v4 hv4 => ?_)
      clear hv4
      refine lv_iload hx hb dJ1_indexOfChar_4cfef_17 (lv_at hl 1 rfl) ?_
      refine lv_icmp_ne (tgt := 25) hx hb dJ1_indexOfChar_4cfef_19 (by decide) (fun c_19 => ?_) (fun c_19 => ?_)
      · have t_19 : v4.toInt ≠ v1.toInt := toI_ne c_19 rfl rfl
        refine lv_iinc (v := (iI (l5_x7.toInt + 1))) hx hb dJ1_indexOfChar_4cfef_25 hl (k := 0) rfl (iI_add2 (iI_of _) (by decide : (1 : Int32) = iI 1)) (by decide) rfl (fun ls (hl : lv_has ls _ ([(5, .int (iI (l5_x7.toInt + 1))), (4, .int v1), (0, .ref vq), (1, .int p1), (2, .int p2), (3, .int p3)])) => ?_)
        refine lv_goto (tgt := 7) hx hb dJ1_indexOfChar_4cfef_28 (by decide) ?_
        have hl : lv_has _ _ ([(5, .int (iI (l5_x7.toInt + 1))), (4, .int v1), (0, .ref vq), (1, .int p1), (2, .int p2), (3, .int p3)]) := lv_sub hl [0, 1, 2, 3, 4, 5] rfl
        exact ihx7 (iI (l5_x7.toInt + 1)) _ _ _ (iI_rng (Int.le_trans (by decide) (Int.add_le_add (b_l5_x7.1) (Int.le_refl _))) (by omega) (by decide) (by decide)) (by have e9 : ((iI (l5_x7.toInt + 1))).toInt = (l5_x7.toInt + 1) := (iI_t (Int.le_trans (by decide) (Int.add_le_add (b_l5_x7.1) (Int.le_refl _))) (Int.le_trans (Int.add_le_add (b_l5_x7.2) (Int.le_refl _)) (by decide))); omega) hP hD hS hl
      · have t_19 : v4.toInt = v1.toInt := toI_nne c_19 rfl rfl
        refine lv_iload hx hb dJ1_indexOfChar_4cfef_22 (lv_at hl 0 rfl) ?_
        refine W.widen (k := 0) (n := 0) (by decide +kernel) (by decide +kernel) ?_
        exact W.iret (v := l5_x7) hx hb hr (fun t9_ ht hW => ⟨⟨l5_x7, (), rfl, trivial, trivial⟩, hS.F ht⟩) hS.2.2 dJ1_indexOfChar_4cfef_24
theorem dJ1_indexOf_4cfef_0 : decode cJ1_indexOf_4cfef 0 = .ok (.iload_n 1, 1) := dk_27 (by decide +kernel)
theorem dJ1_indexOf_4cfef_1 : decode cJ1_indexOf_4cfef 1 = .ok (.invokestatic 88, 3) := dk_184 (by decide +kernel)
theorem dJ1_indexOf_4cfef_4 : decode cJ1_indexOf_4cfef 4 = .ok (.ifCond .ne 5, 3) := dk_154 (by decide +kernel)
theorem dJ1_indexOf_4cfef_7 : decode cJ1_indexOf_4cfef 7 = .ok (.iconst (-1), 1) := dk_2 (by decide +kernel)
theorem dJ1_indexOf_4cfef_8 : decode cJ1_indexOf_4cfef 8 = .ok (.ireturn, 1) := dk_172 (by decide +kernel)
theorem dJ1_indexOf_4cfef_9 : decode cJ1_indexOf_4cfef 9 = .ok (.iload_n 2, 1) := dk_28 (by decide +kernel)
theorem dJ1_indexOf_4cfef_10 : decode cJ1_indexOf_4cfef 10 = .ok (.iconst 0, 1) := dk_3 (by decide +kernel)
theorem dJ1_indexOf_4cfef_11 : decode cJ1_indexOf_4cfef 11 = .ok (.invokestatic 92, 3) := dk_184 (by decide +kernel)
theorem dJ1_indexOf_4cfef_14 : decode cJ1_indexOf_4cfef 14 = .ok (.istore_n 2, 1) := dk_61 (by decide +kernel)
theorem dJ1_indexOf_4cfef_15 : decode cJ1_indexOf_4cfef 15 = .ok (.iload_n 3, 1) := dk_29 (by decide +kernel)
theorem dJ1_indexOf_4cfef_16 : decode cJ1_indexOf_4cfef 16 = .ok (.aload_n 0, 1) := dk_42 (by decide +kernel)
theorem dJ1_indexOf_4cfef_17 : decode cJ1_indexOf_4cfef 17 = .ok (.arraylength, 1) := dk_190 (by decide +kernel)
theorem dJ1_indexOf_4cfef_18 : decode cJ1_indexOf_4cfef 18 = .ok (.invokestatic 38, 3) := dk_184 (by decide +kernel)
theorem dJ1_indexOf_4cfef_21 : decode cJ1_indexOf_4cfef 21 = .ok (.istore_n 3, 1) := dk_62 (by decide +kernel)
theorem dJ1_indexOf_4cfef_22 : decode cJ1_indexOf_4cfef 22 = .ok (.iload_n 2, 1) := dk_28 (by decide +kernel)
theorem dJ1_indexOf_4cfef_23 : decode cJ1_indexOf_4cfef 23 = .ok (.iload_n 3, 1) := dk_29 (by decide +kernel)
theorem dJ1_indexOf_4cfef_24 : decode cJ1_indexOf_4cfef 24 = .ok (.if_icmp .lt 5, 3) := dk_161 (by decide +kernel)
theorem dJ1_indexOf_4cfef_27 : decode cJ1_indexOf_4cfef 27 = .ok (.iconst (-1), 1) := dk_2 (by decide +kernel)
theorem dJ1_indexOf_4cfef_28 : decode cJ1_indexOf_4cfef 28 = .ok (.ireturn, 1) := dk_172 (by decide +kernel)
theorem dJ1_indexOf_4cfef_29 : decode cJ1_indexOf_4cfef 29 = .ok (.aload_n 0, 1) := dk_42 (by decide +kernel)
theorem dJ1_indexOf_4cfef_30 : decode cJ1_indexOf_4cfef 30 = .ok (.iload_n 1, 1) := dk_27 (by decide +kernel)
theorem dJ1_indexOf_4cfef_31 : decode cJ1_indexOf_4cfef 31 = .ok (.iload_n 2, 1) := dk_28 (by decide +kernel)
theorem dJ1_indexOf_4cfef_32 : decode cJ1_indexOf_4cfef 32 = .ok (.iload_n 3, 1) := dk_29 (by decide +kernel)
theorem dJ1_indexOf_4cfef_33 : decode cJ1_indexOf_4cfef 33 = .ok (.invokestatic 95, 3) := dk_184 (by decide +kernel)
theorem dJ1_indexOf_4cfef_36 : decode cJ1_indexOf_4cfef 36 = .ok (.ireturn, 1) := dk_172 (by decide +kernel)
def wsMJ1_indexOf_4cfef : List Cond := .code yJ1_indexOf_4cfef cJ1_indexOf_4cfef 4 (some .int) :: ([.methodLink RJ1 92 Lib.Math.max.name, .static Lib.Math.max.name, .initialized "java/lang/Math", .code Lib.Math.max.name Lib.Math.max.code 2 (some .int), .methodLink RJ1 38 Lib.Math.min.name, .static Lib.Math.min.name, .code Lib.Math.min.name Lib.Math.min.code 2 (some .int)] ++ (va_wsS RJ1 88 yJ1_canEncode_9a6ad wsMJ1_canEncode_9a6ad) ++ (va_wsS RJ1 95 yJ1_indexOfChar_4cfef wsMJ1_indexOfChar_4cfef))
theorem gwsMJ1_indexOf_4cfef_0 : GoodIn wsMJ1_indexOf_4cfef (va_wsS RJ1 88 yJ1_canEncode_9a6ad wsMJ1_canEncode_9a6ad) := goodIn_sub (fun _ h => List.mem_cons_of_mem _ (List.mem_append_left _ (List.mem_append_right _ h))) (gdS (by decide +kernel) gdwsMJ1_canEncode_9a6ad)
theorem gwsMJ1_indexOf_4cfef_1 : GoodIn wsMJ1_indexOf_4cfef (va_wsS RJ1 95 yJ1_indexOfChar_4cfef wsMJ1_indexOfChar_4cfef) := goodIn_sub (fun _ h => List.mem_cons_of_mem _ (List.mem_append_right _ h)) (gdS (by decide +kernel) gdwsMJ1_indexOfChar_4cfef)
theorem gdwsMJ1_indexOf_4cfef : wsMJ1_indexOf_4cfef.all goodWord = true := gdC rfl (gdA (gdA (by decide +kernel : ([.methodLink RJ1 92 Lib.Math.max.name, .static Lib.Math.max.name, .initialized "java/lang/Math", .code Lib.Math.max.name Lib.Math.max.code 2 (some .int), .methodLink RJ1 38 Lib.Math.min.name, .static Lib.Math.min.name, .code Lib.Math.min.name Lib.Math.min.code 2 (some .int)] : List Cond).all goodWord = true) (gdS (by decide +kernel) gdwsMJ1_canEncode_9a6ad)) (gdS (by decide +kernel) gdwsMJ1_indexOfChar_4cfef))
theorem hm_m_J1_indexOf_4cfef_0 : (.initialized "java/lang/Math" : Cond) ∈ wsMJ1_indexOf_4cfef := by decide +kernel
set_option maxHeartbeats 4000000 in
set_option maxRecDepth 100000 in
/-- indexOf in bytes -/
theorem m_J1_indexOf_4cfef (l : Launch) (dC : Nat → ClassId) (dI : Nat → Nat → Nat) (vq : Nat) (nn : Nat) (fB : Nat → Int32) (p1 : Int32) (p2 : Int32) (p3 : Int32) (b_p2 : 0 ≤ p2.toInt ∧ p2.toInt ≤ 0) (b_p3 : 0 ≤ p3.toInt ∧ p3.toInt ≤ 1000) (hnn : nn ≤ 1000) (sz : Nat) : Met l yJ1_indexOf_4cfef wsMJ1_indexOf_4cfef ({ frames := 1, cells := 0, slots := 0, locals := 25 }) (va_Pc [.ref vq, .int p1, .int p2, .int p3] (fun U => U.heap.size = sz ∧ va_P (dC, dI) vwCl [] U.heap ∧ va_K (dC, dI) vwCl [] U ∧ va_D (fun _ => True) [] ∧ (ArrE vq nn fB) (va_A [] sz) U U.heap)) (va_Qi (fun (r : Int32) (u : Unit) => True) (fun (u : Unit) t => True) (va_A [] sz)) 0 0 (va_A [] sz) := by
  refine Met.ofW (cc := cJ1_indexOf_4cfef) (maxL := 4) (ret := (some .int)) (by decide) rfl ?_
  intro p e s m args below meth c s₁ B hml hv
  obtain ⟨rfl, hsz, hP, hK, hD0, hE⟩ := hv
  have hx := B.exec
  have hb := B.bytes
  have hr := B.returns
  have hts := atoms_spec (ws := wsMJ1_indexOf_4cfef) B.pre
  have hown : s.vm.findClass RJ1 = some m.cls := findClass_of_methodNamed B.named
  have hlocks := B.notSynchronized
  subst hsz
  have hD := hD0.self (sz := s.heap.size)
  generalize hAe : va_A [] s.heap.size = A at hD hE ⊢
  have hA : ∀ q : Nat, s.heap.size ≤ q → A q := fun q h => by rw [← hAe]; exact Or.inr h
  have hS : va_S A s.heap s.heap [] := va_S.rf
  have hl := lv_entry ([.ref vq, .int p1, .int p2, .int p3]) (n := 4) (Nat.le_of_ble_eq_true rfl)
  rw [lg_entry_eq]
  generalize (lg_sl ([.ref vq, .int p1, .int p2, .int p3]) ++ List.replicate (4 - (lg_sl ([.ref vq, .int p1, .int p2, .int p3])).length) Slot.unset).toArray = ls at hl ⊢
  have hl : lv_has ls 4 [(0, .ref vq), (1, .int p1), (2, .int p2), (3, .int p3)] := hl
  refine lv_iload_n hx hb dJ1_indexOf_4cfef_0 rfl (lv_at hl 1 rfl) ?_
  have hFc := noneFree hS hA
  refine va_calli (va_runS (As := [.int p1]) (rest := []) ⟨hx, hb, hml, hown, hts⟩ (m_J1_canEncode_9a6ad l dC dI p1 s.heap.size) (va_cwS 1 hts gwsMJ1_indexOf_4cfef_0 rfl rfl rfl (by decide +kernel) ⟨by decide +kernel, by decide +kernel⟩) ⟨fun a U g mk q => by obtain ⟨q0, q1, qP, qK, qD⟩ := q; exact ⟨q0, q1, qP, va_K.moved (u := U) (U := U.calling g mk a) (Vm.Alike.refl U.vm) qK, qD⟩, fun U hU9 hW => ⟨rfl, by rw [hU9], by rw [hU9]; exact nilP, va_K.moved hW.alike (hK.sub (tys' := []) [] rfl), nilD⟩⟩ rfl rfl hl.1 rfl (lv_room (Nat.le_of_ble_eq_true rfl)) dJ1_indexOf_4cfef_1 (by decide +kernel)) hS (fun q _ h => hFc q h) hFc (fun r1 u t9_ H1 locs ht hvm hw9 hB9 hz1 hk1 hS => ?_)
  have b_r1 := hw9
  try dsimp only at b_r1
  clear hB9
  have hP := keepAll hP hk1
  generalize H1 = H at hP hS ⊢
  have hP : va_P (dC, dI) vwCl ([]) H := hP
  have hD := fz_sd hP (hD) rfl
  refine lv_if_ne (tgt := 9) hx hb dJ1_indexOf_4cfef_4 (by decide) (fun c_4 => ?_) (fun c_4 => ?_)
  · have t_4 : r1.toInt ≠ 0 := toI_ne c_4 rfl (by decide : (0 : Int32).toInt = 0)
    refine lv_iload_n hx hb dJ1_indexOf_4cfef_9 rfl (lv_at hl 2 rfl) ?_
    refine lv_iconst (v := 0) hx hb dJ1_indexOf_4cfef_10 (by decide) ?_
    refine va_mmax hx hb (by rw [hml]; exact hl.1.symm) hown (hts (.methodLink RJ1 92 Lib.Math.max.name) (by decide +kernel)) (hts (.static Lib.Math.max.name) (by decide +kernel)) (hts _ hm_m_J1_indexOf_4cfef_0) (hts (.code Lib.Math.max.name Lib.Math.max.code 2 (some .int)) (by decide +kernel)) (by decide +kernel) (Nat.le_of_ble_eq_true rfl) (by decide +kernel) (by decide +kernel) dJ1_indexOf_4cfef_11 ?_
    refine lv_topi (fun v2 hv2 => ?_)
    have b_v2 : (p2.toInt ≤ v2.toInt ∧ 0 ≤ v2.toInt) ∧ (v2.toInt = p2.toInt ∨ v2.toInt = 0) := by rw [hv2]; exact max_t rfl (by decide : (0 : Int32).toInt = 0)
    clear hv2
    refine lv_istore_n hx hb dJ1_indexOf_4cfef_14 rfl hl (by decide) rfl (fun ls (hl : lv_has ls _ ([(2, .int v2), (0, .ref vq), (1, .int p1), (3, .int p3)])) => ?_)
    refine lv_iload_n hx hb dJ1_indexOf_4cfef_15 rfl (lv_at hl 3 rfl) ?_
    refine lv_aload_n hx hb dJ1_indexOf_4cfef_16 rfl (lv_at hl 1 rfl) ?_
    refine va_tlen hx hb hE.2 hS (v := (iI ((nn : Nat) : Int))) (iI_nat _) dJ1_indexOf_4cfef_17 ?_
    refine va_mmin hx hb (by rw [hml]; exact hl.1.symm) hown (hts (.methodLink RJ1 38 Lib.Math.min.name) (by decide +kernel)) (hts (.static Lib.Math.min.name) (by decide +kernel)) (hts _ hm_m_J1_indexOf_4cfef_0) (hts (.code Lib.Math.min.name Lib.Math.min.code 2 (some .int)) (by decide +kernel)) (by decide +kernel) (Nat.le_of_ble_eq_true rfl) (by decide +kernel) (by decide +kernel) dJ1_indexOf_4cfef_18 ?_
    refine lv_topi (fun v3 hv3 => ?_)
    first | (have b_v3 : (v3.toInt ≤ p3.toInt ∧ v3.toInt ≤ ((nn : Nat) : Int)) ∧ (v3.toInt = p3.toInt ∨ v3.toInt = ((nn : Nat) : Int)) := by rw [hv3]; exact min_t rfl (iI_t (by omega) (by omega))) | skip
    clear hv3
    refine lv_istore_n hx hb dJ1_indexOf_4cfef_21 rfl hl (by decide) rfl (fun ls (hl : lv_has ls _ ([(3, .int v3), (2, .int v2), (0, .ref vq), (1, .int p1)])) => ?_)
    refine lv_iload_n hx hb dJ1_indexOf_4cfef_22 rfl (lv_at hl 1 rfl) ?_
    refine lv_iload_n hx hb dJ1_indexOf_4cfef_23 rfl (lv_at hl 0 rfl) ?_
    refine lv_icmp_lt (tgt := 29) hx hb dJ1_indexOf_4cfef_24 (by decide) (fun c_24 => ?_) (fun c_24 => ?_)
    · have t_24 : v2.toInt < v3.toInt := toI_lt c_24 rfl rfl
      refine lv_aload_n hx hb dJ1_indexOf_4cfef_29 rfl (lv_at hl 2 rfl) ?_
      refine lv_iload_n hx hb dJ1_indexOf_4cfef_30 rfl (lv_at hl 3 rfl) ?_
      refine lv_iload_n hx hb dJ1_indexOf_4cfef_31 rfl (lv_at hl 1 rfl) ?_
      refine lv_iload_n hx hb dJ1_indexOf_4cfef_32 rfl (lv_at hl 0 rfl) ?_
      have hFc := noneFree hS hA
      refine va_calli (va_runS (As := [.ref vq, .int p1, .int v2, .int v3]) (rest := []) ⟨hx, hb, hml, hown, hts⟩ (m_J1_indexOfChar_4cfef l dC dI vq nn fB p1 v2 v3 (by first | exact b_v2 | with_reducible assumption | exact ⟨by omega, by omega⟩ | assumption) (by first | exact b_v3 | with_reducible assumption | exact ⟨by omega, by omega⟩ | assumption) (by first | with_reducible assumption | omega | (rw [iI_t (by omega) (by omega)]; omega) | decide | assumption) (by first | with_reducible assumption | omega | (rw [iI_t (by omega) (by omega)]; omega) | decide | assumption) H.size) (va_cwS 4 hts gwsMJ1_indexOf_4cfef_1 rfl rfl rfl (by decide +kernel) ⟨by decide +kernel, by decide +kernel⟩) ⟨fun a U g mk q => by obtain ⟨q0, q1, qP, qK, qD, qE⟩ := q; exact ⟨q0, q1, qP, va_K.moved (u := U) (U := U.calling g mk a) (Vm.Alike.refl U.vm) qK, qD, qE.same rfl⟩, fun U hU9 hW => ⟨rfl, by rw [hU9], by rw [hU9]; exact nilP, va_K.moved hW.alike (hK.sub (tys' := []) [] rfl), nilD, by rw [hU9]; exact (((hE : (ArrE vq nn fB) A s s.heap).kept hS.2.1).narrow (fun q h => hFc q h)).warm hW⟩⟩ rfl rfl hl.1 rfl (lv_room (Nat.le_of_ble_eq_true rfl)) dJ1_indexOf_4cfef_33 (by decide +kernel)) hS (fun q _ h => hFc q h) hFc (fun r4 u t9_ H1 locs ht hvm hw9 hB9 hz1 hk1 hS => ?_)
      clear hw9
      clear hB9
      have hP := keepAll hP hk1
      generalize H1 = H at hP hS ⊢
      have hP : va_P (dC, dI) vwCl ([]) H := hP
      have hD := fz_sd hP (hD) rfl
      refine W.widen (k := 0) (n := 0) (by decide +kernel) (by decide +kernel) ?_
      exact W.iret (v := r4) hx hb hr (fun t9_ ht hW => ⟨⟨r4, (), rfl, trivial, trivial⟩, hS.F ht⟩) hS.2.2 dJ1_indexOf_4cfef_36
    · have t_24 : ¬ v2.toInt < v3.toInt := toI_nlt c_24 rfl rfl
      refine lv_iconst (v := (-1)) hx hb dJ1_indexOf_4cfef_27 (by decide) ?_
      refine W.widen (k := 0) (n := 0) (by decide +kernel) (by decide +kernel) ?_
      exact W.iret (v := (-1)) hx hb hr (fun t9_ ht hW => ⟨⟨((-1) : Int32), (), rfl, trivial, trivial⟩, hS.F ht⟩) hS.2.2 dJ1_indexOf_4cfef_28
  · have t_4 : r1.toInt = 0 := toI_nne c_4 rfl (by decide : (0 : Int32).toInt = 0)
    refine lv_iconst (v := (-1)) hx hb dJ1_indexOf_4cfef_7 (by decide) ?_
    refine W.widen (k := 0) (n := 0) (by decide +kernel) (by decide +kernel) ?_
    exact W.iret (v := (-1)) hx hb hr (fun t9_ ht hW => ⟨⟨((-1) : Int32), (), rfl, trivial, trivial⟩, hS.F ht⟩) hS.2.2 dJ1_indexOf_4cfef_8
theorem dJ0_indexOf_7cf53_0 : decode cJ0_indexOf_7cf53 0 = .ok (.aload_n 0, 1) := dk_42 (by decide +kernel)
theorem dJ0_indexOf_7cf53_1 : decode cJ0_indexOf_7cf53 1 = .ok (.invokevirtual 492, 3) := dk_182 (by decide +kernel)
theorem dJ0_indexOf_7cf53_4 : decode cJ0_indexOf_7cf53 4 = .ok (.ifCond .eq 19, 3) := dk_153 (by decide +kernel)
theorem dJ0_indexOf_7cf53_7 : decode cJ0_indexOf_7cf53 7 = .ok (.aload_n 0, 1) := dk_42 (by decide +kernel)
theorem dJ0_indexOf_7cf53_8 : decode cJ0_indexOf_7cf53 8 = .ok (.getfield 9, 3) := dk_180 (by decide +kernel)
theorem dJ0_indexOf_7cf53_11 : decode cJ0_indexOf_7cf53 11 = .ok (.iload_n 1, 1) := dk_27 (by decide +kernel)
theorem dJ0_indexOf_7cf53_12 : decode cJ0_indexOf_7cf53 12 = .ok (.iload_n 2, 1) := dk_28 (by decide +kernel)
theorem dJ0_indexOf_7cf53_13 : decode cJ0_indexOf_7cf53 13 = .ok (.aload_n 0, 1) := dk_42 (by decide +kernel)
theorem dJ0_indexOf_7cf53_14 : decode cJ0_indexOf_7cf53 14 = .ok (.invokevirtual 505, 3) := dk_182 (by decide +kernel)
theorem dJ0_indexOf_7cf53_17 : decode cJ0_indexOf_7cf53 17 = .ok (.invokestatic 637, 3) := dk_184 (by decide +kernel)
theorem dJ0_indexOf_7cf53_20 : decode cJ0_indexOf_7cf53 20 = .ok (.goto 16, 3) := dk_167 (by decide +kernel)
theorem dJ0_indexOf_7cf53_36 : decode cJ0_indexOf_7cf53 36 = .ok (.ireturn, 1) := dk_172 (by decide +kernel)
def wsMJ0_indexOf_7cf53 : List Cond := .code yJ0_indexOf_7cf53 cJ0_indexOf_7cf53 3 (some .int) :: ([.fieldLink RJ0 9 "java/lang/String" "value" "[B"] ++ (wsV RJ0 492 RJ0 yJ0_isLatin1_aae02 wsRJ0il) ++ (wsV RJ0 505 RJ0 yJ0_length_8abf5 wsMJ0_length_8abf5) ++ (va_wsS RJ0 637 yJ1_indexOf_4cfef wsMJ1_indexOf_4cfef))
theorem gwsMJ0_indexOf_7cf53_0 : GoodIn wsMJ0_indexOf_7cf53 (wsV RJ0 492 RJ0 yJ0_isLatin1_aae02 wsRJ0il) := goodIn_sub (fun _ h => List.mem_cons_of_mem _ (List.mem_append_left _ (List.mem_append_left _ (List.mem_append_right _ h)))) (gdV (by decide +kernel) gdwsRJ0il)
theorem gwsMJ0_indexOf_7cf53_1 : GoodIn wsMJ0_indexOf_7cf53 (wsV RJ0 505 RJ0 yJ0_length_8abf5 wsMJ0_length_8abf5) := goodIn_sub (fun _ h => List.mem_cons_of_mem _ (List.mem_append_left _ (List.mem_append_right _ h))) (gdV (by decide +kernel) gdwsMJ0_length_8abf5)
theorem gwsMJ0_indexOf_7cf53_2 : GoodIn wsMJ0_indexOf_7cf53 (va_wsS RJ0 637 yJ1_indexOf_4cfef wsMJ1_indexOf_4cfef) := goodIn_sub (fun _ h => List.mem_cons_of_mem _ (List.mem_append_right _ h)) (gdS (by decide +kernel) gdwsMJ1_indexOf_4cfef)
theorem gdwsMJ0_indexOf_7cf53 : wsMJ0_indexOf_7cf53.all goodWord = true := gdC rfl (gdA (gdA (gdA (by decide +kernel : ([.fieldLink RJ0 9 "java/lang/String" "value" "[B"] : List Cond).all goodWord = true) (gdV (by decide +kernel) gdwsRJ0il)) (gdV (by decide +kernel) gdwsMJ0_length_8abf5)) (gdS (by decide +kernel) gdwsMJ1_indexOf_4cfef))
set_option maxHeartbeats 4000000 in
set_option maxRecDepth 100000 in
/-- indexOf from -/
theorem m_J0_indexOf_7cf53 (l : Launch) (dC : Nat → ClassId) (dI : Nat → Nat → Nat) (qS : Nat) (nn : Nat) (fB : Nat → Int32) (p1 : Int32) (p2 : Int32) (b_p2 : 0 ≤ p2.toInt ∧ p2.toInt ≤ 0) (hnn : nn ≤ 1000) (sz : Nat) : Met l yJ0_indexOf_7cf53 wsMJ0_indexOf_7cf53 ({ frames := 2, cells := 0, slots := 0, locals := 48 }) (va_Pc [.ref qS, .int p1, .int p2] (fun U => U.heap.size = sz ∧ va_P (dC, dI) vwCl [] U.heap ∧ va_K (dC, dI) vwCl [] U ∧ va_D (fun _ => True) [] ∧ (StrE qS nn fB) (va_A [] sz) U U.heap)) (va_Qi (fun (r : Int32) (u : Unit) => True) (fun (u : Unit) t => True) (va_A [] sz)) 0 0 (va_A [] sz) := by
  refine Met.ofW (cc := cJ0_indexOf_7cf53) (maxL := 3) (ret := (some .int)) (by decide) rfl ?_
  intro p e s m args below meth c s₁ B hml hv
  obtain ⟨rfl, hsz, hP, hK, hD0, hE⟩ := hv
  have hx := B.exec
  have hb := B.bytes
  have hr := B.returns
  have hts := atoms_spec (ws := wsMJ0_indexOf_7cf53) B.pre
  have hown : s.vm.findClass RJ0 = some m.cls := findClass_of_methodNamed B.named
  have hlocks := B.notSynchronized
  subst hsz
  have hD := hD0.self (sz := s.heap.size)
  generalize hAe : va_A [] s.heap.size = A at hD hE ⊢
  have hA : ∀ q : Nat, s.heap.size ≤ q → A q := fun q h => by rw [← hAe]; exact Or.inr h
  have hS : va_S A s.heap s.heap [] := va_S.rf
  have hl := lv_entry ([.ref qS, .int p1, .int p2]) (n := 3) (Nat.le_of_ble_eq_true rfl)
  rw [lg_entry_eq]
  generalize (lg_sl ([.ref qS, .int p1, .int p2]) ++ List.replicate (3 - (lg_sl ([.ref qS, .int p1, .int p2])).length) Slot.unset).toArray = ls at hl ⊢
  have hl : lv_has ls 3 [(0, .ref qS), (1, .int p1), (2, .int p2)] := hl
  refine lv_aload_n hx hb dJ0_indexOf_7cf53_0 rfl (lv_at hl 0 rfl) ?_
  have hFc := noneFree hS hA
  refine va_calli (va_runV (As := []) (rest := []) ⟨hx, hb, hml, hown, hts⟩ (r_J0_isLatin1_aae02 l dC dI qS nn fB s.heap.size) (cwV 0 hts gwsMJ0_indexOf_7cf53_0 rfl rfl rfl hd_yJ0_isLatin1_aae02_RJ0 (by decide +kernel)) ⟨fun a U g mk q => by obtain ⟨q0, q1, qP, qK, qD, qE⟩ := q; exact ⟨q0, q1, qP, va_K.moved (u := U) (U := U.calling g mk a) (Vm.Alike.refl U.vm) qK, qD, qE.same rfl⟩, hE.recv hS, fun U hU9 hW => ⟨rfl, by rw [hU9], by rw [hU9]; exact nilP, va_K.moved hW.alike (hK.sub (tys' := []) [] rfl), nilD, by rw [hU9]; exact (((hE : (StrE qS nn fB) A s s.heap).kept hS.2.1).narrow (fun q h => hFc q h)).warm hW⟩⟩ rfl rfl hl.1 rfl (lv_room (Nat.le_of_ble_eq_true rfl)) dJ0_indexOf_7cf53_1 (by decide +kernel)) hS (fun q _ h => hFc q h) hFc (fun r1 u t9_ H1 locs ht hvm hw9 hB9 hz1 hk1 hS => ?_)
  have f1_0 := hw9
  try dsimp only at f1_0
  clear hB9
  have hP := keepAll hP hk1
  generalize H1 = H at hP hS ⊢
  have hP : va_P (dC, dI) vwCl ([]) H := hP
  have hD := fz_sd hP (hD) rfl
  have e9 : r1 = 1 := f1_0
  subst e9
  refine lv_if_eq (tgt := 23) hx hb dJ0_indexOf_7cf53_4 (by decide) (fun c9 => absurd c9 (by decide)) (fun _ => ?_)
  refine lv_aload_n hx hb dJ0_indexOf_7cf53_7 rfl (lv_at hl 0 rfl) ?_
  obtain ⟨vB, hvB, hfB⟩ := hE.2.2.2
  refine vk_getf hx hb hvB hS hown (hts (.fieldLink RJ0 9 "java/lang/String" "value" "[B") (by decide +kernel)) (fun _ h9 => h9) dJ0_indexOf_7cf53_8 ?_
  refine lv_iload_n hx hb dJ0_indexOf_7cf53_11 rfl (lv_at hl 1 rfl) ?_
  refine lv_iload_n hx hb dJ0_indexOf_7cf53_12 rfl (lv_at hl 2 rfl) ?_
  refine lv_aload_n hx hb dJ0_indexOf_7cf53_13 rfl (lv_at hl 0 rfl) ?_
  have hFc := noneFree hS hA
  refine va_calli (va_runV (As := []) (rest := [.int p2, .int p1, .ref vB]) ⟨hx, hb, hml, hown, hts⟩ (m_J0_length_8abf5 l dC dI qS nn fB (by first | with_reducible assumption | omega | (rw [iI_t (by omega) (by omega)]; omega) | decide | assumption) H.size) (cwV 0 hts gwsMJ0_indexOf_7cf53_1 rfl rfl rfl hd_yJ0_length_8abf5_RJ0 (by decide +kernel)) ⟨fun a U g mk q => by obtain ⟨q0, q1, qP, qK, qD, qE⟩ := q; exact ⟨q0, q1, qP, va_K.moved (u := U) (U := U.calling g mk a) (Vm.Alike.refl U.vm) qK, qD, qE.same rfl⟩, hE.recv hS, fun U hU9 hW => ⟨rfl, by rw [hU9], by rw [hU9]; exact nilP, va_K.moved hW.alike (hK.sub (tys' := []) [] rfl), nilD, by rw [hU9]; exact (((hE : (StrE qS nn fB) A s s.heap).kept hS.2.1).narrow (fun q h => hFc q h)).warm hW⟩⟩ rfl rfl hl.1 rfl (lv_room (Nat.le_of_ble_eq_true rfl)) dJ0_indexOf_7cf53_14 (by decide +kernel)) hS (fun q _ h => hFc q h) hFc (fun r2 u t9_ H1 locs ht hvm hw9 hB9 hz1 hk1 hS => ?_)
  have f2_0 := hw9
  try dsimp only at f2_0
  clear hB9
  have hP := keepAll hP hk1
  generalize H1 = H at hP hS ⊢
  have hP : va_P (dC, dI) vwCl ([]) H := hP
  have hD := fz_sd hP (hD) rfl
  have hFc := noneFree hS hA
  refine va_calli (va_runS (As := [.ref vB, .int p1, .int p2, .int r2]) (rest := []) ⟨hx, hb, hml, hown, hts⟩ (m_J1_indexOf_4cfef l dC dI vB nn fB p1 p2 r2 (b_p2) (by first | exact b_r2 | with_reducible assumption | exact ⟨by omega, by omega⟩ | assumption) (by first | with_reducible assumption | omega | (rw [iI_t (by omega) (by omega)]; omega) | decide | assumption) H.size) (va_cwS 4 hts gwsMJ0_indexOf_7cf53_2 rfl rfl rfl (by decide +kernel) ⟨by decide +kernel, by decide +kernel⟩) ⟨fun a U g mk q => by obtain ⟨q0, q1, qP, qK, qD, qE⟩ := q; exact ⟨q0, q1, qP, va_K.moved (u := U) (U := U.calling g mk a) (Vm.Alike.refl U.vm) qK, qD, qE.same rfl⟩, fun U hU9 hW => ⟨rfl, by rw [hU9], by rw [hU9]; exact nilP, va_K.moved hW.alike (hK.sub (tys' := []) [] rfl), nilD, by rw [hU9]; exact ((((show ArrE vB nn fB A s s.heap from ⟨hE.1, hfB⟩) : (ArrE vB nn fB) A s s.heap).kept hS.2.1).narrow (fun q h => hFc q h)).warm hW⟩⟩ rfl rfl hl.1 rfl (lv_room (Nat.le_of_ble_eq_true rfl)) dJ0_indexOf_7cf53_17 (by decide +kernel)) hS (fun q _ h => hFc q h) hFc (fun r3 u t9_ H1 locs ht hvm hw9 hB9 hz1 hk1 hS => ?_)
  clear hw9
  clear hB9
  have hP := keepAll hP hk1
  generalize H1 = H at hP hS ⊢
  have hP : va_P (dC, dI) vwCl ([]) H := hP
  have hD := fz_sd hP (hD) rfl
  refine lv_goto (tgt := 36) hx hb dJ0_indexOf_7cf53_20 (by decide) ?_
  refine W.widen (k := 0) (n := 0) (by decide +kernel) (by decide +kernel) ?_
  exact W.iret (v := r3) hx hb hr (fun t9_ ht hW => ⟨⟨r3, (), rfl, trivial, trivial⟩, hS.F ht⟩) hS.2.2 dJ0_indexOf_7cf53_36
theorem dJ0_indexOf_0f7a4_0 : decode cJ0_indexOf_0f7a4 0 = .ok (.aload_n 0, 1) := dk_42 (by decide +kernel)
theorem dJ0_indexOf_0f7a4_1 : decode cJ0_indexOf_0f7a4 1 = .ok (.iload_n 1, 1) := dk_27 (by decide +kernel)
theorem dJ0_indexOf_0f7a4_2 : decode cJ0_indexOf_0f7a4 2 = .ok (.iconst 0, 1) := dk_3 (by decide +kernel)
theorem dJ0_indexOf_0f7a4_3 : decode cJ0_indexOf_0f7a4 3 = .ok (.invokevirtual 633, 3) := dk_182 (by decide +kernel)
theorem dJ0_indexOf_0f7a4_6 : decode cJ0_indexOf_0f7a4 6 = .ok (.ireturn, 1) := dk_172 (by decide +kernel)
def wsMJ0_indexOf_0f7a4 : List Cond := .code yJ0_indexOf_0f7a4 cJ0_indexOf_0f7a4 2 (some .int) :: ([] ++ (wsV RJ0 633 RJ0 yJ0_indexOf_7cf53 wsMJ0_indexOf_7cf53))
theorem gwsMJ0_indexOf_0f7a4_0 : GoodIn wsMJ0_indexOf_0f7a4 (wsV RJ0 633 RJ0 yJ0_indexOf_7cf53 wsMJ0_indexOf_7cf53) := goodIn_sub (fun _ h => List.mem_cons_of_mem _ (List.mem_append_right _ h)) (gdV (by decide +kernel) gdwsMJ0_indexOf_7cf53)
theorem gdwsMJ0_indexOf_0f7a4 : wsMJ0_indexOf_0f7a4.all goodWord = true := gdC rfl (gdA (by decide +kernel : ([] : List Cond).all goodWord = true) (gdV (by decide +kernel) gdwsMJ0_indexOf_7cf53))
set_option maxHeartbeats 4000000 in
set_option maxRecDepth 100000 in
/-- indexOf -/
theorem m_J0_indexOf_0f7a4 (l : Launch) (dC : Nat → ClassId) (dI : Nat → Nat → Nat) (qS : Nat) (nn : Nat) (fB : Nat → Int32) (p1 : Int32) (hnn : nn ≤ 1000) (sz : Nat) : Met l yJ0_indexOf_0f7a4 wsMJ0_indexOf_0f7a4 ({ frames := 3, cells := 0, slots := 0, locals := 70 }) (va_Pc [.ref qS, .int p1] (fun U => U.heap.size = sz ∧ va_P (dC, dI) vwCl [] U.heap ∧ va_K (dC, dI) vwCl [] U ∧ va_D (fun _ => True) [] ∧ (StrE qS nn fB) (va_A [] sz) U U.heap)) (va_Qi (fun (r : Int32) (u : Unit) => True) (fun (u : Unit) t => True) (va_A [] sz)) 0 0 (va_A [] sz) := by
  refine Met.ofW (cc := cJ0_indexOf_0f7a4) (maxL := 2) (ret := (some .int)) (by decide) rfl ?_
  intro p e s m args below meth c s₁ B hml hv
  obtain ⟨rfl, hsz, hP, hK, hD0, hE⟩ := hv
  have hx := B.exec
  have hb := B.bytes
  have hr := B.returns
  have hts := atoms_spec (ws := wsMJ0_indexOf_0f7a4) B.pre
  have hown : s.vm.findClass RJ0 = some m.cls := findClass_of_methodNamed B.named
  have hlocks := B.notSynchronized
  subst hsz
  have hD := hD0.self (sz := s.heap.size)
  generalize hAe : va_A [] s.heap.size = A at hD hE ⊢
  have hA : ∀ q : Nat, s.heap.size ≤ q → A q := fun q h => by rw [← hAe]; exact Or.inr h
  have hS : va_S A s.heap s.heap [] := va_S.rf
  have hl := lv_entry ([.ref qS, .int p1]) (n := 2) (Nat.le_of_ble_eq_true rfl)
  rw [lg_entry_eq]
  generalize (lg_sl ([.ref qS, .int p1]) ++ List.replicate (2 - (lg_sl ([.ref qS, .int p1])).length) Slot.unset).toArray = ls at hl ⊢
  have hl : lv_has ls 2 [(0, .ref qS), (1, .int p1)] := hl
  refine lv_aload_n hx hb dJ0_indexOf_0f7a4_0 rfl (lv_at hl 0 rfl) ?_
  refine lv_iload_n hx hb dJ0_indexOf_0f7a4_1 rfl (lv_at hl 1 rfl) ?_
  refine lv_iconst (v := 0) hx hb dJ0_indexOf_0f7a4_2 (by decide) ?_
  have hFc := noneFree hS hA
  refine va_calli (va_runV (As := [.int p1, .int 0]) (rest := []) ⟨hx, hb, hml, hown, hts⟩ (m_J0_indexOf_7cf53 l dC dI qS nn fB p1 0 (show 0 ≤ (0 : Int32).toInt ∧ (0 : Int32).toInt ≤ 0 from by decide) (by first | with_reducible assumption | omega | (rw [iI_t (by omega) (by omega)]; omega) | decide | assumption) s.heap.size) (cwV 2 hts gwsMJ0_indexOf_0f7a4_0 rfl rfl rfl hd_yJ0_indexOf_7cf53_RJ0 (by decide +kernel)) ⟨fun a U g mk q => by obtain ⟨q0, q1, qP, qK, qD, qE⟩ := q; exact ⟨q0, q1, qP, va_K.moved (u := U) (U := U.calling g mk a) (Vm.Alike.refl U.vm) qK, qD, qE.same rfl⟩, hE.recv hS, fun U hU9 hW => ⟨rfl, by rw [hU9], by rw [hU9]; exact nilP, va_K.moved hW.alike (hK.sub (tys' := []) [] rfl), nilD, by rw [hU9]; exact (((hE : (StrE qS nn fB) A s s.heap).kept hS.2.1).narrow (fun q h => hFc q h)).warm hW⟩⟩ rfl rfl hl.1 rfl (lv_room (Nat.le_of_ble_eq_true rfl)) dJ0_indexOf_0f7a4_3 (by decide +kernel)) hS (fun q _ h => hFc q h) hFc (fun r1 u t9_ H1 locs ht hvm hw9 hB9 hz1 hk1 hS => ?_)
  clear hw9
  clear hB9
  have hP := keepAll hP hk1
  generalize H1 = H at hP hS ⊢
  have hP : va_P (dC, dI) vwCl ([]) H := hP
  have hD := fz_sd hP (hD) rfl
  refine W.widen (k := 0) (n := 0) (by decide +kernel) (by decide +kernel) ?_
  exact W.iret (v := r1) hx hb hr (fun t9_ ht hW => ⟨⟨r1, (), rfl, trivial, trivial⟩, hS.F ht⟩) hS.2.2 dJ0_indexOf_0f7a4_6
end
section
def WT (hT : Nat → Nat) (aT : Nat → Nat) (kT : Nat → ClassId) (fT_tape : Nat → Int32) (dT_tape : Nat) (nT_tape : Nat) (iT_length : Int32) (iT_fault : Int32) (iT_place : Int32) (iT_kind : Int32) (iT_at : Int32) (iT_number : Int32) (jT_name : Int64) (iT_next : Int32) : va_W := [(hT 0, .inr (9, [.ref dT_tape, .int iT_length, .int iT_fault, .int iT_place, .int iT_kind, .int iT_at, .int iT_number, .long jT_name, .int iT_next])), (dT_tape, .inl (kT 0, nT_tape, .inl fT_tape))]
def tT (kT : Nat → ClassId) : List (ClassId × FieldType) := [(kT 0, .byte)]
theorem dX9_fail_0 : decode cX9_fail 0 = .ok (.aload_n 0, 1) := dk_42 (by decide +kernel)
theorem dX9_fail_1 : decode cX9_fail 1 = .ok (.iload_n 1, 1) := dk_27 (by decide +kernel)
theorem dX9_fail_2 : decode cX9_fail 2 = .ok (.putfield 28, 3) := dk_181 (by decide +kernel)
theorem dX9_fail_5 : decode cX9_fail 5 = .ok (.aload_n 0, 1) := dk_42 (by decide +kernel)
theorem dX9_fail_6 : decode cX9_fail 6 = .ok (.iload_n 2, 1) := dk_28 (by decide +kernel)
theorem dX9_fail_7 : decode cX9_fail 7 = .ok (.putfield 15, 3) := dk_181 (by decide +kernel)
theorem dX9_fail_10 : decode cX9_fail 10 = .ok (.new 31, 3) := dk_187 (by decide +kernel)
theorem dX9_fail_13 : decode cX9_fail 13 = .ok (.dup, 1) := dk_89 (by decide +kernel)
theorem dX9_fail_14 : decode cX9_fail 14 = .ok (.invokespecial 33, 3) := dk_183 (by decide +kernel)
theorem dX9_fail_17 : decode cX9_fail 17 = .ok (.athrow, 1) := dk_191 (by decide +kernel)
def wsMX9_fail : List Cond := .code yX9_fail cX9_fail 3 none :: ([.fieldLink RX9 28 "OptimaWorks$Words" "fault" "I", .fieldLink RX9 15 "OptimaWorks$Words" "place" "I", .classLink RX9 31 "java/lang/IllegalArgumentException", .initialized "java/lang/IllegalArgumentException"] ++ wsX90 ++ ((vx_at0 RX9 33 "java/lang/IllegalArgumentException" ["java/lang/RuntimeException", "java/lang/Exception"]).filter goodWord))
theorem iwsMX9_fail_in9 : ∀ w ∈ wsX90, w ∈ wsMX9_fail := fun _ h => List.mem_cons_of_mem _ (List.mem_append_left _ (List.mem_append_right _ h))
theorem gdwsMX9_fail : wsMX9_fail.all goodWord = true := gdC rfl (gdA (gdA (by decide +kernel : ([.fieldLink RX9 28 "OptimaWorks$Words" "fault" "I", .fieldLink RX9 15 "OptimaWorks$Words" "place" "I", .classLink RX9 31 "java/lang/IllegalArgumentException", .initialized "java/lang/IllegalArgumentException"] : List Cond).all goodWord = true) gdwsX90) (gdF _))
set_option maxHeartbeats 4000000 in
set_option maxRecDepth 100000 in
/-- a fault -/
theorem m_X9_fail (l : Launch) (hst : l.stackTraces = false) (dC : Nat → ClassId) (dI : Nat → Nat → Nat) (hT : Nat → Nat) (aT : Nat → Nat) (kT : Nat → ClassId) (fT_tape : Nat → Int32) (dT_tape : Nat) (nT_tape : Nat) (iT_length : Int32) (iT_fault : Int32) (iT_place : Int32) (iT_kind : Int32) (iT_at : Int32) (iT_number : Int32) (jT_name : Int64) (iT_next : Int32) (p1 : Int32) (p2 : Int32) (b_fT_tape : ∀ q : Nat, (-128) ≤ (fT_tape q).toInt ∧ (fT_tape q).toInt ≤ 127) (b_nT_tape : 64 ≤ nT_tape ∧ nT_tape ≤ 2560) (b_iT_length : 0 ≤ iT_length.toInt ∧ iT_length.toInt ≤ 1280) (b_iT_at : 0 ≤ iT_at.toInt ∧ iT_at.toInt ≤ 1282) (b_iT_number : 0 ≤ iT_number.toInt ∧ iT_number.toInt ≤ 999999) (b_iT_next : 0 ≤ iT_next.toInt ∧ iT_next.toInt ≤ 1282) (b_len : iT_length.toInt ≤ ((nT_tape : Nat) : Int)) (sz : Nat) : vx_Met l yX9_fail wsMX9_fail ({ frames := 6, cells := 1, slots := 6, locals := 81 }) (va_Pc [.ref (hT 0), .int p1, .int p2] (fun U => U.heap.size = sz ∧ va_P (dC, dI) vwCl (WT hT aT kT fT_tape dT_tape nT_tape iT_length iT_fault iT_place iT_kind iT_at iT_number jT_name iT_next) U.heap ∧ va_K (dC, dI) vwCl (tT kT) U ∧ va_D (fun _ => True) (WT hT aT kT fT_tape dT_tape nT_tape iT_length iT_fault iT_place iT_kind iT_at iT_number jT_name iT_next) ∧ CE (va_A (WT hT aT kT fT_tape dT_tape nT_tape iT_length iT_fault iT_place iT_kind iT_at iT_number jT_name iT_next) sz) U U.heap)) (va_Qv (fun (u : (Int32) × (Int32)) => False) (fun (u : (Int32) × (Int32)) t => va_P (dC, dI) vwCl (WT hT aT kT fT_tape dT_tape nT_tape iT_length (u.1) (u.2) iT_kind iT_at iT_number jT_name iT_next) t.heap ∧ va_D (va_A (WT hT aT kT fT_tape dT_tape nT_tape iT_length iT_fault iT_place iT_kind iT_at iT_number jT_name iT_next) sz) (WT hT aT kT fT_tape dT_tape nT_tape iT_length (u.1) (u.2) iT_kind iT_at iT_number jT_name iT_next)) (va_A (WT hT aT kT fT_tape dT_tape nT_tape iT_length iT_fault iT_place iT_kind iT_at iT_number jT_name iT_next) sz)) (vx_X (fun (u : (Int32) × (Int32)) => True) (fun E (u : (Int32) × (Int32)) t => (E = "java/lang/IllegalArgumentException") ∧ va_P (dC, dI) vwCl (WT hT aT kT fT_tape dT_tape nT_tape iT_length (u.1) (u.2) iT_kind iT_at iT_number jT_name iT_next) t.heap ∧ va_D (va_A (WT hT aT kT fT_tape dT_tape nT_tape iT_length iT_fault iT_place iT_kind iT_at iT_number jT_name iT_next) sz) (WT hT aT kT fT_tape dT_tape nT_tape iT_length (u.1) (u.2) iT_kind iT_at iT_number jT_name iT_next)) (va_A (WT hT aT kT fT_tape dT_tape nT_tape iT_length iT_fault iT_place iT_kind iT_at iT_number jT_name iT_next) sz)) 1 6 (va_A (WT hT aT kT fT_tape dT_tape nT_tape iT_length iT_fault iT_place iT_kind iT_at iT_number jT_name iT_next) sz) := by
  refine vx_ofW (cc := cX9_fail) (maxL := 3) (ret := none) (by decide) rfl ?_
  intro p e s m args below meth c s₁ B hml htab hv
  obtain ⟨rfl, hsz, hP, hK, hD0, hE⟩ := hv
  have hx := B.exec
  have hb := B.bytes
  have hr := B.returns
  have hts := atoms_spec (ws := wsMX9_fail) B.pre
  have hown : s.vm.findClass RX9 = some m.cls := findClass_of_methodNamed B.named
  have hlocks := B.notSynchronized
  subst hsz
  have hD := hD0.self (sz := s.heap.size)
  generalize hAe : va_A (WT hT aT kT fT_tape dT_tape nT_tape iT_length iT_fault iT_place iT_kind iT_at iT_number jT_name iT_next) s.heap.size = A at hD hE ⊢
  have hA : ∀ q : Nat, s.heap.size ≤ q → A q := fun q h => by rw [← hAe]; exact Or.inr h
  have hS : va_S A s.heap s.heap [] := va_S.rf
  have hl := lv_entry ([.ref (hT 0), .int p1, .int p2]) (n := 3) (Nat.le_of_ble_eq_true rfl)
  rw [lg_entry_eq]
  generalize (lg_sl ([.ref (hT 0), .int p1, .int p2]) ++ List.replicate (3 - (lg_sl ([.ref (hT 0), .int p1, .int p2])).length) Slot.unset).toArray = ls at hl ⊢
  have hl : lv_has ls 3 [(0, .ref (hT 0)), (1, .int p1), (2, .int p2)] := hl
  refine lv_aload_n hx hb dX9_fail_0 rfl (lv_at hl 0 rfl) ?_
  refine lv_iload_n hx hb dX9_fail_1 rfl (lv_at hl 1 rfl) ?_
  refine va_put (D := (dC, dI)) (ci := 9) (v := .int p1) (ty := .int) (C := RX9) (T := TX9) (N := 9) hx hb hts iwsMX9_fail_in9 tyX9 tyX9_ok nmX9 hown hK hP hD hS 0 rfl rfl 2 (by decide) (hts (.fieldLink RX9 28 "OptimaWorks$Words" "fault" "I") (by decide +kernel)) (fun _ h9 => h9) rfl (by decide +kernel) rfl rfl (Nat.le_of_ble_eq_true rfl) dX9_fail_2 (fun H locs hP hD hS => ?_)
  have hP : va_P (dC, dI) vwCl (WT hT aT kT fT_tape dT_tape nT_tape iT_length p1 iT_place iT_kind iT_at iT_number jT_name iT_next) H := hP
  have hD := fz_sd hP (hD) rfl
  refine lv_aload_n hx hb dX9_fail_5 rfl (lv_at hl 0 rfl) ?_
  refine lv_iload_n hx hb dX9_fail_6 rfl (lv_at hl 2 rfl) ?_
  refine va_put (D := (dC, dI)) (ci := 9) (v := .int p2) (ty := .int) (C := RX9) (T := TX9) (N := 9) hx hb hts iwsMX9_fail_in9 tyX9 tyX9_ok nmX9 hown hK hP hD hS 0 rfl rfl 3 (by decide) (hts (.fieldLink RX9 15 "OptimaWorks$Words" "place" "I") (by decide +kernel)) (fun _ h9 => h9) rfl (by decide +kernel) rfl rfl (Nat.le_of_ble_eq_true rfl) dX9_fail_7 (fun H locs hP hD hS => ?_)
  have hP : va_P (dC, dI) vwCl (WT hT aT kT fT_tape dT_tape nT_tape iT_length p1 p2 iT_kind iT_at iT_number jT_name iT_next) H := hP
  have hD := fz_sd hP (hD) rfl
  exact vx_throw0 (own := RX9) (cls := "java/lang/IllegalArgumentException") (names := ["java/lang/RuntimeException", "java/lang/Exception"]) (ik := 31) (ic := 33) (A := A) hx hb hst hown (by decide +kernel) (by decide +kernel) (hts (.classLink RX9 31 "java/lang/IllegalArgumentException") (by decide +kernel)) (hts (.initialized "java/lang/IllegalArgumentException") (by decide +kernel)) (vx_hat (B := ngX9_33) (fun w h => hts w (List.mem_cons_of_mem _ (List.mem_append_right _ h))) (fun _ h => h) (fun w h => va_Nw.use (ngX9_33_ot w h) (hE.2.2.1.1 w h))) (by decide +kernel) hE.2.1.1 hE.2.1.2 hS (by rw [hml]; exact hl.1) dX9_fail_10 dX9_fail_13 dX9_fail_14 dX9_fail_17 (fun x hx9 => (htab x hx9).elim) (by decide +kernel) (Nat.le_of_ble_eq_true rfl) (by decide +kernel) (by decide +kernel) hlocks (fun t hvm hz hk => ⟨(p1, p2), trivial, ⟨rfl, hP.kept (fun k q h => hk q.1 ((hP k q h).lt)), hD⟩, ⟨Nat.le_trans hS.1 hz, fun q h1 h2 => (hk q (Nat.lt_of_lt_of_le h1 hS.1)).trans (hS.2.1 q h1 h2)⟩⟩) hS.2.2 (by decide +kernel) (by decide +kernel)
theorem dX9_failHere_0 : decode cX9_failHere 0 = .ok (.aload_n 0, 1) := dk_42 (by decide +kernel)
theorem dX9_failHere_1 : decode cX9_failHere 1 = .ok (.iload_n 1, 1) := dk_27 (by decide +kernel)
theorem dX9_failHere_2 : decode cX9_failHere 2 = .ok (.putfield 28, 3) := dk_181 (by decide +kernel)
theorem dX9_failHere_5 : decode cX9_failHere 5 = .ok (.aload_n 0, 1) := dk_42 (by decide +kernel)
theorem dX9_failHere_6 : decode cX9_failHere 6 = .ok (.aload_n 0, 1) := dk_42 (by decide +kernel)
theorem dX9_failHere_7 : decode cX9_failHere 7 = .ok (.getfield 34, 3) := dk_180 (by decide +kernel)
theorem dX9_failHere_10 : decode cX9_failHere 10 = .ok (.putfield 15, 3) := dk_181 (by decide +kernel)
theorem dX9_failHere_13 : decode cX9_failHere 13 = .ok (.new 31, 3) := dk_187 (by decide +kernel)
theorem dX9_failHere_16 : decode cX9_failHere 16 = .ok (.dup, 1) := dk_89 (by decide +kernel)
theorem dX9_failHere_17 : decode cX9_failHere 17 = .ok (.invokespecial 33, 3) := dk_183 (by decide +kernel)
theorem dX9_failHere_20 : decode cX9_failHere 20 = .ok (.athrow, 1) := dk_191 (by decide +kernel)
def wsMX9_failHere : List Cond := .code yX9_failHere cX9_failHere 2 none :: ([.fieldLink RX9 28 "OptimaWorks$Words" "fault" "I", .fieldLink RX9 34 "OptimaWorks$Words" "at" "I", .fieldLink RX9 15 "OptimaWorks$Words" "place" "I", .classLink RX9 31 "java/lang/IllegalArgumentException", .initialized "java/lang/IllegalArgumentException"] ++ wsX90 ++ ((vx_at0 RX9 33 "java/lang/IllegalArgumentException" ["java/lang/RuntimeException", "java/lang/Exception"]).filter goodWord))
theorem iwsMX9_failHere_in9 : ∀ w ∈ wsX90, w ∈ wsMX9_failHere := fun _ h => List.mem_cons_of_mem _ (List.mem_append_left _ (List.mem_append_right _ h))
theorem gdwsMX9_failHere : wsMX9_failHere.all goodWord = true := gdC rfl (gdA (gdA (by decide +kernel : ([.fieldLink RX9 28 "OptimaWorks$Words" "fault" "I", .fieldLink RX9 34 "OptimaWorks$Words" "at" "I", .fieldLink RX9 15 "OptimaWorks$Words" "place" "I", .classLink RX9 31 "java/lang/IllegalArgumentException", .initialized "java/lang/IllegalArgumentException"] : List Cond).all goodWord = true) gdwsX90) (gdF _))
set_option maxHeartbeats 4000000 in
set_option maxRecDepth 100000 in
/-- a fault here -/
theorem m_X9_failHere (l : Launch) (hst : l.stackTraces = false) (dC : Nat → ClassId) (dI : Nat → Nat → Nat) (hT : Nat → Nat) (aT : Nat → Nat) (kT : Nat → ClassId) (fT_tape : Nat → Int32) (dT_tape : Nat) (nT_tape : Nat) (iT_length : Int32) (iT_fault : Int32) (iT_place : Int32) (iT_kind : Int32) (iT_at : Int32) (iT_number : Int32) (jT_name : Int64) (iT_next : Int32) (p1 : Int32) (b_fT_tape : ∀ q : Nat, (-128) ≤ (fT_tape q).toInt ∧ (fT_tape q).toInt ≤ 127) (b_nT_tape : 64 ≤ nT_tape ∧ nT_tape ≤ 2560) (b_iT_length : 0 ≤ iT_length.toInt ∧ iT_length.toInt ≤ 1280) (b_iT_at : 0 ≤ iT_at.toInt ∧ iT_at.toInt ≤ 1282) (b_iT_number : 0 ≤ iT_number.toInt ∧ iT_number.toInt ≤ 999999) (b_iT_next : 0 ≤ iT_next.toInt ∧ iT_next.toInt ≤ 1282) (b_len : iT_length.toInt ≤ ((nT_tape : Nat) : Int)) (sz : Nat) : vx_Met l yX9_failHere wsMX9_failHere ({ frames := 6, cells := 1, slots := 6, locals := 81 }) (va_Pc [.ref (hT 0), .int p1] (fun U => U.heap.size = sz ∧ va_P (dC, dI) vwCl (WT hT aT kT fT_tape dT_tape nT_tape iT_length iT_fault iT_place iT_kind iT_at iT_number jT_name iT_next) U.heap ∧ va_K (dC, dI) vwCl (tT kT) U ∧ va_D (fun _ => True) (WT hT aT kT fT_tape dT_tape nT_tape iT_length iT_fault iT_place iT_kind iT_at iT_number jT_name iT_next) ∧ CE (va_A (WT hT aT kT fT_tape dT_tape nT_tape iT_length iT_fault iT_place iT_kind iT_at iT_number jT_name iT_next) sz) U U.heap)) (va_Qv (fun (u : (Int32) × (Int32)) => False) (fun (u : (Int32) × (Int32)) t => va_P (dC, dI) vwCl (WT hT aT kT fT_tape dT_tape nT_tape iT_length (u.1) (u.2) iT_kind iT_at iT_number jT_name iT_next) t.heap ∧ va_D (va_A (WT hT aT kT fT_tape dT_tape nT_tape iT_length iT_fault iT_place iT_kind iT_at iT_number jT_name iT_next) sz) (WT hT aT kT fT_tape dT_tape nT_tape iT_length (u.1) (u.2) iT_kind iT_at iT_number jT_name iT_next)) (va_A (WT hT aT kT fT_tape dT_tape nT_tape iT_length iT_fault iT_place iT_kind iT_at iT_number jT_name iT_next) sz)) (vx_X (fun (u : (Int32) × (Int32)) => True) (fun E (u : (Int32) × (Int32)) t => (E = "java/lang/IllegalArgumentException") ∧ va_P (dC, dI) vwCl (WT hT aT kT fT_tape dT_tape nT_tape iT_length (u.1) (u.2) iT_kind iT_at iT_number jT_name iT_next) t.heap ∧ va_D (va_A (WT hT aT kT fT_tape dT_tape nT_tape iT_length iT_fault iT_place iT_kind iT_at iT_number jT_name iT_next) sz) (WT hT aT kT fT_tape dT_tape nT_tape iT_length (u.1) (u.2) iT_kind iT_at iT_number jT_name iT_next)) (va_A (WT hT aT kT fT_tape dT_tape nT_tape iT_length iT_fault iT_place iT_kind iT_at iT_number jT_name iT_next) sz)) 1 6 (va_A (WT hT aT kT fT_tape dT_tape nT_tape iT_length iT_fault iT_place iT_kind iT_at iT_number jT_name iT_next) sz) := by
  refine vx_ofW (cc := cX9_failHere) (maxL := 2) (ret := none) (by decide) rfl ?_
  intro p e s m args below meth c s₁ B hml htab hv
  obtain ⟨rfl, hsz, hP, hK, hD0, hE⟩ := hv
  have hx := B.exec
  have hb := B.bytes
  have hr := B.returns
  have hts := atoms_spec (ws := wsMX9_failHere) B.pre
  have hown : s.vm.findClass RX9 = some m.cls := findClass_of_methodNamed B.named
  have hlocks := B.notSynchronized
  subst hsz
  have hD := hD0.self (sz := s.heap.size)
  generalize hAe : va_A (WT hT aT kT fT_tape dT_tape nT_tape iT_length iT_fault iT_place iT_kind iT_at iT_number jT_name iT_next) s.heap.size = A at hD hE ⊢
  have hA : ∀ q : Nat, s.heap.size ≤ q → A q := fun q h => by rw [← hAe]; exact Or.inr h
  have hS : va_S A s.heap s.heap [] := va_S.rf
  have hl := lv_entry ([.ref (hT 0), .int p1]) (n := 2) (Nat.le_of_ble_eq_true rfl)
  rw [lg_entry_eq]
  generalize (lg_sl ([.ref (hT 0), .int p1]) ++ List.replicate (2 - (lg_sl ([.ref (hT 0), .int p1])).length) Slot.unset).toArray = ls at hl ⊢
  have hl : lv_has ls 2 [(0, .ref (hT 0)), (1, .int p1)] := hl
  refine lv_aload_n hx hb dX9_failHere_0 rfl (lv_at hl 0 rfl) ?_
  refine lv_iload_n hx hb dX9_failHere_1 rfl (lv_at hl 1 rfl) ?_
  refine va_put (D := (dC, dI)) (ci := 9) (v := .int p1) (ty := .int) (C := RX9) (T := TX9) (N := 9) hx hb hts iwsMX9_failHere_in9 tyX9 tyX9_ok nmX9 hown hK hP hD hS 0 rfl rfl 2 (by decide) (hts (.fieldLink RX9 28 "OptimaWorks$Words" "fault" "I") (by decide +kernel)) (fun _ h9 => h9) rfl (by decide +kernel) rfl rfl (Nat.le_of_ble_eq_true rfl) dX9_failHere_2 (fun H locs hP hD hS => ?_)
  have hP : va_P (dC, dI) vwCl (WT hT aT kT fT_tape dT_tape nT_tape iT_length p1 iT_place iT_kind iT_at iT_number jT_name iT_next) H := hP
  have hD := fz_sd hP (hD) rfl
  refine lv_aload_n hx hb dX9_failHere_5 rfl (lv_at hl 0 rfl) ?_
  refine lv_aload_n hx hb dX9_failHere_6 rfl (lv_at hl 0 rfl) ?_
  refine va_get (D := (dC, dI)) (ci := 9) (v := .int iT_at) (C := RX9) (T := TX9) (N := 9) hx hb hts iwsMX9_failHere_in9 hown hK hP 0 rfl rfl 5 (by decide) (hts (.fieldLink RX9 34 "OptimaWorks$Words" "at" "I") (by decide +kernel)) (fun _ h9 => h9) rfl dX9_failHere_7 ?_
  refine va_put (D := (dC, dI)) (ci := 9) (v := .int iT_at) (ty := .int) (C := RX9) (T := TX9) (N := 9) hx hb hts iwsMX9_failHere_in9 tyX9 tyX9_ok nmX9 hown hK hP hD hS 0 rfl rfl 3 (by decide) (hts (.fieldLink RX9 15 "OptimaWorks$Words" "place" "I") (by decide +kernel)) (fun _ h9 => h9) rfl (by decide +kernel) rfl rfl (Nat.le_of_ble_eq_true rfl) dX9_failHere_10 (fun H locs hP hD hS => ?_)
  have hP : va_P (dC, dI) vwCl (WT hT aT kT fT_tape dT_tape nT_tape iT_length p1 iT_at iT_kind iT_at iT_number jT_name iT_next) H := hP
  have hD := fz_sd hP (hD) rfl
  exact vx_throw0 (own := RX9) (cls := "java/lang/IllegalArgumentException") (names := ["java/lang/RuntimeException", "java/lang/Exception"]) (ik := 31) (ic := 33) (A := A) hx hb hst hown (by decide +kernel) (by decide +kernel) (hts (.classLink RX9 31 "java/lang/IllegalArgumentException") (by decide +kernel)) (hts (.initialized "java/lang/IllegalArgumentException") (by decide +kernel)) (vx_hat (B := ngX9_33) (fun w h => hts w (List.mem_cons_of_mem _ (List.mem_append_right _ h))) (fun _ h => h) (fun w h => va_Nw.use (ngX9_33_ot w h) (hE.2.2.1.1 w h))) (by decide +kernel) hE.2.1.1 hE.2.1.2 hS (by rw [hml]; exact hl.1) dX9_failHere_13 dX9_failHere_16 dX9_failHere_17 dX9_failHere_20 (fun x hx9 => (htab x hx9).elim) (by decide +kernel) (Nat.le_of_ble_eq_true rfl) (by decide +kernel) (by decide +kernel) hlocks (fun t hvm hz hk => ⟨(p1, iT_at), trivial, ⟨rfl, hP.kept (fun k q h => hk q.1 ((hP k q h).lt)), hD⟩, ⟨Nat.le_trans hS.1 hz, fun q h1 h2 => (hk q (Nat.lt_of_lt_of_le h1 hS.1)).trans (hS.2.1 q h1 h2)⟩⟩) hS.2.2 (by decide +kernel) (by decide +kernel)
theorem dX9_failWord_0 : decode cX9_failWord 0 = .ok (.aload_n 0, 1) := dk_42 (by decide +kernel)
theorem dX9_failWord_1 : decode cX9_failWord 1 = .ok (.aload_n 0, 1) := dk_42 (by decide +kernel)
theorem dX9_failWord_2 : decode cX9_failWord 2 = .ok (.getfield 37, 3) := dk_180 (by decide +kernel)
theorem dX9_failWord_5 : decode cX9_failWord 5 = .ok (.iconst 3, 1) := dk_6 (by decide +kernel)
theorem dX9_failWord_6 : decode cX9_failWord 6 = .ok (.if_icmp .ne 7, 3) := dk_160 (by decide +kernel)
theorem dX9_failWord_9 : decode cX9_failWord 9 = .ok (.iconst 2, 1) := dk_5 (by decide +kernel)
theorem dX9_failWord_10 : decode cX9_failWord 10 = .ok (.goto 4, 3) := dk_167 (by decide +kernel)
theorem dX9_failWord_13 : decode cX9_failWord 13 = .ok (.iconst 1, 1) := dk_4 (by decide +kernel)
theorem dX9_failWord_14 : decode cX9_failWord 14 = .ok (.putfield 28, 3) := dk_181 (by decide +kernel)
theorem dX9_failWord_17 : decode cX9_failWord 17 = .ok (.aload_n 0, 1) := dk_42 (by decide +kernel)
theorem dX9_failWord_18 : decode cX9_failWord 18 = .ok (.aload_n 0, 1) := dk_42 (by decide +kernel)
theorem dX9_failWord_19 : decode cX9_failWord 19 = .ok (.getfield 34, 3) := dk_180 (by decide +kernel)
theorem dX9_failWord_22 : decode cX9_failWord 22 = .ok (.putfield 15, 3) := dk_181 (by decide +kernel)
theorem dX9_failWord_25 : decode cX9_failWord 25 = .ok (.new 31, 3) := dk_187 (by decide +kernel)
theorem dX9_failWord_28 : decode cX9_failWord 28 = .ok (.dup, 1) := dk_89 (by decide +kernel)
theorem dX9_failWord_29 : decode cX9_failWord 29 = .ok (.invokespecial 33, 3) := dk_183 (by decide +kernel)
theorem dX9_failWord_32 : decode cX9_failWord 32 = .ok (.athrow, 1) := dk_191 (by decide +kernel)
def wsMX9_failWord : List Cond := .code yX9_failWord cX9_failWord 1 none :: ([.fieldLink RX9 37 "OptimaWorks$Words" "kind" "I", .fieldLink RX9 28 "OptimaWorks$Words" "fault" "I", .fieldLink RX9 34 "OptimaWorks$Words" "at" "I", .fieldLink RX9 15 "OptimaWorks$Words" "place" "I", .classLink RX9 31 "java/lang/IllegalArgumentException", .initialized "java/lang/IllegalArgumentException"] ++ wsX90 ++ ((vx_at0 RX9 33 "java/lang/IllegalArgumentException" ["java/lang/RuntimeException", "java/lang/Exception"]).filter goodWord))
theorem iwsMX9_failWord_in9 : ∀ w ∈ wsX90, w ∈ wsMX9_failWord := fun _ h => List.mem_cons_of_mem _ (List.mem_append_left _ (List.mem_append_right _ h))
theorem gdwsMX9_failWord : wsMX9_failWord.all goodWord = true := gdC rfl (gdA (gdA (by decide +kernel : ([.fieldLink RX9 37 "OptimaWorks$Words" "kind" "I", .fieldLink RX9 28 "OptimaWorks$Words" "fault" "I", .fieldLink RX9 34 "OptimaWorks$Words" "at" "I", .fieldLink RX9 15 "OptimaWorks$Words" "place" "I", .classLink RX9 31 "java/lang/IllegalArgumentException", .initialized "java/lang/IllegalArgumentException"] : List Cond).all goodWord = true) gdwsX90) (gdF _))
set_option maxHeartbeats 4000000 in
set_option maxRecDepth 100000 in
/-- a wrong word -/
theorem m_X9_failWord (l : Launch) (hst : l.stackTraces = false) (dC : Nat → ClassId) (dI : Nat → Nat → Nat) (hT : Nat → Nat) (aT : Nat → Nat) (kT : Nat → ClassId) (fT_tape : Nat → Int32) (dT_tape : Nat) (nT_tape : Nat) (iT_length : Int32) (iT_fault : Int32) (iT_place : Int32) (iT_kind : Int32) (iT_at : Int32) (iT_number : Int32) (jT_name : Int64) (iT_next : Int32) (b_fT_tape : ∀ q : Nat, (-128) ≤ (fT_tape q).toInt ∧ (fT_tape q).toInt ≤ 127) (b_nT_tape : 64 ≤ nT_tape ∧ nT_tape ≤ 2560) (b_iT_length : 0 ≤ iT_length.toInt ∧ iT_length.toInt ≤ 1280) (b_iT_at : 0 ≤ iT_at.toInt ∧ iT_at.toInt ≤ 1282) (b_iT_number : 0 ≤ iT_number.toInt ∧ iT_number.toInt ≤ 999999) (b_iT_next : 0 ≤ iT_next.toInt ∧ iT_next.toInt ≤ 1282) (b_len : iT_length.toInt ≤ ((nT_tape : Nat) : Int)) (sz : Nat) : vx_Met l yX9_failWord wsMX9_failWord ({ frames := 6, cells := 1, slots := 6, locals := 81 }) (va_Pc [.ref (hT 0)] (fun U => U.heap.size = sz ∧ va_P (dC, dI) vwCl (WT hT aT kT fT_tape dT_tape nT_tape iT_length iT_fault iT_place iT_kind iT_at iT_number jT_name iT_next) U.heap ∧ va_K (dC, dI) vwCl (tT kT) U ∧ va_D (fun _ => True) (WT hT aT kT fT_tape dT_tape nT_tape iT_length iT_fault iT_place iT_kind iT_at iT_number jT_name iT_next) ∧ CE (va_A (WT hT aT kT fT_tape dT_tape nT_tape iT_length iT_fault iT_place iT_kind iT_at iT_number jT_name iT_next) sz) U U.heap)) (va_Qv (fun (u : (Int32) × (Int32)) => False) (fun (u : (Int32) × (Int32)) t => va_P (dC, dI) vwCl (WT hT aT kT fT_tape dT_tape nT_tape iT_length (u.1) (u.2) iT_kind iT_at iT_number jT_name iT_next) t.heap ∧ va_D (va_A (WT hT aT kT fT_tape dT_tape nT_tape iT_length iT_fault iT_place iT_kind iT_at iT_number jT_name iT_next) sz) (WT hT aT kT fT_tape dT_tape nT_tape iT_length (u.1) (u.2) iT_kind iT_at iT_number jT_name iT_next)) (va_A (WT hT aT kT fT_tape dT_tape nT_tape iT_length iT_fault iT_place iT_kind iT_at iT_number jT_name iT_next) sz)) (vx_X (fun (u : (Int32) × (Int32)) => True) (fun E (u : (Int32) × (Int32)) t => (E = "java/lang/IllegalArgumentException") ∧ va_P (dC, dI) vwCl (WT hT aT kT fT_tape dT_tape nT_tape iT_length (u.1) (u.2) iT_kind iT_at iT_number jT_name iT_next) t.heap ∧ va_D (va_A (WT hT aT kT fT_tape dT_tape nT_tape iT_length iT_fault iT_place iT_kind iT_at iT_number jT_name iT_next) sz) (WT hT aT kT fT_tape dT_tape nT_tape iT_length (u.1) (u.2) iT_kind iT_at iT_number jT_name iT_next)) (va_A (WT hT aT kT fT_tape dT_tape nT_tape iT_length iT_fault iT_place iT_kind iT_at iT_number jT_name iT_next) sz)) 1 6 (va_A (WT hT aT kT fT_tape dT_tape nT_tape iT_length iT_fault iT_place iT_kind iT_at iT_number jT_name iT_next) sz) := by
  refine vx_ofW (cc := cX9_failWord) (maxL := 1) (ret := none) (by decide) rfl ?_
  intro p e s m args below meth c s₁ B hml htab hv
  obtain ⟨rfl, hsz, hP, hK, hD0, hE⟩ := hv
  have hx := B.exec
  have hb := B.bytes
  have hr := B.returns
  have hts := atoms_spec (ws := wsMX9_failWord) B.pre
  have hown : s.vm.findClass RX9 = some m.cls := findClass_of_methodNamed B.named
  have hlocks := B.notSynchronized
  subst hsz
  have hD := hD0.self (sz := s.heap.size)
  generalize hAe : va_A (WT hT aT kT fT_tape dT_tape nT_tape iT_length iT_fault iT_place iT_kind iT_at iT_number jT_name iT_next) s.heap.size = A at hD hE ⊢
  have hA : ∀ q : Nat, s.heap.size ≤ q → A q := fun q h => by rw [← hAe]; exact Or.inr h
  have hS : va_S A s.heap s.heap [] := va_S.rf
  have hl := lv_entry ([.ref (hT 0)]) (n := 1) (Nat.le_of_ble_eq_true rfl)
  rw [lg_entry_eq]
  generalize (lg_sl ([.ref (hT 0)]) ++ List.replicate (1 - (lg_sl ([.ref (hT 0)])).length) Slot.unset).toArray = ls at hl ⊢
  have hl : lv_has ls 1 [(0, .ref (hT 0))] := hl
  refine lv_aload_n hx hb dX9_failWord_0 rfl (lv_at hl 0 rfl) ?_
  refine lv_aload_n hx hb dX9_failWord_1 rfl (lv_at hl 0 rfl) ?_
  refine va_get (D := (dC, dI)) (ci := 9) (v := .int iT_kind) (C := RX9) (T := TX9) (N := 9) hx hb hts iwsMX9_failWord_in9 hown hK hP 0 rfl rfl 4 (by decide) (hts (.fieldLink RX9 37 "OptimaWorks$Words" "kind" "I") (by decide +kernel)) (fun _ h9 => h9) rfl dX9_failWord_2 ?_
  refine lv_iconst (v := 3) hx hb dX9_failWord_5 (by decide) ?_
  refine W.cut (pc := 14) (fun H locs ls stk => ∃ (k0_j2 : Int32), (1 ≤ k0_j2.toInt ∧ k0_j2.toInt ≤ 2) ∧  stk = [.int k0_j2, .ref (hT 0)] ∧ va_P (dC, dI) vwCl (WT hT aT kT fT_tape dT_tape nT_tape iT_length iT_fault iT_place iT_kind iT_at iT_number jT_name iT_next) H ∧ va_D A (WT hT aT kT fT_tape dT_tape nT_tape iT_length iT_fault iT_place iT_kind iT_at iT_number jT_name iT_next) ∧ va_S A s.heap H locs ∧ lv_has ls 1 [(0, .ref (hT 0))]) (fun join2 => ?_) ?_
  · refine lv_icmp_ne (tgt := 13) hx hb dX9_failWord_6 (by decide) (fun c_6 => ?_) (fun c_6 => ?_)
    · have t_6 : iT_kind.toInt ≠ 3 := toI_ne c_6 rfl (by decide : (3 : Int32).toInt = 3)
      refine lv_iconst (v := 1) hx hb dX9_failWord_13 (by decide) ?_
      have hl : lv_has _ _ ([(0, .ref (hT 0))]) := lv_sub hl [0] rfl
      exact join2 _ _ _ _ ⟨1, (show 1 ≤ (1 : Int32).toInt ∧ (1 : Int32).toInt ≤ 2 from by decide), rfl, hP, hD, hS, hl⟩
    · have t_6 : iT_kind.toInt = 3 := toI_nne c_6 rfl (by decide : (3 : Int32).toInt = 3)
      refine lv_iconst (v := 2) hx hb dX9_failWord_9 (by decide) ?_
      refine lv_goto (tgt := 14) hx hb dX9_failWord_10 (by decide) ?_
      have hl : lv_has _ _ ([(0, .ref (hT 0))]) := lv_sub hl [0] rfl
      exact join2 _ _ _ _ ⟨2, (show 1 ≤ (2 : Int32).toInt ∧ (2 : Int32).toInt ≤ 2 from by decide), rfl, hP, hD, hS, hl⟩
  · rintro H locs ls stk ⟨k0_j2, b_k0_j2, rfl, hP, hD, hS, hl⟩
    refine va_put (D := (dC, dI)) (ci := 9) (v := .int k0_j2) (ty := .int) (C := RX9) (T := TX9) (N := 9) hx hb hts iwsMX9_failWord_in9 tyX9 tyX9_ok nmX9 hown hK hP hD hS 0 rfl rfl 2 (by decide) (hts (.fieldLink RX9 28 "OptimaWorks$Words" "fault" "I") (by decide +kernel)) (fun _ h9 => h9) rfl (by decide +kernel) rfl rfl (Nat.le_of_ble_eq_true rfl) dX9_failWord_14 (fun H locs hP hD hS => ?_)
    have hP : va_P (dC, dI) vwCl (WT hT aT kT fT_tape dT_tape nT_tape iT_length k0_j2 iT_place iT_kind iT_at iT_number jT_name iT_next) H := hP
    have hD := fz_sd hP (hD) rfl
    refine lv_aload_n hx hb dX9_failWord_17 rfl (lv_at hl 0 rfl) ?_
    refine lv_aload_n hx hb dX9_failWord_18 rfl (lv_at hl 0 rfl) ?_
    refine va_get (D := (dC, dI)) (ci := 9) (v := .int iT_at) (C := RX9) (T := TX9) (N := 9) hx hb hts iwsMX9_failWord_in9 hown hK hP 0 rfl rfl 5 (by decide) (hts (.fieldLink RX9 34 "OptimaWorks$Words" "at" "I") (by decide +kernel)) (fun _ h9 => h9) rfl dX9_failWord_19 ?_
    refine va_put (D := (dC, dI)) (ci := 9) (v := .int iT_at) (ty := .int) (C := RX9) (T := TX9) (N := 9) hx hb hts iwsMX9_failWord_in9 tyX9 tyX9_ok nmX9 hown hK hP hD hS 0 rfl rfl 3 (by decide) (hts (.fieldLink RX9 15 "OptimaWorks$Words" "place" "I") (by decide +kernel)) (fun _ h9 => h9) rfl (by decide +kernel) rfl rfl (Nat.le_of_ble_eq_true rfl) dX9_failWord_22 (fun H locs hP hD hS => ?_)
    have hP : va_P (dC, dI) vwCl (WT hT aT kT fT_tape dT_tape nT_tape iT_length k0_j2 iT_at iT_kind iT_at iT_number jT_name iT_next) H := hP
    have hD := fz_sd hP (hD) rfl
    exact vx_throw0 (own := RX9) (cls := "java/lang/IllegalArgumentException") (names := ["java/lang/RuntimeException", "java/lang/Exception"]) (ik := 31) (ic := 33) (A := A) hx hb hst hown (by decide +kernel) (by decide +kernel) (hts (.classLink RX9 31 "java/lang/IllegalArgumentException") (by decide +kernel)) (hts (.initialized "java/lang/IllegalArgumentException") (by decide +kernel)) (vx_hat (B := ngX9_33) (fun w h => hts w (List.mem_cons_of_mem _ (List.mem_append_right _ h))) (fun _ h => h) (fun w h => va_Nw.use (ngX9_33_ot w h) (hE.2.2.1.1 w h))) (by decide +kernel) hE.2.1.1 hE.2.1.2 hS (by rw [hml]; exact hl.1) dX9_failWord_25 dX9_failWord_28 dX9_failWord_29 dX9_failWord_32 (fun x hx9 => (htab x hx9).elim) (by decide +kernel) (Nat.le_of_ble_eq_true rfl) (by decide +kernel) (by decide +kernel) hlocks (fun t hvm hz hk => ⟨(k0_j2, iT_at), trivial, ⟨rfl, hP.kept (fun k q h => hk q.1 ((hP k q h).lt)), hD⟩, ⟨Nat.le_trans hS.1 hz, fun q h1 h2 => (hk q (Nat.lt_of_lt_of_le h1 hS.1)).trans (hS.2.1 q h1 h2)⟩⟩) hS.2.2 (by decide +kernel) (by decide +kernel)
theorem dX9_skipBlanks_0 : decode cX9_skipBlanks 0 = .ok (.iconst 0, 1) := dk_3 (by decide +kernel)
theorem dX9_skipBlanks_1 : decode cX9_skipBlanks 1 = .ok (.istore_n 1, 1) := dk_60 (by decide +kernel)
theorem dX9_skipBlanks_2 : decode cX9_skipBlanks 2 = .ok (.aload_n 0, 1) := dk_42 (by decide +kernel)
theorem dX9_skipBlanks_3 : decode cX9_skipBlanks 3 = .ok (.getfield 40, 3) := dk_180 (by decide +kernel)
theorem dX9_skipBlanks_6 : decode cX9_skipBlanks 6 = .ok (.aload_n 0, 1) := dk_42 (by decide +kernel)
theorem dX9_skipBlanks_7 : decode cX9_skipBlanks 7 = .ok (.getfield 19, 3) := dk_180 (by decide +kernel)
theorem dX9_skipBlanks_10 : decode cX9_skipBlanks 10 = .ok (.if_icmp .ge 71, 3) := dk_162 (by decide +kernel)
theorem dX9_skipBlanks_13 : decode cX9_skipBlanks 13 = .ok (.aload_n 0, 1) := dk_42 (by decide +kernel)
theorem dX9_skipBlanks_14 : decode cX9_skipBlanks 14 = .ok (.getfield 9, 3) := dk_180 (by decide +kernel)
theorem dX9_skipBlanks_17 : decode cX9_skipBlanks 17 = .ok (.aload_n 0, 1) := dk_42 (by decide +kernel)
theorem dX9_skipBlanks_18 : decode cX9_skipBlanks 18 = .ok (.getfield 40, 3) := dk_180 (by decide +kernel)
theorem dX9_skipBlanks_21 : decode cX9_skipBlanks 21 = .ok (.baload, 1) := dk_51 (by decide +kernel)
theorem dX9_skipBlanks_22 : decode cX9_skipBlanks 22 = .ok (.istore_n 2, 1) := dk_61 (by decide +kernel)
theorem dX9_skipBlanks_23 : decode cX9_skipBlanks 23 = .ok (.iload_n 2, 1) := dk_28 (by decide +kernel)
theorem dX9_skipBlanks_24 : decode cX9_skipBlanks 24 = .ok (.bipush 10, 2) := dk_16 (by decide +kernel)
theorem dX9_skipBlanks_26 : decode cX9_skipBlanks 26 = .ok (.if_icmp .ne 8, 3) := dk_160 (by decide +kernel)
theorem dX9_skipBlanks_29 : decode cX9_skipBlanks 29 = .ok (.iconst 0, 1) := dk_3 (by decide +kernel)
theorem dX9_skipBlanks_30 : decode cX9_skipBlanks 30 = .ok (.istore_n 1, 1) := dk_60 (by decide +kernel)
theorem dX9_skipBlanks_31 : decode cX9_skipBlanks 31 = .ok (.goto 37, 3) := dk_167 (by decide +kernel)
theorem dX9_skipBlanks_34 : decode cX9_skipBlanks 34 = .ok (.iload_n 2, 1) := dk_28 (by decide +kernel)
theorem dX9_skipBlanks_35 : decode cX9_skipBlanks 35 = .ok (.bipush 35, 2) := dk_16 (by decide +kernel)
theorem dX9_skipBlanks_37 : decode cX9_skipBlanks 37 = .ok (.if_icmp .ne 8, 3) := dk_160 (by decide +kernel)
theorem dX9_skipBlanks_40 : decode cX9_skipBlanks 40 = .ok (.iconst 1, 1) := dk_4 (by decide +kernel)
theorem dX9_skipBlanks_41 : decode cX9_skipBlanks 41 = .ok (.istore_n 1, 1) := dk_60 (by decide +kernel)
theorem dX9_skipBlanks_42 : decode cX9_skipBlanks 42 = .ok (.goto 26, 3) := dk_167 (by decide +kernel)
theorem dX9_skipBlanks_45 : decode cX9_skipBlanks 45 = .ok (.iload_n 1, 1) := dk_27 (by decide +kernel)
theorem dX9_skipBlanks_46 : decode cX9_skipBlanks 46 = .ok (.ifCond .ne 22, 3) := dk_154 (by decide +kernel)
theorem dX9_skipBlanks_49 : decode cX9_skipBlanks 49 = .ok (.iload_n 2, 1) := dk_28 (by decide +kernel)
theorem dX9_skipBlanks_50 : decode cX9_skipBlanks 50 = .ok (.bipush 9, 2) := dk_16 (by decide +kernel)
theorem dX9_skipBlanks_52 : decode cX9_skipBlanks 52 = .ok (.if_icmp .eq 16, 3) := dk_159 (by decide +kernel)
theorem dX9_skipBlanks_55 : decode cX9_skipBlanks 55 = .ok (.iload_n 2, 1) := dk_28 (by decide +kernel)
theorem dX9_skipBlanks_56 : decode cX9_skipBlanks 56 = .ok (.bipush 13, 2) := dk_16 (by decide +kernel)
theorem dX9_skipBlanks_58 : decode cX9_skipBlanks 58 = .ok (.if_icmp .eq 10, 3) := dk_159 (by decide +kernel)
theorem dX9_skipBlanks_61 : decode cX9_skipBlanks 61 = .ok (.iload_n 2, 1) := dk_28 (by decide +kernel)
theorem dX9_skipBlanks_62 : decode cX9_skipBlanks 62 = .ok (.bipush 32, 2) := dk_16 (by decide +kernel)
theorem dX9_skipBlanks_64 : decode cX9_skipBlanks 64 = .ok (.if_icmp .eq 4, 3) := dk_159 (by decide +kernel)
theorem dX9_skipBlanks_67 : decode cX9_skipBlanks 67 = .ok (.return_, 1) := dk_177 (by decide +kernel)
theorem dX9_skipBlanks_68 : decode cX9_skipBlanks 68 = .ok (.aload_n 0, 1) := dk_42 (by decide +kernel)
theorem dX9_skipBlanks_69 : decode cX9_skipBlanks 69 = .ok (.dup, 1) := dk_89 (by decide +kernel)
theorem dX9_skipBlanks_70 : decode cX9_skipBlanks 70 = .ok (.getfield 40, 3) := dk_180 (by decide +kernel)
theorem dX9_skipBlanks_73 : decode cX9_skipBlanks 73 = .ok (.iconst 1, 1) := dk_4 (by decide +kernel)
theorem dX9_skipBlanks_74 : decode cX9_skipBlanks 74 = .ok (.iadd, 1) := dk_96 (by decide +kernel)
theorem dX9_skipBlanks_75 : decode cX9_skipBlanks 75 = .ok (.putfield 40, 3) := dk_181 (by decide +kernel)
theorem dX9_skipBlanks_78 : decode cX9_skipBlanks 78 = .ok (.goto (-76), 3) := dk_167 (by decide +kernel)
theorem dX9_skipBlanks_81 : decode cX9_skipBlanks 81 = .ok (.return_, 1) := dk_177 (by decide +kernel)
def wsMX9_skipBlanks : List Cond := .code yX9_skipBlanks cX9_skipBlanks 3 none :: ([.fieldLink RX9 40 "OptimaWorks$Words" "next" "I", .fieldLink RX9 19 "OptimaWorks$Words" "length" "I", .fieldLink RX9 9 "OptimaWorks$Words" "tape" "[B"] ++ wsX90)
theorem iwsMX9_skipBlanks_in9 : ∀ w ∈ wsX90, w ∈ wsMX9_skipBlanks := fun _ h => List.mem_cons_of_mem _ (List.mem_append_right _ h)
theorem gdwsMX9_skipBlanks : wsMX9_skipBlanks.all goodWord = true := gdC rfl (gdA (by decide +kernel : ([.fieldLink RX9 40 "OptimaWorks$Words" "next" "I", .fieldLink RX9 19 "OptimaWorks$Words" "length" "I", .fieldLink RX9 9 "OptimaWorks$Words" "tape" "[B"] : List Cond).all goodWord = true) gdwsX90)
theorem hm_m_X9_skipBlanks_0 : (.fieldLink RX9 40 "OptimaWorks$Words" "next" "I" : Cond) ∈ wsMX9_skipBlanks := by decide +kernel
set_option maxHeartbeats 4000000 in
set_option maxRecDepth 100000 in
/-- blanks -/
theorem m_X9_skipBlanks (l : Launch) (dC : Nat → ClassId) (dI : Nat → Nat → Nat) (hT : Nat → Nat) (aT : Nat → Nat) (kT : Nat → ClassId) (fT_tape : Nat → Int32) (dT_tape : Nat) (nT_tape : Nat) (iT_length : Int32) (iT_fault : Int32) (iT_place : Int32) (iT_kind : Int32) (iT_at : Int32) (iT_number : Int32) (jT_name : Int64) (iT_next : Int32) (b_fT_tape : ∀ q : Nat, (-128) ≤ (fT_tape q).toInt ∧ (fT_tape q).toInt ≤ 127) (b_nT_tape : 64 ≤ nT_tape ∧ nT_tape ≤ 2560) (b_iT_length : 0 ≤ iT_length.toInt ∧ iT_length.toInt ≤ 1280) (b_iT_at : 0 ≤ iT_at.toInt ∧ iT_at.toInt ≤ 1282) (b_iT_number : 0 ≤ iT_number.toInt ∧ iT_number.toInt ≤ 999999) (b_iT_next : 0 ≤ iT_next.toInt ∧ iT_next.toInt ≤ 1282) (b_len : iT_length.toInt ≤ ((nT_tape : Nat) : Int)) (hnl : iT_next.toInt ≤ iT_length.toInt) (sz : Nat) : Met l yX9_skipBlanks wsMX9_skipBlanks ({ frames := 0, cells := 0, slots := 0, locals := 0 }) (va_Pc [.ref (hT 0)] (fun U => U.heap.size = sz ∧ va_P (dC, dI) vwCl (WT hT aT kT fT_tape dT_tape nT_tape iT_length iT_fault iT_place iT_kind iT_at iT_number jT_name iT_next) U.heap ∧ va_K (dC, dI) vwCl (tT kT) U ∧ va_D (fun _ => True) (WT hT aT kT fT_tape dT_tape nT_tape iT_length iT_fault iT_place iT_kind iT_at iT_number jT_name iT_next))) (va_Qv (fun (u : Int32) => (0 ≤ u.toInt ∧ u.toInt ≤ 1282) ∧ (u.toInt ≤ iT_length.toInt) ∧ (iT_next.toInt ≤ u.toInt)) (fun (u : Int32) t => va_P (dC, dI) vwCl (WT hT aT kT fT_tape dT_tape nT_tape iT_length iT_fault iT_place iT_kind iT_at iT_number jT_name u) t.heap ∧ va_D (va_A (WT hT aT kT fT_tape dT_tape nT_tape iT_length iT_fault iT_place iT_kind iT_at iT_number jT_name iT_next) sz) (WT hT aT kT fT_tape dT_tape nT_tape iT_length iT_fault iT_place iT_kind iT_at iT_number jT_name u)) (va_A (WT hT aT kT fT_tape dT_tape nT_tape iT_length iT_fault iT_place iT_kind iT_at iT_number jT_name iT_next) sz)) 0 0 (va_A (WT hT aT kT fT_tape dT_tape nT_tape iT_length iT_fault iT_place iT_kind iT_at iT_number jT_name iT_next) sz) := by
  refine Met.ofW (cc := cX9_skipBlanks) (maxL := 3) (ret := none) (by decide) rfl ?_
  intro p e s m args below meth c s₁ B hml hv
  obtain ⟨rfl, hsz, hP, hK, hD0⟩ := hv
  have hx := B.exec
  have hb := B.bytes
  have hr := B.returns
  have hts := atoms_spec (ws := wsMX9_skipBlanks) B.pre
  have hown : s.vm.findClass RX9 = some m.cls := findClass_of_methodNamed B.named
  have hlocks := B.notSynchronized
  subst hsz
  have hD := hD0.self (sz := s.heap.size)
  generalize hAe : va_A (WT hT aT kT fT_tape dT_tape nT_tape iT_length iT_fault iT_place iT_kind iT_at iT_number jT_name iT_next) s.heap.size = A at hD ⊢
  have hA : ∀ q : Nat, s.heap.size ≤ q → A q := fun q h => by rw [← hAe]; exact Or.inr h
  have hS : va_S A s.heap s.heap [] := va_S.rf
  have hl := lv_entry ([.ref (hT 0)]) (n := 3) (Nat.le_of_ble_eq_true rfl)
  rw [lg_entry_eq]
  generalize (lg_sl ([.ref (hT 0)]) ++ List.replicate (3 - (lg_sl ([.ref (hT 0)])).length) Slot.unset).toArray = ls at hl ⊢
  have hl : lv_has ls 3 [(0, .ref (hT 0))] := hl
  refine lv_iconst (v := 0) hx hb dX9_skipBlanks_0 (by decide) ?_
  refine lv_istore_n hx hb dX9_skipBlanks_1 rfl hl (by decide) rfl (fun ls (hl : lv_has ls _ ([(1, .int 0), (0, .ref (hT 0))])) => ?_)
  have hl : lv_has _ _ ([(1, .int 0), (0, .ref (hT 0))]) := lv_sub hl [0, 1] rfl
  refine (fun (loop : ∀ (n9 : Nat) (iT_next_x2 : Int32) (l1_x2 : Int32) (H : Heap) (locs : List Loc) (ls : Array Slot), (0 ≤ iT_next_x2.toInt ∧ iT_next_x2.toInt ≤ 1282) → (0 ≤ l1_x2.toInt ∧ l1_x2.toInt ≤ 1) → (iT_next_x2.toInt ≤ iT_length.toInt) → (iT_next.toInt ≤ iT_next_x2.toInt) → (1282 - iT_next_x2.toInt < ((n9 : Nat) : Int)) → va_P (dC, dI) vwCl (WT hT aT kT fT_tape dT_tape nT_tape iT_length iT_fault iT_place iT_kind iT_at iT_number jT_name iT_next_x2) H → va_D A (WT hT aT kT fT_tape dT_tape nT_tape iT_length iT_fault iT_place iT_kind iT_at iT_number jT_name iT_next_x2) → va_S A s.heap H locs → lv_has ls 3 [(1, .int l1_x2), (0, .ref (hT 0))] → W p l e _ s m _ below meth c H locs 0 0 _ (F0 m 2 ls [])) => loop (1283) iT_next 0 _ _ _ (b_iT_next) (show 0 ≤ (0 : Int32).toInt ∧ (0 : Int32).toInt ≤ 1 from by decide) (show iT_next.toInt ≤ iT_length.toInt from by omega) (show iT_next.toInt ≤ iT_next.toInt from by omega) ((by have e9 : (iT_next).toInt = iT_next.toInt := rfl; omega)) hP hD hS hl) ?_
  intro n9
  induction n9 with
  | zero => intro iT_next_x2 l1_x2 H locs ls b_iT_next_x2 b_l1_x2 hnk hmo hf9; exact False.elim (by omega)
  | succ n9 ihx2 =>
    intro iT_next_x2 l1_x2 H locs ls b_iT_next_x2 b_l1_x2 hnk hmo hfx2 hP hD hS hl
    refine lv_aload_n hx hb dX9_skipBlanks_2 rfl (lv_at hl 1 rfl) ?_
    refine va_get (D := (dC, dI)) (ci := 9) (v := .int iT_next_x2) (C := RX9) (T := TX9) (N := 9) hx hb hts iwsMX9_skipBlanks_in9 hown hK hP 0 rfl rfl 8 (by decide) (hts _ hm_m_X9_skipBlanks_0) (fun _ h9 => h9) rfl dX9_skipBlanks_3 ?_
    refine lv_aload_n hx hb dX9_skipBlanks_6 rfl (lv_at hl 1 rfl) ?_
    refine va_get (D := (dC, dI)) (ci := 9) (v := .int iT_length) (C := RX9) (T := TX9) (N := 9) hx hb hts iwsMX9_skipBlanks_in9 hown hK hP 0 rfl rfl 1 (by decide) (hts (.fieldLink RX9 19 "OptimaWorks$Words" "length" "I") (by decide +kernel)) (fun _ h9 => h9) rfl dX9_skipBlanks_7 ?_
    refine lv_icmp_ge (tgt := 81) hx hb dX9_skipBlanks_10 (by decide) (fun c_10 => ?_) (fun c_10 => ?_)
    · have t_10 : iT_next_x2.toInt ≥ iT_length.toInt := toI_ge c_10 rfl rfl
      refine W.widen (k := 0) (n := 0) (by decide +kernel) (by decide +kernel) ?_
      exact W.vret hx hb hr (fun t9_ ht hW => ⟨⟨iT_next_x2, rfl, ⟨b_iT_next_x2, (by (try dsimp only); exact (hnk)), (by (try dsimp only); exact (hmo))⟩, by rw [ht]; exact hP, hD⟩, hS.F ht⟩) hS.2.2 dX9_skipBlanks_81
    · have t_10 : ¬ iT_next_x2.toInt ≥ iT_length.toInt := toI_nge c_10 rfl rfl
      refine lv_aload_n hx hb dX9_skipBlanks_13 rfl (lv_at hl 1 rfl) ?_
      refine va_get (D := (dC, dI)) (ci := 9) (v := .ref dT_tape) (C := RX9) (T := TX9) (N := 9) hx hb hts iwsMX9_skipBlanks_in9 hown hK hP 0 rfl rfl 0 (by decide) (hts (.fieldLink RX9 9 "OptimaWorks$Words" "tape" "[B") (by decide +kernel)) (fun _ h9 => h9) rfl dX9_skipBlanks_14 ?_
      refine lv_aload_n hx hb dX9_skipBlanks_17 rfl (lv_at hl 1 rfl) ?_
      refine va_get (D := (dC, dI)) (ci := 9) (v := .int iT_next_x2) (C := RX9) (T := TX9) (N := 9) hx hb hts iwsMX9_skipBlanks_in9 hown hK hP 0 rfl rfl 8 (by decide) (hts _ hm_m_X9_skipBlanks_0) (fun _ h9 => h9) rfl dX9_skipBlanks_18 ?_
      refine va_bald (cA := kT 0) (n := nT_tape) (f := fT_tape) hx hb hK hP 1 0 rfl rfl (vp_in_iff.mpr ⟨b_iT_next_x2.1, (by omega)⟩) dX9_skipBlanks_21 ?_
      refine lv_topi (fun v14 hv14 => ?_)
      have b_v14 : (-128) ≤ v14.toInt ∧ v14.toInt ≤ 127 := by rw [hv14]; exact b_fT_tape _
      clear hv14
      refine lv_istore_n hx hb dX9_skipBlanks_22 rfl hl (by decide) rfl (fun ls (hl : lv_has ls _ ([(2, .int v14), (1, .int l1_x2), (0, .ref (hT 0))])) => ?_)
      refine lv_iload_n hx hb dX9_skipBlanks_23 rfl (lv_at hl 0 rfl) ?_
      refine lv_bipush (v := 10) hx hb dX9_skipBlanks_24 (by decide) ?_
      refine lv_icmp_ne (tgt := 34) hx hb dX9_skipBlanks_26 (by decide) (fun c_26 => ?_) (fun c_26 => ?_)
      · have t_26 : v14.toInt ≠ 10 := toI_ne c_26 rfl (by decide : (10 : Int32).toInt = 10)
        refine lv_iload_n hx hb dX9_skipBlanks_34 rfl (lv_at hl 0 rfl) ?_
        refine lv_bipush (v := 35) hx hb dX9_skipBlanks_35 (by decide) ?_
        refine lv_icmp_ne (tgt := 45) hx hb dX9_skipBlanks_37 (by decide) (fun c_37 => ?_) (fun c_37 => ?_)
        · have t_37 : v14.toInt ≠ 35 := toI_ne c_37 rfl (by decide : (35 : Int32).toInt = 35)
          refine lv_iload_n hx hb dX9_skipBlanks_45 rfl (lv_at hl 1 rfl) ?_
          refine lv_if_ne (tgt := 68) hx hb dX9_skipBlanks_46 (by decide) (fun c_46 => ?_) (fun c_46 => ?_)
          · have t_46 : l1_x2.toInt ≠ 0 := toI_ne c_46 rfl (by decide : (0 : Int32).toInt = 0)
            refine lv_aload_n hx hb dX9_skipBlanks_68 rfl (lv_at hl 2 rfl) ?_
            refine lv_dup hx hb dX9_skipBlanks_69 rfl ?_
            refine va_get (D := (dC, dI)) (ci := 9) (v := .int iT_next_x2) (C := RX9) (T := TX9) (N := 9) hx hb hts iwsMX9_skipBlanks_in9 hown hK hP 0 rfl rfl 8 (by decide) (hts _ hm_m_X9_skipBlanks_0) (fun _ h9 => h9) rfl dX9_skipBlanks_70 ?_
            refine lv_iconst (v := 1) hx hb dX9_skipBlanks_73 (by decide) ?_
            refine lv_iadd hx hb dX9_skipBlanks_74 ?_
            refine lv_topi (fun y15 hy15 => ?_)
            obtain rfl : (iI (iT_next_x2.toInt + 1)) = y15 := (hy15.trans (iI_add2 (iI_of _) (by decide : (1 : Int32) = iI 1))).symm
            refine va_put (D := (dC, dI)) (ci := 9) (v := .int (iI (iT_next_x2.toInt + 1))) (ty := .int) (C := RX9) (T := TX9) (N := 9) hx hb hts iwsMX9_skipBlanks_in9 tyX9 tyX9_ok nmX9 hown hK hP hD hS 0 rfl rfl 8 (by decide) (hts _ hm_m_X9_skipBlanks_0) (fun _ h9 => h9) rfl (by decide +kernel) rfl rfl (Nat.le_of_ble_eq_true rfl) dX9_skipBlanks_75 (fun H locs hP hD hS => ?_)
            have hP : va_P (dC, dI) vwCl (WT hT aT kT fT_tape dT_tape nT_tape iT_length iT_fault iT_place iT_kind iT_at iT_number jT_name (iI (iT_next_x2.toInt + 1))) H := hP
            have hD := fz_sd hP (hD) rfl
            refine lv_goto (tgt := 2) hx hb dX9_skipBlanks_78 (by decide) ?_
            have hl : lv_has _ _ ([(1, .int l1_x2), (0, .ref (hT 0))]) := lv_sub hl [1, 2] rfl
            exact ihx2 (iI (iT_next_x2.toInt + 1)) l1_x2 _ _ _ (iI_rng (Int.le_trans (by decide) (Int.add_le_add (b_iT_next_x2.1) (Int.le_refl _))) (by omega) (by decide) (by decide)) (b_l1_x2) (show (iI (iT_next_x2.toInt + 1)).toInt ≤ iT_length.toInt from by (try rw [iI_t (by omega) (by omega)]); omega) (show iT_next.toInt ≤ (iI (iT_next_x2.toInt + 1)).toInt from by (try rw [iI_t (by omega) (by omega)]); omega) (by have e9 : ((iI (iT_next_x2.toInt + 1))).toInt = (iT_next_x2.toInt + 1) := (iI_t (Int.le_trans (by decide) (Int.add_le_add (b_iT_next_x2.1) (Int.le_refl _))) (Int.le_trans (Int.add_le_add (b_iT_next_x2.2) (Int.le_refl _)) (by decide))); omega) hP hD hS hl
          · have t_46 : l1_x2.toInt = 0 := toI_nne c_46 rfl (by decide : (0 : Int32).toInt = 0)
            refine lv_iload_n hx hb dX9_skipBlanks_49 rfl (lv_at hl 0 rfl) ?_
            refine lv_bipush (v := 9) hx hb dX9_skipBlanks_50 (by decide) ?_
            refine lv_icmp_eq (tgt := 68) hx hb dX9_skipBlanks_52 (by decide) (fun c_52 => ?_) (fun c_52 => ?_)
            · have t_52 : v14.toInt = 9 := toI_eq c_52 rfl (by decide : (9 : Int32).toInt = 9)
              refine lv_aload_n hx hb dX9_skipBlanks_68 rfl (lv_at hl 2 rfl) ?_
              refine lv_dup hx hb dX9_skipBlanks_69 rfl ?_
              refine va_get (D := (dC, dI)) (ci := 9) (v := .int iT_next_x2) (C := RX9) (T := TX9) (N := 9) hx hb hts iwsMX9_skipBlanks_in9 hown hK hP 0 rfl rfl 8 (by decide) (hts _ hm_m_X9_skipBlanks_0) (fun _ h9 => h9) rfl dX9_skipBlanks_70 ?_
              refine lv_iconst (v := 1) hx hb dX9_skipBlanks_73 (by decide) ?_
              refine lv_iadd hx hb dX9_skipBlanks_74 ?_
              refine lv_topi (fun y16 hy16 => ?_)
              obtain rfl : (iI (iT_next_x2.toInt + 1)) = y16 := (hy16.trans (iI_add2 (iI_of _) (by decide : (1 : Int32) = iI 1))).symm
              refine va_put (D := (dC, dI)) (ci := 9) (v := .int (iI (iT_next_x2.toInt + 1))) (ty := .int) (C := RX9) (T := TX9) (N := 9) hx hb hts iwsMX9_skipBlanks_in9 tyX9 tyX9_ok nmX9 hown hK hP hD hS 0 rfl rfl 8 (by decide) (hts _ hm_m_X9_skipBlanks_0) (fun _ h9 => h9) rfl (by decide +kernel) rfl rfl (Nat.le_of_ble_eq_true rfl) dX9_skipBlanks_75 (fun H locs hP hD hS => ?_)
              have hP : va_P (dC, dI) vwCl (WT hT aT kT fT_tape dT_tape nT_tape iT_length iT_fault iT_place iT_kind iT_at iT_number jT_name (iI (iT_next_x2.toInt + 1))) H := hP
              have hD := fz_sd hP (hD) rfl
              refine lv_goto (tgt := 2) hx hb dX9_skipBlanks_78 (by decide) ?_
              have hl : lv_has _ _ ([(1, .int l1_x2), (0, .ref (hT 0))]) := lv_sub hl [1, 2] rfl
              exact ihx2 (iI (iT_next_x2.toInt + 1)) l1_x2 _ _ _ (iI_rng (Int.le_trans (by decide) (Int.add_le_add (b_iT_next_x2.1) (Int.le_refl _))) (by omega) (by decide) (by decide)) (b_l1_x2) (show (iI (iT_next_x2.toInt + 1)).toInt ≤ iT_length.toInt from by (try rw [iI_t (by omega) (by omega)]); omega) (show iT_next.toInt ≤ (iI (iT_next_x2.toInt + 1)).toInt from by (try rw [iI_t (by omega) (by omega)]); omega) (by have e9 : ((iI (iT_next_x2.toInt + 1))).toInt = (iT_next_x2.toInt + 1) := (iI_t (Int.le_trans (by decide) (Int.add_le_add (b_iT_next_x2.1) (Int.le_refl _))) (Int.le_trans (Int.add_le_add (b_iT_next_x2.2) (Int.le_refl _)) (by decide))); omega) hP hD hS hl
            · have t_52 : ¬ v14.toInt = 9 := toI_neq c_52 rfl (by decide : (9 : Int32).toInt = 9)
              refine lv_iload_n hx hb dX9_skipBlanks_55 rfl (lv_at hl 0 rfl) ?_
              refine lv_bipush (v := 13) hx hb dX9_skipBlanks_56 (by decide) ?_
              refine lv_icmp_eq (tgt := 68) hx hb dX9_skipBlanks_58 (by decide) (fun c_58 => ?_) (fun c_58 => ?_)
              · have t_58 : v14.toInt = 13 := toI_eq c_58 rfl (by decide : (13 : Int32).toInt = 13)
                refine lv_aload_n hx hb dX9_skipBlanks_68 rfl (lv_at hl 2 rfl) ?_
                refine lv_dup hx hb dX9_skipBlanks_69 rfl ?_
                refine va_get (D := (dC, dI)) (ci := 9) (v := .int iT_next_x2) (C := RX9) (T := TX9) (N := 9) hx hb hts iwsMX9_skipBlanks_in9 hown hK hP 0 rfl rfl 8 (by decide) (hts _ hm_m_X9_skipBlanks_0) (fun _ h9 => h9) rfl dX9_skipBlanks_70 ?_
                refine lv_iconst (v := 1) hx hb dX9_skipBlanks_73 (by decide) ?_
                refine lv_iadd hx hb dX9_skipBlanks_74 ?_
                refine lv_topi (fun y17 hy17 => ?_)
                obtain rfl : (iI (iT_next_x2.toInt + 1)) = y17 := (hy17.trans (iI_add2 (iI_of _) (by decide : (1 : Int32) = iI 1))).symm
                refine va_put (D := (dC, dI)) (ci := 9) (v := .int (iI (iT_next_x2.toInt + 1))) (ty := .int) (C := RX9) (T := TX9) (N := 9) hx hb hts iwsMX9_skipBlanks_in9 tyX9 tyX9_ok nmX9 hown hK hP hD hS 0 rfl rfl 8 (by decide) (hts _ hm_m_X9_skipBlanks_0) (fun _ h9 => h9) rfl (by decide +kernel) rfl rfl (Nat.le_of_ble_eq_true rfl) dX9_skipBlanks_75 (fun H locs hP hD hS => ?_)
                have hP : va_P (dC, dI) vwCl (WT hT aT kT fT_tape dT_tape nT_tape iT_length iT_fault iT_place iT_kind iT_at iT_number jT_name (iI (iT_next_x2.toInt + 1))) H := hP
                have hD := fz_sd hP (hD) rfl
                refine lv_goto (tgt := 2) hx hb dX9_skipBlanks_78 (by decide) ?_
                have hl : lv_has _ _ ([(1, .int l1_x2), (0, .ref (hT 0))]) := lv_sub hl [1, 2] rfl
                exact ihx2 (iI (iT_next_x2.toInt + 1)) l1_x2 _ _ _ (iI_rng (Int.le_trans (by decide) (Int.add_le_add (b_iT_next_x2.1) (Int.le_refl _))) (by omega) (by decide) (by decide)) (b_l1_x2) (show (iI (iT_next_x2.toInt + 1)).toInt ≤ iT_length.toInt from by (try rw [iI_t (by omega) (by omega)]); omega) (show iT_next.toInt ≤ (iI (iT_next_x2.toInt + 1)).toInt from by (try rw [iI_t (by omega) (by omega)]); omega) (by have e9 : ((iI (iT_next_x2.toInt + 1))).toInt = (iT_next_x2.toInt + 1) := (iI_t (Int.le_trans (by decide) (Int.add_le_add (b_iT_next_x2.1) (Int.le_refl _))) (Int.le_trans (Int.add_le_add (b_iT_next_x2.2) (Int.le_refl _)) (by decide))); omega) hP hD hS hl
              · have t_58 : ¬ v14.toInt = 13 := toI_neq c_58 rfl (by decide : (13 : Int32).toInt = 13)
                refine lv_iload_n hx hb dX9_skipBlanks_61 rfl (lv_at hl 0 rfl) ?_
                refine lv_bipush (v := 32) hx hb dX9_skipBlanks_62 (by decide) ?_
                refine lv_icmp_eq (tgt := 68) hx hb dX9_skipBlanks_64 (by decide) (fun c_64 => ?_) (fun c_64 => ?_)
                · have t_64 : v14.toInt = 32 := toI_eq c_64 rfl (by decide : (32 : Int32).toInt = 32)
                  refine lv_aload_n hx hb dX9_skipBlanks_68 rfl (lv_at hl 2 rfl) ?_
                  refine lv_dup hx hb dX9_skipBlanks_69 rfl ?_
                  refine va_get (D := (dC, dI)) (ci := 9) (v := .int iT_next_x2) (C := RX9) (T := TX9) (N := 9) hx hb hts iwsMX9_skipBlanks_in9 hown hK hP 0 rfl rfl 8 (by decide) (hts _ hm_m_X9_skipBlanks_0) (fun _ h9 => h9) rfl dX9_skipBlanks_70 ?_
                  refine lv_iconst (v := 1) hx hb dX9_skipBlanks_73 (by decide) ?_
                  refine lv_iadd hx hb dX9_skipBlanks_74 ?_
                  refine lv_topi (fun y18 hy18 => ?_)
                  obtain rfl : (iI (iT_next_x2.toInt + 1)) = y18 := (hy18.trans (iI_add2 (iI_of _) (by decide : (1 : Int32) = iI 1))).symm
                  refine va_put (D := (dC, dI)) (ci := 9) (v := .int (iI (iT_next_x2.toInt + 1))) (ty := .int) (C := RX9) (T := TX9) (N := 9) hx hb hts iwsMX9_skipBlanks_in9 tyX9 tyX9_ok nmX9 hown hK hP hD hS 0 rfl rfl 8 (by decide) (hts _ hm_m_X9_skipBlanks_0) (fun _ h9 => h9) rfl (by decide +kernel) rfl rfl (Nat.le_of_ble_eq_true rfl) dX9_skipBlanks_75 (fun H locs hP hD hS => ?_)
                  have hP : va_P (dC, dI) vwCl (WT hT aT kT fT_tape dT_tape nT_tape iT_length iT_fault iT_place iT_kind iT_at iT_number jT_name (iI (iT_next_x2.toInt + 1))) H := hP
                  have hD := fz_sd hP (hD) rfl
                  refine lv_goto (tgt := 2) hx hb dX9_skipBlanks_78 (by decide) ?_
                  have hl : lv_has _ _ ([(1, .int l1_x2), (0, .ref (hT 0))]) := lv_sub hl [1, 2] rfl
                  exact ihx2 (iI (iT_next_x2.toInt + 1)) l1_x2 _ _ _ (iI_rng (Int.le_trans (by decide) (Int.add_le_add (b_iT_next_x2.1) (Int.le_refl _))) (by omega) (by decide) (by decide)) (b_l1_x2) (show (iI (iT_next_x2.toInt + 1)).toInt ≤ iT_length.toInt from by (try rw [iI_t (by omega) (by omega)]); omega) (show iT_next.toInt ≤ (iI (iT_next_x2.toInt + 1)).toInt from by (try rw [iI_t (by omega) (by omega)]); omega) (by have e9 : ((iI (iT_next_x2.toInt + 1))).toInt = (iT_next_x2.toInt + 1) := (iI_t (Int.le_trans (by decide) (Int.add_le_add (b_iT_next_x2.1) (Int.le_refl _))) (Int.le_trans (Int.add_le_add (b_iT_next_x2.2) (Int.le_refl _)) (by decide))); omega) hP hD hS hl
                · have t_64 : ¬ v14.toInt = 32 := toI_neq c_64 rfl (by decide : (32 : Int32).toInt = 32)
                  refine W.widen (k := 0) (n := 0) (by decide +kernel) (by decide +kernel) ?_
                  exact W.vret hx hb hr (fun t9_ ht hW => ⟨⟨iT_next_x2, rfl, ⟨b_iT_next_x2, (by (try dsimp only); exact (hnk)), (by (try dsimp only); exact (hmo))⟩, by rw [ht]; exact hP, hD⟩, hS.F ht⟩) hS.2.2 dX9_skipBlanks_67
        · have t_37 : v14.toInt = 35 := toI_nne c_37 rfl (by decide : (35 : Int32).toInt = 35)
          refine lv_iconst (v := 1) hx hb dX9_skipBlanks_40 (by decide) ?_
          refine lv_istore_n hx hb dX9_skipBlanks_41 rfl hl (by decide) rfl (fun ls (hl : lv_has ls _ ([(1, .int 1), (2, .int v14), (0, .ref (hT 0))])) => ?_)
          refine lv_goto (tgt := 68) hx hb dX9_skipBlanks_42 (by decide) ?_
          refine lv_aload_n hx hb dX9_skipBlanks_68 rfl (lv_at hl 2 rfl) ?_
          refine lv_dup hx hb dX9_skipBlanks_69 rfl ?_
          refine va_get (D := (dC, dI)) (ci := 9) (v := .int iT_next_x2) (C := RX9) (T := TX9) (N := 9) hx hb hts iwsMX9_skipBlanks_in9 hown hK hP 0 rfl rfl 8 (by decide) (hts _ hm_m_X9_skipBlanks_0) (fun _ h9 => h9) rfl dX9_skipBlanks_70 ?_
          refine lv_iconst (v := 1) hx hb dX9_skipBlanks_73 (by decide) ?_
          refine lv_iadd hx hb dX9_skipBlanks_74 ?_
          refine lv_topi (fun y19 hy19 => ?_)
          obtain rfl : (iI (iT_next_x2.toInt + 1)) = y19 := (hy19.trans (iI_add2 (iI_of _) (by decide : (1 : Int32) = iI 1))).symm
          refine va_put (D := (dC, dI)) (ci := 9) (v := .int (iI (iT_next_x2.toInt + 1))) (ty := .int) (C := RX9) (T := TX9) (N := 9) hx hb hts iwsMX9_skipBlanks_in9 tyX9 tyX9_ok nmX9 hown hK hP hD hS 0 rfl rfl 8 (by decide) (hts _ hm_m_X9_skipBlanks_0) (fun _ h9 => h9) rfl (by decide +kernel) rfl rfl (Nat.le_of_ble_eq_true rfl) dX9_skipBlanks_75 (fun H locs hP hD hS => ?_)
          have hP : va_P (dC, dI) vwCl (WT hT aT kT fT_tape dT_tape nT_tape iT_length iT_fault iT_place iT_kind iT_at iT_number jT_name (iI (iT_next_x2.toInt + 1))) H := hP
          have hD := fz_sd hP (hD) rfl
          refine lv_goto (tgt := 2) hx hb dX9_skipBlanks_78 (by decide) ?_
          have hl : lv_has _ _ ([(1, .int 1), (0, .ref (hT 0))]) := lv_sub hl [0, 2] rfl
          exact ihx2 (iI (iT_next_x2.toInt + 1)) 1 _ _ _ (iI_rng (Int.le_trans (by decide) (Int.add_le_add (b_iT_next_x2.1) (Int.le_refl _))) (by omega) (by decide) (by decide)) (show 0 ≤ (1 : Int32).toInt ∧ (1 : Int32).toInt ≤ 1 from by decide) (show (iI (iT_next_x2.toInt + 1)).toInt ≤ iT_length.toInt from by (try rw [iI_t (by omega) (by omega)]); omega) (show iT_next.toInt ≤ (iI (iT_next_x2.toInt + 1)).toInt from by (try rw [iI_t (by omega) (by omega)]); omega) (by have e9 : ((iI (iT_next_x2.toInt + 1))).toInt = (iT_next_x2.toInt + 1) := (iI_t (Int.le_trans (by decide) (Int.add_le_add (b_iT_next_x2.1) (Int.le_refl _))) (Int.le_trans (Int.add_le_add (b_iT_next_x2.2) (Int.le_refl _)) (by decide))); omega) hP hD hS hl
      · have t_26 : v14.toInt = 10 := toI_nne c_26 rfl (by decide : (10 : Int32).toInt = 10)
        refine lv_iconst (v := 0) hx hb dX9_skipBlanks_29 (by decide) ?_
        refine lv_istore_n hx hb dX9_skipBlanks_30 rfl hl (by decide) rfl (fun ls (hl : lv_has ls _ ([(1, .int 0), (2, .int v14), (0, .ref (hT 0))])) => ?_)
        refine lv_goto (tgt := 68) hx hb dX9_skipBlanks_31 (by decide) ?_
        refine lv_aload_n hx hb dX9_skipBlanks_68 rfl (lv_at hl 2 rfl) ?_
        refine lv_dup hx hb dX9_skipBlanks_69 rfl ?_
        refine va_get (D := (dC, dI)) (ci := 9) (v := .int iT_next_x2) (C := RX9) (T := TX9) (N := 9) hx hb hts iwsMX9_skipBlanks_in9 hown hK hP 0 rfl rfl 8 (by decide) (hts _ hm_m_X9_skipBlanks_0) (fun _ h9 => h9) rfl dX9_skipBlanks_70 ?_
        refine lv_iconst (v := 1) hx hb dX9_skipBlanks_73 (by decide) ?_
        refine lv_iadd hx hb dX9_skipBlanks_74 ?_
        refine lv_topi (fun y20 hy20 => ?_)
        obtain rfl : (iI (iT_next_x2.toInt + 1)) = y20 := (hy20.trans (iI_add2 (iI_of _) (by decide : (1 : Int32) = iI 1))).symm
        refine va_put (D := (dC, dI)) (ci := 9) (v := .int (iI (iT_next_x2.toInt + 1))) (ty := .int) (C := RX9) (T := TX9) (N := 9) hx hb hts iwsMX9_skipBlanks_in9 tyX9 tyX9_ok nmX9 hown hK hP hD hS 0 rfl rfl 8 (by decide) (hts _ hm_m_X9_skipBlanks_0) (fun _ h9 => h9) rfl (by decide +kernel) rfl rfl (Nat.le_of_ble_eq_true rfl) dX9_skipBlanks_75 (fun H locs hP hD hS => ?_)
        have hP : va_P (dC, dI) vwCl (WT hT aT kT fT_tape dT_tape nT_tape iT_length iT_fault iT_place iT_kind iT_at iT_number jT_name (iI (iT_next_x2.toInt + 1))) H := hP
        have hD := fz_sd hP (hD) rfl
        refine lv_goto (tgt := 2) hx hb dX9_skipBlanks_78 (by decide) ?_
        have hl : lv_has _ _ ([(1, .int 0), (0, .ref (hT 0))]) := lv_sub hl [0, 2] rfl
        exact ihx2 (iI (iT_next_x2.toInt + 1)) 0 _ _ _ (iI_rng (Int.le_trans (by decide) (Int.add_le_add (b_iT_next_x2.1) (Int.le_refl _))) (by omega) (by decide) (by decide)) (show 0 ≤ (0 : Int32).toInt ∧ (0 : Int32).toInt ≤ 1 from by decide) (show (iI (iT_next_x2.toInt + 1)).toInt ≤ iT_length.toInt from by (try rw [iI_t (by omega) (by omega)]); omega) (show iT_next.toInt ≤ (iI (iT_next_x2.toInt + 1)).toInt from by (try rw [iI_t (by omega) (by omega)]); omega) (by have e9 : ((iI (iT_next_x2.toInt + 1))).toInt = (iT_next_x2.toInt + 1) := (iI_t (Int.le_trans (by decide) (Int.add_le_add (b_iT_next_x2.1) (Int.le_refl _))) (Int.le_trans (Int.add_le_add (b_iT_next_x2.2) (Int.le_refl _)) (by decide))); omega) hP hD hS hl
theorem dX9_takeName_0 : decode cX9_takeName 0 = .ok (.aload_n 0, 1) := dk_42 (by decide +kernel)
theorem dX9_takeName_1 : decode cX9_takeName 1 = .ok (.lconst 0, 1) := dk_9 (by decide +kernel)
theorem dX9_takeName_2 : decode cX9_takeName 2 = .ok (.putfield 66, 3) := dk_181 (by decide +kernel)
theorem dX9_takeName_5 : decode cX9_takeName 5 = .ok (.iconst 1, 1) := dk_4 (by decide +kernel)
theorem dX9_takeName_6 : decode cX9_takeName 6 = .ok (.istore_n 1, 1) := dk_60 (by decide +kernel)
theorem dX9_takeName_7 : decode cX9_takeName 7 = .ok (.aload_n 0, 1) := dk_42 (by decide +kernel)
theorem dX9_takeName_8 : decode cX9_takeName 8 = .ok (.getfield 40, 3) := dk_180 (by decide +kernel)
theorem dX9_takeName_11 : decode cX9_takeName 11 = .ok (.istore_n 2, 1) := dk_61 (by decide +kernel)
theorem dX9_takeName_12 : decode cX9_takeName 12 = .ok (.iload_n 2, 1) := dk_28 (by decide +kernel)
theorem dX9_takeName_13 : decode cX9_takeName 13 = .ok (.aload_n 0, 1) := dk_42 (by decide +kernel)
theorem dX9_takeName_14 : decode cX9_takeName 14 = .ok (.getfield 19, 3) := dk_180 (by decide +kernel)
theorem dX9_takeName_17 : decode cX9_takeName 17 = .ok (.if_icmp .ge 90, 3) := dk_162 (by decide +kernel)
theorem dX9_takeName_20 : decode cX9_takeName 20 = .ok (.iload_n 1, 1) := dk_27 (by decide +kernel)
theorem dX9_takeName_21 : decode cX9_takeName 21 = .ok (.ifCond .eq 86, 3) := dk_153 (by decide +kernel)
theorem dX9_takeName_24 : decode cX9_takeName 24 = .ok (.aload_n 0, 1) := dk_42 (by decide +kernel)
theorem dX9_takeName_25 : decode cX9_takeName 25 = .ok (.getfield 9, 3) := dk_180 (by decide +kernel)
theorem dX9_takeName_28 : decode cX9_takeName 28 = .ok (.iload_n 2, 1) := dk_28 (by decide +kernel)
theorem dX9_takeName_29 : decode cX9_takeName 29 = .ok (.baload, 1) := dk_51 (by decide +kernel)
theorem dX9_takeName_30 : decode cX9_takeName 30 = .ok (.istore_n 3, 1) := dk_62 (by decide +kernel)
theorem dX9_takeName_31 : decode cX9_takeName 31 = .ok (.iload_n 3, 1) := dk_29 (by decide +kernel)
theorem dX9_takeName_32 : decode cX9_takeName 32 = .ok (.bipush 97, 2) := dk_16 (by decide +kernel)
theorem dX9_takeName_34 : decode cX9_takeName 34 = .ok (.if_icmp .lt 9, 3) := dk_161 (by decide +kernel)
theorem dX9_takeName_37 : decode cX9_takeName 37 = .ok (.iload_n 3, 1) := dk_29 (by decide +kernel)
theorem dX9_takeName_38 : decode cX9_takeName 38 = .ok (.bipush 122, 2) := dk_16 (by decide +kernel)
theorem dX9_takeName_40 : decode cX9_takeName 40 = .ok (.if_icmp .le 27, 3) := dk_164 (by decide +kernel)
theorem dX9_takeName_43 : decode cX9_takeName 43 = .ok (.iload_n 3, 1) := dk_29 (by decide +kernel)
theorem dX9_takeName_44 : decode cX9_takeName 44 = .ok (.bipush 65, 2) := dk_16 (by decide +kernel)
theorem dX9_takeName_46 : decode cX9_takeName 46 = .ok (.if_icmp .lt 9, 3) := dk_161 (by decide +kernel)
theorem dX9_takeName_49 : decode cX9_takeName 49 = .ok (.iload_n 3, 1) := dk_29 (by decide +kernel)
theorem dX9_takeName_50 : decode cX9_takeName 50 = .ok (.bipush 90, 2) := dk_16 (by decide +kernel)
theorem dX9_takeName_52 : decode cX9_takeName 52 = .ok (.if_icmp .le 15, 3) := dk_164 (by decide +kernel)
theorem dX9_takeName_55 : decode cX9_takeName 55 = .ok (.iload_n 3, 1) := dk_29 (by decide +kernel)
theorem dX9_takeName_56 : decode cX9_takeName 56 = .ok (.bipush 48, 2) := dk_16 (by decide +kernel)
theorem dX9_takeName_58 : decode cX9_takeName 58 = .ok (.if_icmp .lt 13, 3) := dk_161 (by decide +kernel)
theorem dX9_takeName_61 : decode cX9_takeName 61 = .ok (.iload_n 3, 1) := dk_29 (by decide +kernel)
theorem dX9_takeName_62 : decode cX9_takeName 62 = .ok (.bipush 57, 2) := dk_16 (by decide +kernel)
theorem dX9_takeName_64 : decode cX9_takeName 64 = .ok (.if_icmp .gt 7, 3) := dk_163 (by decide +kernel)
theorem dX9_takeName_67 : decode cX9_takeName 67 = .ok (.iconst 1, 1) := dk_4 (by decide +kernel)
theorem dX9_takeName_68 : decode cX9_takeName 68 = .ok (.goto 4, 3) := dk_167 (by decide +kernel)
theorem dX9_takeName_71 : decode cX9_takeName 71 = .ok (.iconst 0, 1) := dk_3 (by decide +kernel)
theorem dX9_takeName_72 : decode cX9_takeName 72 = .ok (.istore_n 1, 1) := dk_60 (by decide +kernel)
theorem dX9_takeName_73 : decode cX9_takeName 73 = .ok (.iload_n 1, 1) := dk_27 (by decide +kernel)
theorem dX9_takeName_74 : decode cX9_takeName 74 = .ok (.ifCond .eq 27, 3) := dk_153 (by decide +kernel)
theorem dX9_takeName_77 : decode cX9_takeName 77 = .ok (.aload_n 0, 1) := dk_42 (by decide +kernel)
theorem dX9_takeName_78 : decode cX9_takeName 78 = .ok (.aload_n 0, 1) := dk_42 (by decide +kernel)
theorem dX9_takeName_79 : decode cX9_takeName 79 = .ok (.getfield 66, 3) := dk_180 (by decide +kernel)
theorem dX9_takeName_82 : decode cX9_takeName 82 = .ok (.bipush 8, 2) := dk_16 (by decide +kernel)
theorem dX9_takeName_84 : decode cX9_takeName 84 = .ok (.lshl, 1) := dk_121 (by decide +kernel)
theorem dX9_takeName_85 : decode cX9_takeName 85 = .ok (.iload_n 3, 1) := dk_29 (by decide +kernel)
theorem dX9_takeName_86 : decode cX9_takeName 86 = .ok (.i2l, 1) := dk_133 (by decide +kernel)
theorem dX9_takeName_87 : decode cX9_takeName 87 = .ok (.lor, 1) := dk_129 (by decide +kernel)
theorem dX9_takeName_88 : decode cX9_takeName 88 = .ok (.putfield 66, 3) := dk_181 (by decide +kernel)
theorem dX9_takeName_91 : decode cX9_takeName 91 = .ok (.aload_n 0, 1) := dk_42 (by decide +kernel)
theorem dX9_takeName_92 : decode cX9_takeName 92 = .ok (.dup, 1) := dk_89 (by decide +kernel)
theorem dX9_takeName_93 : decode cX9_takeName 93 = .ok (.getfield 40, 3) := dk_180 (by decide +kernel)
theorem dX9_takeName_96 : decode cX9_takeName 96 = .ok (.iconst 1, 1) := dk_4 (by decide +kernel)
theorem dX9_takeName_97 : decode cX9_takeName 97 = .ok (.iadd, 1) := dk_96 (by decide +kernel)
theorem dX9_takeName_98 : decode cX9_takeName 98 = .ok (.putfield 40, 3) := dk_181 (by decide +kernel)
theorem dX9_takeName_101 : decode cX9_takeName 101 = .ok (.iinc 2 1, 3) := dk_132 (by decide +kernel)
theorem dX9_takeName_104 : decode cX9_takeName 104 = .ok (.goto (-92), 3) := dk_167 (by decide +kernel)
theorem dX9_takeName_107 : decode cX9_takeName 107 = .ok (.return_, 1) := dk_177 (by decide +kernel)
def wsMX9_takeName : List Cond := .code yX9_takeName cX9_takeName 4 none :: ([.fieldLink RX9 66 "OptimaWorks$Words" "name" "J", .fieldLink RX9 40 "OptimaWorks$Words" "next" "I", .fieldLink RX9 19 "OptimaWorks$Words" "length" "I", .fieldLink RX9 9 "OptimaWorks$Words" "tape" "[B"] ++ wsX90)
theorem iwsMX9_takeName_in9 : ∀ w ∈ wsX90, w ∈ wsMX9_takeName := fun _ h => List.mem_cons_of_mem _ (List.mem_append_right _ h)
theorem gdwsMX9_takeName : wsMX9_takeName.all goodWord = true := gdC rfl (gdA (by decide +kernel : ([.fieldLink RX9 66 "OptimaWorks$Words" "name" "J", .fieldLink RX9 40 "OptimaWorks$Words" "next" "I", .fieldLink RX9 19 "OptimaWorks$Words" "length" "I", .fieldLink RX9 9 "OptimaWorks$Words" "tape" "[B"] : List Cond).all goodWord = true) gdwsX90)
theorem hm_m_X9_takeName_0 : (.fieldLink RX9 66 "OptimaWorks$Words" "name" "J" : Cond) ∈ wsMX9_takeName := by decide +kernel
theorem hm_m_X9_takeName_1 : (.fieldLink RX9 40 "OptimaWorks$Words" "next" "I" : Cond) ∈ wsMX9_takeName := by decide +kernel
set_option maxHeartbeats 4000000 in
set_option maxRecDepth 100000 in
/-- a name -/
theorem m_X9_takeName (l : Launch) (dC : Nat → ClassId) (dI : Nat → Nat → Nat) (hT : Nat → Nat) (aT : Nat → Nat) (kT : Nat → ClassId) (fT_tape : Nat → Int32) (dT_tape : Nat) (nT_tape : Nat) (iT_length : Int32) (iT_fault : Int32) (iT_place : Int32) (iT_kind : Int32) (iT_at : Int32) (iT_number : Int32) (jT_name : Int64) (iT_next : Int32) (b_fT_tape : ∀ q : Nat, (-128) ≤ (fT_tape q).toInt ∧ (fT_tape q).toInt ≤ 127) (b_nT_tape : 64 ≤ nT_tape ∧ nT_tape ≤ 2560) (b_iT_length : 0 ≤ iT_length.toInt ∧ iT_length.toInt ≤ 1280) (b_iT_at : 0 ≤ iT_at.toInt ∧ iT_at.toInt ≤ 1282) (b_iT_number : 0 ≤ iT_number.toInt ∧ iT_number.toInt ≤ 999999) (b_iT_next : 0 ≤ iT_next.toInt ∧ iT_next.toInt ≤ 1282) (b_len : iT_length.toInt ≤ ((nT_tape : Nat) : Int)) (hnl : iT_next.toInt ≤ iT_length.toInt) (sz : Nat) : Met l yX9_takeName wsMX9_takeName ({ frames := 0, cells := 0, slots := 0, locals := 0 }) (va_Pc [.ref (hT 0)] (fun U => U.heap.size = sz ∧ va_P (dC, dI) vwCl (WT hT aT kT fT_tape dT_tape nT_tape iT_length iT_fault iT_place iT_kind iT_at iT_number jT_name iT_next) U.heap ∧ va_K (dC, dI) vwCl (tT kT) U ∧ va_D (fun _ => True) (WT hT aT kT fT_tape dT_tape nT_tape iT_length iT_fault iT_place iT_kind iT_at iT_number jT_name iT_next))) (va_Qv (fun (u : (Int64) × (Int32)) => (0 ≤ (u.2).toInt ∧ (u.2).toInt ≤ 1282) ∧ ((u.2).toInt ≤ iT_length.toInt) ∧ (iT_next.toInt ≤ (u.2).toInt)) (fun (u : (Int64) × (Int32)) t => va_P (dC, dI) vwCl (WT hT aT kT fT_tape dT_tape nT_tape iT_length iT_fault iT_place iT_kind iT_at iT_number (u.1) (u.2)) t.heap ∧ va_D (va_A (WT hT aT kT fT_tape dT_tape nT_tape iT_length iT_fault iT_place iT_kind iT_at iT_number jT_name iT_next) sz) (WT hT aT kT fT_tape dT_tape nT_tape iT_length iT_fault iT_place iT_kind iT_at iT_number (u.1) (u.2))) (va_A (WT hT aT kT fT_tape dT_tape nT_tape iT_length iT_fault iT_place iT_kind iT_at iT_number jT_name iT_next) sz)) 0 0 (va_A (WT hT aT kT fT_tape dT_tape nT_tape iT_length iT_fault iT_place iT_kind iT_at iT_number jT_name iT_next) sz) := by
  refine Met.ofW (cc := cX9_takeName) (maxL := 4) (ret := none) (by decide) rfl ?_
  intro p e s m args below meth c s₁ B hml hv
  obtain ⟨rfl, hsz, hP, hK, hD0⟩ := hv
  have hx := B.exec
  have hb := B.bytes
  have hr := B.returns
  have hts := atoms_spec (ws := wsMX9_takeName) B.pre
  have hown : s.vm.findClass RX9 = some m.cls := findClass_of_methodNamed B.named
  have hlocks := B.notSynchronized
  subst hsz
  have hD := hD0.self (sz := s.heap.size)
  generalize hAe : va_A (WT hT aT kT fT_tape dT_tape nT_tape iT_length iT_fault iT_place iT_kind iT_at iT_number jT_name iT_next) s.heap.size = A at hD ⊢
  have hA : ∀ q : Nat, s.heap.size ≤ q → A q := fun q h => by rw [← hAe]; exact Or.inr h
  have hS : va_S A s.heap s.heap [] := va_S.rf
  have hl := lv_entry ([.ref (hT 0)]) (n := 4) (Nat.le_of_ble_eq_true rfl)
  rw [lg_entry_eq]
  generalize (lg_sl ([.ref (hT 0)]) ++ List.replicate (4 - (lg_sl ([.ref (hT 0)])).length) Slot.unset).toArray = ls at hl ⊢
  have hl : lv_has ls 4 [(0, .ref (hT 0))] := hl
  refine lv_aload_n hx hb dX9_takeName_0 rfl (lv_at hl 0 rfl) ?_
  refine lv_lconst (v := 0) hx hb dX9_takeName_1 (by decide) ?_
  refine va_put (D := (dC, dI)) (ci := 9) (v := .long 0) (ty := .long) (C := RX9) (T := TX9) (N := 9) hx hb hts iwsMX9_takeName_in9 tyX9 tyX9_ok nmX9 hown hK hP hD hS 0 rfl rfl 7 (by decide) (hts _ hm_m_X9_takeName_0) (fun _ h9 => h9) rfl (by decide +kernel) rfl rfl (Nat.le_of_ble_eq_true rfl) dX9_takeName_2 (fun H locs hP hD hS => ?_)
  have hP : va_P (dC, dI) vwCl (WT hT aT kT fT_tape dT_tape nT_tape iT_length iT_fault iT_place iT_kind iT_at iT_number 0 iT_next) H := hP
  have hD := fz_sd hP (hD) rfl
  refine lv_iconst (v := 1) hx hb dX9_takeName_5 (by decide) ?_
  refine lv_istore_n hx hb dX9_takeName_6 rfl hl (by decide) rfl (fun ls (hl : lv_has ls _ ([(1, .int 1), (0, .ref (hT 0))])) => ?_)
  refine lv_aload_n hx hb dX9_takeName_7 rfl (lv_at hl 1 rfl) ?_
  refine va_get (D := (dC, dI)) (ci := 9) (v := .int iT_next) (C := RX9) (T := TX9) (N := 9) hx hb hts iwsMX9_takeName_in9 hown hK hP 0 rfl rfl 8 (by decide) (hts _ hm_m_X9_takeName_1) (fun _ h9 => h9) rfl dX9_takeName_8 ?_
  refine lv_istore_n hx hb dX9_takeName_11 rfl hl (by decide) rfl (fun ls (hl : lv_has ls _ ([(2, .int iT_next), (1, .int 1), (0, .ref (hT 0))])) => ?_)
  have hl : lv_has _ _ ([(2, .int iT_next), (1, .int 1), (0, .ref (hT 0))]) := lv_sub hl [0, 1, 2] rfl
  refine (fun (loop : ∀ (n9 : Nat) (jT_name_x12 : Int64) (iT_next_x12 : Int32) (l2_x12 : Int32) (l1_x12 : Int32) (H : Heap) (locs : List Loc) (ls : Array Slot), (0 ≤ iT_next_x12.toInt ∧ iT_next_x12.toInt ≤ 1282) → (0 ≤ l2_x12.toInt ∧ l2_x12.toInt ≤ 1282) → (0 ≤ l1_x12.toInt ∧ l1_x12.toInt ≤ 1) → (iT_next_x12.toInt ≤ l2_x12.toInt) → (iT_next_x12.toInt ≤ iT_length.toInt) → (iT_next.toInt ≤ iT_next_x12.toInt) → (1282 - l2_x12.toInt < ((n9 : Nat) : Int)) → va_P (dC, dI) vwCl (WT hT aT kT fT_tape dT_tape nT_tape iT_length iT_fault iT_place iT_kind iT_at iT_number jT_name_x12 iT_next_x12) H → va_D A (WT hT aT kT fT_tape dT_tape nT_tape iT_length iT_fault iT_place iT_kind iT_at iT_number jT_name_x12 iT_next_x12) → va_S A s.heap H locs → lv_has ls 4 [(2, .int l2_x12), (1, .int l1_x12), (0, .ref (hT 0))] → W p l e _ s m _ below meth c H locs 0 0 _ (F0 m 12 ls [])) => loop (1283) 0 iT_next iT_next 1 _ _ _ (b_iT_next) (b_iT_next) (show 0 ≤ (1 : Int32).toInt ∧ (1 : Int32).toInt ≤ 1 from by decide) (show iT_next.toInt ≤ iT_next.toInt from by omega) (show iT_next.toInt ≤ iT_length.toInt from by omega) (show iT_next.toInt ≤ iT_next.toInt from by omega) ((by have e9 : (iT_next).toInt = iT_next.toInt := rfl; omega)) hP hD hS hl) ?_
  intro n9
  induction n9 with
  | zero => intro jT_name_x12 iT_next_x12 l2_x12 l1_x12 H locs ls b_iT_next_x12 b_l2_x12 b_l1_x12 hni hnk hmo hf9; exact False.elim (by omega)
  | succ n9 ihx12 =>
    intro jT_name_x12 iT_next_x12 l2_x12 l1_x12 H locs ls b_iT_next_x12 b_l2_x12 b_l1_x12 hni hnk hmo hfx12 hP hD hS hl
    refine lv_iload_n hx hb dX9_takeName_12 rfl (lv_at hl 0 rfl) ?_
    refine lv_aload_n hx hb dX9_takeName_13 rfl (lv_at hl 2 rfl) ?_
    refine va_get (D := (dC, dI)) (ci := 9) (v := .int iT_length) (C := RX9) (T := TX9) (N := 9) hx hb hts iwsMX9_takeName_in9 hown hK hP 0 rfl rfl 1 (by decide) (hts (.fieldLink RX9 19 "OptimaWorks$Words" "length" "I") (by decide +kernel)) (fun _ h9 => h9) rfl dX9_takeName_14 ?_
    refine W.cut (pc := 107) (fun H locs ls stk =>  stk = [] ∧ va_P (dC, dI) vwCl (WT hT aT kT fT_tape dT_tape nT_tape iT_length iT_fault iT_place iT_kind iT_at iT_number jT_name_x12 iT_next_x12) H ∧ va_D A (WT hT aT kT fT_tape dT_tape nT_tape iT_length iT_fault iT_place iT_kind iT_at iT_number jT_name_x12 iT_next_x12) ∧ va_S A s.heap H locs ∧ lv_has ls 4 [(2, .int l2_x12), (1, .int l1_x12), (0, .ref (hT 0))]) (fun join15 => ?_) ?_
    · refine lv_icmp_ge (tgt := 107) hx hb dX9_takeName_17 (by decide) (fun c_17 => ?_) (fun c_17 => ?_)
      · have t_17 : l2_x12.toInt ≥ iT_length.toInt := toI_ge c_17 rfl rfl
        have hl : lv_has _ _ ([(2, .int l2_x12), (1, .int l1_x12), (0, .ref (hT 0))]) := lv_sub hl [0, 1, 2] rfl
        exact join15 _ _ _ _ ⟨rfl, hP, hD, hS, hl⟩
      · have t_17 : ¬ l2_x12.toInt ≥ iT_length.toInt := toI_nge c_17 rfl rfl
        refine lv_iload_n hx hb dX9_takeName_20 rfl (lv_at hl 1 rfl) ?_
        refine lv_if_eq (tgt := 107) hx hb dX9_takeName_21 (by decide) (fun c_21 => ?_) (fun c_21 => ?_)
        · have t_21 : l1_x12.toInt = 0 := toI_eq c_21 rfl (by decide : (0 : Int32).toInt = 0)
          have hl : lv_has _ _ ([(2, .int l2_x12), (1, .int l1_x12), (0, .ref (hT 0))]) := lv_sub hl [0, 1, 2] rfl
          exact join15 _ _ _ _ ⟨rfl, hP, hD, hS, hl⟩
        · have t_21 : ¬ l1_x12.toInt = 0 := toI_neq c_21 rfl (by decide : (0 : Int32).toInt = 0)
          refine lv_aload_n hx hb dX9_takeName_24 rfl (lv_at hl 2 rfl) ?_
          refine va_get (D := (dC, dI)) (ci := 9) (v := .ref dT_tape) (C := RX9) (T := TX9) (N := 9) hx hb hts iwsMX9_takeName_in9 hown hK hP 0 rfl rfl 0 (by decide) (hts (.fieldLink RX9 9 "OptimaWorks$Words" "tape" "[B") (by decide +kernel)) (fun _ h9 => h9) rfl dX9_takeName_25 ?_
          refine lv_iload_n hx hb dX9_takeName_28 rfl (lv_at hl 0 rfl) ?_
          refine va_bald (cA := kT 0) (n := nT_tape) (f := fT_tape) hx hb hK hP 1 0 rfl rfl (vp_in_iff.mpr ⟨b_l2_x12.1, (by omega)⟩) dX9_takeName_29 ?_
          refine lv_topi (fun v26 hv26 => ?_)
          have b_v26 : (-128) ≤ v26.toInt ∧ v26.toInt ≤ 127 := by rw [hv26]; exact b_fT_tape _
          clear hv26
          refine lv_istore_n hx hb dX9_takeName_30 rfl hl (by decide) rfl (fun ls (hl : lv_has ls _ ([(3, .int v26), (2, .int l2_x12), (1, .int l1_x12), (0, .ref (hT 0))])) => ?_)
          refine lv_iload_n hx hb dX9_takeName_31 rfl (lv_at hl 0 rfl) ?_
          refine lv_bipush (v := 97) hx hb dX9_takeName_32 (by decide) ?_
          refine W.cut (pc := 72) (fun H locs ls stk => ∃ (k0_j16 : Int32), (0 ≤ k0_j16.toInt ∧ k0_j16.toInt ≤ 1) ∧  stk = [.int k0_j16] ∧ va_P (dC, dI) vwCl (WT hT aT kT fT_tape dT_tape nT_tape iT_length iT_fault iT_place iT_kind iT_at iT_number jT_name_x12 iT_next_x12) H ∧ va_D A (WT hT aT kT fT_tape dT_tape nT_tape iT_length iT_fault iT_place iT_kind iT_at iT_number jT_name_x12 iT_next_x12) ∧ va_S A s.heap H locs ∧ lv_has ls 4 [(3, .int v26), (2, .int l2_x12), (1, .int l1_x12), (0, .ref (hT 0))]) (fun join16 => ?_) ?_
          · refine lv_icmp_lt (tgt := 43) hx hb dX9_takeName_34 (by decide) (fun c_34 => ?_) (fun c_34 => ?_)
            · have t_34 : v26.toInt < 97 := toI_lt c_34 rfl (by decide : (97 : Int32).toInt = 97)
              refine lv_iload_n hx hb dX9_takeName_43 rfl (lv_at hl 0 rfl) ?_
              refine lv_bipush (v := 65) hx hb dX9_takeName_44 (by decide) ?_
              refine lv_icmp_lt (tgt := 55) hx hb dX9_takeName_46 (by decide) (fun c_46 => ?_) (fun c_46 => ?_)
              · have t_46 : v26.toInt < 65 := toI_lt c_46 rfl (by decide : (65 : Int32).toInt = 65)
                refine lv_iload_n hx hb dX9_takeName_55 rfl (lv_at hl 0 rfl) ?_
                refine lv_bipush (v := 48) hx hb dX9_takeName_56 (by decide) ?_
                refine lv_icmp_lt (tgt := 71) hx hb dX9_takeName_58 (by decide) (fun c_58 => ?_) (fun c_58 => ?_)
                · have t_58 : v26.toInt < 48 := toI_lt c_58 rfl (by decide : (48 : Int32).toInt = 48)
                  refine lv_iconst (v := 0) hx hb dX9_takeName_71 (by decide) ?_
                  have hl : lv_has _ _ ([(3, .int v26), (2, .int l2_x12), (1, .int l1_x12), (0, .ref (hT 0))]) := lv_sub hl [0, 1, 2, 3] rfl
                  exact join16 _ _ _ _ ⟨0, (show 0 ≤ (0 : Int32).toInt ∧ (0 : Int32).toInt ≤ 1 from by decide), rfl, hP, hD, hS, hl⟩
                · have t_58 : ¬ v26.toInt < 48 := toI_nlt c_58 rfl (by decide : (48 : Int32).toInt = 48)
                  refine lv_iload_n hx hb dX9_takeName_61 rfl (lv_at hl 0 rfl) ?_
                  refine lv_bipush (v := 57) hx hb dX9_takeName_62 (by decide) ?_
                  refine lv_icmp_gt (tgt := 71) hx hb dX9_takeName_64 (by decide) (fun c_64 => ?_) (fun c_64 => ?_)
                  · have t_64 : v26.toInt > 57 := toI_gt c_64 rfl (by decide : (57 : Int32).toInt = 57)
                    refine lv_iconst (v := 0) hx hb dX9_takeName_71 (by decide) ?_
                    have hl : lv_has _ _ ([(3, .int v26), (2, .int l2_x12), (1, .int l1_x12), (0, .ref (hT 0))]) := lv_sub hl [0, 1, 2, 3] rfl
                    exact join16 _ _ _ _ ⟨0, (show 0 ≤ (0 : Int32).toInt ∧ (0 : Int32).toInt ≤ 1 from by decide), rfl, hP, hD, hS, hl⟩
                  · have t_64 : ¬ v26.toInt > 57 := toI_ngt c_64 rfl (by decide : (57 : Int32).toInt = 57)
                    refine lv_iconst (v := 1) hx hb dX9_takeName_67 (by decide) ?_
                    refine lv_goto (tgt := 72) hx hb dX9_takeName_68 (by decide) ?_
                    have hl : lv_has _ _ ([(3, .int v26), (2, .int l2_x12), (1, .int l1_x12), (0, .ref (hT 0))]) := lv_sub hl [0, 1, 2, 3] rfl
                    exact join16 _ _ _ _ ⟨1, (show 0 ≤ (1 : Int32).toInt ∧ (1 : Int32).toInt ≤ 1 from by decide), rfl, hP, hD, hS, hl⟩
              · have t_46 : ¬ v26.toInt < 65 := toI_nlt c_46 rfl (by decide : (65 : Int32).toInt = 65)
                refine lv_iload_n hx hb dX9_takeName_49 rfl (lv_at hl 0 rfl) ?_
                refine lv_bipush (v := 90) hx hb dX9_takeName_50 (by decide) ?_
                refine lv_icmp_le (tgt := 67) hx hb dX9_takeName_52 (by decide) (fun c_52 => ?_) (fun c_52 => ?_)
                · have t_52 : v26.toInt ≤ 90 := toI_le c_52 rfl (by decide : (90 : Int32).toInt = 90)
                  refine lv_iconst (v := 1) hx hb dX9_takeName_67 (by decide) ?_
                  refine lv_goto (tgt := 72) hx hb dX9_takeName_68 (by decide) ?_
                  have hl : lv_has _ _ ([(3, .int v26), (2, .int l2_x12), (1, .int l1_x12), (0, .ref (hT 0))]) := lv_sub hl [0, 1, 2, 3] rfl
                  exact join16 _ _ _ _ ⟨1, (show 0 ≤ (1 : Int32).toInt ∧ (1 : Int32).toInt ≤ 1 from by decide), rfl, hP, hD, hS, hl⟩
                · have t_52 : ¬ v26.toInt ≤ 90 := toI_nle c_52 rfl (by decide : (90 : Int32).toInt = 90)
                  refine lv_iload_n hx hb dX9_takeName_55 rfl (lv_at hl 0 rfl) ?_
                  refine lv_bipush (v := 48) hx hb dX9_takeName_56 (by decide) ?_
                  refine lv_icmp_lt (tgt := 71) hx hb dX9_takeName_58 (by decide) (fun c_58 => ?_) (fun c_58 => ?_)
                  · have t_58 : v26.toInt < 48 := toI_lt c_58 rfl (by decide : (48 : Int32).toInt = 48)
                    refine lv_iconst (v := 0) hx hb dX9_takeName_71 (by decide) ?_
                    have hl : lv_has _ _ ([(3, .int v26), (2, .int l2_x12), (1, .int l1_x12), (0, .ref (hT 0))]) := lv_sub hl [0, 1, 2, 3] rfl
                    exact join16 _ _ _ _ ⟨0, (show 0 ≤ (0 : Int32).toInt ∧ (0 : Int32).toInt ≤ 1 from by decide), rfl, hP, hD, hS, hl⟩
                  · have t_58 : ¬ v26.toInt < 48 := toI_nlt c_58 rfl (by decide : (48 : Int32).toInt = 48)
                    refine lv_iload_n hx hb dX9_takeName_61 rfl (lv_at hl 0 rfl) ?_
                    refine lv_bipush (v := 57) hx hb dX9_takeName_62 (by decide) ?_
                    refine lv_icmp_gt (tgt := 71) hx hb dX9_takeName_64 (by decide) (fun c_64 => ?_) (fun c_64 => ?_)
                    · have t_64 : v26.toInt > 57 := toI_gt c_64 rfl (by decide : (57 : Int32).toInt = 57)
                      refine lv_iconst (v := 0) hx hb dX9_takeName_71 (by decide) ?_
                      have hl : lv_has _ _ ([(3, .int v26), (2, .int l2_x12), (1, .int l1_x12), (0, .ref (hT 0))]) := lv_sub hl [0, 1, 2, 3] rfl
                      exact join16 _ _ _ _ ⟨0, (show 0 ≤ (0 : Int32).toInt ∧ (0 : Int32).toInt ≤ 1 from by decide), rfl, hP, hD, hS, hl⟩
                    · have t_64 : ¬ v26.toInt > 57 := toI_ngt c_64 rfl (by decide : (57 : Int32).toInt = 57)
                      refine lv_iconst (v := 1) hx hb dX9_takeName_67 (by decide) ?_
                      refine lv_goto (tgt := 72) hx hb dX9_takeName_68 (by decide) ?_
                      have hl : lv_has _ _ ([(3, .int v26), (2, .int l2_x12), (1, .int l1_x12), (0, .ref (hT 0))]) := lv_sub hl [0, 1, 2, 3] rfl
                      exact join16 _ _ _ _ ⟨1, (show 0 ≤ (1 : Int32).toInt ∧ (1 : Int32).toInt ≤ 1 from by decide), rfl, hP, hD, hS, hl⟩
            · have t_34 : ¬ v26.toInt < 97 := toI_nlt c_34 rfl (by decide : (97 : Int32).toInt = 97)
              refine lv_iload_n hx hb dX9_takeName_37 rfl (lv_at hl 0 rfl) ?_
              refine lv_bipush (v := 122) hx hb dX9_takeName_38 (by decide) ?_
              refine lv_icmp_le (tgt := 67) hx hb dX9_takeName_40 (by decide) (fun c_40 => ?_) (fun c_40 => ?_)
              · have t_40 : v26.toInt ≤ 122 := toI_le c_40 rfl (by decide : (122 : Int32).toInt = 122)
                refine lv_iconst (v := 1) hx hb dX9_takeName_67 (by decide) ?_
                refine lv_goto (tgt := 72) hx hb dX9_takeName_68 (by decide) ?_
                have hl : lv_has _ _ ([(3, .int v26), (2, .int l2_x12), (1, .int l1_x12), (0, .ref (hT 0))]) := lv_sub hl [0, 1, 2, 3] rfl
                exact join16 _ _ _ _ ⟨1, (show 0 ≤ (1 : Int32).toInt ∧ (1 : Int32).toInt ≤ 1 from by decide), rfl, hP, hD, hS, hl⟩
              · have t_40 : ¬ v26.toInt ≤ 122 := toI_nle c_40 rfl (by decide : (122 : Int32).toInt = 122)
                refine lv_iload_n hx hb dX9_takeName_43 rfl (lv_at hl 0 rfl) ?_
                refine lv_bipush (v := 65) hx hb dX9_takeName_44 (by decide) ?_
                refine lv_icmp_lt (tgt := 55) hx hb dX9_takeName_46 (by decide) (fun c_46 => ?_) (fun c_46 => ?_)
                · have t_46 : v26.toInt < 65 := toI_lt c_46 rfl (by decide : (65 : Int32).toInt = 65)
                  refine lv_iload_n hx hb dX9_takeName_55 rfl (lv_at hl 0 rfl) ?_
                  refine lv_bipush (v := 48) hx hb dX9_takeName_56 (by decide) ?_
                  refine lv_icmp_lt (tgt := 71) hx hb dX9_takeName_58 (by decide) (fun c_58 => ?_) (fun c_58 => ?_)
                  · have t_58 : v26.toInt < 48 := toI_lt c_58 rfl (by decide : (48 : Int32).toInt = 48)
                    refine lv_iconst (v := 0) hx hb dX9_takeName_71 (by decide) ?_
                    have hl : lv_has _ _ ([(3, .int v26), (2, .int l2_x12), (1, .int l1_x12), (0, .ref (hT 0))]) := lv_sub hl [0, 1, 2, 3] rfl
                    exact join16 _ _ _ _ ⟨0, (show 0 ≤ (0 : Int32).toInt ∧ (0 : Int32).toInt ≤ 1 from by decide), rfl, hP, hD, hS, hl⟩
                  · have t_58 : ¬ v26.toInt < 48 := toI_nlt c_58 rfl (by decide : (48 : Int32).toInt = 48)
                    refine lv_iload_n hx hb dX9_takeName_61 rfl (lv_at hl 0 rfl) ?_
                    refine lv_bipush (v := 57) hx hb dX9_takeName_62 (by decide) ?_
                    refine lv_icmp_gt (tgt := 71) hx hb dX9_takeName_64 (by decide) (fun c_64 => ?_) (fun c_64 => ?_)
                    · have t_64 : v26.toInt > 57 := toI_gt c_64 rfl (by decide : (57 : Int32).toInt = 57)
                      refine lv_iconst (v := 0) hx hb dX9_takeName_71 (by decide) ?_
                      have hl : lv_has _ _ ([(3, .int v26), (2, .int l2_x12), (1, .int l1_x12), (0, .ref (hT 0))]) := lv_sub hl [0, 1, 2, 3] rfl
                      exact join16 _ _ _ _ ⟨0, (show 0 ≤ (0 : Int32).toInt ∧ (0 : Int32).toInt ≤ 1 from by decide), rfl, hP, hD, hS, hl⟩
                    · have t_64 : ¬ v26.toInt > 57 := toI_ngt c_64 rfl (by decide : (57 : Int32).toInt = 57)
                      refine lv_iconst (v := 1) hx hb dX9_takeName_67 (by decide) ?_
                      refine lv_goto (tgt := 72) hx hb dX9_takeName_68 (by decide) ?_
                      have hl : lv_has _ _ ([(3, .int v26), (2, .int l2_x12), (1, .int l1_x12), (0, .ref (hT 0))]) := lv_sub hl [0, 1, 2, 3] rfl
                      exact join16 _ _ _ _ ⟨1, (show 0 ≤ (1 : Int32).toInt ∧ (1 : Int32).toInt ≤ 1 from by decide), rfl, hP, hD, hS, hl⟩
                · have t_46 : ¬ v26.toInt < 65 := toI_nlt c_46 rfl (by decide : (65 : Int32).toInt = 65)
                  refine lv_iload_n hx hb dX9_takeName_49 rfl (lv_at hl 0 rfl) ?_
                  refine lv_bipush (v := 90) hx hb dX9_takeName_50 (by decide) ?_
                  refine lv_icmp_le (tgt := 67) hx hb dX9_takeName_52 (by decide) (fun c_52 => ?_) (fun c_52 => ?_)
                  · have t_52 : v26.toInt ≤ 90 := toI_le c_52 rfl (by decide : (90 : Int32).toInt = 90)
                    refine lv_iconst (v := 1) hx hb dX9_takeName_67 (by decide) ?_
                    refine lv_goto (tgt := 72) hx hb dX9_takeName_68 (by decide) ?_
                    have hl : lv_has _ _ ([(3, .int v26), (2, .int l2_x12), (1, .int l1_x12), (0, .ref (hT 0))]) := lv_sub hl [0, 1, 2, 3] rfl
                    exact join16 _ _ _ _ ⟨1, (show 0 ≤ (1 : Int32).toInt ∧ (1 : Int32).toInt ≤ 1 from by decide), rfl, hP, hD, hS, hl⟩
                  · have t_52 : ¬ v26.toInt ≤ 90 := toI_nle c_52 rfl (by decide : (90 : Int32).toInt = 90)
                    refine lv_iload_n hx hb dX9_takeName_55 rfl (lv_at hl 0 rfl) ?_
                    refine lv_bipush (v := 48) hx hb dX9_takeName_56 (by decide) ?_
                    refine lv_icmp_lt (tgt := 71) hx hb dX9_takeName_58 (by decide) (fun c_58 => ?_) (fun c_58 => ?_)
                    · have t_58 : v26.toInt < 48 := toI_lt c_58 rfl (by decide : (48 : Int32).toInt = 48)
                      refine lv_iconst (v := 0) hx hb dX9_takeName_71 (by decide) ?_
                      have hl : lv_has _ _ ([(3, .int v26), (2, .int l2_x12), (1, .int l1_x12), (0, .ref (hT 0))]) := lv_sub hl [0, 1, 2, 3] rfl
                      exact join16 _ _ _ _ ⟨0, (show 0 ≤ (0 : Int32).toInt ∧ (0 : Int32).toInt ≤ 1 from by decide), rfl, hP, hD, hS, hl⟩
                    · have t_58 : ¬ v26.toInt < 48 := toI_nlt c_58 rfl (by decide : (48 : Int32).toInt = 48)
                      refine lv_iload_n hx hb dX9_takeName_61 rfl (lv_at hl 0 rfl) ?_
                      refine lv_bipush (v := 57) hx hb dX9_takeName_62 (by decide) ?_
                      refine lv_icmp_gt (tgt := 71) hx hb dX9_takeName_64 (by decide) (fun c_64 => ?_) (fun c_64 => ?_)
                      · have t_64 : v26.toInt > 57 := toI_gt c_64 rfl (by decide : (57 : Int32).toInt = 57)
                        refine lv_iconst (v := 0) hx hb dX9_takeName_71 (by decide) ?_
                        have hl : lv_has _ _ ([(3, .int v26), (2, .int l2_x12), (1, .int l1_x12), (0, .ref (hT 0))]) := lv_sub hl [0, 1, 2, 3] rfl
                        exact join16 _ _ _ _ ⟨0, (show 0 ≤ (0 : Int32).toInt ∧ (0 : Int32).toInt ≤ 1 from by decide), rfl, hP, hD, hS, hl⟩
                      · have t_64 : ¬ v26.toInt > 57 := toI_ngt c_64 rfl (by decide : (57 : Int32).toInt = 57)
                        refine lv_iconst (v := 1) hx hb dX9_takeName_67 (by decide) ?_
                        refine lv_goto (tgt := 72) hx hb dX9_takeName_68 (by decide) ?_
                        have hl : lv_has _ _ ([(3, .int v26), (2, .int l2_x12), (1, .int l1_x12), (0, .ref (hT 0))]) := lv_sub hl [0, 1, 2, 3] rfl
                        exact join16 _ _ _ _ ⟨1, (show 0 ≤ (1 : Int32).toInt ∧ (1 : Int32).toInt ≤ 1 from by decide), rfl, hP, hD, hS, hl⟩
          · rintro H locs ls stk ⟨k0_j16, b_k0_j16, rfl, hP, hD, hS, hl⟩
            refine lv_istore_n hx hb dX9_takeName_72 rfl hl (by decide) rfl (fun ls (hl : lv_has ls _ ([(1, .int k0_j16), (3, .int v26), (2, .int l2_x12), (0, .ref (hT 0))])) => ?_)
            refine lv_iload_n hx hb dX9_takeName_73 rfl (lv_at hl 0 rfl) ?_
            refine lv_if_eq (tgt := 101) hx hb dX9_takeName_74 (by decide) (fun c_74 => ?_) (fun c_74 => ?_)
            · have t_74 : k0_j16.toInt = 0 := toI_eq c_74 rfl (by decide : (0 : Int32).toInt = 0)
              refine lv_iinc (v := (iI (l2_x12.toInt + 1))) hx hb dX9_takeName_101 hl (k := 2) rfl (iI_add2 (iI_of _) (by decide : (1 : Int32) = iI 1)) (by decide) rfl (fun ls (hl : lv_has ls _ ([(2, .int (iI (l2_x12.toInt + 1))), (1, .int k0_j16), (3, .int v26), (0, .ref (hT 0))])) => ?_)
              refine lv_goto (tgt := 12) hx hb dX9_takeName_104 (by decide) ?_
              have hl : lv_has _ _ ([(2, .int (iI (l2_x12.toInt + 1))), (1, .int k0_j16), (0, .ref (hT 0))]) := lv_sub hl [0, 1, 3] rfl
              exact ihx12 jT_name_x12 iT_next_x12 (iI (l2_x12.toInt + 1)) k0_j16 _ _ _ (b_iT_next_x12) (iI_rng (Int.le_trans (by decide) (Int.add_le_add (b_l2_x12.1) (Int.le_refl _))) (by omega) (by decide) (by decide)) (b_k0_j16) (show iT_next_x12.toInt ≤ (iI (l2_x12.toInt + 1)).toInt from by (try rw [iI_t (E := iT_next_x12.toInt + 1) (by omega) (by omega)]); rw [iI_t (by omega) (by omega)]; omega) (show iT_next_x12.toInt ≤ iT_length.toInt from by (try rw [iI_t (by omega) (by omega)]); omega) (show iT_next.toInt ≤ iT_next_x12.toInt from by (try rw [iI_t (by omega) (by omega)]); omega) (by have e9 : ((iI (l2_x12.toInt + 1))).toInt = (l2_x12.toInt + 1) := (iI_t (Int.le_trans (by decide) (Int.add_le_add (b_l2_x12.1) (Int.le_refl _))) (Int.le_trans (Int.add_le_add (b_l2_x12.2) (Int.le_refl _)) (by decide))); omega) hP hD hS hl
            · have t_74 : ¬ k0_j16.toInt = 0 := toI_neq c_74 rfl (by decide : (0 : Int32).toInt = 0)
              refine lv_aload_n hx hb dX9_takeName_77 rfl (lv_at hl 3 rfl) ?_
              refine lv_aload_n hx hb dX9_takeName_78 rfl (lv_at hl 3 rfl) ?_
              refine va_get (D := (dC, dI)) (ci := 9) (v := .long jT_name_x12) (C := RX9) (T := TX9) (N := 9) hx hb hts iwsMX9_takeName_in9 hown hK hP 0 rfl rfl 7 (by decide) (hts _ hm_m_X9_takeName_0) (fun _ h9 => h9) rfl dX9_takeName_79 ?_
              refine lv_bipush (v := 8) hx hb dX9_takeName_82 (by decide) ?_
              refine lv_lshl hx hb dX9_takeName_84 rfl ?_
              refine lv_topl (fun v27 hv27 => ?_)
              clear hv27
              refine lv_iload_n hx hb dX9_takeName_85 rfl (lv_at hl 1 rfl) ?_
              refine lv_i2l hx hb dX9_takeName_86 rfl ?_
              refine lv_topl (fun v28 hv28 => ?_)
              clear hv28
              refine lv_lor hx hb dX9_takeName_87 ?_
              refine lv_topl (fun v29 hv29 => ?_)
              clear hv29
              refine va_put (D := (dC, dI)) (ci := 9) (v := .long v29) (ty := .long) (C := RX9) (T := TX9) (N := 9) hx hb hts iwsMX9_takeName_in9 tyX9 tyX9_ok nmX9 hown hK hP hD hS 0 rfl rfl 7 (by decide) (hts _ hm_m_X9_takeName_0) (fun _ h9 => h9) rfl (by decide +kernel) rfl rfl (Nat.le_of_ble_eq_true rfl) dX9_takeName_88 (fun H locs hP hD hS => ?_)
              have hP : va_P (dC, dI) vwCl (WT hT aT kT fT_tape dT_tape nT_tape iT_length iT_fault iT_place iT_kind iT_at iT_number v29 iT_next_x12) H := hP
              have hD := fz_sd hP (hD) rfl
              refine lv_aload_n hx hb dX9_takeName_91 rfl (lv_at hl 3 rfl) ?_
              refine lv_dup hx hb dX9_takeName_92 rfl ?_
              refine va_get (D := (dC, dI)) (ci := 9) (v := .int iT_next_x12) (C := RX9) (T := TX9) (N := 9) hx hb hts iwsMX9_takeName_in9 hown hK hP 0 rfl rfl 8 (by decide) (hts _ hm_m_X9_takeName_1) (fun _ h9 => h9) rfl dX9_takeName_93 ?_
              refine lv_iconst (v := 1) hx hb dX9_takeName_96 (by decide) ?_
              refine lv_iadd hx hb dX9_takeName_97 ?_
              refine lv_topi (fun y30 hy30 => ?_)
              obtain rfl : (iI (iT_next_x12.toInt + 1)) = y30 := (hy30.trans (iI_add2 (iI_of _) (by decide : (1 : Int32) = iI 1))).symm
              refine va_put (D := (dC, dI)) (ci := 9) (v := .int (iI (iT_next_x12.toInt + 1))) (ty := .int) (C := RX9) (T := TX9) (N := 9) hx hb hts iwsMX9_takeName_in9 tyX9 tyX9_ok nmX9 hown hK hP hD hS 0 rfl rfl 8 (by decide) (hts _ hm_m_X9_takeName_1) (fun _ h9 => h9) rfl (by decide +kernel) rfl rfl (Nat.le_of_ble_eq_true rfl) dX9_takeName_98 (fun H locs hP hD hS => ?_)
              have hP : va_P (dC, dI) vwCl (WT hT aT kT fT_tape dT_tape nT_tape iT_length iT_fault iT_place iT_kind iT_at iT_number v29 (iI (iT_next_x12.toInt + 1))) H := hP
              have hD := fz_sd hP (hD) rfl
              refine lv_iinc (v := (iI (l2_x12.toInt + 1))) hx hb dX9_takeName_101 hl (k := 2) rfl (iI_add2 (iI_of _) (by decide : (1 : Int32) = iI 1)) (by decide) rfl (fun ls (hl : lv_has ls _ ([(2, .int (iI (l2_x12.toInt + 1))), (1, .int k0_j16), (3, .int v26), (0, .ref (hT 0))])) => ?_)
              refine lv_goto (tgt := 12) hx hb dX9_takeName_104 (by decide) ?_
              have hl : lv_has _ _ ([(2, .int (iI (l2_x12.toInt + 1))), (1, .int k0_j16), (0, .ref (hT 0))]) := lv_sub hl [0, 1, 3] rfl
              exact ihx12 v29 (iI (iT_next_x12.toInt + 1)) (iI (l2_x12.toInt + 1)) k0_j16 _ _ _ (iI_rng (Int.le_trans (by decide) (Int.add_le_add (b_iT_next_x12.1) (Int.le_refl _))) (by omega) (by decide) (by decide)) (iI_rng (Int.le_trans (by decide) (Int.add_le_add (b_l2_x12.1) (Int.le_refl _))) (by omega) (by decide) (by decide)) (b_k0_j16) (show (iI (iT_next_x12.toInt + 1)).toInt ≤ (iI (l2_x12.toInt + 1)).toInt from by (try rw [iI_t (E := iT_next_x12.toInt + 1) (by omega) (by omega)]); rw [iI_t (by omega) (by omega)]; omega) (show (iI (iT_next_x12.toInt + 1)).toInt ≤ iT_length.toInt from by (try rw [iI_t (by omega) (by omega)]); omega) (show iT_next.toInt ≤ (iI (iT_next_x12.toInt + 1)).toInt from by (try rw [iI_t (by omega) (by omega)]); omega) (by have e9 : ((iI (l2_x12.toInt + 1))).toInt = (l2_x12.toInt + 1) := (iI_t (Int.le_trans (by decide) (Int.add_le_add (b_l2_x12.1) (Int.le_refl _))) (Int.le_trans (Int.add_le_add (b_l2_x12.2) (Int.le_refl _)) (by decide))); omega) hP hD hS hl
    · rintro H locs ls stk ⟨rfl, hP, hD, hS, hl⟩
      refine W.widen (k := 0) (n := 0) (by decide +kernel) (by decide +kernel) ?_
      exact W.vret hx hb hr (fun t9_ ht hW => ⟨⟨(jT_name_x12, iT_next_x12), rfl, ⟨b_iT_next_x12, (by (try dsimp only); exact (hnk)), (by (try dsimp only); exact (hmo))⟩, by rw [ht]; exact hP, hD⟩, hS.F ht⟩) hS.2.2 dX9_takeName_107
theorem dX9_takeNumber_0 : decode cX9_takeNumber 0 = .ok (.aload_n 0, 1) := dk_42 (by decide +kernel)
theorem dX9_takeNumber_1 : decode cX9_takeNumber 1 = .ok (.iconst 0, 1) := dk_3 (by decide +kernel)
theorem dX9_takeNumber_2 : decode cX9_takeNumber 2 = .ok (.putfield 81, 3) := dk_181 (by decide +kernel)
theorem dX9_takeNumber_5 : decode cX9_takeNumber 5 = .ok (.aload_n 0, 1) := dk_42 (by decide +kernel)
theorem dX9_takeNumber_6 : decode cX9_takeNumber 6 = .ok (.getfield 40, 3) := dk_180 (by decide +kernel)
theorem dX9_takeNumber_9 : decode cX9_takeNumber 9 = .ok (.aload_n 0, 1) := dk_42 (by decide +kernel)
theorem dX9_takeNumber_10 : decode cX9_takeNumber 10 = .ok (.getfield 19, 3) := dk_180 (by decide +kernel)
theorem dX9_takeNumber_13 : decode cX9_takeNumber 13 = .ok (.if_icmp .ge 82, 3) := dk_162 (by decide +kernel)
theorem dX9_takeNumber_16 : decode cX9_takeNumber 16 = .ok (.aload_n 0, 1) := dk_42 (by decide +kernel)
theorem dX9_takeNumber_17 : decode cX9_takeNumber 17 = .ok (.getfield 9, 3) := dk_180 (by decide +kernel)
theorem dX9_takeNumber_20 : decode cX9_takeNumber 20 = .ok (.aload_n 0, 1) := dk_42 (by decide +kernel)
theorem dX9_takeNumber_21 : decode cX9_takeNumber 21 = .ok (.getfield 40, 3) := dk_180 (by decide +kernel)
theorem dX9_takeNumber_24 : decode cX9_takeNumber 24 = .ok (.baload, 1) := dk_51 (by decide +kernel)
theorem dX9_takeNumber_25 : decode cX9_takeNumber 25 = .ok (.bipush 48, 2) := dk_16 (by decide +kernel)
theorem dX9_takeNumber_27 : decode cX9_takeNumber 27 = .ok (.if_icmp .lt 68, 3) := dk_161 (by decide +kernel)
theorem dX9_takeNumber_30 : decode cX9_takeNumber 30 = .ok (.aload_n 0, 1) := dk_42 (by decide +kernel)
theorem dX9_takeNumber_31 : decode cX9_takeNumber 31 = .ok (.getfield 9, 3) := dk_180 (by decide +kernel)
theorem dX9_takeNumber_34 : decode cX9_takeNumber 34 = .ok (.aload_n 0, 1) := dk_42 (by decide +kernel)
theorem dX9_takeNumber_35 : decode cX9_takeNumber 35 = .ok (.getfield 40, 3) := dk_180 (by decide +kernel)
theorem dX9_takeNumber_38 : decode cX9_takeNumber 38 = .ok (.baload, 1) := dk_51 (by decide +kernel)
theorem dX9_takeNumber_39 : decode cX9_takeNumber 39 = .ok (.bipush 57, 2) := dk_16 (by decide +kernel)
theorem dX9_takeNumber_41 : decode cX9_takeNumber 41 = .ok (.if_icmp .gt 54, 3) := dk_163 (by decide +kernel)
theorem dX9_takeNumber_44 : decode cX9_takeNumber 44 = .ok (.aload_n 0, 1) := dk_42 (by decide +kernel)
theorem dX9_takeNumber_45 : decode cX9_takeNumber 45 = .ok (.getfield 40, 3) := dk_180 (by decide +kernel)
theorem dX9_takeNumber_48 : decode cX9_takeNumber 48 = .ok (.aload_n 0, 1) := dk_42 (by decide +kernel)
theorem dX9_takeNumber_49 : decode cX9_takeNumber 49 = .ok (.getfield 34, 3) := dk_180 (by decide +kernel)
theorem dX9_takeNumber_52 : decode cX9_takeNumber 52 = .ok (.isub, 1) := dk_100 (by decide +kernel)
theorem dX9_takeNumber_53 : decode cX9_takeNumber 53 = .ok (.bipush 6, 2) := dk_16 (by decide +kernel)
theorem dX9_takeNumber_55 : decode cX9_takeNumber 55 = .ok (.if_icmp .ge 27, 3) := dk_162 (by decide +kernel)
theorem dX9_takeNumber_58 : decode cX9_takeNumber 58 = .ok (.aload_n 0, 1) := dk_42 (by decide +kernel)
theorem dX9_takeNumber_59 : decode cX9_takeNumber 59 = .ok (.aload_n 0, 1) := dk_42 (by decide +kernel)
theorem dX9_takeNumber_60 : decode cX9_takeNumber 60 = .ok (.getfield 81, 3) := dk_180 (by decide +kernel)
theorem dX9_takeNumber_63 : decode cX9_takeNumber 63 = .ok (.bipush 10, 2) := dk_16 (by decide +kernel)
theorem dX9_takeNumber_65 : decode cX9_takeNumber 65 = .ok (.imul, 1) := dk_104 (by decide +kernel)
theorem dX9_takeNumber_66 : decode cX9_takeNumber 66 = .ok (.aload_n 0, 1) := dk_42 (by decide +kernel)
theorem dX9_takeNumber_67 : decode cX9_takeNumber 67 = .ok (.getfield 9, 3) := dk_180 (by decide +kernel)
theorem dX9_takeNumber_70 : decode cX9_takeNumber 70 = .ok (.aload_n 0, 1) := dk_42 (by decide +kernel)
theorem dX9_takeNumber_71 : decode cX9_takeNumber 71 = .ok (.getfield 40, 3) := dk_180 (by decide +kernel)
theorem dX9_takeNumber_74 : decode cX9_takeNumber 74 = .ok (.baload, 1) := dk_51 (by decide +kernel)
theorem dX9_takeNumber_75 : decode cX9_takeNumber 75 = .ok (.iadd, 1) := dk_96 (by decide +kernel)
theorem dX9_takeNumber_76 : decode cX9_takeNumber 76 = .ok (.bipush 48, 2) := dk_16 (by decide +kernel)
theorem dX9_takeNumber_78 : decode cX9_takeNumber 78 = .ok (.isub, 1) := dk_100 (by decide +kernel)
theorem dX9_takeNumber_79 : decode cX9_takeNumber 79 = .ok (.putfield 81, 3) := dk_181 (by decide +kernel)
theorem dX9_takeNumber_82 : decode cX9_takeNumber 82 = .ok (.aload_n 0, 1) := dk_42 (by decide +kernel)
theorem dX9_takeNumber_83 : decode cX9_takeNumber 83 = .ok (.dup, 1) := dk_89 (by decide +kernel)
theorem dX9_takeNumber_84 : decode cX9_takeNumber 84 = .ok (.getfield 40, 3) := dk_180 (by decide +kernel)
theorem dX9_takeNumber_87 : decode cX9_takeNumber 87 = .ok (.iconst 1, 1) := dk_4 (by decide +kernel)
theorem dX9_takeNumber_88 : decode cX9_takeNumber 88 = .ok (.iadd, 1) := dk_96 (by decide +kernel)
theorem dX9_takeNumber_89 : decode cX9_takeNumber 89 = .ok (.putfield 40, 3) := dk_181 (by decide +kernel)
theorem dX9_takeNumber_92 : decode cX9_takeNumber 92 = .ok (.goto (-87), 3) := dk_167 (by decide +kernel)
theorem dX9_takeNumber_95 : decode cX9_takeNumber 95 = .ok (.aload_n 0, 1) := dk_42 (by decide +kernel)
theorem dX9_takeNumber_96 : decode cX9_takeNumber 96 = .ok (.aload_n 0, 1) := dk_42 (by decide +kernel)
theorem dX9_takeNumber_97 : decode cX9_takeNumber 97 = .ok (.getfield 40, 3) := dk_180 (by decide +kernel)
theorem dX9_takeNumber_100 : decode cX9_takeNumber 100 = .ok (.aload_n 0, 1) := dk_42 (by decide +kernel)
theorem dX9_takeNumber_101 : decode cX9_takeNumber 101 = .ok (.getfield 34, 3) := dk_180 (by decide +kernel)
theorem dX9_takeNumber_104 : decode cX9_takeNumber 104 = .ok (.isub, 1) := dk_100 (by decide +kernel)
theorem dX9_takeNumber_105 : decode cX9_takeNumber 105 = .ok (.bipush 6, 2) := dk_16 (by decide +kernel)
theorem dX9_takeNumber_107 : decode cX9_takeNumber 107 = .ok (.if_icmp .le 7, 3) := dk_164 (by decide +kernel)
theorem dX9_takeNumber_110 : decode cX9_takeNumber 110 = .ok (.iconst 3, 1) := dk_6 (by decide +kernel)
theorem dX9_takeNumber_111 : decode cX9_takeNumber 111 = .ok (.goto 4, 3) := dk_167 (by decide +kernel)
theorem dX9_takeNumber_114 : decode cX9_takeNumber 114 = .ok (.iconst 2, 1) := dk_5 (by decide +kernel)
theorem dX9_takeNumber_115 : decode cX9_takeNumber 115 = .ok (.putfield 37, 3) := dk_181 (by decide +kernel)
theorem dX9_takeNumber_118 : decode cX9_takeNumber 118 = .ok (.return_, 1) := dk_177 (by decide +kernel)
def wsMX9_takeNumber : List Cond := .code yX9_takeNumber cX9_takeNumber 1 none :: ([.fieldLink RX9 81 "OptimaWorks$Words" "number" "I", .fieldLink RX9 40 "OptimaWorks$Words" "next" "I", .fieldLink RX9 19 "OptimaWorks$Words" "length" "I", .fieldLink RX9 9 "OptimaWorks$Words" "tape" "[B", .fieldLink RX9 34 "OptimaWorks$Words" "at" "I", .fieldLink RX9 37 "OptimaWorks$Words" "kind" "I"] ++ wsX90)
theorem iwsMX9_takeNumber_in9 : ∀ w ∈ wsX90, w ∈ wsMX9_takeNumber := fun _ h => List.mem_cons_of_mem _ (List.mem_append_right _ h)
theorem gdwsMX9_takeNumber : wsMX9_takeNumber.all goodWord = true := gdC rfl (gdA (by decide +kernel : ([.fieldLink RX9 81 "OptimaWorks$Words" "number" "I", .fieldLink RX9 40 "OptimaWorks$Words" "next" "I", .fieldLink RX9 19 "OptimaWorks$Words" "length" "I", .fieldLink RX9 9 "OptimaWorks$Words" "tape" "[B", .fieldLink RX9 34 "OptimaWorks$Words" "at" "I", .fieldLink RX9 37 "OptimaWorks$Words" "kind" "I"] : List Cond).all goodWord = true) gdwsX90)
theorem hm_m_X9_takeNumber_0 : (.fieldLink RX9 81 "OptimaWorks$Words" "number" "I" : Cond) ∈ wsMX9_takeNumber := by decide +kernel
theorem hm_m_X9_takeNumber_1 : (.fieldLink RX9 40 "OptimaWorks$Words" "next" "I" : Cond) ∈ wsMX9_takeNumber := by decide +kernel
theorem hm_m_X9_takeNumber_2 : (.fieldLink RX9 9 "OptimaWorks$Words" "tape" "[B" : Cond) ∈ wsMX9_takeNumber := by decide +kernel
theorem hm_m_X9_takeNumber_3 : (.fieldLink RX9 34 "OptimaWorks$Words" "at" "I" : Cond) ∈ wsMX9_takeNumber := by decide +kernel
set_option maxHeartbeats 4000000 in
set_option maxRecDepth 100000 in
/-- a number -/
theorem m_X9_takeNumber (l : Launch) (dC : Nat → ClassId) (dI : Nat → Nat → Nat) (hT : Nat → Nat) (aT : Nat → Nat) (kT : Nat → ClassId) (fT_tape : Nat → Int32) (dT_tape : Nat) (nT_tape : Nat) (iT_length : Int32) (iT_fault : Int32) (iT_place : Int32) (iT_kind : Int32) (iT_at : Int32) (iT_number : Int32) (jT_name : Int64) (iT_next : Int32) (b_fT_tape : ∀ q : Nat, (-128) ≤ (fT_tape q).toInt ∧ (fT_tape q).toInt ≤ 127) (b_nT_tape : 64 ≤ nT_tape ∧ nT_tape ≤ 2560) (b_iT_length : 0 ≤ iT_length.toInt ∧ iT_length.toInt ≤ 1280) (b_iT_at : 0 ≤ iT_at.toInt ∧ iT_at.toInt ≤ 1282) (b_iT_number : 0 ≤ iT_number.toInt ∧ iT_number.toInt ≤ 999999) (b_iT_next : 0 ≤ iT_next.toInt ∧ iT_next.toInt ≤ 1282) (b_len : iT_length.toInt ≤ ((nT_tape : Nat) : Int)) (hnl : iT_next.toInt ≤ iT_length.toInt) (hat : iT_at.toInt = iT_next.toInt) (sz : Nat) : Met l yX9_takeNumber wsMX9_takeNumber ({ frames := 0, cells := 0, slots := 0, locals := 0 }) (va_Pc [.ref (hT 0)] (fun U => U.heap.size = sz ∧ va_P (dC, dI) vwCl (WT hT aT kT fT_tape dT_tape nT_tape iT_length iT_fault iT_place iT_kind iT_at iT_number jT_name iT_next) U.heap ∧ va_K (dC, dI) vwCl (tT kT) U ∧ va_D (fun _ => True) (WT hT aT kT fT_tape dT_tape nT_tape iT_length iT_fault iT_place iT_kind iT_at iT_number jT_name iT_next))) (va_Qv (fun (u : (Int32) × (Int32) × (Int32)) => (0 ≤ (u.2.1).toInt ∧ (u.2.1).toInt ≤ 999999) ∧ (0 ≤ (u.2.2).toInt ∧ (u.2.2).toInt ≤ 1282) ∧ ((u.2.2).toInt ≤ iT_length.toInt) ∧ (iT_next.toInt ≤ (u.2.2).toInt) ∧ ((u.1).toInt ≤ 3)) (fun (u : (Int32) × (Int32) × (Int32)) t => va_P (dC, dI) vwCl (WT hT aT kT fT_tape dT_tape nT_tape iT_length iT_fault iT_place (u.1) iT_at (u.2.1) jT_name (u.2.2)) t.heap ∧ va_D (va_A (WT hT aT kT fT_tape dT_tape nT_tape iT_length iT_fault iT_place iT_kind iT_at iT_number jT_name iT_next) sz) (WT hT aT kT fT_tape dT_tape nT_tape iT_length iT_fault iT_place (u.1) iT_at (u.2.1) jT_name (u.2.2))) (va_A (WT hT aT kT fT_tape dT_tape nT_tape iT_length iT_fault iT_place iT_kind iT_at iT_number jT_name iT_next) sz)) 0 0 (va_A (WT hT aT kT fT_tape dT_tape nT_tape iT_length iT_fault iT_place iT_kind iT_at iT_number jT_name iT_next) sz) := by
  refine Met.ofW (cc := cX9_takeNumber) (maxL := 1) (ret := none) (by decide) rfl ?_
  intro p e s m args below meth c s₁ B hml hv
  obtain ⟨rfl, hsz, hP, hK, hD0⟩ := hv
  have hx := B.exec
  have hb := B.bytes
  have hr := B.returns
  have hts := atoms_spec (ws := wsMX9_takeNumber) B.pre
  have hown : s.vm.findClass RX9 = some m.cls := findClass_of_methodNamed B.named
  have hlocks := B.notSynchronized
  subst hsz
  have hD := hD0.self (sz := s.heap.size)
  generalize hAe : va_A (WT hT aT kT fT_tape dT_tape nT_tape iT_length iT_fault iT_place iT_kind iT_at iT_number jT_name iT_next) s.heap.size = A at hD ⊢
  have hA : ∀ q : Nat, s.heap.size ≤ q → A q := fun q h => by rw [← hAe]; exact Or.inr h
  have hS : va_S A s.heap s.heap [] := va_S.rf
  have hl := lv_entry ([.ref (hT 0)]) (n := 1) (Nat.le_of_ble_eq_true rfl)
  rw [lg_entry_eq]
  generalize (lg_sl ([.ref (hT 0)]) ++ List.replicate (1 - (lg_sl ([.ref (hT 0)])).length) Slot.unset).toArray = ls at hl ⊢
  have hl : lv_has ls 1 [(0, .ref (hT 0))] := hl
  refine lv_aload_n hx hb dX9_takeNumber_0 rfl (lv_at hl 0 rfl) ?_
  refine lv_iconst (v := 0) hx hb dX9_takeNumber_1 (by decide) ?_
  refine va_put (D := (dC, dI)) (ci := 9) (v := .int 0) (ty := .int) (C := RX9) (T := TX9) (N := 9) hx hb hts iwsMX9_takeNumber_in9 tyX9 tyX9_ok nmX9 hown hK hP hD hS 0 rfl rfl 6 (by decide) (hts _ hm_m_X9_takeNumber_0) (fun _ h9 => h9) rfl (by decide +kernel) rfl rfl (Nat.le_of_ble_eq_true rfl) dX9_takeNumber_2 (fun H locs hP hD hS => ?_)
  have hP : va_P (dC, dI) vwCl (WT hT aT kT fT_tape dT_tape nT_tape iT_length iT_fault iT_place iT_kind iT_at 0 jT_name iT_next) H := hP
  have hD := fz_sd hP (hD) rfl
  have hl : lv_has _ _ ([(0, .ref (hT 0))]) := lv_sub hl [0] rfl
  refine (fun (loop : ∀ (n9 : Nat) (iT_number_x5 : Int32) (iT_next_x5 : Int32) (H : Heap) (locs : List Loc) (ls : Array Slot), (0 ≤ iT_number_x5.toInt ∧ iT_number_x5.toInt ≤ 999999) → (0 ≤ iT_next_x5.toInt ∧ iT_next_x5.toInt ≤ 1282) → (iT_next_x5.toInt ≤ iT_length.toInt) → (iT_next.toInt ≤ iT_next_x5.toInt) → ((iT_next_x5.toInt ≤ iT_at.toInt → iT_number_x5.toInt ≤ 0) ∧ (iT_next_x5.toInt ≤ iT_at.toInt + 1 → iT_number_x5.toInt ≤ 9) ∧ (iT_next_x5.toInt ≤ iT_at.toInt + 2 → iT_number_x5.toInt ≤ 99) ∧ (iT_next_x5.toInt ≤ iT_at.toInt + 3 → iT_number_x5.toInt ≤ 999) ∧ (iT_next_x5.toInt ≤ iT_at.toInt + 4 → iT_number_x5.toInt ≤ 9999) ∧ (iT_next_x5.toInt ≤ iT_at.toInt + 5 → iT_number_x5.toInt ≤ 99999)) → (1282 - iT_next_x5.toInt < ((n9 : Nat) : Int)) → va_P (dC, dI) vwCl (WT hT aT kT fT_tape dT_tape nT_tape iT_length iT_fault iT_place iT_kind iT_at iT_number_x5 jT_name iT_next_x5) H → va_D A (WT hT aT kT fT_tape dT_tape nT_tape iT_length iT_fault iT_place iT_kind iT_at iT_number_x5 jT_name iT_next_x5) → va_S A s.heap H locs → lv_has ls 1 [(0, .ref (hT 0))] → W p l e _ s m _ below meth c H locs 0 0 _ (F0 m 5 ls [])) => loop (1283) 0 iT_next _ _ _ (show 0 ≤ (0 : Int32).toInt ∧ (0 : Int32).toInt ≤ 999999 from by decide) (b_iT_next) (show iT_next.toInt ≤ iT_length.toInt from by omega) (show iT_next.toInt ≤ iT_next.toInt from by omega) (show (iT_next.toInt ≤ iT_at.toInt → (0 : Int32).toInt ≤ 0) ∧ (iT_next.toInt ≤ iT_at.toInt + 1 → (0 : Int32).toInt ≤ 9) ∧ (iT_next.toInt ≤ iT_at.toInt + 2 → (0 : Int32).toInt ≤ 99) ∧ (iT_next.toInt ≤ iT_at.toInt + 3 → (0 : Int32).toInt ≤ 999) ∧ (iT_next.toInt ≤ iT_at.toInt + 4 → (0 : Int32).toInt ≤ 9999) ∧ (iT_next.toInt ≤ iT_at.toInt + 5 → (0 : Int32).toInt ≤ 99999) from by have h8 : (0 : Int32).toInt = 0 := (by decide); omega) ((by have e9 : (iT_next).toInt = iT_next.toInt := rfl; omega)) hP hD hS hl) ?_
  intro n9
  induction n9 with
  | zero => intro iT_number_x5 iT_next_x5 H locs ls b_iT_number_x5 b_iT_next_x5 hnk hmo hdg hf9; exact False.elim (by omega)
  | succ n9 ihx5 =>
    intro iT_number_x5 iT_next_x5 H locs ls b_iT_number_x5 b_iT_next_x5 hnk hmo hdg hfx5 hP hD hS hl
    refine lv_aload_n hx hb dX9_takeNumber_5 rfl (lv_at hl 0 rfl) ?_
    refine va_get (D := (dC, dI)) (ci := 9) (v := .int iT_next_x5) (C := RX9) (T := TX9) (N := 9) hx hb hts iwsMX9_takeNumber_in9 hown hK hP 0 rfl rfl 8 (by decide) (hts _ hm_m_X9_takeNumber_1) (fun _ h9 => h9) rfl dX9_takeNumber_6 ?_
    refine lv_aload_n hx hb dX9_takeNumber_9 rfl (lv_at hl 0 rfl) ?_
    refine va_get (D := (dC, dI)) (ci := 9) (v := .int iT_length) (C := RX9) (T := TX9) (N := 9) hx hb hts iwsMX9_takeNumber_in9 hown hK hP 0 rfl rfl 1 (by decide) (hts (.fieldLink RX9 19 "OptimaWorks$Words" "length" "I") (by decide +kernel)) (fun _ h9 => h9) rfl dX9_takeNumber_10 ?_
    refine W.cut (pc := 95) (fun H locs ls stk =>  stk = [] ∧ va_P (dC, dI) vwCl (WT hT aT kT fT_tape dT_tape nT_tape iT_length iT_fault iT_place iT_kind iT_at iT_number_x5 jT_name iT_next_x5) H ∧ va_D A (WT hT aT kT fT_tape dT_tape nT_tape iT_length iT_fault iT_place iT_kind iT_at iT_number_x5 jT_name iT_next_x5) ∧ va_S A s.heap H locs ∧ lv_has ls 1 [(0, .ref (hT 0))]) (fun join22 => ?_) ?_
    · refine lv_icmp_ge (tgt := 95) hx hb dX9_takeNumber_13 (by decide) (fun c_13 => ?_) (fun c_13 => ?_)
      · have t_13 : iT_next_x5.toInt ≥ iT_length.toInt := toI_ge c_13 rfl rfl
        have hl : lv_has _ _ ([(0, .ref (hT 0))]) := lv_sub hl [0] rfl
        exact join22 _ _ _ _ ⟨rfl, hP, hD, hS, hl⟩
      · have t_13 : ¬ iT_next_x5.toInt ≥ iT_length.toInt := toI_nge c_13 rfl rfl
        refine lv_aload_n hx hb dX9_takeNumber_16 rfl (lv_at hl 0 rfl) ?_
        refine va_get (D := (dC, dI)) (ci := 9) (v := .ref dT_tape) (C := RX9) (T := TX9) (N := 9) hx hb hts iwsMX9_takeNumber_in9 hown hK hP 0 rfl rfl 0 (by decide) (hts _ hm_m_X9_takeNumber_2) (fun _ h9 => h9) rfl dX9_takeNumber_17 ?_
        refine lv_aload_n hx hb dX9_takeNumber_20 rfl (lv_at hl 0 rfl) ?_
        refine va_get (D := (dC, dI)) (ci := 9) (v := .int iT_next_x5) (C := RX9) (T := TX9) (N := 9) hx hb hts iwsMX9_takeNumber_in9 hown hK hP 0 rfl rfl 8 (by decide) (hts _ hm_m_X9_takeNumber_1) (fun _ h9 => h9) rfl dX9_takeNumber_21 ?_
        refine va_bald (cA := kT 0) (n := nT_tape) (f := fT_tape) hx hb hK hP 1 0 rfl rfl (vp_in_iff.mpr ⟨b_iT_next_x5.1, (by omega)⟩) dX9_takeNumber_24 ?_
        refine lv_topi (fun v63 hv63 => ?_)
        have b_v63 : (-128) ≤ v63.toInt ∧ v63.toInt ≤ 127 := by rw [hv63]; exact b_fT_tape _
        have b1_v63 : v63 = fT_tape (iT_next_x5).toNatClampNeg := hv63
        clear hv63
        refine lv_bipush (v := 48) hx hb dX9_takeNumber_25 (by decide) ?_
        refine lv_icmp_lt (tgt := 95) hx hb dX9_takeNumber_27 (by decide) (fun c_27 => ?_) (fun c_27 => ?_)
        · have t_27 : v63.toInt < 48 := toI_lt c_27 rfl (by decide : (48 : Int32).toInt = 48)
          have hl : lv_has _ _ ([(0, .ref (hT 0))]) := lv_sub hl [0] rfl
          exact join22 _ _ _ _ ⟨rfl, hP, hD, hS, hl⟩
        · have t_27 : ¬ v63.toInt < 48 := toI_nlt c_27 rfl (by decide : (48 : Int32).toInt = 48)
          refine lv_aload_n hx hb dX9_takeNumber_30 rfl (lv_at hl 0 rfl) ?_
          refine va_get (D := (dC, dI)) (ci := 9) (v := .ref dT_tape) (C := RX9) (T := TX9) (N := 9) hx hb hts iwsMX9_takeNumber_in9 hown hK hP 0 rfl rfl 0 (by decide) (hts _ hm_m_X9_takeNumber_2) (fun _ h9 => h9) rfl dX9_takeNumber_31 ?_
          refine lv_aload_n hx hb dX9_takeNumber_34 rfl (lv_at hl 0 rfl) ?_
          refine va_get (D := (dC, dI)) (ci := 9) (v := .int iT_next_x5) (C := RX9) (T := TX9) (N := 9) hx hb hts iwsMX9_takeNumber_in9 hown hK hP 0 rfl rfl 8 (by decide) (hts _ hm_m_X9_takeNumber_1) (fun _ h9 => h9) rfl dX9_takeNumber_35 ?_
          refine va_bald (cA := kT 0) (n := nT_tape) (f := fT_tape) hx hb hK hP 1 0 rfl rfl (vp_in_iff.mpr ⟨b_iT_next_x5.1, (by omega)⟩) dX9_takeNumber_38 ?_
          refine lv_topi (fun v64 hv64 => ?_)
          have b_v64 : (-128) ≤ v64.toInt ∧ v64.toInt ≤ 127 := by rw [hv64]; exact b_fT_tape _
          have b1_v64 : v64 = fT_tape (iT_next_x5).toNatClampNeg := hv64
          have b2_v64 : v64.toInt = v63.toInt := by rw [hv64]; exact (congrArg Int32.toInt b1_v63).symm
          clear hv64
          refine lv_bipush (v := 57) hx hb dX9_takeNumber_39 (by decide) ?_
          refine lv_icmp_gt (tgt := 95) hx hb dX9_takeNumber_41 (by decide) (fun c_41 => ?_) (fun c_41 => ?_)
          · have t_41 : v64.toInt > 57 := toI_gt c_41 rfl (by decide : (57 : Int32).toInt = 57)
            have hl : lv_has _ _ ([(0, .ref (hT 0))]) := lv_sub hl [0] rfl
            exact join22 _ _ _ _ ⟨rfl, hP, hD, hS, hl⟩
          · have t_41 : ¬ v64.toInt > 57 := toI_ngt c_41 rfl (by decide : (57 : Int32).toInt = 57)
            refine lv_aload_n hx hb dX9_takeNumber_44 rfl (lv_at hl 0 rfl) ?_
            refine va_get (D := (dC, dI)) (ci := 9) (v := .int iT_next_x5) (C := RX9) (T := TX9) (N := 9) hx hb hts iwsMX9_takeNumber_in9 hown hK hP 0 rfl rfl 8 (by decide) (hts _ hm_m_X9_takeNumber_1) (fun _ h9 => h9) rfl dX9_takeNumber_45 ?_
            refine lv_aload_n hx hb dX9_takeNumber_48 rfl (lv_at hl 0 rfl) ?_
            refine va_get (D := (dC, dI)) (ci := 9) (v := .int iT_at) (C := RX9) (T := TX9) (N := 9) hx hb hts iwsMX9_takeNumber_in9 hown hK hP 0 rfl rfl 5 (by decide) (hts _ hm_m_X9_takeNumber_3) (fun _ h9 => h9) rfl dX9_takeNumber_49 ?_
            refine lv_isub hx hb dX9_takeNumber_52 ?_
            refine lv_topi (fun y65 hy65 => ?_)
            obtain rfl : (iI (iT_next_x5.toInt - iT_at.toInt)) = y65 := (hy65.trans (iI_sub2 (iI_of _) (iI_of _))).symm
            refine lv_bipush (v := 6) hx hb dX9_takeNumber_53 (by decide) ?_
            refine W.cut (pc := 82) (fun H locs ls stk => ∃ (iT_number_j23 : Int32), (0 ≤ iT_number_j23.toInt ∧ iT_number_j23.toInt ≤ 999999) ∧ (((iI (iT_next_x5.toInt + 1)).toInt ≤ iT_at.toInt → iT_number_j23.toInt ≤ 0) ∧ ((iI (iT_next_x5.toInt + 1)).toInt ≤ iT_at.toInt + 1 → iT_number_j23.toInt ≤ 9) ∧ ((iI (iT_next_x5.toInt + 1)).toInt ≤ iT_at.toInt + 2 → iT_number_j23.toInt ≤ 99) ∧ ((iI (iT_next_x5.toInt + 1)).toInt ≤ iT_at.toInt + 3 → iT_number_j23.toInt ≤ 999) ∧ ((iI (iT_next_x5.toInt + 1)).toInt ≤ iT_at.toInt + 4 → iT_number_j23.toInt ≤ 9999) ∧ ((iI (iT_next_x5.toInt + 1)).toInt ≤ iT_at.toInt + 5 → iT_number_j23.toInt ≤ 99999)) ∧  stk = [] ∧ va_P (dC, dI) vwCl (WT hT aT kT fT_tape dT_tape nT_tape iT_length iT_fault iT_place iT_kind iT_at iT_number_j23 jT_name iT_next_x5) H ∧ va_D A (WT hT aT kT fT_tape dT_tape nT_tape iT_length iT_fault iT_place iT_kind iT_at iT_number_j23 jT_name iT_next_x5) ∧ va_S A s.heap H locs ∧ lv_has ls 1 [(0, .ref (hT 0))]) (fun join23 => ?_) ?_
            · refine lv_icmp_ge (tgt := 82) hx hb dX9_takeNumber_55 (by decide) (fun c_55 => ?_) (fun c_55 => ?_)
              · have t_55 : (iT_next_x5.toInt - iT_at.toInt) ≥ 6 := toI_ge c_55 (iI_t (Int.le_trans (by decide) (Int.sub_le_sub (b_iT_next_x5.1) (b_iT_at.2))) (Int.le_trans (Int.sub_le_sub (b_iT_next_x5.2) (b_iT_at.1)) (by decide))) (by decide : (6 : Int32).toInt = 6)
                have hl : lv_has _ _ ([(0, .ref (hT 0))]) := lv_sub hl [0] rfl
                exact join23 _ _ _ _ ⟨iT_number_x5, (b_iT_number_x5), (show ((iI (iT_next_x5.toInt + 1)).toInt ≤ iT_at.toInt → iT_number_x5.toInt ≤ 0) ∧ ((iI (iT_next_x5.toInt + 1)).toInt ≤ iT_at.toInt + 1 → iT_number_x5.toInt ≤ 9) ∧ ((iI (iT_next_x5.toInt + 1)).toInt ≤ iT_at.toInt + 2 → iT_number_x5.toInt ≤ 99) ∧ ((iI (iT_next_x5.toInt + 1)).toInt ≤ iT_at.toInt + 3 → iT_number_x5.toInt ≤ 999) ∧ ((iI (iT_next_x5.toInt + 1)).toInt ≤ iT_at.toInt + 4 → iT_number_x5.toInt ≤ 9999) ∧ ((iI (iT_next_x5.toInt + 1)).toInt ≤ iT_at.toInt + 5 → iT_number_x5.toInt ≤ 99999) from by rw [iI_t (E := iT_next_x5.toInt + 1) (by omega) (by omega)]; (try rw [iI_t (by omega) (by omega)]); omega), rfl, hP, hD, hS, hl⟩
              · have t_55 : ¬ (iT_next_x5.toInt - iT_at.toInt) ≥ 6 := toI_nge c_55 (iI_t (Int.le_trans (by decide) (Int.sub_le_sub (b_iT_next_x5.1) (b_iT_at.2))) (Int.le_trans (Int.sub_le_sub (b_iT_next_x5.2) (b_iT_at.1)) (by decide))) (by decide : (6 : Int32).toInt = 6)
                refine lv_aload_n hx hb dX9_takeNumber_58 rfl (lv_at hl 0 rfl) ?_
                refine lv_aload_n hx hb dX9_takeNumber_59 rfl (lv_at hl 0 rfl) ?_
                refine va_get (D := (dC, dI)) (ci := 9) (v := .int iT_number_x5) (C := RX9) (T := TX9) (N := 9) hx hb hts iwsMX9_takeNumber_in9 hown hK hP 0 rfl rfl 6 (by decide) (hts _ hm_m_X9_takeNumber_0) (fun _ h9 => h9) rfl dX9_takeNumber_60 ?_
                refine lv_bipush (v := 10) hx hb dX9_takeNumber_63 (by decide) ?_
                refine lv_imul hx hb dX9_takeNumber_65 ?_
                refine lv_topi (fun y70 hy70 => ?_)
                obtain rfl : (iI (iT_number_x5.toInt * 10)) = y70 := (hy70.trans (iI_mul2 (iI_of _) (by decide : (10 : Int32) = iI 10))).symm
                refine lv_aload_n hx hb dX9_takeNumber_66 rfl (lv_at hl 0 rfl) ?_
                refine va_get (D := (dC, dI)) (ci := 9) (v := .ref dT_tape) (C := RX9) (T := TX9) (N := 9) hx hb hts iwsMX9_takeNumber_in9 hown hK hP 0 rfl rfl 0 (by decide) (hts _ hm_m_X9_takeNumber_2) (fun _ h9 => h9) rfl dX9_takeNumber_67 ?_
                refine lv_aload_n hx hb dX9_takeNumber_70 rfl (lv_at hl 0 rfl) ?_
                refine va_get (D := (dC, dI)) (ci := 9) (v := .int iT_next_x5) (C := RX9) (T := TX9) (N := 9) hx hb hts iwsMX9_takeNumber_in9 hown hK hP 0 rfl rfl 8 (by decide) (hts _ hm_m_X9_takeNumber_1) (fun _ h9 => h9) rfl dX9_takeNumber_71 ?_
                refine va_bald (cA := kT 0) (n := nT_tape) (f := fT_tape) hx hb hK hP 1 0 rfl rfl (vp_in_iff.mpr ⟨b_iT_next_x5.1, (by omega)⟩) dX9_takeNumber_74 ?_
                refine lv_topi (fun v71 hv71 => ?_)
                have b_v71 : (-128) ≤ v71.toInt ∧ v71.toInt ≤ 127 := by rw [hv71]; exact b_fT_tape _
                have b1_v71 : v71 = fT_tape (iT_next_x5).toNatClampNeg := hv71
                have b2_v71 : v71.toInt = v64.toInt := by rw [hv71]; exact (congrArg Int32.toInt b1_v64).symm
                clear hv71
                refine lv_iadd hx hb dX9_takeNumber_75 ?_
                refine lv_topi (fun y72 hy72 => ?_)
                obtain rfl : (iI ((iT_number_x5.toInt * 10) + v71.toInt)) = y72 := (hy72.trans (iI_add2 rfl (iI_of _))).symm
                refine lv_bipush (v := 48) hx hb dX9_takeNumber_76 (by decide) ?_
                refine lv_isub hx hb dX9_takeNumber_78 ?_
                refine lv_topi (fun y73 hy73 => ?_)
                obtain rfl : (iI (((iT_number_x5.toInt * 10) + v71.toInt) - 48)) = y73 := (hy73.trans (iI_sub2 rfl (by decide : (48 : Int32) = iI 48))).symm
                refine va_put (D := (dC, dI)) (ci := 9) (v := .int (iI (((iT_number_x5.toInt * 10) + v71.toInt) - 48))) (ty := .int) (C := RX9) (T := TX9) (N := 9) hx hb hts iwsMX9_takeNumber_in9 tyX9 tyX9_ok nmX9 hown hK hP hD hS 0 rfl rfl 6 (by decide) (hts _ hm_m_X9_takeNumber_0) (fun _ h9 => h9) rfl (by decide +kernel) rfl rfl (Nat.le_of_ble_eq_true rfl) dX9_takeNumber_79 (fun H locs hP hD hS => ?_)
                have hP : va_P (dC, dI) vwCl (WT hT aT kT fT_tape dT_tape nT_tape iT_length iT_fault iT_place iT_kind iT_at (iI (((iT_number_x5.toInt * 10) + v71.toInt) - 48)) jT_name iT_next_x5) H := hP
                have hD := fz_sd hP (hD) rfl
                have hl : lv_has _ _ ([(0, .ref (hT 0))]) := lv_sub hl [0] rfl
                exact join23 _ _ _ _ ⟨(iI (((iT_number_x5.toInt * 10) + v71.toInt) - 48)), (iI_rng (by omega) (by omega) (by decide) (by decide)), (show ((iI (iT_next_x5.toInt + 1)).toInt ≤ iT_at.toInt → (iI (((iT_number_x5.toInt * 10) + v71.toInt) - 48)).toInt ≤ 0) ∧ ((iI (iT_next_x5.toInt + 1)).toInt ≤ iT_at.toInt + 1 → (iI (((iT_number_x5.toInt * 10) + v71.toInt) - 48)).toInt ≤ 9) ∧ ((iI (iT_next_x5.toInt + 1)).toInt ≤ iT_at.toInt + 2 → (iI (((iT_number_x5.toInt * 10) + v71.toInt) - 48)).toInt ≤ 99) ∧ ((iI (iT_next_x5.toInt + 1)).toInt ≤ iT_at.toInt + 3 → (iI (((iT_number_x5.toInt * 10) + v71.toInt) - 48)).toInt ≤ 999) ∧ ((iI (iT_next_x5.toInt + 1)).toInt ≤ iT_at.toInt + 4 → (iI (((iT_number_x5.toInt * 10) + v71.toInt) - 48)).toInt ≤ 9999) ∧ ((iI (iT_next_x5.toInt + 1)).toInt ≤ iT_at.toInt + 5 → (iI (((iT_number_x5.toInt * 10) + v71.toInt) - 48)).toInt ≤ 99999) from by rw [iI_t (E := iT_next_x5.toInt + 1) (by omega) (by omega)]; (try rw [iI_t (by omega) (by omega)]); omega), rfl, hP, hD, hS, hl⟩
            · rintro H locs ls stk ⟨iT_number_j23, b_iT_number_j23, hjd, rfl, hP, hD, hS, hl⟩
              refine lv_aload_n hx hb dX9_takeNumber_82 rfl (lv_at hl 0 rfl) ?_
              refine lv_dup hx hb dX9_takeNumber_83 rfl ?_
              refine va_get (D := (dC, dI)) (ci := 9) (v := .int iT_next_x5) (C := RX9) (T := TX9) (N := 9) hx hb hts iwsMX9_takeNumber_in9 hown hK hP 0 rfl rfl 8 (by decide) (hts _ hm_m_X9_takeNumber_1) (fun _ h9 => h9) rfl dX9_takeNumber_84 ?_
              refine lv_iconst (v := 1) hx hb dX9_takeNumber_87 (by decide) ?_
              refine lv_iadd hx hb dX9_takeNumber_88 ?_
              refine lv_topi (fun y74 hy74 => ?_)
              obtain rfl : (iI (iT_next_x5.toInt + 1)) = y74 := (hy74.trans (iI_add2 (iI_of _) (by decide : (1 : Int32) = iI 1))).symm
              refine va_put (D := (dC, dI)) (ci := 9) (v := .int (iI (iT_next_x5.toInt + 1))) (ty := .int) (C := RX9) (T := TX9) (N := 9) hx hb hts iwsMX9_takeNumber_in9 tyX9 tyX9_ok nmX9 hown hK hP hD hS 0 rfl rfl 8 (by decide) (hts _ hm_m_X9_takeNumber_1) (fun _ h9 => h9) rfl (by decide +kernel) rfl rfl (Nat.le_of_ble_eq_true rfl) dX9_takeNumber_89 (fun H locs hP hD hS => ?_)
              have hP : va_P (dC, dI) vwCl (WT hT aT kT fT_tape dT_tape nT_tape iT_length iT_fault iT_place iT_kind iT_at iT_number_j23 jT_name (iI (iT_next_x5.toInt + 1))) H := hP
              have hD := fz_sd hP (hD) rfl
              refine lv_goto (tgt := 5) hx hb dX9_takeNumber_92 (by decide) ?_
              have hl : lv_has _ _ ([(0, .ref (hT 0))]) := lv_sub hl [0] rfl
              exact ihx5 iT_number_j23 (iI (iT_next_x5.toInt + 1)) _ _ _ (b_iT_number_j23) (iI_rng (Int.le_trans (by decide) (Int.add_le_add (b_iT_next_x5.1) (Int.le_refl _))) (by omega) (by decide) (by decide)) (show (iI (iT_next_x5.toInt + 1)).toInt ≤ iT_length.toInt from by (try rw [iI_t (by omega) (by omega)]); omega) (show iT_next.toInt ≤ (iI (iT_next_x5.toInt + 1)).toInt from by (try rw [iI_t (by omega) (by omega)]); omega) (show ((iI (iT_next_x5.toInt + 1)).toInt ≤ iT_at.toInt → iT_number_j23.toInt ≤ 0) ∧ ((iI (iT_next_x5.toInt + 1)).toInt ≤ iT_at.toInt + 1 → iT_number_j23.toInt ≤ 9) ∧ ((iI (iT_next_x5.toInt + 1)).toInt ≤ iT_at.toInt + 2 → iT_number_j23.toInt ≤ 99) ∧ ((iI (iT_next_x5.toInt + 1)).toInt ≤ iT_at.toInt + 3 → iT_number_j23.toInt ≤ 999) ∧ ((iI (iT_next_x5.toInt + 1)).toInt ≤ iT_at.toInt + 4 → iT_number_j23.toInt ≤ 9999) ∧ ((iI (iT_next_x5.toInt + 1)).toInt ≤ iT_at.toInt + 5 → iT_number_j23.toInt ≤ 99999) from hjd) (by have e9 : ((iI (iT_next_x5.toInt + 1))).toInt = (iT_next_x5.toInt + 1) := (iI_t (Int.le_trans (by decide) (Int.add_le_add (b_iT_next_x5.1) (Int.le_refl _))) (Int.le_trans (Int.add_le_add (b_iT_next_x5.2) (Int.le_refl _)) (by decide))); omega) hP hD hS hl
    · rintro H locs ls stk ⟨rfl, hP, hD, hS, hl⟩
      refine lv_aload_n hx hb dX9_takeNumber_95 rfl (lv_at hl 0 rfl) ?_
      refine lv_aload_n hx hb dX9_takeNumber_96 rfl (lv_at hl 0 rfl) ?_
      refine va_get (D := (dC, dI)) (ci := 9) (v := .int iT_next_x5) (C := RX9) (T := TX9) (N := 9) hx hb hts iwsMX9_takeNumber_in9 hown hK hP 0 rfl rfl 8 (by decide) (hts _ hm_m_X9_takeNumber_1) (fun _ h9 => h9) rfl dX9_takeNumber_97 ?_
      refine lv_aload_n hx hb dX9_takeNumber_100 rfl (lv_at hl 0 rfl) ?_
      refine va_get (D := (dC, dI)) (ci := 9) (v := .int iT_at) (C := RX9) (T := TX9) (N := 9) hx hb hts iwsMX9_takeNumber_in9 hown hK hP 0 rfl rfl 5 (by decide) (hts _ hm_m_X9_takeNumber_3) (fun _ h9 => h9) rfl dX9_takeNumber_101 ?_
      refine lv_isub hx hb dX9_takeNumber_104 ?_
      refine lv_topi (fun y75 hy75 => ?_)
      obtain rfl : (iI (iT_next_x5.toInt - iT_at.toInt)) = y75 := (hy75.trans (iI_sub2 (iI_of _) (iI_of _))).symm
      refine lv_bipush (v := 6) hx hb dX9_takeNumber_105 (by decide) ?_
      refine W.cut (pc := 115) (fun H locs ls stk => ∃ (k0_j24 : Int32), (2 ≤ k0_j24.toInt ∧ k0_j24.toInt ≤ 3) ∧  stk = [.int k0_j24, .ref (hT 0)] ∧ va_P (dC, dI) vwCl (WT hT aT kT fT_tape dT_tape nT_tape iT_length iT_fault iT_place iT_kind iT_at iT_number_x5 jT_name iT_next_x5) H ∧ va_D A (WT hT aT kT fT_tape dT_tape nT_tape iT_length iT_fault iT_place iT_kind iT_at iT_number_x5 jT_name iT_next_x5) ∧ va_S A s.heap H locs ∧ lv_has ls 1 [(0, .ref (hT 0))]) (fun join24 => ?_) ?_
      · refine lv_icmp_le (tgt := 114) hx hb dX9_takeNumber_107 (by decide) (fun c_107 => ?_) (fun c_107 => ?_)
        · have t_107 : (iT_next_x5.toInt - iT_at.toInt) ≤ 6 := toI_le c_107 (iI_t (Int.le_trans (by decide) (Int.sub_le_sub (b_iT_next_x5.1) (b_iT_at.2))) (Int.le_trans (Int.sub_le_sub (b_iT_next_x5.2) (b_iT_at.1)) (by decide))) (by decide : (6 : Int32).toInt = 6)
          refine lv_iconst (v := 2) hx hb dX9_takeNumber_114 (by decide) ?_
          have hl : lv_has _ _ ([(0, .ref (hT 0))]) := lv_sub hl [0] rfl
          exact join24 _ _ _ _ ⟨2, (show 2 ≤ (2 : Int32).toInt ∧ (2 : Int32).toInt ≤ 3 from by decide), rfl, hP, hD, hS, hl⟩
        · have t_107 : ¬ (iT_next_x5.toInt - iT_at.toInt) ≤ 6 := toI_nle c_107 (iI_t (Int.le_trans (by decide) (Int.sub_le_sub (b_iT_next_x5.1) (b_iT_at.2))) (Int.le_trans (Int.sub_le_sub (b_iT_next_x5.2) (b_iT_at.1)) (by decide))) (by decide : (6 : Int32).toInt = 6)
          refine lv_iconst (v := 3) hx hb dX9_takeNumber_110 (by decide) ?_
          refine lv_goto (tgt := 115) hx hb dX9_takeNumber_111 (by decide) ?_
          have hl : lv_has _ _ ([(0, .ref (hT 0))]) := lv_sub hl [0] rfl
          exact join24 _ _ _ _ ⟨3, (show 2 ≤ (3 : Int32).toInt ∧ (3 : Int32).toInt ≤ 3 from by decide), rfl, hP, hD, hS, hl⟩
      · rintro H locs ls stk ⟨k0_j24, b_k0_j24, rfl, hP, hD, hS, hl⟩
        refine va_put (D := (dC, dI)) (ci := 9) (v := .int k0_j24) (ty := .int) (C := RX9) (T := TX9) (N := 9) hx hb hts iwsMX9_takeNumber_in9 tyX9 tyX9_ok nmX9 hown hK hP hD hS 0 rfl rfl 4 (by decide) (hts (.fieldLink RX9 37 "OptimaWorks$Words" "kind" "I") (by decide +kernel)) (fun _ h9 => h9) rfl (by decide +kernel) rfl rfl (Nat.le_of_ble_eq_true rfl) dX9_takeNumber_115 (fun H locs hP hD hS => ?_)
        have hP : va_P (dC, dI) vwCl (WT hT aT kT fT_tape dT_tape nT_tape iT_length iT_fault iT_place k0_j24 iT_at iT_number_x5 jT_name iT_next_x5) H := hP
        have hD := fz_sd hP (hD) rfl
        refine W.widen (k := 0) (n := 0) (by decide +kernel) (by decide +kernel) ?_
        exact W.vret hx hb hr (fun t9_ ht hW => ⟨⟨(k0_j24, iT_number_x5, iT_next_x5), rfl, ⟨b_iT_number_x5, b_iT_next_x5, (by (try dsimp only); exact (hnk)), (by (try dsimp only); exact (hmo)), (by (try dsimp only); first | decide | omega)⟩, by rw [ht]; exact hP, hD⟩, hS.F ht⟩) hS.2.2 dX9_takeNumber_118
end

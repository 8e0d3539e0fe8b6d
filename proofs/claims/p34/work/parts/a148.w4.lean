theorem hd_yX8_setShifted_RX8 : yX8_setShifted.cls = RX8 ∧ yX8_setShifted.cls ≠ "java/lang/invoke/MethodHandle" ∧ yX8_setShifted.cls ≠ "java/lang/invoke/VarHandle" ∧ (parseMethodDescriptor yX8_setShifted.desc).map (fun d => d.parameters.length) = some 2 := by decide +kernel
theorem hd_yX8_shiftBack_RX8 : yX8_shiftBack.cls = RX8 ∧ yX8_shiftBack.cls ≠ "java/lang/invoke/MethodHandle" ∧ yX8_shiftBack.cls ≠ "java/lang/invoke/VarHandle" ∧ (parseMethodDescriptor yX8_shiftBack.desc).map (fun d => d.parameters.length) = some 1 := by decide +kernel
theorem hd_yX8_takeTimes_RX8 : yX8_takeTimes.cls = RX8 ∧ yX8_takeTimes.cls ≠ "java/lang/invoke/MethodHandle" ∧ yX8_takeTimes.cls ≠ "java/lang/invoke/VarHandle" ∧ (parseMethodDescriptor yX8_takeTimes.desc).map (fun d => d.parameters.length) = some 3 := by decide +kernel
theorem hd_yX8_copy_RX8 : yX8_copy.cls = RX8 ∧ yX8_copy.cls ≠ "java/lang/invoke/MethodHandle" ∧ yX8_copy.cls ≠ "java/lang/invoke/VarHandle" ∧ (parseMethodDescriptor yX8_copy.desc).map (fun d => d.parameters.length) = some 1 := by decide +kernel
theorem hd_yX8_divideSmall_RX8 : yX8_divideSmall.cls = RX8 ∧ yX8_divideSmall.cls ≠ "java/lang/invoke/MethodHandle" ∧ yX8_divideSmall.cls ≠ "java/lang/invoke/VarHandle" ∧ (parseMethodDescriptor yX8_divideSmall.desc).map (fun d => d.parameters.length) = some 1 := by decide +kernel
theorem hd_yX8_setLong_RX8 : yX8_setLong.cls = RX8 ∧ yX8_setLong.cls ≠ "java/lang/invoke/MethodHandle" ∧ yX8_setLong.cls ≠ "java/lang/invoke/VarHandle" ∧ (parseMethodDescriptor yX8_setLong.desc).map (fun d => d.parameters.length) = some 1 := by decide +kernel
theorem dX8_divide_0 : decode cX8_divide 0 = .ok (.aload_n 1, 1) := dk_43 (by decide +kernel)
theorem dX8_divide_1 : decode cX8_divide 1 = .ok (.getfield 17, 3) := dk_180 (by decide +kernel)
theorem dX8_divide_4 : decode cX8_divide 4 = .ok (.istore 4, 2) := dk_54 (by decide +kernel)
theorem dX8_divide_6 : decode cX8_divide 6 = .ok (.aload_n 0, 1) := dk_42 (by decide +kernel)
theorem dX8_divide_7 : decode cX8_divide 7 = .ok (.getfield 17, 3) := dk_180 (by decide +kernel)
theorem dX8_divide_10 : decode cX8_divide 10 = .ok (.iload 4, 2) := dk_21 (by decide +kernel)
theorem dX8_divide_12 : decode cX8_divide 12 = .ok (.isub, 1) := dk_100 (by decide +kernel)
theorem dX8_divide_13 : decode cX8_divide 13 = .ok (.istore 5, 2) := dk_54 (by decide +kernel)
theorem dX8_divide_15 : decode cX8_divide 15 = .ok (.iload 4, 2) := dk_21 (by decide +kernel)
theorem dX8_divide_17 : decode cX8_divide 17 = .ok (.ifCond .eq 12, 3) := dk_153 (by decide +kernel)
theorem dX8_divide_20 : decode cX8_divide 20 = .ok (.aload_n 0, 1) := dk_42 (by decide +kernel)
theorem dX8_divide_21 : decode cX8_divide 21 = .ok (.getfield 17, 3) := dk_180 (by decide +kernel)
theorem dX8_divide_24 : decode cX8_divide 24 = .ok (.bipush 14, 2) := dk_16 (by decide +kernel)
theorem dX8_divide_26 : decode cX8_divide 26 = .ok (.if_icmp .lt 4, 3) := dk_161 (by decide +kernel)
theorem dX8_divide_29 : decode cX8_divide 29 = .ok (.return_, 1) := dk_177 (by decide +kernel)
theorem dX8_divide_30 : decode cX8_divide 30 = .ok (.aload_n 0, 1) := dk_42 (by decide +kernel)
theorem dX8_divide_31 : decode cX8_divide 31 = .ok (.getfield 13, 3) := dk_180 (by decide +kernel)
theorem dX8_divide_34 : decode cX8_divide 34 = .ok (.aload_n 1, 1) := dk_43 (by decide +kernel)
theorem dX8_divide_35 : decode cX8_divide 35 = .ok (.getfield 13, 3) := dk_180 (by decide +kernel)
theorem dX8_divide_38 : decode cX8_divide 38 = .ok (.if_icmp .eq 7, 3) := dk_159 (by decide +kernel)
theorem dX8_divide_41 : decode cX8_divide 41 = .ok (.iconst 1, 1) := dk_4 (by decide +kernel)
theorem dX8_divide_42 : decode cX8_divide 42 = .ok (.goto 4, 3) := dk_167 (by decide +kernel)
theorem dX8_divide_45 : decode cX8_divide 45 = .ok (.iconst 0, 1) := dk_3 (by decide +kernel)
theorem dX8_divide_46 : decode cX8_divide 46 = .ok (.istore 6, 2) := dk_54 (by decide +kernel)
theorem dX8_divide_48 : decode cX8_divide 48 = .ok (.aload_n 0, 1) := dk_42 (by decide +kernel)
theorem dX8_divide_49 : decode cX8_divide 49 = .ok (.getfield 13, 3) := dk_180 (by decide +kernel)
theorem dX8_divide_52 : decode cX8_divide 52 = .ok (.istore 7, 2) := dk_54 (by decide +kernel)
theorem dX8_divide_54 : decode cX8_divide 54 = .ok (.iload 4, 2) := dk_21 (by decide +kernel)
theorem dX8_divide_56 : decode cX8_divide 56 = .ok (.iconst 1, 1) := dk_4 (by decide +kernel)
theorem dX8_divide_57 : decode cX8_divide 57 = .ok (.if_icmp .ne 20, 3) := dk_160 (by decide +kernel)
theorem dX8_divide_60 : decode cX8_divide 60 = .ok (.aload_n 2, 1) := dk_44 (by decide +kernel)
theorem dX8_divide_61 : decode cX8_divide 61 = .ok (.aload_n 0, 1) := dk_42 (by decide +kernel)
theorem dX8_divide_62 : decode cX8_divide 62 = .ok (.aload_n 1, 1) := dk_43 (by decide +kernel)
theorem dX8_divide_63 : decode cX8_divide 63 = .ok (.getfield 9, 3) := dk_180 (by decide +kernel)
theorem dX8_divide_66 : decode cX8_divide 66 = .ok (.iconst 0, 1) := dk_3 (by decide +kernel)
theorem dX8_divide_67 : decode cX8_divide 67 = .ok (.laload, 1) := dk_47 (by decide +kernel)
theorem dX8_divide_68 : decode cX8_divide 68 = .ok (.invokevirtual 53, 3) := dk_182 (by decide +kernel)
theorem dX8_divide_71 : decode cX8_divide 71 = .ok (.invokevirtual 57, 3) := dk_182 (by decide +kernel)
theorem dX8_divide_74 : decode cX8_divide 74 = .ok (.goto 129, 3) := dk_167 (by decide +kernel)
theorem dX8_divide_77 : decode cX8_divide 77 = .ok (.iload 5, 2) := dk_21 (by decide +kernel)
theorem dX8_divide_79 : decode cX8_divide 79 = .ok (.ifCond .ge 16, 3) := dk_156 (by decide +kernel)
theorem dX8_divide_82 : decode cX8_divide 82 = .ok (.aload_n 2, 1) := dk_44 (by decide +kernel)
theorem dX8_divide_83 : decode cX8_divide 83 = .ok (.aload_n 0, 1) := dk_42 (by decide +kernel)
theorem dX8_divide_84 : decode cX8_divide 84 = .ok (.invokevirtual 61, 3) := dk_182 (by decide +kernel)
theorem dX8_divide_87 : decode cX8_divide 87 = .ok (.aload_n 0, 1) := dk_42 (by decide +kernel)
theorem dX8_divide_88 : decode cX8_divide 88 = .ok (.iconst 0, 1) := dk_3 (by decide +kernel)
theorem dX8_divide_89 : decode cX8_divide 89 = .ok (.putfield 17, 3) := dk_181 (by decide +kernel)
theorem dX8_divide_92 : decode cX8_divide 92 = .ok (.goto 111, 3) := dk_167 (by decide +kernel)
theorem dX8_divide_95 : decode cX8_divide 95 = .ok (.iconst 0, 1) := dk_3 (by decide +kernel)
theorem dX8_divide_96 : decode cX8_divide 96 = .ok (.istore 8, 2) := dk_54 (by decide +kernel)
theorem dX8_divide_98 : decode cX8_divide 98 = .ok (.iload 8, 2) := dk_21 (by decide +kernel)
theorem dX8_divide_100 : decode cX8_divide 100 = .ok (.bipush 30, 2) := dk_16 (by decide +kernel)
theorem dX8_divide_102 : decode cX8_divide 102 = .ok (.if_icmp .ge 28, 3) := dk_162 (by decide +kernel)
theorem dX8_divide_105 : decode cX8_divide 105 = .ok (.aload_n 1, 1) := dk_43 (by decide +kernel)
theorem dX8_divide_106 : decode cX8_divide 106 = .ok (.getfield 9, 3) := dk_180 (by decide +kernel)
theorem dX8_divide_109 : decode cX8_divide 109 = .ok (.iload 4, 2) := dk_21 (by decide +kernel)
theorem dX8_divide_111 : decode cX8_divide 111 = .ok (.iconst 1, 1) := dk_4 (by decide +kernel)
theorem dX8_divide_112 : decode cX8_divide 112 = .ok (.isub, 1) := dk_100 (by decide +kernel)
theorem dX8_divide_113 : decode cX8_divide 113 = .ok (.laload, 1) := dk_47 (by decide +kernel)
theorem dX8_divide_114 : decode cX8_divide 114 = .ok (.iload 8, 2) := dk_21 (by decide +kernel)
theorem dX8_divide_116 : decode cX8_divide 116 = .ok (.lshl, 1) := dk_121 (by decide +kernel)
theorem dX8_divide_117 : decode cX8_divide 117 = .ok (.ldc2_w 64, 3) := dk_20 (by decide +kernel)
theorem dX8_divide_120 : decode cX8_divide 120 = .ok (.lcmp, 1) := dk_148 (by decide +kernel)
theorem dX8_divide_121 : decode cX8_divide 121 = .ok (.ifCond .gt 9, 3) := dk_157 (by decide +kernel)
theorem dX8_divide_124 : decode cX8_divide 124 = .ok (.iinc 8 1, 3) := dk_132 (by decide +kernel)
theorem dX8_divide_127 : decode cX8_divide 127 = .ok (.goto (-29), 3) := dk_167 (by decide +kernel)
theorem dX8_divide_130 : decode cX8_divide 130 = .ok (.aload_n 3, 1) := dk_45 (by decide +kernel)
theorem dX8_divide_131 : decode cX8_divide 131 = .ok (.aload_n 1, 1) := dk_43 (by decide +kernel)
theorem dX8_divide_132 : decode cX8_divide 132 = .ok (.iload 8, 2) := dk_21 (by decide +kernel)
theorem dX8_divide_134 : decode cX8_divide 134 = .ok (.invokevirtual 66, 3) := dk_182 (by decide +kernel)
theorem dX8_divide_137 : decode cX8_divide 137 = .ok (.aload_n 2, 1) := dk_44 (by decide +kernel)
theorem dX8_divide_138 : decode cX8_divide 138 = .ok (.aload_n 0, 1) := dk_42 (by decide +kernel)
theorem dX8_divide_139 : decode cX8_divide 139 = .ok (.iload 8, 2) := dk_21 (by decide +kernel)
theorem dX8_divide_141 : decode cX8_divide 141 = .ok (.invokevirtual 66, 3) := dk_182 (by decide +kernel)
theorem dX8_divide_144 : decode cX8_divide 144 = .ok (.iload 5, 2) := dk_21 (by decide +kernel)
theorem dX8_divide_146 : decode cX8_divide 146 = .ok (.istore 9, 2) := dk_54 (by decide +kernel)
theorem dX8_divide_148 : decode cX8_divide 148 = .ok (.iload 9, 2) := dk_21 (by decide +kernel)
theorem dX8_divide_150 : decode cX8_divide 150 = .ok (.ifCond .lt 25, 3) := dk_155 (by decide +kernel)
theorem dX8_divide_153 : decode cX8_divide 153 = .ok (.aload_n 0, 1) := dk_42 (by decide +kernel)
theorem dX8_divide_154 : decode cX8_divide 154 = .ok (.getfield 9, 3) := dk_180 (by decide +kernel)
theorem dX8_divide_157 : decode cX8_divide 157 = .ok (.iload 9, 2) := dk_21 (by decide +kernel)
theorem dX8_divide_159 : decode cX8_divide 159 = .ok (.aload_n 2, 1) := dk_44 (by decide +kernel)
theorem dX8_divide_160 : decode cX8_divide 160 = .ok (.aload_n 3, 1) := dk_45 (by decide +kernel)
theorem dX8_divide_161 : decode cX8_divide 161 = .ok (.iload 4, 2) := dk_21 (by decide +kernel)
theorem dX8_divide_163 : decode cX8_divide 163 = .ok (.iload 9, 2) := dk_21 (by decide +kernel)
theorem dX8_divide_165 : decode cX8_divide 165 = .ok (.invokevirtual 70, 3) := dk_182 (by decide +kernel)
theorem dX8_divide_168 : decode cX8_divide 168 = .ok (.lastore, 1) := dk_80 (by decide +kernel)
theorem dX8_divide_169 : decode cX8_divide 169 = .ok (.iinc 9 (-1), 3) := dk_132 (by decide +kernel)
theorem dX8_divide_172 : decode cX8_divide 172 = .ok (.goto (-24), 3) := dk_167 (by decide +kernel)
theorem dX8_divide_175 : decode cX8_divide 175 = .ok (.aload_n 0, 1) := dk_42 (by decide +kernel)
theorem dX8_divide_176 : decode cX8_divide 176 = .ok (.iload 5, 2) := dk_21 (by decide +kernel)
theorem dX8_divide_178 : decode cX8_divide 178 = .ok (.iconst 1, 1) := dk_4 (by decide +kernel)
theorem dX8_divide_179 : decode cX8_divide 179 = .ok (.iadd, 1) := dk_96 (by decide +kernel)
theorem dX8_divide_180 : decode cX8_divide 180 = .ok (.putfield 17, 3) := dk_181 (by decide +kernel)
theorem dX8_divide_183 : decode cX8_divide 183 = .ok (.aload_n 0, 1) := dk_42 (by decide +kernel)
theorem dX8_divide_184 : decode cX8_divide 184 = .ok (.invokevirtual 41, 3) := dk_182 (by decide +kernel)
theorem dX8_divide_187 : decode cX8_divide 187 = .ok (.aload_n 2, 1) := dk_44 (by decide +kernel)
theorem dX8_divide_188 : decode cX8_divide 188 = .ok (.iload 4, 2) := dk_21 (by decide +kernel)
theorem dX8_divide_190 : decode cX8_divide 190 = .ok (.putfield 17, 3) := dk_181 (by decide +kernel)
theorem dX8_divide_193 : decode cX8_divide 193 = .ok (.aload_n 2, 1) := dk_44 (by decide +kernel)
theorem dX8_divide_194 : decode cX8_divide 194 = .ok (.iload 8, 2) := dk_21 (by decide +kernel)
theorem dX8_divide_196 : decode cX8_divide 196 = .ok (.invokevirtual 74, 3) := dk_182 (by decide +kernel)
theorem dX8_divide_199 : decode cX8_divide 199 = .ok (.aload_n 2, 1) := dk_44 (by decide +kernel)
theorem dX8_divide_200 : decode cX8_divide 200 = .ok (.invokevirtual 41, 3) := dk_182 (by decide +kernel)
theorem dX8_divide_203 : decode cX8_divide 203 = .ok (.aload_n 0, 1) := dk_42 (by decide +kernel)
theorem dX8_divide_204 : decode cX8_divide 204 = .ok (.iload 6, 2) := dk_21 (by decide +kernel)
theorem dX8_divide_206 : decode cX8_divide 206 = .ok (.ifCond .eq 14, 3) := dk_153 (by decide +kernel)
theorem dX8_divide_209 : decode cX8_divide 209 = .ok (.aload_n 0, 1) := dk_42 (by decide +kernel)
theorem dX8_divide_210 : decode cX8_divide 210 = .ok (.getfield 17, 3) := dk_180 (by decide +kernel)
theorem dX8_divide_213 : decode cX8_divide 213 = .ok (.ifCond .eq 7, 3) := dk_153 (by decide +kernel)
theorem dX8_divide_216 : decode cX8_divide 216 = .ok (.iconst 1, 1) := dk_4 (by decide +kernel)
theorem dX8_divide_217 : decode cX8_divide 217 = .ok (.goto 4, 3) := dk_167 (by decide +kernel)
theorem dX8_divide_220 : decode cX8_divide 220 = .ok (.iconst 0, 1) := dk_3 (by decide +kernel)
theorem dX8_divide_221 : decode cX8_divide 221 = .ok (.putfield 13, 3) := dk_181 (by decide +kernel)
theorem dX8_divide_224 : decode cX8_divide 224 = .ok (.aload_n 2, 1) := dk_44 (by decide +kernel)
theorem dX8_divide_225 : decode cX8_divide 225 = .ok (.iload 7, 2) := dk_21 (by decide +kernel)
theorem dX8_divide_227 : decode cX8_divide 227 = .ok (.ifCond .eq 14, 3) := dk_153 (by decide +kernel)
theorem dX8_divide_230 : decode cX8_divide 230 = .ok (.aload_n 2, 1) := dk_44 (by decide +kernel)
theorem dX8_divide_231 : decode cX8_divide 231 = .ok (.getfield 17, 3) := dk_180 (by decide +kernel)
theorem dX8_divide_234 : decode cX8_divide 234 = .ok (.ifCond .eq 7, 3) := dk_153 (by decide +kernel)
theorem dX8_divide_237 : decode cX8_divide 237 = .ok (.iconst 1, 1) := dk_4 (by decide +kernel)
theorem dX8_divide_238 : decode cX8_divide 238 = .ok (.goto 4, 3) := dk_167 (by decide +kernel)
theorem dX8_divide_241 : decode cX8_divide 241 = .ok (.iconst 0, 1) := dk_3 (by decide +kernel)
theorem dX8_divide_242 : decode cX8_divide 242 = .ok (.putfield 13, 3) := dk_181 (by decide +kernel)
theorem dX8_divide_245 : decode cX8_divide 245 = .ok (.return_, 1) := dk_177 (by decide +kernel)
def wsMX8_divide : List Cond := .code yX8_divide cX8_divide 10 none :: ([.fieldLink RX8 17 "OptimaWorks$Whole" "length" "I", .fieldLink RX8 13 "OptimaWorks$Whole" "below" "Z", .fieldLink RX8 9 "OptimaWorks$Whole" "limb" "[J", .constantLong RX8 64 536870911] ++ wsX80 ++ (wsV RX8 66 RX8 yX8_setShifted wsMX8_setShifted) ++ (wsV RX8 70 RX8 yX8_takeTimes wsMX8_takeTimes) ++ (wsV RX8 41 RX8 yX8_trim wsMX8_trim) ++ (wsV RX8 74 RX8 yX8_shiftBack wsMX8_shiftBack) ++ (wsV RX8 61 RX8 yX8_copy wsMX8_copy) ++ (wsV RX8 53 RX8 yX8_divideSmall wsMX8_divideSmall) ++ (wsV RX8 57 RX8 yX8_setLong wsMX8_setLong))
theorem iwsMX8_divide_in8 : ∀ w ∈ wsX80, w ∈ wsMX8_divide := fun _ h => List.mem_cons_of_mem _ (List.mem_append_left _ (List.mem_append_left _ (List.mem_append_left _ (List.mem_append_left _ (List.mem_append_left _ (List.mem_append_left _ (List.mem_append_left _ (List.mem_append_right _ h))))))))
theorem gwsMX8_divide_0 : GoodIn wsMX8_divide (wsV RX8 66 RX8 yX8_setShifted wsMX8_setShifted) := goodIn_sub (fun _ h => List.mem_cons_of_mem _ (List.mem_append_left _ (List.mem_append_left _ (List.mem_append_left _ (List.mem_append_left _ (List.mem_append_left _ (List.mem_append_left _ (List.mem_append_right _ h)))))))) (gdV (by decide +kernel) gdwsMX8_setShifted)
theorem gwsMX8_divide_1 : GoodIn wsMX8_divide (wsV RX8 70 RX8 yX8_takeTimes wsMX8_takeTimes) := goodIn_sub (fun _ h => List.mem_cons_of_mem _ (List.mem_append_left _ (List.mem_append_left _ (List.mem_append_left _ (List.mem_append_left _ (List.mem_append_left _ (List.mem_append_right _ h))))))) (gdV (by decide +kernel) gdwsMX8_takeTimes)
theorem gwsMX8_divide_2 : GoodIn wsMX8_divide (wsV RX8 41 RX8 yX8_trim wsMX8_trim) := goodIn_sub (fun _ h => List.mem_cons_of_mem _ (List.mem_append_left _ (List.mem_append_left _ (List.mem_append_left _ (List.mem_append_left _ (List.mem_append_right _ h)))))) (gdV (by decide +kernel) gdwsMX8_trim)
theorem gwsMX8_divide_3 : GoodIn wsMX8_divide (wsV RX8 74 RX8 yX8_shiftBack wsMX8_shiftBack) := goodIn_sub (fun _ h => List.mem_cons_of_mem _ (List.mem_append_left _ (List.mem_append_left _ (List.mem_append_left _ (List.mem_append_right _ h))))) (gdV (by decide +kernel) gdwsMX8_shiftBack)
theorem gwsMX8_divide_4 : GoodIn wsMX8_divide (wsV RX8 61 RX8 yX8_copy wsMX8_copy) := goodIn_sub (fun _ h => List.mem_cons_of_mem _ (List.mem_append_left _ (List.mem_append_left _ (List.mem_append_right _ h)))) (gdV (by decide +kernel) gdwsMX8_copy)
theorem gwsMX8_divide_5 : GoodIn wsMX8_divide (wsV RX8 53 RX8 yX8_divideSmall wsMX8_divideSmall) := goodIn_sub (fun _ h => List.mem_cons_of_mem _ (List.mem_append_left _ (List.mem_append_right _ h))) (gdV (by decide +kernel) gdwsMX8_divideSmall)
theorem gwsMX8_divide_6 : GoodIn wsMX8_divide (wsV RX8 57 RX8 yX8_setLong wsMX8_setLong) := goodIn_sub (fun _ h => List.mem_cons_of_mem _ (List.mem_append_right _ h)) (gdV (by decide +kernel) gdwsMX8_setLong)
theorem gdwsMX8_divide : wsMX8_divide.all goodWord = true := gdC rfl (gdA (gdA (gdA (gdA (gdA (gdA (gdA (gdA (by decide +kernel : ([.fieldLink RX8 17 "OptimaWorks$Whole" "length" "I", .fieldLink RX8 13 "OptimaWorks$Whole" "below" "Z", .fieldLink RX8 9 "OptimaWorks$Whole" "limb" "[J", .constantLong RX8 64 536870911] : List Cond).all goodWord = true) gdwsX80) (gdV (by decide +kernel) gdwsMX8_setShifted)) (gdV (by decide +kernel) gdwsMX8_takeTimes)) (gdV (by decide +kernel) gdwsMX8_trim)) (gdV (by decide +kernel) gdwsMX8_shiftBack)) (gdV (by decide +kernel) gdwsMX8_copy)) (gdV (by decide +kernel) gdwsMX8_divideSmall)) (gdV (by decide +kernel) gdwsMX8_setLong))
set_option maxHeartbeats 4000000 in
set_option maxRecDepth 100000 in
/-- a division -/
theorem m_X8_divide (l : Launch) (dC : Nat → ClassId) (dI : Nat → Nat → Nat) (nW : Nat) (hw : Nat → Nat) (lw : Nat → Nat) (kw : ClassId) (wl : Nat → Int32) (wb : Nat → Int32) (wG : Nat → Nat → Int64) (tt : Nat) (ta : Nat) (tb : Nat) (tc : Nat) (b_wl : ∀ q : Nat, 0 ≤ (wl q).toInt ∧ (wl q).toInt ≤ 14) (b_wb : ∀ q : Nat, 0 ≤ (wb q).toInt ∧ (wb q).toInt ≤ 1) (htt : tt < nW) (hta : ta < nW) (htb : tb < nW) (htc : tc < nW) (hne : tt ≠ tc) (sz : Nat) : Met l yX8_divide wsMX8_divide ({ frames := 2, cells := 0, slots := 0, locals := 39 }) (va_Pc [.ref (hw tt), .ref (hw ta), .ref (hw tb), .ref (hw tc)] (fun U => U.heap.size = sz ∧ va_P (dC, dI) vwCl (WW nW hw lw kw wl wb wG) U.heap ∧ va_K (dC, dI) vwCl (tW kw) U ∧ va_D (fun _ => True) (WW nW hw lw kw wl wb wG))) (va_Qv (fun (u : (Nat → Int32) × (Nat → Int32) × (Nat → Nat → Int64)) => (∀ q : Nat, 0 ≤ ((u.1) q).toInt ∧ ((u.1) q).toInt ≤ 14) ∧ (∀ q : Nat, 0 ≤ ((u.2.1) q).toInt ∧ ((u.2.1) q).toInt ≤ 1)) (fun (u : (Nat → Int32) × (Nat → Int32) × (Nat → Nat → Int64)) t => va_P (dC, dI) vwCl (WW nW hw lw kw (u.1) (u.2.1) (u.2.2)) t.heap ∧ va_D (va_A (WW nW hw lw kw wl wb wG) sz) (WW nW hw lw kw (u.1) (u.2.1) (u.2.2))) (va_A (WW nW hw lw kw wl wb wG) sz)) 0 0 (va_A (WW nW hw lw kw wl wb wG) sz) := by
  refine Met.ofW (cc := cX8_divide) (maxL := 10) (ret := none) (by decide) rfl ?_
  intro p e s m args below meth c s₁ B hml hv
  obtain ⟨rfl, hsz, hP, hK, hD0⟩ := hv
  have hx := B.exec
  have hb := B.bytes
  have hr := B.returns
  have hts := atoms_spec (ws := wsMX8_divide) B.pre
  have hown : s.vm.findClass RX8 = some m.cls := findClass_of_methodNamed B.named
  have hlocks := B.notSynchronized
  subst hsz
  have hD := hD0.self (sz := s.heap.size)
  generalize hAe : va_A (WW nW hw lw kw wl wb wG) s.heap.size = A at hD ⊢
  have hA : ∀ q : Nat, s.heap.size ≤ q → A q := fun q h => by rw [← hAe]; exact Or.inr h
  have hS : va_S A s.heap s.heap [] := va_S.rf
  have hl := lv_entry ([.ref (hw tt), .ref (hw ta), .ref (hw tb), .ref (hw tc)]) (n := 10) (Nat.le_of_ble_eq_true rfl)
  rw [lg_entry_eq]
  generalize (lg_sl ([.ref (hw tt), .ref (hw ta), .ref (hw tb), .ref (hw tc)]) ++ List.replicate (10 - (lg_sl ([.ref (hw tt), .ref (hw ta), .ref (hw tb), .ref (hw tc)])).length) Slot.unset).toArray = ls at hl ⊢
  have hl : lv_has ls 10 [(0, .ref (hw tt)), (1, .ref (hw ta)), (2, .ref (hw tb)), (3, .ref (hw tc))] := hl
  refine lv_aload_n hx hb dX8_divide_0 rfl (lv_at hl 1 rfl) ?_
  refine va_get (D := (dC, dI)) (ci := 8) (v := .int (wl ta)) (C := RX8) (T := TX8) (N := 3) hx hb hts iwsMX8_divide_in8 hown hK hP (ta) (WW_o (by omega)) rfl 1 (by decide) (hts (.fieldLink RX8 17 "OptimaWorks$Whole" "length" "I") (by decide +kernel)) (fun _ h9 => h9) rfl dX8_divide_1 ?_
  have br1 := b_wl ta
  refine lv_istore hx hb dX8_divide_4 hl (by decide) rfl (fun ls (hl : lv_has ls _ ([(4, .int (wl ta)), (0, .ref (hw tt)), (1, .ref (hw ta)), (2, .ref (hw tb)), (3, .ref (hw tc))])) => ?_)
  refine lv_aload_n hx hb dX8_divide_6 rfl (lv_at hl 1 rfl) ?_
  refine va_get (D := (dC, dI)) (ci := 8) (v := .int (wl tt)) (C := RX8) (T := TX8) (N := 3) hx hb hts iwsMX8_divide_in8 hown hK hP (tt) (WW_o (by omega)) rfl 1 (by decide) (hts (.fieldLink RX8 17 "OptimaWorks$Whole" "length" "I") (by decide +kernel)) (fun _ h9 => h9) rfl dX8_divide_7 ?_
  have br7 := b_wl tt
  refine lv_iload hx hb dX8_divide_10 (lv_at hl 0 rfl) ?_
  refine lv_isub hx hb dX8_divide_12 ?_
  refine lv_topi (fun y1 hy1 => ?_)
  obtain rfl : (iI ((wl tt).toInt - (wl ta).toInt)) = y1 := (hy1.trans (iI_sub2 (iI_of _) (iI_of _))).symm
  refine lv_istore hx hb dX8_divide_13 hl (by decide) rfl (fun ls (hl : lv_has ls _ ([(5, .int (iI ((wl tt).toInt - (wl ta).toInt))), (4, .int (wl ta)), (0, .ref (hw tt)), (1, .ref (hw ta)), (2, .ref (hw tb)), (3, .ref (hw tc))])) => ?_)
  refine lv_iload hx hb dX8_divide_15 (lv_at hl 1 rfl) ?_
  refine lv_if_eq (tgt := 29) hx hb dX8_divide_17 (by decide) (fun c_17 => ?_) (fun c_17 => ?_)
  · have t_17 : (wl ta).toInt = 0 := toI_eq c_17 rfl (by decide : (0 : Int32).toInt = 0)
    refine W.widen (k := 0) (n := 0) (by decide +kernel) (by decide +kernel) ?_
    exact W.vret hx hb hr (fun t9_ ht hW => ⟨⟨(wl, wb, wG), rfl, ⟨b_wl, b_wb⟩, by rw [ht]; exact hP, hD⟩, hS.F ht⟩) hS.2.2 dX8_divide_29
  · have t_17 : ¬ (wl ta).toInt = 0 := toI_neq c_17 rfl (by decide : (0 : Int32).toInt = 0)
    refine lv_aload_n hx hb dX8_divide_20 rfl (lv_at hl 2 rfl) ?_
    refine va_get (D := (dC, dI)) (ci := 8) (v := .int (wl tt)) (C := RX8) (T := TX8) (N := 3) hx hb hts iwsMX8_divide_in8 hown hK hP (tt) (WW_o (by omega)) rfl 1 (by decide) (hts (.fieldLink RX8 17 "OptimaWorks$Whole" "length" "I") (by decide +kernel)) (fun _ h9 => h9) rfl dX8_divide_21 ?_
    have br21 := b_wl tt
    refine lv_bipush (v := 14) hx hb dX8_divide_24 (by decide) ?_
    refine lv_icmp_lt (tgt := 30) hx hb dX8_divide_26 (by decide) (fun c_26 => ?_) (fun c_26 => ?_)
    · have t_26 : (wl tt).toInt < 14 := toI_lt c_26 rfl (by decide : (14 : Int32).toInt = 14)
      refine lv_aload_n hx hb dX8_divide_30 rfl (lv_at hl 2 rfl) ?_
      refine va_get (D := (dC, dI)) (ci := 8) (v := .int (wb tt)) (C := RX8) (T := TX8) (N := 3) hx hb hts iwsMX8_divide_in8 hown hK hP (tt) (WW_o (by omega)) rfl 2 (by decide) (hts (.fieldLink RX8 13 "OptimaWorks$Whole" "below" "Z") (by decide +kernel)) (fun _ h9 => h9) rfl dX8_divide_31 ?_
      have br31 := b_wb tt
      refine lv_aload_n hx hb dX8_divide_34 rfl (lv_at hl 3 rfl) ?_
      refine va_get (D := (dC, dI)) (ci := 8) (v := .int (wb ta)) (C := RX8) (T := TX8) (N := 3) hx hb hts iwsMX8_divide_in8 hown hK hP (ta) (WW_o (by omega)) rfl 2 (by decide) (hts (.fieldLink RX8 13 "OptimaWorks$Whole" "below" "Z") (by decide +kernel)) (fun _ h9 => h9) rfl dX8_divide_35 ?_
      have br35 := b_wb ta
      refine W.cut (pc := 46) (fun H locs ls stk => ∃ (k0_j9 : Int32), (0 ≤ k0_j9.toInt ∧ k0_j9.toInt ≤ 1) ∧  stk = [.int k0_j9] ∧ va_P (dC, dI) vwCl (WW nW hw lw kw wl wb wG) H ∧ va_D A (WW nW hw lw kw wl wb wG) ∧ va_S A s.heap H locs ∧ lv_has ls 10 [(5, .int (iI ((wl tt).toInt - (wl ta).toInt))), (4, .int (wl ta)), (0, .ref (hw tt)), (1, .ref (hw ta)), (2, .ref (hw tb)), (3, .ref (hw tc))]) (fun join9 => ?_) ?_
      · refine lv_icmp_eq (tgt := 45) hx hb dX8_divide_38 (by decide) (fun c_38 => ?_) (fun c_38 => ?_)
        · have t_38 : (wb tt).toInt = (wb ta).toInt := toI_eq c_38 rfl rfl
          refine lv_iconst (v := 0) hx hb dX8_divide_45 (by decide) ?_
          have hl : lv_has _ _ ([(5, .int (iI ((wl tt).toInt - (wl ta).toInt))), (4, .int (wl ta)), (0, .ref (hw tt)), (1, .ref (hw ta)), (2, .ref (hw tb)), (3, .ref (hw tc))]) := lv_sub hl [0, 1, 2, 3, 4, 5] rfl
          exact join9 _ _ _ _ ⟨0, (show 0 ≤ (0 : Int32).toInt ∧ (0 : Int32).toInt ≤ 1 from by decide), rfl, hP, hD, hS, hl⟩
        · have t_38 : ¬ (wb tt).toInt = (wb ta).toInt := toI_neq c_38 rfl rfl
          refine lv_iconst (v := 1) hx hb dX8_divide_41 (by decide) ?_
          refine lv_goto (tgt := 46) hx hb dX8_divide_42 (by decide) ?_
          have hl : lv_has _ _ ([(5, .int (iI ((wl tt).toInt - (wl ta).toInt))), (4, .int (wl ta)), (0, .ref (hw tt)), (1, .ref (hw ta)), (2, .ref (hw tb)), (3, .ref (hw tc))]) := lv_sub hl [0, 1, 2, 3, 4, 5] rfl
          exact join9 _ _ _ _ ⟨1, (show 0 ≤ (1 : Int32).toInt ∧ (1 : Int32).toInt ≤ 1 from by decide), rfl, hP, hD, hS, hl⟩
      · rintro H locs ls stk ⟨k0_j9, b_k0_j9, rfl, hP, hD, hS, hl⟩
        refine lv_istore hx hb dX8_divide_46 hl (by decide) rfl (fun ls (hl : lv_has ls _ ([(6, .int k0_j9), (5, .int (iI ((wl tt).toInt - (wl ta).toInt))), (4, .int (wl ta)), (0, .ref (hw tt)), (1, .ref (hw ta)), (2, .ref (hw tb)), (3, .ref (hw tc))])) => ?_)
        refine lv_aload_n hx hb dX8_divide_48 rfl (lv_at hl 3 rfl) ?_
        refine va_get (D := (dC, dI)) (ci := 8) (v := .int (wb tt)) (C := RX8) (T := TX8) (N := 3) hx hb hts iwsMX8_divide_in8 hown hK hP (tt) (WW_o (by omega)) rfl 2 (by decide) (hts (.fieldLink RX8 13 "OptimaWorks$Whole" "below" "Z") (by decide +kernel)) (fun _ h9 => h9) rfl dX8_divide_49 ?_
        have br49 := b_wb tt
        refine lv_istore hx hb dX8_divide_52 hl (by decide) rfl (fun ls (hl : lv_has ls _ ([(7, .int (wb tt)), (6, .int k0_j9), (5, .int (iI ((wl tt).toInt - (wl ta).toInt))), (4, .int (wl ta)), (0, .ref (hw tt)), (1, .ref (hw ta)), (2, .ref (hw tb)), (3, .ref (hw tc))])) => ?_)
        refine lv_iload hx hb dX8_divide_54 (lv_at hl 3 rfl) ?_
        refine lv_iconst (v := 1) hx hb dX8_divide_56 (by decide) ?_
        refine W.cut (pc := 203) (fun H locs ls stk => ∃ (wl_j12 : Nat → Int32) (wb_j12 : Nat → Int32) (wG_j12 : Nat → Nat → Int64), (∀ q : Nat, 0 ≤ (wl_j12 q).toInt ∧ (wl_j12 q).toInt ≤ 14) ∧ (∀ q : Nat, 0 ≤ (wb_j12 q).toInt ∧ (wb_j12 q).toInt ≤ 1) ∧  stk = [] ∧ va_P (dC, dI) vwCl (WW nW hw lw kw wl_j12 wb_j12 wG_j12) H ∧ va_D A (WW nW hw lw kw wl_j12 wb_j12 wG_j12) ∧ va_S A s.heap H locs ∧ lv_has ls 10 [(7, .int (wb tt)), (6, .int k0_j9), (5, .int (iI ((wl tt).toInt - (wl ta).toInt))), (4, .int (wl ta)), (0, .ref (hw tt)), (1, .ref (hw ta)), (2, .ref (hw tb)), (3, .ref (hw tc))]) (fun join12 => ?_) ?_
        · refine lv_icmp_ne (tgt := 77) hx hb dX8_divide_57 (by decide) (fun c_57 => ?_) (fun c_57 => ?_)
          · have t_57 : (wl ta).toInt ≠ 1 := toI_ne c_57 rfl (by decide : (1 : Int32).toInt = 1)
            refine lv_iload hx hb dX8_divide_77 (lv_at hl 2 rfl) ?_
            refine lv_if_ge (tgt := 95) hx hb dX8_divide_79 (by decide) (fun c_79 => ?_) (fun c_79 => ?_)
            · first | (have t_79 : ((wl tt).toInt - (wl ta).toInt) ≥ 0 := toI_ge c_79 (iI_t (by omega) (by omega)) (by decide : (0 : Int32).toInt = 0)) | skip
              refine lv_iconst (v := 0) hx hb dX8_divide_95 (by decide) ?_
              refine lv_istore hx hb dX8_divide_96 hl (by decide) rfl (fun ls (hl : lv_has ls _ ([(8, .int 0), (7, .int (wb tt)), (6, .int k0_j9), (5, .int (iI ((wl tt).toInt - (wl ta).toInt))), (4, .int (wl ta)), (0, .ref (hw tt)), (1, .ref (hw ta)), (2, .ref (hw tb)), (3, .ref (hw tc))])) => ?_)
              have hl : lv_has _ _ ([(8, .int 0), (7, .int (wb tt)), (6, .int k0_j9), (5, .int (iI ((wl tt).toInt - (wl ta).toInt))), (4, .int (wl ta)), (0, .ref (hw tt)), (1, .ref (hw ta)), (2, .ref (hw tb)), (3, .ref (hw tc))]) := lv_sub hl [0, 1, 2, 3, 4, 5, 6, 7, 8] rfl
              refine (fun (loop : ∀ (n9 : Nat) (l8_x98 : Int32) (H : Heap) (locs : List Loc) (ls : Array Slot), (0 ≤ l8_x98.toInt ∧ l8_x98.toInt ≤ 30) → (30 - l8_x98.toInt < ((n9 : Nat) : Int)) → va_P (dC, dI) vwCl (WW nW hw lw kw wl wb wG) H → va_D A (WW nW hw lw kw wl wb wG) → va_S A s.heap H locs → lv_has ls 10 [(8, .int l8_x98), (7, .int (wb tt)), (6, .int k0_j9), (5, .int (iI ((wl tt).toInt - (wl ta).toInt))), (4, .int (wl ta)), (0, .ref (hw tt)), (1, .ref (hw ta)), (2, .ref (hw tb)), (3, .ref (hw tc))] → W p l e _ s m _ below meth c H locs 0 0 _ (F0 m 98 ls [])) => loop (31) 0 _ _ _ (show 0 ≤ (0 : Int32).toInt ∧ (0 : Int32).toInt ≤ 30 from by decide) ((by have e9 : (0 : Int32).toInt = 0 := (by decide : (0 : Int32).toInt = 0); omega)) hP hD hS hl) ?_
              intro n9
              induction n9 with
              | zero => intro l8_x98 H locs ls b_l8_x98 hf9; exact False.elim (by omega)
              | succ n9 ihx98 =>
                intro l8_x98 H locs ls b_l8_x98 hfx98 hP hD hS hl
                refine lv_iload hx hb dX8_divide_98 (lv_at hl 0 rfl) ?_
                refine lv_bipush (v := 30) hx hb dX8_divide_100 (by decide) ?_
                refine W.cut (pc := 130) (fun H locs ls stk =>  stk = [] ∧ va_P (dC, dI) vwCl (WW nW hw lw kw wl wb wG) H ∧ va_D A (WW nW hw lw kw wl wb wG) ∧ va_S A s.heap H locs ∧ lv_has ls 10 [(8, .int l8_x98), (7, .int (wb tt)), (6, .int k0_j9), (5, .int (iI ((wl tt).toInt - (wl ta).toInt))), (4, .int (wl ta)), (0, .ref (hw tt)), (1, .ref (hw ta)), (2, .ref (hw tb)), (3, .ref (hw tc))]) (fun join14 => ?_) ?_
                · refine lv_icmp_ge (tgt := 130) hx hb dX8_divide_102 (by decide) (fun c_102 => ?_) (fun c_102 => ?_)
                  · have t_102 : l8_x98.toInt ≥ 30 := toI_ge c_102 rfl (by decide : (30 : Int32).toInt = 30)
                    have hl : lv_has _ _ ([(8, .int l8_x98), (7, .int (wb tt)), (6, .int k0_j9), (5, .int (iI ((wl tt).toInt - (wl ta).toInt))), (4, .int (wl ta)), (0, .ref (hw tt)), (1, .ref (hw ta)), (2, .ref (hw tb)), (3, .ref (hw tc))]) := lv_sub hl [0, 1, 2, 3, 4, 5, 6, 7, 8] rfl
                    exact join14 _ _ _ _ ⟨rfl, hP, hD, hS, hl⟩
                  · have t_102 : ¬ l8_x98.toInt ≥ 30 := toI_nge c_102 rfl (by decide : (30 : Int32).toInt = 30)
                    refine lv_aload_n hx hb dX8_divide_105 rfl (lv_at hl 6 rfl) ?_
                    refine va_get (D := (dC, dI)) (ci := 8) (v := .ref (lw ta)) (C := RX8) (T := TX8) (N := 3) hx hb hts iwsMX8_divide_in8 hown hK hP (ta) (WW_o (by omega)) rfl 0 (by decide) (hts (.fieldLink RX8 9 "OptimaWorks$Whole" "limb" "[J") (by decide +kernel)) (fun _ h9 => h9) rfl dX8_divide_106 ?_
                    refine lv_iload hx hb dX8_divide_109 (lv_at hl 4 rfl) ?_
                    refine lv_iconst (v := 1) hx hb dX8_divide_111 (by decide) ?_
                    refine lv_isub hx hb dX8_divide_112 ?_
                    refine lv_topi (fun y194 hy194 => ?_)
                    obtain rfl : (iI ((wl ta).toInt - 1)) = y194 := (hy194.trans (iI_sub2 (iI_of _) (by decide : (1 : Int32) = iI 1))).symm
                    refine va_lald (cA := kw) (n := 14) (f := (wG ta)) hx hb hK hP (nW + ta) 0 (WW_a (by omega)) rfl (vp_iI (by omega) (by omega) (by decide)) dX8_divide_113 ?_
                    refine lv_topl (fun v195 hv195 => ?_)
                    clear hv195
                    refine lv_iload hx hb dX8_divide_114 (lv_at hl 0 rfl) ?_
                    refine lv_lshl hx hb dX8_divide_116 rfl ?_
                    refine lv_topl (fun v196 hv196 => ?_)
                    clear hv196
                    refine lv_ldc2 (v := 536870911) hx hb hown (hts (.constantLong RX8 64 536870911) (by decide +kernel)) dX8_divide_117 ?_
                    refine W.lcmp hx hb dX8_divide_120 ?_
                    refine lv_if_gt (tgt := 130) hx hb dX8_divide_121 (by decide) (fun c_121 => ?_) (fun c_121 => ?_)
                    · have t_121 : v196.toInt > 536870911 := toL_gt c_121 rfl (by decide : (536870911 : Int64).toInt = 536870911)
                      have hl : lv_has _ _ ([(8, .int l8_x98), (7, .int (wb tt)), (6, .int k0_j9), (5, .int (iI ((wl tt).toInt - (wl ta).toInt))), (4, .int (wl ta)), (0, .ref (hw tt)), (1, .ref (hw ta)), (2, .ref (hw tb)), (3, .ref (hw tc))]) := lv_sub hl [0, 1, 2, 3, 4, 5, 6, 7, 8] rfl
                      exact join14 _ _ _ _ ⟨rfl, hP, hD, hS, hl⟩
                    · have t_121 : ¬ v196.toInt > 536870911 := toL_ngt c_121 rfl (by decide : (536870911 : Int64).toInt = 536870911)
                      refine lv_iinc (v := (iI (l8_x98.toInt + 1))) hx hb dX8_divide_124 hl (k := 0) rfl (iI_add2 (iI_of _) (by decide : (1 : Int32) = iI 1)) (by decide) rfl (fun ls (hl : lv_has ls _ ([(8, .int (iI (l8_x98.toInt + 1))), (7, .int (wb tt)), (6, .int k0_j9), (5, .int (iI ((wl tt).toInt - (wl ta).toInt))), (4, .int (wl ta)), (0, .ref (hw tt)), (1, .ref (hw ta)), (2, .ref (hw tb)), (3, .ref (hw tc))])) => ?_)
                      refine lv_goto (tgt := 98) hx hb dX8_divide_127 (by decide) ?_
                      have hl : lv_has _ _ ([(8, .int (iI (l8_x98.toInt + 1))), (7, .int (wb tt)), (6, .int k0_j9), (5, .int (iI ((wl tt).toInt - (wl ta).toInt))), (4, .int (wl ta)), (0, .ref (hw tt)), (1, .ref (hw ta)), (2, .ref (hw tb)), (3, .ref (hw tc))]) := lv_sub hl [0, 1, 2, 3, 4, 5, 6, 7, 8] rfl
                      exact ihx98 (iI (l8_x98.toInt + 1)) _ _ _ (iI_rng (Int.le_trans (by decide) (Int.add_le_add (b_l8_x98.1) (Int.le_refl _))) (by omega) (by decide) (by decide)) (by have e9 : ((iI (l8_x98.toInt + 1))).toInt = (l8_x98.toInt + 1) := (iI_t (Int.le_trans (by decide) (Int.add_le_add (b_l8_x98.1) (Int.le_refl _))) (Int.le_trans (Int.add_le_add (b_l8_x98.2) (Int.le_refl _)) (by decide))); omega) hP hD hS hl
                · rintro H locs ls stk ⟨rfl, hP, hD, hS, hl⟩
                  refine lv_aload_n hx hb dX8_divide_130 rfl (lv_at hl 8 rfl) ?_
                  refine lv_aload_n hx hb dX8_divide_131 rfl (lv_at hl 6 rfl) ?_
                  refine lv_iload hx hb dX8_divide_132 (lv_at hl 0 rfl) ?_
                  have hFc := allFree hD hS hA
                  refine va_callv (va_runV (As := [.ref (hw ta), .int l8_x98]) (rest := []) ⟨hx, hb, hml, hown, hts⟩ (m_X8_setShifted l dC dI nW hw lw kw wl wb wG tc ta l8_x98 b_wl b_wb (by first | assumption | omega | (rw [iI_t (by omega) (by omega)]; omega) | decide) (by first | assumption | omega | (rw [iI_t (by omega) (by omega)]; omega) | decide) (by first | assumption | omega | (rw [iI_t (by omega) (by omega)]; omega) | decide) H.size) (cwV 2 hts gwsMX8_divide_0 rfl rfl rfl hd_yX8_setShifted_RX8 (by decide +kernel)) (fz_pre (va_recv hK hP (ci := 8) (q0 := tc) rfl (WW_o (by omega))) hP hK hD) rfl rfl hl.1 rfl (lv_room (Nat.le_of_ble_eq_true rfl)) dX8_divide_134 (by decide +kernel)) hS (fun q _ h => hFc q h) hFc (fun u t9_ H locs ht hvm hw9 hB9 hz1 hk1 hS => ?_)
                  obtain ⟨wl_197, wG_197⟩ := u
                  try dsimp only at hw9 hB9
                  obtain ⟨b_wl_197, f197_0⟩ := hw9
                  have hP : va_P (dC, dI) vwCl (WW nW hw lw kw wl_197 wb wG_197) H := fz_P ht hB9.1
                  have hD : va_D A (WW nW hw lw kw wl_197 wb wG_197) := hB9.2.weaken (fun _ q _ h => hFc q.1 h)
                  refine lv_aload_n hx hb dX8_divide_137 rfl (lv_at hl 7 rfl) ?_
                  refine lv_aload_n hx hb dX8_divide_138 rfl (lv_at hl 5 rfl) ?_
                  refine lv_iload hx hb dX8_divide_139 (lv_at hl 0 rfl) ?_
                  have hFc := allFree hD hS hA
                  refine va_callv (va_runV (As := [.ref (hw tt), .int l8_x98]) (rest := []) ⟨hx, hb, hml, hown, hts⟩ (m_X8_setShifted l dC dI nW hw lw kw wl_197 wb wG_197 tb tt l8_x98 b_wl_197 b_wb (by first | assumption | omega | (rw [iI_t (by omega) (by omega)]; omega) | decide) (by first | assumption | omega | (rw [iI_t (by omega) (by omega)]; omega) | decide) (by rw [f197_0 tt hne]; omega) H.size) (cwV 2 hts gwsMX8_divide_0 rfl rfl rfl hd_yX8_setShifted_RX8 (by decide +kernel)) (fz_pre (va_recv hK hP (ci := 8) (q0 := tb) rfl (WW_o (by omega))) hP hK hD) rfl rfl hl.1 rfl (lv_room (Nat.le_of_ble_eq_true rfl)) dX8_divide_141 (by decide +kernel)) hS (fun q _ h => hFc q h) hFc (fun u t9_ H locs ht hvm hw9 hB9 hz1 hk1 hS => ?_)
                  obtain ⟨wl_198, wG_198⟩ := u
                  try dsimp only at hw9 hB9
                  obtain ⟨b_wl_198, f198_0⟩ := hw9
                  have hP : va_P (dC, dI) vwCl (WW nW hw lw kw wl_198 wb wG_198) H := fz_P ht hB9.1
                  have hD : va_D A (WW nW hw lw kw wl_198 wb wG_198) := hB9.2.weaken (fun _ q _ h => hFc q.1 h)
                  refine lv_iload hx hb dX8_divide_144 (lv_at hl 3 rfl) ?_
                  refine lv_istore hx hb dX8_divide_146 hl (by decide) rfl (fun ls (hl : lv_has ls _ ([(9, .int (iI ((wl tt).toInt - (wl ta).toInt))), (8, .int l8_x98), (7, .int (wb tt)), (6, .int k0_j9), (5, .int (iI ((wl tt).toInt - (wl ta).toInt))), (4, .int (wl ta)), (0, .ref (hw tt)), (1, .ref (hw ta)), (2, .ref (hw tb)), (3, .ref (hw tc))])) => ?_)
                  have hl : lv_has _ _ ([(9, .int (iI ((wl tt).toInt - (wl ta).toInt))), (8, .int l8_x98), (7, .int (wb tt)), (6, .int k0_j9), (5, .int (iI ((wl tt).toInt - (wl ta).toInt))), (4, .int (wl ta)), (0, .ref (hw tt)), (1, .ref (hw ta)), (2, .ref (hw tb)), (3, .ref (hw tc))]) := lv_sub hl [0, 1, 2, 3, 4, 5, 6, 7, 8, 9] rfl
                  refine (fun (loop : ∀ (n9 : Nat) (wG_x148 : Nat → Nat → Int64) (l9_x148 : Int32) (H : Heap) (locs : List Loc) (ls : Array Slot), ((-1) ≤ l9_x148.toInt ∧ l9_x148.toInt ≤ 13) → ((wl ta).toInt + l9_x148.toInt ≤ 13) → (l9_x148.toInt - (-1) < ((n9 : Nat) : Int)) → va_P (dC, dI) vwCl (WW nW hw lw kw wl_198 wb wG_x148) H → va_D A (WW nW hw lw kw wl_198 wb wG_x148) → va_S A s.heap H locs → lv_has ls 10 [(9, .int l9_x148), (8, .int l8_x98), (7, .int (wb tt)), (6, .int k0_j9), (5, .int (iI ((wl tt).toInt - (wl ta).toInt))), (4, .int (wl ta)), (0, .ref (hw tt)), (1, .ref (hw ta)), (2, .ref (hw tb)), (3, .ref (hw tc))] → W p l e _ s m _ below meth c H locs 0 0 _ (F0 m 148 ls [])) => loop (15) wG_198 (iI ((wl tt).toInt - (wl ta).toInt)) _ _ _ (iI_rng (by omega) (by omega) (by decide) (by decide)) (show (wl ta).toInt + (iI ((wl tt).toInt - (wl ta).toInt)).toInt ≤ 13 from by (try rw [iI_t (by omega) (by omega)]); omega) ((by have e9 : ((iI ((wl tt).toInt - (wl ta).toInt))).toInt = ((wl tt).toInt - (wl ta).toInt) := (iI_t (by omega) (by omega)); omega)) hP hD hS hl) ?_
                  intro n9
                  induction n9 with
                  | zero => intro wG_x148 l9_x148 H locs ls b_l9_x148 hsj hf9; exact False.elim (by omega)
                  | succ n9 ihx148 =>
                    intro wG_x148 l9_x148 H locs ls b_l9_x148 hsj hfx148 hP hD hS hl
                    refine lv_iload hx hb dX8_divide_148 (lv_at hl 0 rfl) ?_
                    refine lv_if_lt (tgt := 175) hx hb dX8_divide_150 (by decide) (fun c_150 => ?_) (fun c_150 => ?_)
                    · have t_150 : l9_x148.toInt < 0 := toI_lt c_150 rfl (by decide : (0 : Int32).toInt = 0)
                      refine lv_aload_n hx hb dX8_divide_175 rfl (lv_at hl 6 rfl) ?_
                      refine lv_iload hx hb dX8_divide_176 (lv_at hl 4 rfl) ?_
                      refine lv_iconst (v := 1) hx hb dX8_divide_178 (by decide) ?_
                      refine lv_iadd hx hb dX8_divide_179 ?_
                      refine lv_topi (fun y221 hy221 => ?_)
                      obtain rfl : (iI (((wl tt).toInt - (wl ta).toInt) + 1)) = y221 := (hy221.trans (iI_add2 rfl (by decide : (1 : Int32) = iI 1))).symm
                      refine va_put (D := (dC, dI)) (ci := 8) (v := .int (iI (((wl tt).toInt - (wl ta).toInt) + 1))) (ty := .int) (C := RX8) (T := TX8) (N := 3) hx hb hts iwsMX8_divide_in8 tyX8 tyX8_ok nmX8 hown hK hP hD hS (tt) (WW_o (by omega)) rfl 1 (by decide) (hts (.fieldLink RX8 17 "OptimaWorks$Whole" "length" "I") (by decide +kernel)) (fun _ h9 => h9) rfl (by decide +kernel) rfl rfl (Nat.le_of_ble_eq_true rfl) dX8_divide_180 (fun H locs hP hD hS => ?_)
                      obtain ⟨u222, hu222⟩ : ∃ f9, f9 = fT wl_198 tt (iI (((wl tt).toInt - (wl ta).toInt) + 1)) := ⟨_, rfl⟩
                      have hP : va_P (dC, dI) vwCl (WW nW hw lw kw u222 wb wG_x148) H := by rw [hu222]; exact Eq.mp (congrArg (fun z9 => va_P (dC, dI) vwCl z9 H) (WW_sl (by omega) (iI (((wl tt).toInt - (wl ta).toInt) + 1)))) hP
                      have hD : va_D A (WW nW hw lw kw u222 wb wG_x148) := by rw [hu222]; exact Eq.mp (congrArg (fun z9 => va_D A z9) (WW_sl (by omega) (iI (((wl tt).toInt - (wl ta).toInt) + 1)))) hD
                      have b_u222 : ∀ q : Nat, 0 ≤ (u222 q).toInt ∧ (u222 q).toInt ≤ 14 := by rw [hu222]; exact fT_r b_wl_198 (iI_rng (by omega) (by omega) (by decide) (by decide))
                      have q_u222 : (u222 tt).toInt = (((wl tt).toInt - (wl ta).toInt) + 1) := by rw [hu222, fT_eq]; exact (iI_t (by omega) (by omega))
                      clear hu222
                      refine lv_aload_n hx hb dX8_divide_183 rfl (lv_at hl 6 rfl) ?_
                      have hFc := allFree hD hS hA
                      refine va_callv (va_runV (As := []) (rest := []) ⟨hx, hb, hml, hown, hts⟩ (m_X8_trim l dC dI nW hw lw kw u222 wb wG_x148 tt b_u222 b_wb (by first | assumption | omega | (rw [iI_t (by omega) (by omega)]; omega) | decide) H.size) (cwV 0 hts gwsMX8_divide_2 rfl rfl rfl hd_yX8_trim_RX8 (by decide +kernel)) (fz_pre (va_recv hK hP (ci := 8) (q0 := tt) rfl (WW_o (by omega))) hP hK hD) rfl rfl hl.1 rfl (lv_room (Nat.le_of_ble_eq_true rfl)) dX8_divide_184 (by decide +kernel)) hS (fun q _ h => hFc q h) hFc (fun u t9_ H locs ht hvm hw9 hB9 hz1 hk1 hS => ?_)
                      obtain ⟨wl_223, wb_223⟩ := u
                      try dsimp only at hw9 hB9
                      obtain ⟨b_wl_223, b_wb_223⟩ := hw9
                      have hP : va_P (dC, dI) vwCl (WW nW hw lw kw wl_223 wb_223 wG_x148) H := fz_P ht hB9.1
                      have hD : va_D A (WW nW hw lw kw wl_223 wb_223 wG_x148) := hB9.2.weaken (fun _ q _ h => hFc q.1 h)
                      refine lv_aload_n hx hb dX8_divide_187 rfl (lv_at hl 8 rfl) ?_
                      refine lv_iload hx hb dX8_divide_188 (lv_at hl 5 rfl) ?_
                      refine va_put (D := (dC, dI)) (ci := 8) (v := .int (wl ta)) (ty := .int) (C := RX8) (T := TX8) (N := 3) hx hb hts iwsMX8_divide_in8 tyX8 tyX8_ok nmX8 hown hK hP hD hS (tb) (WW_o (by omega)) rfl 1 (by decide) (hts (.fieldLink RX8 17 "OptimaWorks$Whole" "length" "I") (by decide +kernel)) (fun _ h9 => h9) rfl (by decide +kernel) rfl rfl (Nat.le_of_ble_eq_true rfl) dX8_divide_190 (fun H locs hP hD hS => ?_)
                      obtain ⟨u224, hu224⟩ : ∃ f9, f9 = fT wl_223 tb (wl ta) := ⟨_, rfl⟩
                      have hP : va_P (dC, dI) vwCl (WW nW hw lw kw u224 wb_223 wG_x148) H := by rw [hu224]; exact Eq.mp (congrArg (fun z9 => va_P (dC, dI) vwCl z9 H) (WW_sl (by omega) (wl ta))) hP
                      have hD : va_D A (WW nW hw lw kw u224 wb_223 wG_x148) := by rw [hu224]; exact Eq.mp (congrArg (fun z9 => va_D A z9) (WW_sl (by omega) (wl ta))) hD
                      have b_u224 : ∀ q : Nat, 0 ≤ (u224 q).toInt ∧ (u224 q).toInt ≤ 14 := by rw [hu224]; exact fT_r b_wl_223 (by first | assumption | exact ⟨by omega, by omega⟩)
                      have q_u224 : (u224 tb).toInt = (wl ta).toInt := by rw [hu224, fT_eq]
                      clear hu224
                      refine lv_aload_n hx hb dX8_divide_193 rfl (lv_at hl 8 rfl) ?_
                      refine lv_iload hx hb dX8_divide_194 (lv_at hl 1 rfl) ?_
                      have hFc := allFree hD hS hA
                      refine va_callv (va_runV (As := [.int l8_x98]) (rest := []) ⟨hx, hb, hml, hown, hts⟩ (m_X8_shiftBack l dC dI nW hw lw kw u224 wb_223 wG_x148 tb l8_x98 b_u224 b_wb_223 (by first | assumption | omega | (rw [iI_t (by omega) (by omega)]; omega) | decide) H.size) (cwV 1 hts gwsMX8_divide_3 rfl rfl rfl hd_yX8_shiftBack_RX8 (by decide +kernel)) (fz_pre (va_recv hK hP (ci := 8) (q0 := tb) rfl (WW_o (by omega))) hP hK hD) rfl rfl hl.1 rfl (lv_room (Nat.le_of_ble_eq_true rfl)) dX8_divide_196 (by decide +kernel)) hS (fun q _ h => hFc q h) hFc (fun u t9_ H locs ht hvm hw9 hB9 hz1 hk1 hS => ?_)
                      obtain ⟨wG_225, hwit225⟩ : ∃ w9, w9 = u := ⟨u, rfl⟩
                      subst hwit225
                      clear hw9
                      have hP : va_P (dC, dI) vwCl (WW nW hw lw kw u224 wb_223 wG_225) H := fz_P ht hB9.1
                      have hD : va_D A (WW nW hw lw kw u224 wb_223 wG_225) := hB9.2.weaken (fun _ q _ h => hFc q.1 h)
                      refine lv_aload_n hx hb dX8_divide_199 rfl (lv_at hl 8 rfl) ?_
                      have hFc := allFree hD hS hA
                      refine va_callv (va_runV (As := []) (rest := []) ⟨hx, hb, hml, hown, hts⟩ (m_X8_trim l dC dI nW hw lw kw u224 wb_223 wG_225 tb b_u224 b_wb_223 (by first | assumption | omega | (rw [iI_t (by omega) (by omega)]; omega) | decide) H.size) (cwV 0 hts gwsMX8_divide_2 rfl rfl rfl hd_yX8_trim_RX8 (by decide +kernel)) (fz_pre (va_recv hK hP (ci := 8) (q0 := tb) rfl (WW_o (by omega))) hP hK hD) rfl rfl hl.1 rfl (lv_room (Nat.le_of_ble_eq_true rfl)) dX8_divide_200 (by decide +kernel)) hS (fun q _ h => hFc q h) hFc (fun u t9_ H locs ht hvm hw9 hB9 hz1 hk1 hS => ?_)
                      obtain ⟨wl_226, wb_226⟩ := u
                      try dsimp only at hw9 hB9
                      obtain ⟨b_wl_226, b_wb_226⟩ := hw9
                      have hP : va_P (dC, dI) vwCl (WW nW hw lw kw wl_226 wb_226 wG_225) H := fz_P ht hB9.1
                      have hD : va_D A (WW nW hw lw kw wl_226 wb_226 wG_225) := hB9.2.weaken (fun _ q _ h => hFc q.1 h)
                      have hl : lv_has _ _ ([(7, .int (wb tt)), (6, .int k0_j9), (5, .int (iI ((wl tt).toInt - (wl ta).toInt))), (4, .int (wl ta)), (0, .ref (hw tt)), (1, .ref (hw ta)), (2, .ref (hw tb)), (3, .ref (hw tc))]) := lv_sub hl [2, 3, 4, 5, 6, 7, 8, 9] rfl
                      exact join12 _ _ _ _ ⟨wl_226, wb_226, wG_225, b_wl_226, b_wb_226, rfl, hP, hD, hS, hl⟩
                    · have t_150 : ¬ l9_x148.toInt < 0 := toI_nlt c_150 rfl (by decide : (0 : Int32).toInt = 0)
                      refine lv_aload_n hx hb dX8_divide_153 rfl (lv_at hl 6 rfl) ?_
                      refine va_get (D := (dC, dI)) (ci := 8) (v := .ref (lw tt)) (C := RX8) (T := TX8) (N := 3) hx hb hts iwsMX8_divide_in8 hown hK hP (tt) (WW_o (by omega)) rfl 0 (by decide) (hts (.fieldLink RX8 9 "OptimaWorks$Whole" "limb" "[J") (by decide +kernel)) (fun _ h9 => h9) rfl dX8_divide_154 ?_
                      refine lv_iload hx hb dX8_divide_157 (lv_at hl 0 rfl) ?_
                      refine lv_aload_n hx hb dX8_divide_159 rfl (lv_at hl 8 rfl) ?_
                      refine lv_aload_n hx hb dX8_divide_160 rfl (lv_at hl 9 rfl) ?_
                      refine lv_iload hx hb dX8_divide_161 (lv_at hl 5 rfl) ?_
                      refine lv_iload hx hb dX8_divide_163 (lv_at hl 0 rfl) ?_
                      have hFc := allFree hD hS hA
                      refine va_calll (va_runV (As := [.ref (hw tc), .int (wl ta), .int l9_x148]) (rest := [.int l9_x148, .ref (lw tt)]) ⟨hx, hb, hml, hown, hts⟩ (m_X8_takeTimes l dC dI nW hw lw kw wl_198 wb wG_x148 tb tc (wl ta) l9_x148 b_wl_198 b_wb (by first | assumption | exact ⟨by omega, by omega⟩) (by first | exact b_l9_x148 | assumption | exact ⟨by omega, by omega⟩) (by first | assumption | omega | (rw [iI_t (by omega) (by omega)]; omega) | decide) (by first | assumption | omega | (rw [iI_t (by omega) (by omega)]; omega) | decide) (by first | assumption | omega | (rw [iI_t (by omega) (by omega)]; omega) | decide) H.size) (cwV 3 hts gwsMX8_divide_1 rfl rfl rfl hd_yX8_takeTimes_RX8 (by decide +kernel)) (fz_pre (va_recv hK hP (ci := 8) (q0 := tb) rfl (WW_o (by omega))) hP hK hD) rfl rfl hl.1 rfl (lv_room (Nat.le_of_ble_eq_true rfl)) dX8_divide_165 (by decide +kernel)) hS (fun q _ h => hFc q h) hFc (fun r227 u t9_ H locs ht hvm hw9 hB9 hz1 hk1 hS => ?_)
                      obtain ⟨wG_227, hwit227⟩ : ∃ w9, w9 = u := ⟨u, rfl⟩
                      subst hwit227
                      clear hw9
                      have hP : va_P (dC, dI) vwCl (WW nW hw lw kw wl_198 wb wG_227) H := fz_P ht hB9.1
                      have hD : va_D A (WW nW hw lw kw wl_198 wb wG_227) := hB9.2.weaken (fun _ q _ h => hFc q.1 h)
                      refine va_last (cA := kw) (n := 14) (f := (wG_227 tt)) hx hb hK hP hD hS (nW + tt) 0 (WW_a (by omega)) rfl (vp_in_iff.mpr ⟨(by omega), (Int.lt_of_le_of_lt (b_l9_x148.2) (by decide))⟩) dX8_divide_168 (fun H locs hP hD hS => ?_)
                      obtain ⟨u228, hu228⟩ : ∃ f9, f9 = fT wG_227 tt (vp_updL (wG_227 tt) (l9_x148).toNatClampNeg r227) := ⟨_, rfl⟩
                      have hP : va_P (dC, dI) vwCl (WW nW hw lw kw wl_198 wb u228) H := by rw [hu228]; exact Eq.mp (congrArg (fun z9 => va_P (dC, dI) vwCl z9 H) (WW_sg (by omega) (vp_updL (wG_227 tt) (l9_x148).toNatClampNeg r227))) hP
                      have hD : va_D A (WW nW hw lw kw wl_198 wb u228) := by rw [hu228]; exact Eq.mp (congrArg (fun z9 => va_D A z9) (WW_sg (by omega) (vp_updL (wG_227 tt) (l9_x148).toNatClampNeg r227))) hD
                      clear hu228
                      refine lv_iinc (v := (iI (l9_x148.toInt + (-1)))) hx hb dX8_divide_169 hl (k := 0) rfl (iI_add2 (iI_of _) (by decide : ((-1) : Int32) = iI (-1))) (by decide) rfl (fun ls (hl : lv_has ls _ ([(9, .int (iI (l9_x148.toInt + (-1)))), (8, .int l8_x98), (7, .int (wb tt)), (6, .int k0_j9), (5, .int (iI ((wl tt).toInt - (wl ta).toInt))), (4, .int (wl ta)), (0, .ref (hw tt)), (1, .ref (hw ta)), (2, .ref (hw tb)), (3, .ref (hw tc))])) => ?_)
                      refine lv_goto (tgt := 148) hx hb dX8_divide_172 (by decide) ?_
                      have hl : lv_has _ _ ([(9, .int (iI (l9_x148.toInt + (-1)))), (8, .int l8_x98), (7, .int (wb tt)), (6, .int k0_j9), (5, .int (iI ((wl tt).toInt - (wl ta).toInt))), (4, .int (wl ta)), (0, .ref (hw tt)), (1, .ref (hw ta)), (2, .ref (hw tb)), (3, .ref (hw tc))]) := lv_sub hl [0, 1, 2, 3, 4, 5, 6, 7, 8, 9] rfl
                      exact ihx148 u228 (iI (l9_x148.toInt + (-1))) _ _ _ (iI_rng (by omega) (Int.le_trans (Int.add_le_add (b_l9_x148.2) (Int.le_refl _)) (by decide)) (by decide) (by decide)) (show (wl ta).toInt + (iI (l9_x148.toInt + (-1))).toInt ≤ 13 from by (try rw [iI_t (by omega) (by omega)]); omega) (by have e9 : ((iI (l9_x148.toInt + (-1)))).toInt = (l9_x148.toInt + (-1)) := (iI_t (Int.le_trans (by decide) (Int.add_le_add (b_l9_x148.1) (Int.le_refl _))) (Int.le_trans (Int.add_le_add (b_l9_x148.2) (Int.le_refl _)) (by decide))); omega) hP hD hS hl
            · first | (have t_79 : ¬ ((wl tt).toInt - (wl ta).toInt) ≥ 0 := toI_nge c_79 (iI_t (by omega) (by omega)) (by decide : (0 : Int32).toInt = 0)) | skip
              refine lv_aload_n hx hb dX8_divide_82 rfl (lv_at hl 6 rfl) ?_
              refine lv_aload_n hx hb dX8_divide_83 rfl (lv_at hl 4 rfl) ?_
              have hFc := allFree hD hS hA
              refine va_callv (va_runV (As := [.ref (hw tt)]) (rest := []) ⟨hx, hb, hml, hown, hts⟩ (m_X8_copy l dC dI nW hw lw kw wl wb wG tb tt b_wl b_wb (by first | assumption | omega | (rw [iI_t (by omega) (by omega)]; omega) | decide) (by first | assumption | omega | (rw [iI_t (by omega) (by omega)]; omega) | decide) H.size) (cwV 1 hts gwsMX8_divide_4 rfl rfl rfl hd_yX8_copy_RX8 (by decide +kernel)) (fz_pre (va_recv hK hP (ci := 8) (q0 := tb) rfl (WW_o (by omega))) hP hK hD) rfl rfl hl.1 rfl (lv_room (Nat.le_of_ble_eq_true rfl)) dX8_divide_84 (by decide +kernel)) hS (fun q _ h => hFc q h) hFc (fun u t9_ H locs ht hvm hw9 hB9 hz1 hk1 hS => ?_)
              obtain ⟨wl_229, wb_229, wG_229⟩ := u
              try dsimp only at hw9 hB9
              obtain ⟨b_wl_229, b_wb_229⟩ := hw9
              have hP : va_P (dC, dI) vwCl (WW nW hw lw kw wl_229 wb_229 wG_229) H := fz_P ht hB9.1
              have hD : va_D A (WW nW hw lw kw wl_229 wb_229 wG_229) := hB9.2.weaken (fun _ q _ h => hFc q.1 h)
              refine lv_aload_n hx hb dX8_divide_87 rfl (lv_at hl 4 rfl) ?_
              refine lv_iconst (v := 0) hx hb dX8_divide_88 (by decide) ?_
              refine va_put (D := (dC, dI)) (ci := 8) (v := .int 0) (ty := .int) (C := RX8) (T := TX8) (N := 3) hx hb hts iwsMX8_divide_in8 tyX8 tyX8_ok nmX8 hown hK hP hD hS (tt) (WW_o (by omega)) rfl 1 (by decide) (hts (.fieldLink RX8 17 "OptimaWorks$Whole" "length" "I") (by decide +kernel)) (fun _ h9 => h9) rfl (by decide +kernel) rfl rfl (Nat.le_of_ble_eq_true rfl) dX8_divide_89 (fun H locs hP hD hS => ?_)
              obtain ⟨u230, hu230⟩ : ∃ f9, f9 = fT wl_229 tt (0 : Int32) := ⟨_, rfl⟩
              have hP : va_P (dC, dI) vwCl (WW nW hw lw kw u230 wb_229 wG_229) H := by rw [hu230]; exact Eq.mp (congrArg (fun z9 => va_P (dC, dI) vwCl z9 H) (WW_sl (by omega) (0 : Int32))) hP
              have hD : va_D A (WW nW hw lw kw u230 wb_229 wG_229) := by rw [hu230]; exact Eq.mp (congrArg (fun z9 => va_D A z9) (WW_sl (by omega) (0 : Int32))) hD
              have b_u230 : ∀ q : Nat, 0 ≤ (u230 q).toInt ∧ (u230 q).toInt ≤ 14 := by rw [hu230]; exact fT_r b_wl_229 (show 0 ≤ (0 : Int32).toInt ∧ (0 : Int32).toInt ≤ 14 from by decide)
              have q_u230 : (u230 tt).toInt = 0 := by rw [hu230, fT_eq]; exact (by decide : (0 : Int32).toInt = 0)
              clear hu230
              refine lv_goto (tgt := 203) hx hb dX8_divide_92 (by decide) ?_
              have hl : lv_has _ _ ([(7, .int (wb tt)), (6, .int k0_j9), (5, .int (iI ((wl tt).toInt - (wl ta).toInt))), (4, .int (wl ta)), (0, .ref (hw tt)), (1, .ref (hw ta)), (2, .ref (hw tb)), (3, .ref (hw tc))]) := lv_sub hl [0, 1, 2, 3, 4, 5, 6, 7] rfl
              exact join12 _ _ _ _ ⟨u230, wb_229, wG_229, b_u230, b_wb_229, rfl, hP, hD, hS, hl⟩
          · have t_57 : (wl ta).toInt = 1 := toI_nne c_57 rfl (by decide : (1 : Int32).toInt = 1)
            refine lv_aload_n hx hb dX8_divide_60 rfl (lv_at hl 6 rfl) ?_
            refine lv_aload_n hx hb dX8_divide_61 rfl (lv_at hl 4 rfl) ?_
            refine lv_aload_n hx hb dX8_divide_62 rfl (lv_at hl 5 rfl) ?_
            refine va_get (D := (dC, dI)) (ci := 8) (v := .ref (lw ta)) (C := RX8) (T := TX8) (N := 3) hx hb hts iwsMX8_divide_in8 hown hK hP (ta) (WW_o (by omega)) rfl 0 (by decide) (hts (.fieldLink RX8 9 "OptimaWorks$Whole" "limb" "[J") (by decide +kernel)) (fun _ h9 => h9) rfl dX8_divide_63 ?_
            refine lv_iconst (v := 0) hx hb dX8_divide_66 (by decide) ?_
            refine va_lald (cA := kw) (n := 14) (f := (wG ta)) hx hb hK hP (nW + ta) 0 (WW_a (by omega)) rfl (show ¬ ((0 : Int32) < 0 ∨ 14 ≤ (0 : Int32).toNatClampNeg) by decide) dX8_divide_67 ?_
            refine lv_topl (fun v231 hv231 => ?_)
            clear hv231
            have hFc := allFree hD hS hA
            refine va_calll (va_runV (As := [.long v231]) (rest := [.ref (hw tb)]) ⟨hx, hb, hml, hown, hts⟩ (m_X8_divideSmall l dC dI nW hw lw kw wl wb wG tt v231 b_wl b_wb (by first | assumption | omega | (rw [iI_t (by omega) (by omega)]; omega) | decide) H.size) (cwV 1 hts gwsMX8_divide_5 rfl rfl rfl hd_yX8_divideSmall_RX8 (by decide +kernel)) (fz_pre (va_recv hK hP (ci := 8) (q0 := tt) rfl (WW_o (by omega))) hP hK hD) rfl rfl hl.1 rfl (lv_room (Nat.le_of_ble_eq_true rfl)) dX8_divide_68 (by decide +kernel)) hS (fun q _ h => hFc q h) hFc (fun r232 u t9_ H locs ht hvm hw9 hB9 hz1 hk1 hS => ?_)
            obtain ⟨wl_232, wG_232⟩ := u
            try dsimp only at hw9 hB9
            have b_wl_232 := hw9
            try dsimp only at b_wl_232
            have hP : va_P (dC, dI) vwCl (WW nW hw lw kw wl_232 wb wG_232) H := fz_P ht hB9.1
            have hD : va_D A (WW nW hw lw kw wl_232 wb wG_232) := hB9.2.weaken (fun _ q _ h => hFc q.1 h)
            have hFc := allFree hD hS hA
            refine va_callv (va_runV (As := [.long r232]) (rest := []) ⟨hx, hb, hml, hown, hts⟩ (m_X8_setLong l dC dI nW hw lw kw wl_232 wb wG_232 tb r232 b_wl_232 b_wb (by first | assumption | omega | (rw [iI_t (by omega) (by omega)]; omega) | decide) H.size) (cwV 1 hts gwsMX8_divide_6 rfl rfl rfl hd_yX8_setLong_RX8 (by decide +kernel)) (fz_pre (va_recv hK hP (ci := 8) (q0 := tb) rfl (WW_o (by omega))) hP hK hD) rfl rfl hl.1 rfl (lv_room (Nat.le_of_ble_eq_true rfl)) dX8_divide_71 (by decide +kernel)) hS (fun q _ h => hFc q h) hFc (fun u t9_ H locs ht hvm hw9 hB9 hz1 hk1 hS => ?_)
            obtain ⟨wl_233, wb_233, wG_233⟩ := u
            try dsimp only at hw9 hB9
            obtain ⟨b_wl_233, b_wb_233⟩ := hw9
            have hP : va_P (dC, dI) vwCl (WW nW hw lw kw wl_233 wb_233 wG_233) H := fz_P ht hB9.1
            have hD : va_D A (WW nW hw lw kw wl_233 wb_233 wG_233) := hB9.2.weaken (fun _ q _ h => hFc q.1 h)
            refine lv_goto (tgt := 203) hx hb dX8_divide_74 (by decide) ?_
            have hl : lv_has _ _ ([(7, .int (wb tt)), (6, .int k0_j9), (5, .int (iI ((wl tt).toInt - (wl ta).toInt))), (4, .int (wl ta)), (0, .ref (hw tt)), (1, .ref (hw ta)), (2, .ref (hw tb)), (3, .ref (hw tc))]) := lv_sub hl [0, 1, 2, 3, 4, 5, 6, 7] rfl
            exact join12 _ _ _ _ ⟨wl_233, wb_233, wG_233, b_wl_233, b_wb_233, rfl, hP, hD, hS, hl⟩
        · rintro H locs ls stk ⟨wl_j12, wb_j12, wG_j12, b_wl_j12, b_wb_j12, rfl, hP, hD, hS, hl⟩
          refine lv_aload_n hx hb dX8_divide_203 rfl (lv_at hl 4 rfl) ?_
          refine lv_iload hx hb dX8_divide_204 (lv_at hl 1 rfl) ?_
          refine W.cut (pc := 221) (fun H locs ls stk => ∃ (k0_j15 : Int32), (0 ≤ k0_j15.toInt ∧ k0_j15.toInt ≤ 1) ∧  stk = [.int k0_j15, .ref (hw tt)] ∧ va_P (dC, dI) vwCl (WW nW hw lw kw wl_j12 wb_j12 wG_j12) H ∧ va_D A (WW nW hw lw kw wl_j12 wb_j12 wG_j12) ∧ va_S A s.heap H locs ∧ lv_has ls 10 [(7, .int (wb tt)), (6, .int k0_j9), (5, .int (iI ((wl tt).toInt - (wl ta).toInt))), (4, .int (wl ta)), (0, .ref (hw tt)), (1, .ref (hw ta)), (2, .ref (hw tb)), (3, .ref (hw tc))]) (fun join15 => ?_) ?_
          · refine lv_if_eq (tgt := 220) hx hb dX8_divide_206 (by decide) (fun c_206 => ?_) (fun c_206 => ?_)
            · have t_206 : k0_j9.toInt = 0 := toI_eq c_206 rfl (by decide : (0 : Int32).toInt = 0)
              refine lv_iconst (v := 0) hx hb dX8_divide_220 (by decide) ?_
              have hl : lv_has _ _ ([(7, .int (wb tt)), (6, .int k0_j9), (5, .int (iI ((wl tt).toInt - (wl ta).toInt))), (4, .int (wl ta)), (0, .ref (hw tt)), (1, .ref (hw ta)), (2, .ref (hw tb)), (3, .ref (hw tc))]) := lv_sub hl [0, 1, 2, 3, 4, 5, 6, 7] rfl
              exact join15 _ _ _ _ ⟨0, (show 0 ≤ (0 : Int32).toInt ∧ (0 : Int32).toInt ≤ 1 from by decide), rfl, hP, hD, hS, hl⟩
            · have t_206 : ¬ k0_j9.toInt = 0 := toI_neq c_206 rfl (by decide : (0 : Int32).toInt = 0)
              refine lv_aload_n hx hb dX8_divide_209 rfl (lv_at hl 4 rfl) ?_
              refine va_get (D := (dC, dI)) (ci := 8) (v := .int (wl_j12 tt)) (C := RX8) (T := TX8) (N := 3) hx hb hts iwsMX8_divide_in8 hown hK hP (tt) (WW_o (by omega)) rfl 1 (by decide) (hts (.fieldLink RX8 17 "OptimaWorks$Whole" "length" "I") (by decide +kernel)) (fun _ h9 => h9) rfl dX8_divide_210 ?_
              have br210 := b_wl_j12 tt
              refine lv_if_eq (tgt := 220) hx hb dX8_divide_213 (by decide) (fun c_213 => ?_) (fun c_213 => ?_)
              · have t_213 : (wl_j12 tt).toInt = 0 := toI_eq c_213 rfl (by decide : (0 : Int32).toInt = 0)
                refine lv_iconst (v := 0) hx hb dX8_divide_220 (by decide) ?_
                have hl : lv_has _ _ ([(7, .int (wb tt)), (6, .int k0_j9), (5, .int (iI ((wl tt).toInt - (wl ta).toInt))), (4, .int (wl ta)), (0, .ref (hw tt)), (1, .ref (hw ta)), (2, .ref (hw tb)), (3, .ref (hw tc))]) := lv_sub hl [0, 1, 2, 3, 4, 5, 6, 7] rfl
                exact join15 _ _ _ _ ⟨0, (show 0 ≤ (0 : Int32).toInt ∧ (0 : Int32).toInt ≤ 1 from by decide), rfl, hP, hD, hS, hl⟩
              · have t_213 : ¬ (wl_j12 tt).toInt = 0 := toI_neq c_213 rfl (by decide : (0 : Int32).toInt = 0)
                refine lv_iconst (v := 1) hx hb dX8_divide_216 (by decide) ?_
                refine lv_goto (tgt := 221) hx hb dX8_divide_217 (by decide) ?_
                have hl : lv_has _ _ ([(7, .int (wb tt)), (6, .int k0_j9), (5, .int (iI ((wl tt).toInt - (wl ta).toInt))), (4, .int (wl ta)), (0, .ref (hw tt)), (1, .ref (hw ta)), (2, .ref (hw tb)), (3, .ref (hw tc))]) := lv_sub hl [0, 1, 2, 3, 4, 5, 6, 7] rfl
                exact join15 _ _ _ _ ⟨1, (show 0 ≤ (1 : Int32).toInt ∧ (1 : Int32).toInt ≤ 1 from by decide), rfl, hP, hD, hS, hl⟩
          · rintro H locs ls stk ⟨k0_j15, b_k0_j15, rfl, hP, hD, hS, hl⟩
            refine va_put (D := (dC, dI)) (ci := 8) (v := .int k0_j15) (ty := .boolean) (C := RX8) (T := TX8) (N := 3) hx hb hts iwsMX8_divide_in8 tyX8 tyX8_ok nmX8 hown hK hP hD hS (tt) (WW_o (by omega)) rfl 2 (by decide) (hts (.fieldLink RX8 13 "OptimaWorks$Whole" "below" "Z") (by decide +kernel)) (fun _ h9 => h9) rfl (by decide +kernel) (by rcases z01 (x := k0_j15) (b_k0_j15) with h9 | h9 <;> rw [h9] <;> rfl) (by rcases z01 (x := k0_j15) (b_k0_j15) with h9 | h9 <;> rw [h9] <;> rfl) (Nat.le_of_ble_eq_true rfl) dX8_divide_221 (fun H locs hP hD hS => ?_)
            obtain ⟨u234, hu234⟩ : ∃ f9, f9 = fT wb_j12 tt k0_j15 := ⟨_, rfl⟩
            have hP : va_P (dC, dI) vwCl (WW nW hw lw kw wl_j12 u234 wG_j12) H := by rw [hu234]; exact Eq.mp (congrArg (fun z9 => va_P (dC, dI) vwCl z9 H) (WW_sb (by omega) k0_j15)) hP
            have hD : va_D A (WW nW hw lw kw wl_j12 u234 wG_j12) := by rw [hu234]; exact Eq.mp (congrArg (fun z9 => va_D A z9) (WW_sb (by omega) k0_j15)) hD
            have b_u234 : ∀ q : Nat, 0 ≤ (u234 q).toInt ∧ (u234 q).toInt ≤ 1 := by rw [hu234]; exact fT_r b_wb_j12 (b_k0_j15)
            have q_u234 : (u234 tt).toInt = k0_j15.toInt := by rw [hu234, fT_eq]
            clear hu234
            refine lv_aload_n hx hb dX8_divide_224 rfl (lv_at hl 6 rfl) ?_
            refine lv_iload hx hb dX8_divide_225 (lv_at hl 0 rfl) ?_
            refine W.cut (pc := 242) (fun H locs ls stk => ∃ (k0_j16 : Int32), (0 ≤ k0_j16.toInt ∧ k0_j16.toInt ≤ 1) ∧  stk = [.int k0_j16, .ref (hw tb)] ∧ va_P (dC, dI) vwCl (WW nW hw lw kw wl_j12 u234 wG_j12) H ∧ va_D A (WW nW hw lw kw wl_j12 u234 wG_j12) ∧ va_S A s.heap H locs ∧ lv_has ls 10 [(7, .int (wb tt)), (6, .int k0_j9), (5, .int (iI ((wl tt).toInt - (wl ta).toInt))), (4, .int (wl ta)), (0, .ref (hw tt)), (1, .ref (hw ta)), (2, .ref (hw tb)), (3, .ref (hw tc))]) (fun join16 => ?_) ?_
            · refine lv_if_eq (tgt := 241) hx hb dX8_divide_227 (by decide) (fun c_227 => ?_) (fun c_227 => ?_)
              · have t_227 : (wb tt).toInt = 0 := toI_eq c_227 rfl (by decide : (0 : Int32).toInt = 0)
                refine lv_iconst (v := 0) hx hb dX8_divide_241 (by decide) ?_
                have hl : lv_has _ _ ([(7, .int (wb tt)), (6, .int k0_j9), (5, .int (iI ((wl tt).toInt - (wl ta).toInt))), (4, .int (wl ta)), (0, .ref (hw tt)), (1, .ref (hw ta)), (2, .ref (hw tb)), (3, .ref (hw tc))]) := lv_sub hl [0, 1, 2, 3, 4, 5, 6, 7] rfl
                exact join16 _ _ _ _ ⟨0, (show 0 ≤ (0 : Int32).toInt ∧ (0 : Int32).toInt ≤ 1 from by decide), rfl, hP, hD, hS, hl⟩
              · have t_227 : ¬ (wb tt).toInt = 0 := toI_neq c_227 rfl (by decide : (0 : Int32).toInt = 0)
                refine lv_aload_n hx hb dX8_divide_230 rfl (lv_at hl 6 rfl) ?_
                refine va_get (D := (dC, dI)) (ci := 8) (v := .int (wl_j12 tb)) (C := RX8) (T := TX8) (N := 3) hx hb hts iwsMX8_divide_in8 hown hK hP (tb) (WW_o (by omega)) rfl 1 (by decide) (hts (.fieldLink RX8 17 "OptimaWorks$Whole" "length" "I") (by decide +kernel)) (fun _ h9 => h9) rfl dX8_divide_231 ?_
                have br231 := b_wl_j12 tb
                refine lv_if_eq (tgt := 241) hx hb dX8_divide_234 (by decide) (fun c_234 => ?_) (fun c_234 => ?_)
                · have t_234 : (wl_j12 tb).toInt = 0 := toI_eq c_234 rfl (by decide : (0 : Int32).toInt = 0)
                  refine lv_iconst (v := 0) hx hb dX8_divide_241 (by decide) ?_
                  have hl : lv_has _ _ ([(7, .int (wb tt)), (6, .int k0_j9), (5, .int (iI ((wl tt).toInt - (wl ta).toInt))), (4, .int (wl ta)), (0, .ref (hw tt)), (1, .ref (hw ta)), (2, .ref (hw tb)), (3, .ref (hw tc))]) := lv_sub hl [0, 1, 2, 3, 4, 5, 6, 7] rfl
                  exact join16 _ _ _ _ ⟨0, (show 0 ≤ (0 : Int32).toInt ∧ (0 : Int32).toInt ≤ 1 from by decide), rfl, hP, hD, hS, hl⟩
                · have t_234 : ¬ (wl_j12 tb).toInt = 0 := toI_neq c_234 rfl (by decide : (0 : Int32).toInt = 0)
                  refine lv_iconst (v := 1) hx hb dX8_divide_237 (by decide) ?_
                  refine lv_goto (tgt := 242) hx hb dX8_divide_238 (by decide) ?_
                  have hl : lv_has _ _ ([(7, .int (wb tt)), (6, .int k0_j9), (5, .int (iI ((wl tt).toInt - (wl ta).toInt))), (4, .int (wl ta)), (0, .ref (hw tt)), (1, .ref (hw ta)), (2, .ref (hw tb)), (3, .ref (hw tc))]) := lv_sub hl [0, 1, 2, 3, 4, 5, 6, 7] rfl
                  exact join16 _ _ _ _ ⟨1, (show 0 ≤ (1 : Int32).toInt ∧ (1 : Int32).toInt ≤ 1 from by decide), rfl, hP, hD, hS, hl⟩
            · rintro H locs ls stk ⟨k0_j16, b_k0_j16, rfl, hP, hD, hS, hl⟩
              refine va_put (D := (dC, dI)) (ci := 8) (v := .int k0_j16) (ty := .boolean) (C := RX8) (T := TX8) (N := 3) hx hb hts iwsMX8_divide_in8 tyX8 tyX8_ok nmX8 hown hK hP hD hS (tb) (WW_o (by omega)) rfl 2 (by decide) (hts (.fieldLink RX8 13 "OptimaWorks$Whole" "below" "Z") (by decide +kernel)) (fun _ h9 => h9) rfl (by decide +kernel) (by rcases z01 (x := k0_j16) (b_k0_j16) with h9 | h9 <;> rw [h9] <;> rfl) (by rcases z01 (x := k0_j16) (b_k0_j16) with h9 | h9 <;> rw [h9] <;> rfl) (Nat.le_of_ble_eq_true rfl) dX8_divide_242 (fun H locs hP hD hS => ?_)
              obtain ⟨u235, hu235⟩ : ∃ f9, f9 = fT u234 tb k0_j16 := ⟨_, rfl⟩
              have hP : va_P (dC, dI) vwCl (WW nW hw lw kw wl_j12 u235 wG_j12) H := by rw [hu235]; exact Eq.mp (congrArg (fun z9 => va_P (dC, dI) vwCl z9 H) (WW_sb (by omega) k0_j16)) hP
              have hD : va_D A (WW nW hw lw kw wl_j12 u235 wG_j12) := by rw [hu235]; exact Eq.mp (congrArg (fun z9 => va_D A z9) (WW_sb (by omega) k0_j16)) hD
              have b_u235 : ∀ q : Nat, 0 ≤ (u235 q).toInt ∧ (u235 q).toInt ≤ 1 := by rw [hu235]; exact fT_r b_u234 (b_k0_j16)
              have q_u235 : (u235 tb).toInt = k0_j16.toInt := by rw [hu235, fT_eq]
              clear hu235
              refine W.widen (k := 0) (n := 0) (by decide +kernel) (by decide +kernel) ?_
              exact W.vret hx hb hr (fun t9_ ht hW => ⟨⟨(wl_j12, u235, wG_j12), rfl, ⟨b_wl_j12, b_u235⟩, by rw [ht]; exact hP, hD⟩, hS.F ht⟩) hS.2.2 dX8_divide_245
    · have t_26 : ¬ (wl tt).toInt < 14 := toI_nlt c_26 rfl (by decide : (14 : Int32).toInt = 14)
      refine W.widen (k := 0) (n := 0) (by decide +kernel) (by decide +kernel) ?_
      exact W.vret hx hb hr (fun t9_ ht hW => ⟨⟨(wl, wb, wG), rfl, ⟨b_wl, b_wb⟩, by rw [ht]; exact hP, hD⟩, hS.F ht⟩) hS.2.2 dX8_divide_29

theorem hd_yX2_reach_RX2 : yX2_reach.cls = RX2 ∧ yX2_reach.cls ≠ "java/lang/invoke/MethodHandle" ∧ yX2_reach.cls ≠ "java/lang/invoke/VarHandle" ∧ (parseMethodDescriptor yX2_reach.desc).map (fun d => d.parameters.length) = some 2 := by decide +kernel
theorem dX2_fill_0 : decode cX2_fill 0 = .ok (.aload_n 0, 1) := dk_42 (by decide +kernel)
theorem dX2_fill_1 : decode cX2_fill 1 = .ok (.getfield 24, 3) := dk_180 (by decide +kernel)
theorem dX2_fill_4 : decode cX2_fill 4 = .ok (.iconst 0, 1) := dk_3 (by decide +kernel)
theorem dX2_fill_5 : decode cX2_fill 5 = .ok (.invokestatic 49, 3) := dk_184 (by decide +kernel)
theorem dX2_fill_8 : decode cX2_fill 8 = .ok (.iconst 0, 1) := dk_3 (by decide +kernel)
theorem dX2_fill_9 : decode cX2_fill 9 = .ok (.istore_n 3, 1) := dk_62 (by decide +kernel)
theorem dX2_fill_10 : decode cX2_fill 10 = .ok (.iload_n 3, 1) := dk_29 (by decide +kernel)
theorem dX2_fill_11 : decode cX2_fill 11 = .ok (.aload_n 0, 1) := dk_42 (by decide +kernel)
theorem dX2_fill_12 : decode cX2_fill 12 = .ok (.getfield 45, 3) := dk_180 (by decide +kernel)
theorem dX2_fill_15 : decode cX2_fill 15 = .ok (.if_icmp .ge 39, 3) := dk_162 (by decide +kernel)
theorem dX2_fill_18 : decode cX2_fill 18 = .ok (.aload_n 0, 1) := dk_42 (by decide +kernel)
theorem dX2_fill_19 : decode cX2_fill 19 = .ok (.getfield 24, 3) := dk_180 (by decide +kernel)
theorem dX2_fill_22 : decode cX2_fill 22 = .ok (.aload_n 0, 1) := dk_42 (by decide +kernel)
theorem dX2_fill_23 : decode cX2_fill 23 = .ok (.getfield 11, 3) := dk_180 (by decide +kernel)
theorem dX2_fill_26 : decode cX2_fill 26 = .ok (.iload_n 3, 1) := dk_29 (by decide +kernel)
theorem dX2_fill_27 : decode cX2_fill 27 = .ok (.iaload, 1) := dk_46 (by decide +kernel)
theorem dX2_fill_28 : decode cX2_fill 28 = .ok (.bipush 12, 2) := dk_16 (by decide +kernel)
theorem dX2_fill_30 : decode cX2_fill 30 = .ok (.imul, 1) := dk_104 (by decide +kernel)
theorem dX2_fill_31 : decode cX2_fill 31 = .ok (.aload_n 0, 1) := dk_42 (by decide +kernel)
theorem dX2_fill_32 : decode cX2_fill 32 = .ok (.getfield 15, 3) := dk_180 (by decide +kernel)
theorem dX2_fill_35 : decode cX2_fill 35 = .ok (.iload_n 3, 1) := dk_29 (by decide +kernel)
theorem dX2_fill_36 : decode cX2_fill 36 = .ok (.iaload, 1) := dk_46 (by decide +kernel)
theorem dX2_fill_37 : decode cX2_fill 37 = .ok (.iadd, 1) := dk_96 (by decide +kernel)
theorem dX2_fill_38 : decode cX2_fill 38 = .ok (.dup2, 1) := dk_92 (by decide +kernel)
theorem dX2_fill_39 : decode cX2_fill 39 = .ok (.iaload, 1) := dk_46 (by decide +kernel)
theorem dX2_fill_40 : decode cX2_fill 40 = .ok (.aload_n 0, 1) := dk_42 (by decide +kernel)
theorem dX2_fill_41 : decode cX2_fill 41 = .ok (.getfield 18, 3) := dk_180 (by decide +kernel)
theorem dX2_fill_44 : decode cX2_fill 44 = .ok (.iload_n 3, 1) := dk_29 (by decide +kernel)
theorem dX2_fill_45 : decode cX2_fill 45 = .ok (.iaload, 1) := dk_46 (by decide +kernel)
theorem dX2_fill_46 : decode cX2_fill 46 = .ok (.iadd, 1) := dk_96 (by decide +kernel)
theorem dX2_fill_47 : decode cX2_fill 47 = .ok (.iastore, 1) := dk_79 (by decide +kernel)
theorem dX2_fill_48 : decode cX2_fill 48 = .ok (.iinc 3 1, 3) := dk_132 (by decide +kernel)
theorem dX2_fill_51 : decode cX2_fill 51 = .ok (.goto (-41), 3) := dk_167 (by decide +kernel)
theorem dX2_fill_54 : decode cX2_fill 54 = .ok (.iconst 0, 1) := dk_3 (by decide +kernel)
theorem dX2_fill_55 : decode cX2_fill 55 = .ok (.istore_n 3, 1) := dk_62 (by decide +kernel)
theorem dX2_fill_56 : decode cX2_fill 56 = .ok (.iconst 0, 1) := dk_3 (by decide +kernel)
theorem dX2_fill_57 : decode cX2_fill 57 = .ok (.istore 4, 2) := dk_54 (by decide +kernel)
theorem dX2_fill_59 : decode cX2_fill 59 = .ok (.iload 4, 2) := dk_21 (by decide +kernel)
theorem dX2_fill_61 : decode cX2_fill 61 = .ok (.ldc 55, 2) := dk_18 (by decide +kernel)
theorem dX2_fill_63 : decode cX2_fill 63 = .ok (.if_icmp .ge 166, 3) := dk_162 (by decide +kernel)
theorem dX2_fill_66 : decode cX2_fill 66 = .ok (.aload_n 0, 1) := dk_42 (by decide +kernel)
theorem dX2_fill_67 : decode cX2_fill 67 = .ok (.iload_n 1, 1) := dk_27 (by decide +kernel)
theorem dX2_fill_68 : decode cX2_fill 68 = .ok (.iload_n 2, 1) := dk_28 (by decide +kernel)
theorem dX2_fill_69 : decode cX2_fill 69 = .ok (.invokevirtual 56, 3) := dk_182 (by decide +kernel)
theorem dX2_fill_72 : decode cX2_fill 72 = .ok (.ifCond .eq 157, 3) := dk_153 (by decide +kernel)
theorem dX2_fill_75 : decode cX2_fill 75 = .ok (.ldc 60, 2) := dk_18 (by decide +kernel)
theorem dX2_fill_77 : decode cX2_fill 77 = .ok (.istore 5, 2) := dk_54 (by decide +kernel)
theorem dX2_fill_79 : decode cX2_fill 79 = .ok (.iload_n 2, 1) := dk_28 (by decide +kernel)
theorem dX2_fill_80 : decode cX2_fill 80 = .ok (.istore 6, 2) := dk_54 (by decide +kernel)
theorem dX2_fill_82 : decode cX2_fill 82 = .ok (.iconst 0, 1) := dk_3 (by decide +kernel)
theorem dX2_fill_83 : decode cX2_fill 83 = .ok (.istore 7, 2) := dk_54 (by decide +kernel)
theorem dX2_fill_85 : decode cX2_fill 85 = .ok (.iload 6, 2) := dk_21 (by decide +kernel)
theorem dX2_fill_87 : decode cX2_fill 87 = .ok (.iload_n 1, 1) := dk_27 (by decide +kernel)
theorem dX2_fill_88 : decode cX2_fill 88 = .ok (.if_icmp .eq 50, 3) := dk_159 (by decide +kernel)
theorem dX2_fill_91 : decode cX2_fill 91 = .ok (.iload 7, 2) := dk_21 (by decide +kernel)
theorem dX2_fill_93 : decode cX2_fill 93 = .ok (.bipush 12, 2) := dk_16 (by decide +kernel)
theorem dX2_fill_95 : decode cX2_fill 95 = .ok (.if_icmp .ge 43, 3) := dk_162 (by decide +kernel)
theorem dX2_fill_98 : decode cX2_fill 98 = .ok (.iload 5, 2) := dk_21 (by decide +kernel)
theorem dX2_fill_100 : decode cX2_fill 100 = .ok (.aload_n 0, 1) := dk_42 (by decide +kernel)
theorem dX2_fill_101 : decode cX2_fill 101 = .ok (.getfield 24, 3) := dk_180 (by decide +kernel)
theorem dX2_fill_104 : decode cX2_fill 104 = .ok (.aload_n 0, 1) := dk_42 (by decide +kernel)
theorem dX2_fill_105 : decode cX2_fill 105 = .ok (.getfield 27, 3) := dk_180 (by decide +kernel)
theorem dX2_fill_108 : decode cX2_fill 108 = .ok (.iload 6, 2) := dk_21 (by decide +kernel)
theorem dX2_fill_110 : decode cX2_fill 110 = .ok (.iaload, 1) := dk_46 (by decide +kernel)
theorem dX2_fill_111 : decode cX2_fill 111 = .ok (.bipush 12, 2) := dk_16 (by decide +kernel)
theorem dX2_fill_113 : decode cX2_fill 113 = .ok (.imul, 1) := dk_104 (by decide +kernel)
theorem dX2_fill_114 : decode cX2_fill 114 = .ok (.iload 6, 2) := dk_21 (by decide +kernel)
theorem dX2_fill_116 : decode cX2_fill 116 = .ok (.iadd, 1) := dk_96 (by decide +kernel)
theorem dX2_fill_117 : decode cX2_fill 117 = .ok (.iaload, 1) := dk_46 (by decide +kernel)
theorem dX2_fill_118 : decode cX2_fill 118 = .ok (.invokestatic 61, 3) := dk_184 (by decide +kernel)
theorem dX2_fill_121 : decode cX2_fill 121 = .ok (.istore 5, 2) := dk_54 (by decide +kernel)
theorem dX2_fill_123 : decode cX2_fill 123 = .ok (.aload_n 0, 1) := dk_42 (by decide +kernel)
theorem dX2_fill_124 : decode cX2_fill 124 = .ok (.getfield 27, 3) := dk_180 (by decide +kernel)
theorem dX2_fill_127 : decode cX2_fill 127 = .ok (.iload 6, 2) := dk_21 (by decide +kernel)
theorem dX2_fill_129 : decode cX2_fill 129 = .ok (.iaload, 1) := dk_46 (by decide +kernel)
theorem dX2_fill_130 : decode cX2_fill 130 = .ok (.istore 6, 2) := dk_54 (by decide +kernel)
theorem dX2_fill_132 : decode cX2_fill 132 = .ok (.iinc 7 1, 3) := dk_132 (by decide +kernel)
theorem dX2_fill_135 : decode cX2_fill 135 = .ok (.goto (-50), 3) := dk_167 (by decide +kernel)
theorem dX2_fill_138 : decode cX2_fill 138 = .ok (.iload_n 2, 1) := dk_28 (by decide +kernel)
theorem dX2_fill_139 : decode cX2_fill 139 = .ok (.istore 6, 2) := dk_54 (by decide +kernel)
theorem dX2_fill_141 : decode cX2_fill 141 = .ok (.iconst 0, 1) := dk_3 (by decide +kernel)
theorem dX2_fill_142 : decode cX2_fill 142 = .ok (.istore 7, 2) := dk_54 (by decide +kernel)
theorem dX2_fill_144 : decode cX2_fill 144 = .ok (.iload 6, 2) := dk_21 (by decide +kernel)
theorem dX2_fill_146 : decode cX2_fill 146 = .ok (.iload_n 1, 1) := dk_27 (by decide +kernel)
theorem dX2_fill_147 : decode cX2_fill 147 = .ok (.if_icmp .eq 71, 3) := dk_159 (by decide +kernel)
theorem dX2_fill_150 : decode cX2_fill 150 = .ok (.iload 7, 2) := dk_21 (by decide +kernel)
theorem dX2_fill_152 : decode cX2_fill 152 = .ok (.bipush 12, 2) := dk_16 (by decide +kernel)
theorem dX2_fill_154 : decode cX2_fill 154 = .ok (.if_icmp .ge 64, 3) := dk_162 (by decide +kernel)
theorem dX2_fill_157 : decode cX2_fill 157 = .ok (.aload_n 0, 1) := dk_42 (by decide +kernel)
theorem dX2_fill_158 : decode cX2_fill 158 = .ok (.getfield 24, 3) := dk_180 (by decide +kernel)
theorem dX2_fill_161 : decode cX2_fill 161 = .ok (.aload_n 0, 1) := dk_42 (by decide +kernel)
theorem dX2_fill_162 : decode cX2_fill 162 = .ok (.getfield 27, 3) := dk_180 (by decide +kernel)
theorem dX2_fill_165 : decode cX2_fill 165 = .ok (.iload 6, 2) := dk_21 (by decide +kernel)
theorem dX2_fill_167 : decode cX2_fill 167 = .ok (.iaload, 1) := dk_46 (by decide +kernel)
theorem dX2_fill_168 : decode cX2_fill 168 = .ok (.bipush 12, 2) := dk_16 (by decide +kernel)
theorem dX2_fill_170 : decode cX2_fill 170 = .ok (.imul, 1) := dk_104 (by decide +kernel)
theorem dX2_fill_171 : decode cX2_fill 171 = .ok (.iload 6, 2) := dk_21 (by decide +kernel)
theorem dX2_fill_173 : decode cX2_fill 173 = .ok (.iadd, 1) := dk_96 (by decide +kernel)
theorem dX2_fill_174 : decode cX2_fill 174 = .ok (.dup2, 1) := dk_92 (by decide +kernel)
theorem dX2_fill_175 : decode cX2_fill 175 = .ok (.iaload, 1) := dk_46 (by decide +kernel)
theorem dX2_fill_176 : decode cX2_fill 176 = .ok (.iload 5, 2) := dk_21 (by decide +kernel)
theorem dX2_fill_178 : decode cX2_fill 178 = .ok (.isub, 1) := dk_100 (by decide +kernel)
theorem dX2_fill_179 : decode cX2_fill 179 = .ok (.iastore, 1) := dk_79 (by decide +kernel)
theorem dX2_fill_180 : decode cX2_fill 180 = .ok (.aload_n 0, 1) := dk_42 (by decide +kernel)
theorem dX2_fill_181 : decode cX2_fill 181 = .ok (.getfield 24, 3) := dk_180 (by decide +kernel)
theorem dX2_fill_184 : decode cX2_fill 184 = .ok (.iload 6, 2) := dk_21 (by decide +kernel)
theorem dX2_fill_186 : decode cX2_fill 186 = .ok (.bipush 12, 2) := dk_16 (by decide +kernel)
theorem dX2_fill_188 : decode cX2_fill 188 = .ok (.imul, 1) := dk_104 (by decide +kernel)
theorem dX2_fill_189 : decode cX2_fill 189 = .ok (.aload_n 0, 1) := dk_42 (by decide +kernel)
theorem dX2_fill_190 : decode cX2_fill 190 = .ok (.getfield 27, 3) := dk_180 (by decide +kernel)
theorem dX2_fill_193 : decode cX2_fill 193 = .ok (.iload 6, 2) := dk_21 (by decide +kernel)
theorem dX2_fill_195 : decode cX2_fill 195 = .ok (.iaload, 1) := dk_46 (by decide +kernel)
theorem dX2_fill_196 : decode cX2_fill 196 = .ok (.iadd, 1) := dk_96 (by decide +kernel)
theorem dX2_fill_197 : decode cX2_fill 197 = .ok (.dup2, 1) := dk_92 (by decide +kernel)
theorem dX2_fill_198 : decode cX2_fill 198 = .ok (.iaload, 1) := dk_46 (by decide +kernel)
theorem dX2_fill_199 : decode cX2_fill 199 = .ok (.iload 5, 2) := dk_21 (by decide +kernel)
theorem dX2_fill_201 : decode cX2_fill 201 = .ok (.iadd, 1) := dk_96 (by decide +kernel)
theorem dX2_fill_202 : decode cX2_fill 202 = .ok (.iastore, 1) := dk_79 (by decide +kernel)
theorem dX2_fill_203 : decode cX2_fill 203 = .ok (.aload_n 0, 1) := dk_42 (by decide +kernel)
theorem dX2_fill_204 : decode cX2_fill 204 = .ok (.getfield 27, 3) := dk_180 (by decide +kernel)
theorem dX2_fill_207 : decode cX2_fill 207 = .ok (.iload 6, 2) := dk_21 (by decide +kernel)
theorem dX2_fill_209 : decode cX2_fill 209 = .ok (.iaload, 1) := dk_46 (by decide +kernel)
theorem dX2_fill_210 : decode cX2_fill 210 = .ok (.istore 6, 2) := dk_54 (by decide +kernel)
theorem dX2_fill_212 : decode cX2_fill 212 = .ok (.iinc 7 1, 3) := dk_132 (by decide +kernel)
theorem dX2_fill_215 : decode cX2_fill 215 = .ok (.goto (-71), 3) := dk_167 (by decide +kernel)
theorem dX2_fill_218 : decode cX2_fill 218 = .ok (.iload_n 3, 1) := dk_29 (by decide +kernel)
theorem dX2_fill_219 : decode cX2_fill 219 = .ok (.iload 5, 2) := dk_21 (by decide +kernel)
theorem dX2_fill_221 : decode cX2_fill 221 = .ok (.iadd, 1) := dk_96 (by decide +kernel)
theorem dX2_fill_222 : decode cX2_fill 222 = .ok (.istore_n 3, 1) := dk_62 (by decide +kernel)
theorem dX2_fill_223 : decode cX2_fill 223 = .ok (.iinc 4 1, 3) := dk_132 (by decide +kernel)
theorem dX2_fill_226 : decode cX2_fill 226 = .ok (.goto (-167), 3) := dk_167 (by decide +kernel)
theorem dX2_fill_229 : decode cX2_fill 229 = .ok (.iload_n 3, 1) := dk_29 (by decide +kernel)
theorem dX2_fill_230 : decode cX2_fill 230 = .ok (.ireturn, 1) := dk_172 (by decide +kernel)
def wsMX2_fill : List Cond := .code yX2_fill cX2_fill 8 (some .int) :: ([.fieldLink RX2 24 "OptimaWorks$NetDesk" "free" "[I", .fieldLink RX2 45 "OptimaWorks$NetDesk" "arcs" "I", .fieldLink RX2 11 "OptimaWorks$NetDesk" "from" "[I", .fieldLink RX2 15 "OptimaWorks$NetDesk" "to" "[I", .fieldLink RX2 18 "OptimaWorks$NetDesk" "room" "[I", .constant RX2 55 1000000, .constant RX2 60 536870912, .fieldLink RX2 27 "OptimaWorks$NetDesk" "before" "[I", .methodLink RX2 61 Lib.Math.min.name, .static Lib.Math.min.name, .initialized "java/lang/Math", .code Lib.Math.min.name Lib.Math.min.code 2 (some .int)] ++ wsX20 ++ (va_wsS RX2 49 yJ7_fill_53178 wsMJ7_fill_53178) ++ (wsV RX2 56 RX2 yX2_reach wsMX2_reach))
theorem iwsMX2_fill_in2 : ∀ w ∈ wsX20, w ∈ wsMX2_fill := fun _ h => List.mem_cons_of_mem _ (List.mem_append_left _ (List.mem_append_left _ (List.mem_append_right _ h)))
theorem gwsMX2_fill_0 : GoodIn wsMX2_fill (va_wsS RX2 49 yJ7_fill_53178 wsMJ7_fill_53178) := goodIn_sub (fun _ h => List.mem_cons_of_mem _ (List.mem_append_left _ (List.mem_append_right _ h))) (gdS (by decide +kernel) gdwsMJ7_fill_53178)
theorem gwsMX2_fill_1 : GoodIn wsMX2_fill (wsV RX2 56 RX2 yX2_reach wsMX2_reach) := goodIn_sub (fun _ h => List.mem_cons_of_mem _ (List.mem_append_right _ h)) (gdV (by decide +kernel) gdwsMX2_reach)
theorem gdwsMX2_fill : wsMX2_fill.all goodWord = true := gdC rfl (gdA (gdA (gdA (by decide +kernel : ([.fieldLink RX2 24 "OptimaWorks$NetDesk" "free" "[I", .fieldLink RX2 45 "OptimaWorks$NetDesk" "arcs" "I", .fieldLink RX2 11 "OptimaWorks$NetDesk" "from" "[I", .fieldLink RX2 15 "OptimaWorks$NetDesk" "to" "[I", .fieldLink RX2 18 "OptimaWorks$NetDesk" "room" "[I", .constant RX2 55 1000000, .constant RX2 60 536870912, .fieldLink RX2 27 "OptimaWorks$NetDesk" "before" "[I", .methodLink RX2 61 Lib.Math.min.name, .static Lib.Math.min.name, .initialized "java/lang/Math", .code Lib.Math.min.name Lib.Math.min.code 2 (some .int)] : List Cond).all goodWord = true) gdwsX20) (gdS (by decide +kernel) gdwsMJ7_fill_53178)) (gdV (by decide +kernel) gdwsMX2_reach))
set_option maxHeartbeats 4000000 in
set_option maxRecDepth 100000 in
/-- a greatest flow -/
theorem m_X2_fill (l : Launch) (dC : Nat → ClassId) (dI : Nat → Nat → Nat) (hN : Nat → Nat) (aN : Nat → Nat) (kN : Nat → ClassId) (iN_arcs : Int32) (fN_from : Nat → Int32) (fN_to : Nat → Int32) (fN_room : Nat → Int32) (fN_cost : Nat → Int32) (iN_reached : Int32) (fN_free : Nat → Int32) (fN_before : Nat → Int32) (fN_flow : Nat → Int32) (fN_length : Nat → Int32) (fN_stop : Nat → Int32) (iN_stops : Int32) (fN_price : Nat → Int32) (fN_rest : Nat → Int32) (p1 : Int32) (p2 : Int32) (b_iN_arcs : 0 ≤ iN_arcs.toInt ∧ iN_arcs.toInt ≤ 40) (b_fN_from : ∀ q : Nat, 0 ≤ (fN_from q).toInt ∧ (fN_from q).toInt ≤ 11) (b_fN_to : ∀ q : Nat, 0 ≤ (fN_to q).toInt ∧ (fN_to q).toInt ≤ 11) (b_fN_before : ∀ q : Nat, 0 ≤ (fN_before q).toInt ∧ (fN_before q).toInt ≤ 79) (b_fN_stop : ∀ q : Nat, 0 ≤ (fN_stop q).toInt ∧ (fN_stop q).toInt ≤ 11) (b_iN_stops : 0 ≤ iN_stops.toInt ∧ iN_stops.toInt ≤ 8) (b_p1 : 0 ≤ p1.toInt ∧ p1.toInt ≤ 11) (b_p2 : 0 ≤ p2.toInt ∧ p2.toInt ≤ 11) (hVal : tVal (iN_arcs.toInt, fN_from, fN_to, fN_room, fN_cost)) (hRm : tRm (iN_arcs.toInt, fN_from, fN_to, fN_room, fN_cost)) (hne : p1.toInt ≠ p2.toInt) (sz : Nat) : Met l yX2_fill wsMX2_fill ({ frames := 1, cells := 0, slots := 0, locals := 27 }) (va_Pc [.ref (hN 0), .int p1, .int p2] (fun U => U.heap.size = sz ∧ va_P (dC, dI) vwCl (WN hN aN kN iN_arcs fN_from fN_to fN_room fN_cost iN_reached fN_free fN_before fN_flow fN_length fN_stop iN_stops fN_price fN_rest) U.heap ∧ va_K (dC, dI) vwCl (tN kN) U ∧ va_D (fun _ => True) (WN hN aN kN iN_arcs fN_from fN_to fN_room fN_cost iN_reached fN_free fN_before fN_flow fN_length fN_stop iN_stops fN_price fN_rest))) (va_Qi (fun (r : Int32) (u : (Int32) × (Nat → Int32) × (Nat → Int32)) => (∀ q : Nat, 0 ≤ ((u.2.2) q).toInt ∧ ((u.2.2) q).toInt ≤ 79) ∧ (mxF (iN_arcs.toInt, fN_from, fN_to, fN_room, fN_cost) p1.toInt.toNat p2.toInt.toNat r.toInt) ∧ (mxC (iN_arcs.toInt, fN_from, fN_to, fN_room, fN_cost) p1.toInt.toNat p2.toInt.toNat (u.1))) (fun (u : (Int32) × (Nat → Int32) × (Nat → Int32)) t => va_P (dC, dI) vwCl (WN hN aN kN iN_arcs fN_from fN_to fN_room fN_cost (u.1) (u.2.1) (u.2.2) fN_flow fN_length fN_stop iN_stops fN_price fN_rest) t.heap ∧ va_D (va_A (WN hN aN kN iN_arcs fN_from fN_to fN_room fN_cost iN_reached fN_free fN_before fN_flow fN_length fN_stop iN_stops fN_price fN_rest) sz) (WN hN aN kN iN_arcs fN_from fN_to fN_room fN_cost (u.1) (u.2.1) (u.2.2) fN_flow fN_length fN_stop iN_stops fN_price fN_rest)) (va_A (WN hN aN kN iN_arcs fN_from fN_to fN_room fN_cost iN_reached fN_free fN_before fN_flow fN_length fN_stop iN_stops fN_price fN_rest) sz)) 0 0 (va_A (WN hN aN kN iN_arcs fN_from fN_to fN_room fN_cost iN_reached fN_free fN_before fN_flow fN_length fN_stop iN_stops fN_price fN_rest) sz) := by
  refine Met.ofW (cc := cX2_fill) (maxL := 8) (ret := (some .int)) (by decide) rfl ?_
  intro p e s m args below meth c s₁ B hml hv
  obtain ⟨rfl, hsz, hP, hK, hD0⟩ := hv
  have hx := B.exec
  have hb := B.bytes
  have hr := B.returns
  have hts := atoms_spec (ws := wsMX2_fill) B.pre
  have hown : s.vm.findClass RX2 = some m.cls := findClass_of_methodNamed B.named
  have hlocks := B.notSynchronized
  subst hsz
  have hD := hD0.self (sz := s.heap.size)
  generalize hAe : va_A (WN hN aN kN iN_arcs fN_from fN_to fN_room fN_cost iN_reached fN_free fN_before fN_flow fN_length fN_stop iN_stops fN_price fN_rest) s.heap.size = A at hD ⊢
  have hA : ∀ q : Nat, s.heap.size ≤ q → A q := fun q h => by rw [← hAe]; exact Or.inr h
  have hS : va_S A s.heap s.heap [] := va_S.rf
  have hl := lv_entry ([.ref (hN 0), .int p1, .int p2]) (n := 8) (Nat.le_of_ble_eq_true rfl)
  rw [lg_entry_eq]
  generalize (lg_sl ([.ref (hN 0), .int p1, .int p2]) ++ List.replicate (8 - (lg_sl ([.ref (hN 0), .int p1, .int p2])).length) Slot.unset).toArray = ls at hl ⊢
  have hl : lv_has ls 8 [(0, .ref (hN 0)), (1, .int p1), (2, .int p2)] := hl
  refine lv_aload_n hx hb dX2_fill_0 rfl (lv_at hl 0 rfl) ?_
  refine va_get (D := (dC, dI)) (ci := 2) (v := .ref (aN 4)) (C := RX2) (T := TX2) (N := 14) hx hb hts iwsMX2_fill_in2 hown hK hP 0 rfl rfl 6 (by decide) (hts (.fieldLink RX2 24 "OptimaWorks$NetDesk" "free" "[I") (by decide +kernel)) (fun _ h9 => h9) rfl dX2_fill_1 ?_
  refine lv_iconst (v := 0) hx hb dX2_fill_4 (by decide) ?_
  have hPc : va_P (dC, dI) vwCl (WY (fun _ => 0) (fun _ => aN 4) (fun _ => kN 4) 144 fN_free) _ := hP.sub [5] rfl
  have hDc : va_D _ (WY (fun _ => 0) (fun _ => aN 4) (fun _ => kN 4) 144 fN_free) := hD.sub [5] (by decide) rfl
  have hKc : va_K (dC, dI) vwCl (tY (fun _ => kN 4)) _ := hK.sub [4] rfl
  have hFc := va_free (wc := WY (fun _ => 0) (fun _ => aN 4) (fun _ => kN 4) 144 fN_free) hD hS hA [5] rfl
  refine va_callv (va_runS (As := [.ref (aN 4), .int 0]) (rest := []) ⟨hx, hb, hml, hown, hts⟩ (m_J7_fill_53178 l dC dI (fun _ => 0) (fun _ => aN 4) (fun _ => kN 4) 144 fN_free 0 (by first | assumption | exact ⟨by omega, by omega⟩) s.heap.size) (va_cwS 2 hts gwsMX2_fill_0 rfl rfl rfl (by decide +kernel) ⟨by decide +kernel, by decide +kernel⟩) ⟨fun a U g mk q => by obtain ⟨q0, q1, qP, qK, qD⟩ := q; exact ⟨q0, q1, qP, va_K.moved (u := U) (U := U.calling g mk a) (Vm.Alike.refl U.vm) qK, qD⟩, fun U hU9 hW => ⟨rfl, by rw [hU9], by rw [hU9]; exact hPc, va_K.moved hW.alike hKc, hDc.weaken (fun _ _ _ _ => trivial)⟩⟩ rfl rfl hl.1 rfl (lv_room (Nat.le_of_ble_eq_true rfl)) dX2_fill_5 (by decide +kernel)) hS (fun q _ h => hFc q h) hFc (fun u t9_ H locs ht hvm hw9 hB9 hz1 hk1 hS => ?_)
  obtain ⟨fY_1, hwit1⟩ : ∃ w9, w9 = u := ⟨u, rfl⟩
  subst hwit1
  have f1_0 := hw9
  try dsimp only at f1_0
  obtain ⟨hP, hD⟩ := va_join (wr := [(hN 0, .inr (2, [.int iN_arcs, .ref (aN 0), .ref (aN 1), .ref (aN 2), .ref (aN 3), .int iN_reached, .ref (aN 4), .ref (aN 5), .ref (aN 6), .ref (aN 7), .ref (aN 8), .int iN_stops, .ref (aN 9), .ref (aN 10)])), (aN 0, .inl (kN 0, 40, .inl fN_from)), (aN 1, .inl (kN 1, 40, .inl fN_to)), (aN 2, .inl (kN 2, 40, .inl fN_room)), (aN 3, .inl (kN 3, 40, .inl fN_cost)), (aN 5, .inl (kN 5, 12, .inl fN_before)), (aN 6, .inl (kN 6, 40, .inl fN_flow)), (aN 7, .inl (kN 7, 12, .inl fN_length)), (aN 8, .inl (kN 8, 8, .inl fN_stop)), (aN 9, .inl (kN 9, 64, .inl fN_price)), (aN 10, .inl (kN 10, 1024, .inl fN_rest))]) (w1 := WY (fun _ => 0) (fun _ => aN 4) (fun _ => kN 4) 144 fY_1) hP hD [5] [0, 1, 2, 3, 4, 6, 7, 8, 9, 10, 11] rfl rfl (by decide) (by decide) hk1 hFc (fz_P ht hB9.1) hB9.2
  have hP : va_P (dC, dI) vwCl (WN hN aN kN iN_arcs fN_from fN_to fN_room fN_cost iN_reached fY_1 fN_before fN_flow fN_length fN_stop iN_stops fN_price fN_rest) H := hP.sub [0, 1, 2, 3, 4, 11, 5, 6, 7, 8, 9, 10] rfl
  have hD : va_D A (WN hN aN kN iN_arcs fN_from fN_to fN_room fN_cost iN_reached fY_1 fN_before fN_flow fN_length fN_stop iN_stops fN_price fN_rest) := hD.sub [0, 1, 2, 3, 4, 11, 5, 6, 7, 8, 9, 10] (by decide) rfl
  have hfil := f1_0
  refine lv_iconst (v := 0) hx hb dX2_fill_8 (by decide) ?_
  refine lv_istore_n hx hb dX2_fill_9 rfl hl (by decide) rfl (fun ls (hl : lv_has ls _ ([(3, .int 0), (0, .ref (hN 0)), (1, .int p1), (2, .int p2)])) => ?_)
  have hl : lv_has _ _ ([(3, .int 0), (0, .ref (hN 0)), (1, .int p1), (2, .int p2)]) := lv_sub hl [0, 1, 2, 3] rfl
  refine (fun (loop : ∀ (n9 : Nat) (fN_free_x10 : Nat → Int32) (l3_x10 : Int32) (H : Heap) (locs : List Loc) (ls : Array Slot), (0 ≤ l3_x10.toInt ∧ l3_x10.toInt ≤ 40) → (mG (iN_arcs.toInt, fN_from, fN_to, fN_room, fN_cost) fN_free_x10 l3_x10.toInt.toNat) → (l3_x10.toInt ≤ iN_arcs.toInt) → (40 - l3_x10.toInt < ((n9 : Nat) : Int)) → va_P (dC, dI) vwCl (WN hN aN kN iN_arcs fN_from fN_to fN_room fN_cost iN_reached fN_free_x10 fN_before fN_flow fN_length fN_stop iN_stops fN_price fN_rest) H → va_D A (WN hN aN kN iN_arcs fN_from fN_to fN_room fN_cost iN_reached fN_free_x10 fN_before fN_flow fN_length fN_stop iN_stops fN_price fN_rest) → va_S A s.heap H locs → lv_has ls 8 [(3, .int l3_x10), (0, .ref (hN 0)), (1, .int p1), (2, .int p2)] → W p l e _ s m _ below meth c H locs 0 0 _ (F0 m 10 ls [])) => loop (41) fY_1 0 _ _ _ (show 0 ≤ (0 : Int32).toInt ∧ (0 : Int32).toInt ≤ 40 from by decide) (show mG (iN_arcs.toInt, fN_from, fN_to, fN_room, fN_cost) fY_1 (0 : Int32).toInt.toNat from mG.start (by decide) hfil) (show (0 : Int32).toInt ≤ iN_arcs.toInt from by have h7 : (0 : Int32).toInt = 0 := (by decide); omega) ((by have e9 : (0 : Int32).toInt = 0 := (by decide : (0 : Int32).toInt = 0); omega)) hP hD hS hl) ?_
  intro n9
  induction n9 with
  | zero => intro fN_free_x10 l3_x10 H locs ls b_l3_x10 hG hla hf9; exact False.elim (by omega)
  | succ n9 ihx10 =>
    intro fN_free_x10 l3_x10 H locs ls b_l3_x10 hG hla hfx10 hP hD hS hl
    refine lv_iload_n hx hb dX2_fill_10 rfl (lv_at hl 0 rfl) ?_
    refine lv_aload_n hx hb dX2_fill_11 rfl (lv_at hl 1 rfl) ?_
    refine va_get (D := (dC, dI)) (ci := 2) (v := .int iN_arcs) (C := RX2) (T := TX2) (N := 14) hx hb hts iwsMX2_fill_in2 hown hK hP 0 rfl rfl 0 (by decide) (hts (.fieldLink RX2 45 "OptimaWorks$NetDesk" "arcs" "I") (by decide +kernel)) (fun _ h9 => h9) rfl dX2_fill_12 ?_
    refine lv_icmp_ge (tgt := 54) hx hb dX2_fill_15 (by decide) (fun c_15 => ?_) (fun c_15 => ?_)
    · have t_15 : l3_x10.toInt ≥ iN_arcs.toInt := toI_ge c_15 rfl rfl
      refine lv_iconst (v := 0) hx hb dX2_fill_54 (by decide) ?_
      refine lv_istore_n hx hb dX2_fill_55 rfl hl (by decide) rfl (fun ls (hl : lv_has ls _ ([(3, .int 0), (0, .ref (hN 0)), (1, .int p1), (2, .int p2)])) => ?_)
      refine lv_iconst (v := 0) hx hb dX2_fill_56 (by decide) ?_
      refine lv_istore hx hb dX2_fill_57 hl (by decide) rfl (fun ls (hl : lv_has ls _ ([(4, .int 0), (3, .int 0), (0, .ref (hN 0)), (1, .int p1), (2, .int p2)])) => ?_)
      have hl : lv_has _ _ ([(4, .int 0), (3, .int 0), (0, .ref (hN 0)), (1, .int p1), (2, .int p2)]) := lv_sub hl [0, 1, 2, 3, 4] rfl
      refine (fun (loop : ∀ (n9 : Nat) (iN_reached_x59 : Int32) (fN_free_x59 : Nat → Int32) (fN_before_x59 : Nat → Int32) (l4_x59 : Int32) (l3_x59 : Int32) (H : Heap) (locs : List Loc) (ls : Array Slot), (∀ q : Nat, 0 ≤ (fN_before_x59 q).toInt ∧ (fN_before_x59 q).toInt ≤ 79) → (0 ≤ l4_x59.toInt ∧ l4_x59.toInt ≤ 1000000) → (mI (iN_arcs.toInt, fN_from, fN_to, fN_room, fN_cost) p1.toInt.toNat p2.toInt.toNat fN_free_x59 l3_x59.toInt) → (0 ≤ l3_x59.toInt ∧ l4_x59.toInt ≤ l3_x59.toInt) → (1000000 - l4_x59.toInt < ((n9 : Nat) : Int)) → va_P (dC, dI) vwCl (WN hN aN kN iN_arcs fN_from fN_to fN_room fN_cost iN_reached_x59 fN_free_x59 fN_before_x59 fN_flow fN_length fN_stop iN_stops fN_price fN_rest) H → va_D A (WN hN aN kN iN_arcs fN_from fN_to fN_room fN_cost iN_reached_x59 fN_free_x59 fN_before_x59 fN_flow fN_length fN_stop iN_stops fN_price fN_rest) → va_S A s.heap H locs → lv_has ls 8 [(4, .int l4_x59), (3, .int l3_x59), (0, .ref (hN 0)), (1, .int p1), (2, .int p2)] → W p l e _ s m _ below meth c H locs 0 0 _ (F0 m 59 ls [])) => loop (1000001) iN_reached fN_free_x10 fN_before 0 0 _ _ _ b_fN_before (show 0 ≤ (0 : Int32).toInt ∧ (0 : Int32).toInt ≤ 1000000 from by decide) (show mI (iN_arcs.toInt, fN_from, fN_to, fN_room, fN_cost) p1.toInt.toNat p2.toInt.toNat fN_free_x10 (0 : Int32).toInt from by rw [show (0 : Int32).toInt = 0 from by decide]; exact mG.done hG (by (try dsimp only); omega)) (show 0 ≤ (0 : Int32).toInt ∧ (0 : Int32).toInt ≤ (0 : Int32).toInt from by decide) ((by have e9 : (0 : Int32).toInt = 0 := (by decide : (0 : Int32).toInt = 0); omega)) hP hD hS hl) ?_
      intro n9
      induction n9 with
      | zero => intro iN_reached_x59 fN_free_x59 fN_before_x59 l4_x59 l3_x59 H locs ls b_fN_before_x59 b_l4_x59 hMI hsm hf9; exact False.elim (by omega)
      | succ n9 ihx59 =>
        intro iN_reached_x59 fN_free_x59 fN_before_x59 l4_x59 l3_x59 H locs ls b_fN_before_x59 b_l4_x59 hMI hsm hfx59 hP hD hS hl
        refine lv_iload hx hb dX2_fill_59 (lv_at hl 0 rfl) ?_
        refine lv_ldc (v := 1000000) hx hb hown (hts (.constant RX2 55 1000000) (by decide +kernel)) dX2_fill_61 ?_
        refine W.cut (pc := 229) (fun H locs ls stk => ∃ (iN_reached_j12 : Int32) (fN_before_j12 : Nat → Int32), (∀ q : Nat, 0 ≤ (fN_before_j12 q).toInt ∧ (fN_before_j12 q).toInt ≤ 79) ∧ (mxF (iN_arcs.toInt, fN_from, fN_to, fN_room, fN_cost) p1.toInt.toNat p2.toInt.toNat l3_x59.toInt ∧ mxC (iN_arcs.toInt, fN_from, fN_to, fN_room, fN_cost) p1.toInt.toNat p2.toInt.toNat iN_reached_j12) ∧  stk = [] ∧ va_P (dC, dI) vwCl (WN hN aN kN iN_arcs fN_from fN_to fN_room fN_cost iN_reached_j12 fN_free_x59 fN_before_j12 fN_flow fN_length fN_stop iN_stops fN_price fN_rest) H ∧ va_D A (WN hN aN kN iN_arcs fN_from fN_to fN_room fN_cost iN_reached_j12 fN_free_x59 fN_before_j12 fN_flow fN_length fN_stop iN_stops fN_price fN_rest) ∧ va_S A s.heap H locs ∧ lv_has ls 8 [(4, .int l4_x59), (3, .int l3_x59), (0, .ref (hN 0)), (1, .int p1), (2, .int p2)]) (fun join12 => ?_) ?_
        · refine lv_icmp_ge (tgt := 229) hx hb dX2_fill_63 (by decide) (fun c_63 => ?_) (fun c_63 => ?_)
          · have t_63 : l4_x59.toInt ≥ 1000000 := toI_ge c_63 rfl (by decide : (1000000 : Int32).toInt = 1000000)
            have hl : lv_has _ _ ([(4, .int l4_x59), (3, .int l3_x59), (0, .ref (hN 0)), (1, .int p1), (2, .int p2)]) := lv_sub hl [0, 1, 2, 3, 4] rfl
            exact join12 _ _ _ _ ⟨iN_reached_x59, fN_before_x59, b_fN_before_x59, (show mxF (iN_arcs.toInt, fN_from, fN_to, fN_room, fN_cost) p1.toInt.toNat p2.toInt.toNat l3_x59.toInt ∧ mxC (iN_arcs.toInt, fN_from, fN_to, fN_room, fN_cost) p1.toInt.toNat p2.toInt.toNat iN_reached_x59 from by first | (exfalso; have h9 := mI.lim hMI hRm (by (try dsimp only); omega) (by (try dsimp only); omega) (by omega); omega) | exact RE.max hMI hRE (hbn t_72) (by omega)), rfl, hP, hD, hS, hl⟩
          · have t_63 : ¬ l4_x59.toInt ≥ 1000000 := toI_nge c_63 rfl (by decide : (1000000 : Int32).toInt = 1000000)
            refine lv_aload_n hx hb dX2_fill_66 rfl (lv_at hl 2 rfl) ?_
            refine lv_iload_n hx hb dX2_fill_67 rfl (lv_at hl 3 rfl) ?_
            refine lv_iload_n hx hb dX2_fill_68 rfl (lv_at hl 4 rfl) ?_
            have hFc := allFree hD hS hA
            refine va_calli (va_runV (As := [.int p1, .int p2]) (rest := []) ⟨hx, hb, hml, hown, hts⟩ (m_X2_reach l dC dI hN aN kN iN_arcs fN_from fN_to fN_room fN_cost iN_reached_x59 fN_free_x59 fN_before_x59 fN_flow fN_length fN_stop iN_stops fN_price fN_rest p1 p2 (b_iN_arcs) b_fN_from b_fN_to b_fN_before_x59 b_fN_stop (b_iN_stops) (b_p1) (b_p2) H.size) (cwV 2 hts gwsMX2_fill_1 rfl rfl rfl hd_yX2_reach_RX2 (by decide +kernel)) (fz_pre (va_recv hK hP (ci := 2) (q0 := 0) rfl rfl) hP hK hD) rfl rfl hl.1 rfl (lv_room (Nat.le_of_ble_eq_true rfl)) dX2_fill_69 (by decide +kernel)) hS (fun q _ h => hFc q h) hFc (fun r4799 u t9_ H locs ht hvm hw9 hB9 hz1 hk1 hS => ?_)
            obtain ⟨iN_reached_4799, fN_before_4799⟩ := u
            try dsimp only at hw9 hB9
            obtain ⟨b_fN_before_4799, b_r4799, f4799_0, f4799_1, f4799_2, f4799_3⟩ := hw9
            have hP : va_P (dC, dI) vwCl (WN hN aN kN iN_arcs fN_from fN_to fN_room fN_cost iN_reached_4799 fN_free_x59 fN_before_4799 fN_flow fN_length fN_stop iN_stops fN_price fN_rest) H := fz_P ht hB9.1
            have hD : va_D A (WN hN aN kN iN_arcs fN_from fN_to fN_room fN_cost iN_reached_4799 fN_free_x59 fN_before_4799 fN_flow fN_length fN_stop iN_stops fN_price fN_rest) := hB9.2.weaken (fun _ q _ h => hFc q.1 h)
            have hRB := f4799_0
            have hbt := f4799_1
            have hRE := f4799_2
            have hbn := f4799_3
            refine lv_if_eq (tgt := 229) hx hb dX2_fill_72 (by decide) (fun c_72 => ?_) (fun c_72 => ?_)
            · have t_72 : r4799.toInt = 0 := toI_eq c_72 rfl (by decide : (0 : Int32).toInt = 0)
              have hl : lv_has _ _ ([(4, .int l4_x59), (3, .int l3_x59), (0, .ref (hN 0)), (1, .int p1), (2, .int p2)]) := lv_sub hl [0, 1, 2, 3, 4] rfl
              exact join12 _ _ _ _ ⟨iN_reached_4799, fN_before_4799, b_fN_before_4799, (show mxF (iN_arcs.toInt, fN_from, fN_to, fN_room, fN_cost) p1.toInt.toNat p2.toInt.toNat l3_x59.toInt ∧ mxC (iN_arcs.toInt, fN_from, fN_to, fN_room, fN_cost) p1.toInt.toNat p2.toInt.toNat iN_reached_4799 from by first | (exfalso; have h9 := mI.lim hMI hRm (by (try dsimp only); omega) (by (try dsimp only); omega) (by omega); omega) | exact RE.max hMI hRE (hbn t_72) (by omega)), rfl, hP, hD, hS, hl⟩
            · have t_72 : ¬ r4799.toInt = 0 := toI_neq c_72 rfl (by decide : (0 : Int32).toInt = 0)
              obtain ⟨⟨lev, hL⟩, hCl⟩ := hRE
              have hv40 := mI.lim hMI hRm (by (try dsimp only); omega) (by (try dsimp only); omega) (by omega)
              refine lv_ldc (v := 536870912) hx hb hown (hts (.constant RX2 60 536870912) (by decide +kernel)) dX2_fill_75 ?_
              refine lv_istore hx hb dX2_fill_77 hl (by decide) rfl (fun ls (hl : lv_has ls _ ([(5, .int 536870912), (4, .int l4_x59), (3, .int l3_x59), (0, .ref (hN 0)), (1, .int p1), (2, .int p2)])) => ?_)
              refine lv_iload_n hx hb dX2_fill_79 rfl (lv_at hl 5 rfl) ?_
              refine lv_istore hx hb dX2_fill_80 hl (by decide) rfl (fun ls (hl : lv_has ls _ ([(6, .int p2), (5, .int 536870912), (4, .int l4_x59), (3, .int l3_x59), (0, .ref (hN 0)), (1, .int p1), (2, .int p2)])) => ?_)
              refine lv_iconst (v := 0) hx hb dX2_fill_82 (by decide) ?_
              refine lv_istore hx hb dX2_fill_83 hl (by decide) rfl (fun ls (hl : lv_has ls _ ([(7, .int 0), (6, .int p2), (5, .int 536870912), (4, .int l4_x59), (3, .int l3_x59), (0, .ref (hN 0)), (1, .int p1), (2, .int p2)])) => ?_)
              have hl : lv_has _ _ ([(7, .int 0), (6, .int p2), (5, .int 536870912), (4, .int l4_x59), (3, .int l3_x59), (0, .ref (hN 0)), (1, .int p1), (2, .int p2)]) := lv_sub hl [0, 1, 2, 3, 4, 5, 6, 7] rfl
              refine (fun (loop : ∀ (n9 : Nat) (l7_x85 : Int32) (l6_x85 : Int32) (l5_x85 : Int32) (H : Heap) (locs : List Loc) (ls : Array Slot), (0 ≤ l7_x85.toInt ∧ l7_x85.toInt ≤ 12) → (0 ≤ l6_x85.toInt ∧ l6_x85.toInt ≤ 11) → (bt iN_reached_4799 l6_x85.toInt.toNat = true) → (Wk1 p2.toInt.toNat fN_free_x59 fN_before_4799 iN_reached_4799 lev l7_x85.toInt.toNat l6_x85.toInt.toNat l5_x85.toInt) → (12 - l7_x85.toInt < ((n9 : Nat) : Int)) → va_P (dC, dI) vwCl (WN hN aN kN iN_arcs fN_from fN_to fN_room fN_cost iN_reached_4799 fN_free_x59 fN_before_4799 fN_flow fN_length fN_stop iN_stops fN_price fN_rest) H → va_D A (WN hN aN kN iN_arcs fN_from fN_to fN_room fN_cost iN_reached_4799 fN_free_x59 fN_before_4799 fN_flow fN_length fN_stop iN_stops fN_price fN_rest) → va_S A s.heap H locs → lv_has ls 8 [(7, .int l7_x85), (6, .int l6_x85), (5, .int l5_x85), (4, .int l4_x59), (3, .int l3_x59), (0, .ref (hN 0)), (1, .int p1), (2, .int p2)] → W p l e _ s m _ below meth c H locs 0 0 _ (F0 m 85 ls [])) => loop (13) 0 p2 536870912 _ _ _ (show 0 ≤ (0 : Int32).toInt ∧ (0 : Int32).toInt ≤ 12 from by decide) (b_p2) (show bt iN_reached_4799 p2.toInt.toNat = true from hbt t_72) (show Wk1 p2.toInt.toNat fN_free_x59 fN_before_4799 iN_reached_4799 lev (0 : Int32).toInt.toNat p2.toInt.toNat (536870912 : Int32).toInt from Wk1.start hL (by omega) (hbt t_72) (by decide) rfl (by decide)) ((by have e9 : (0 : Int32).toInt = 0 := (by decide : (0 : Int32).toInt = 0); omega)) hP hD hS hl) ?_
              intro n9
              induction n9 with
              | zero => intro l7_x85 l6_x85 l5_x85 H locs ls b_l7_x85 b_l6_x85 hnd hW1 hf9; exact False.elim (by omega)
              | succ n9 ihx85 =>
                intro l7_x85 l6_x85 l5_x85 H locs ls b_l7_x85 b_l6_x85 hnd hW1 hfx85 hP hD hS hl
                refine lv_iload hx hb dX2_fill_85 (lv_at hl 1 rfl) ?_
                refine lv_iload_n hx hb dX2_fill_87 rfl (lv_at hl 6 rfl) ?_
                refine lv_icmp_eq (tgt := 138) hx hb dX2_fill_88 (by decide) (fun c_88 => ?_) (fun c_88 => ?_)
                · have t_88 : l6_x85.toInt = p1.toInt := toI_eq c_88 rfl rfl
                  have hms : l6_x85.toInt.toNat = p1.toInt.toNat := (by rw [t_88])
                  have hw1 := hW1.2.2.2.2.1
                  have hw80 := hW1.w80 hL (hbt t_72) (by omega) hMI hRm (by (try dsimp only); omega) (by (try dsimp only); omega) hsm.1 hv40 hms (by omega)
                  refine lv_iload_n hx hb dX2_fill_138 rfl (lv_at hl 7 rfl) ?_
                  refine lv_istore hx hb dX2_fill_139 hl (by decide) rfl (fun ls (hl : lv_has ls _ ([(6, .int p2), (7, .int l7_x85), (5, .int l5_x85), (4, .int l4_x59), (3, .int l3_x59), (0, .ref (hN 0)), (1, .int p1), (2, .int p2)])) => ?_)
                  refine lv_iconst (v := 0) hx hb dX2_fill_141 (by decide) ?_
                  refine lv_istore hx hb dX2_fill_142 hl (by decide) rfl (fun ls (hl : lv_has ls _ ([(7, .int 0), (6, .int p2), (5, .int l5_x85), (4, .int l4_x59), (3, .int l3_x59), (0, .ref (hN 0)), (1, .int p1), (2, .int p2)])) => ?_)
                  have hl : lv_has _ _ ([(7, .int 0), (6, .int p2), (5, .int l5_x85), (4, .int l4_x59), (3, .int l3_x59), (0, .ref (hN 0)), (1, .int p1), (2, .int p2)]) := lv_sub hl [0, 1, 2, 3, 4, 5, 6, 7] rfl
                  refine (fun (loop : ∀ (n9 : Nat) (fN_free_x144 : Nat → Int32) (l7_x144 : Int32) (l6_x144 : Int32) (H : Heap) (locs : List Loc) (ls : Array Slot), (0 ≤ l7_x144.toInt ∧ l7_x144.toInt ≤ 12) → (0 ≤ l6_x144.toInt ∧ l6_x144.toInt ≤ 11) → (bt iN_reached_4799 l6_x144.toInt.toNat = true) → (Wk2 p2.toInt.toNat fN_free_x59 fN_before_4799 fN_free_x144 iN_reached_4799 lev l5_x85.toInt l7_x85.toInt.toNat l7_x144.toInt.toNat l6_x144.toInt.toNat) → (12 - l7_x144.toInt < ((n9 : Nat) : Int)) → va_P (dC, dI) vwCl (WN hN aN kN iN_arcs fN_from fN_to fN_room fN_cost iN_reached_4799 fN_free_x144 fN_before_4799 fN_flow fN_length fN_stop iN_stops fN_price fN_rest) H → va_D A (WN hN aN kN iN_arcs fN_from fN_to fN_room fN_cost iN_reached_4799 fN_free_x144 fN_before_4799 fN_flow fN_length fN_stop iN_stops fN_price fN_rest) → va_S A s.heap H locs → lv_has ls 8 [(7, .int l7_x144), (6, .int l6_x144), (5, .int l5_x85), (4, .int l4_x59), (3, .int l3_x59), (0, .ref (hN 0)), (1, .int p1), (2, .int p2)] → W p l e _ s m _ below meth c H locs 0 0 _ (F0 m 144 ls [])) => loop (13) fN_free_x59 0 p2 _ _ _ (show 0 ≤ (0 : Int32).toInt ∧ (0 : Int32).toInt ≤ 12 from by decide) (b_p2) (show bt iN_reached_4799 p2.toInt.toNat = true from hbt t_72) (show Wk2 p2.toInt.toNat fN_free_x59 fN_before_4799 fN_free_x59 iN_reached_4799 lev l5_x85.toInt l7_x85.toInt.toNat (0 : Int32).toInt.toNat p2.toInt.toNat from Wk2.start hL (by omega) (hbt t_72) hMI.1 (by decide) rfl) ((by have e9 : (0 : Int32).toInt = 0 := (by decide : (0 : Int32).toInt = 0); omega)) hP hD hS hl) ?_
                  intro n9
                  induction n9 with
                  | zero => intro fN_free_x144 l7_x144 l6_x144 H locs ls b_l7_x144 b_l6_x144 hnd hW2 hf9; exact False.elim (by omega)
                  | succ n9 ihx144 =>
                    intro fN_free_x144 l7_x144 l6_x144 H locs ls b_l7_x144 b_l6_x144 hnd hW2 hfx144 hP hD hS hl
                    refine lv_iload hx hb dX2_fill_144 (lv_at hl 1 rfl) ?_
                    refine lv_iload_n hx hb dX2_fill_146 rfl (lv_at hl 6 rfl) ?_
                    refine lv_icmp_eq (tgt := 218) hx hb dX2_fill_147 (by decide) (fun c_147 => ?_) (fun c_147 => ?_)
                    · have t_147 : l6_x144.toInt = p1.toInt := toI_eq c_147 rfl rfl
                      refine lv_iload_n hx hb dX2_fill_218 rfl (lv_at hl 4 rfl) ?_
                      refine lv_iload hx hb dX2_fill_219 (lv_at hl 2 rfl) ?_
                      refine lv_iadd hx hb dX2_fill_221 ?_
                      refine lv_topi (fun y5059 hy5059 => ?_)
                      obtain rfl : (iI (l3_x59.toInt + l5_x85.toInt)) = y5059 := (hy5059.trans (iI_add2 (iI_of _) (iI_of _))).symm
                      refine lv_istore_n hx hb dX2_fill_222 rfl hl (by decide) rfl (fun ls (hl : lv_has ls _ ([(3, .int (iI (l3_x59.toInt + l5_x85.toInt))), (7, .int l7_x144), (6, .int l6_x144), (5, .int l5_x85), (4, .int l4_x59), (0, .ref (hN 0)), (1, .int p1), (2, .int p2)])) => ?_)
                      refine lv_iinc (v := (iI (l4_x59.toInt + 1))) hx hb dX2_fill_223 hl (k := 4) rfl (iI_add2 (iI_of _) (by decide : (1 : Int32) = iI 1)) (by decide) rfl (fun ls (hl : lv_has ls _ ([(4, .int (iI (l4_x59.toInt + 1))), (3, .int (iI (l3_x59.toInt + l5_x85.toInt))), (7, .int l7_x144), (6, .int l6_x144), (5, .int l5_x85), (0, .ref (hN 0)), (1, .int p1), (2, .int p2)])) => ?_)
                      refine lv_goto (tgt := 59) hx hb dX2_fill_226 (by decide) ?_
                      have hl : lv_has _ _ ([(4, .int (iI (l4_x59.toInt + 1))), (3, .int (iI (l3_x59.toInt + l5_x85.toInt))), (0, .ref (hN 0)), (1, .int p1), (2, .int p2)]) := lv_sub hl [0, 1, 5, 6, 7] rfl
                      exact ihx59 iN_reached_4799 fN_free_x144 fN_before_4799 (iI (l4_x59.toInt + 1)) (iI (l3_x59.toInt + l5_x85.toInt)) _ _ _ b_fN_before_4799 (iI_rng (Int.le_trans (by decide) (Int.add_le_add (b_l4_x59.1) (Int.le_refl _))) (by omega) (by decide) (by decide)) (show mI (iN_arcs.toInt, fN_from, fN_to, fN_room, fN_cost) p1.toInt.toNat p2.toInt.toNat fN_free_x144 (iI (l3_x59.toInt + l5_x85.toInt)).toInt from Wk2.done hW2 hMI (by omega) (iI_t (by omega) (by omega))) (show 0 ≤ (iI (l3_x59.toInt + l5_x85.toInt)).toInt ∧ (iI (l4_x59.toInt + 1)).toInt ≤ (iI (l3_x59.toInt + l5_x85.toInt)).toInt from by rw [iI_t (by omega) (by omega), iI_t (by omega) (by omega)]; omega) (by have e9 : ((iI (l4_x59.toInt + 1))).toInt = (l4_x59.toInt + 1) := (iI_t (Int.le_trans (by decide) (Int.add_le_add (b_l4_x59.1) (Int.le_refl _))) (Int.le_trans (Int.add_le_add (b_l4_x59.2) (Int.le_refl _)) (by decide))); omega) hP hD hS hl
                    · have t_147 : ¬ l6_x144.toInt = p1.toInt := toI_neq c_147 rfl rfl
                      have hst9 := hW2.2.2.2.1
                      refine lv_iload hx hb dX2_fill_150 (lv_at hl 0 rfl) ?_
                      refine lv_bipush (v := 12) hx hb dX2_fill_152 (by decide) ?_
                      refine lv_icmp_ge (tgt := 218) hx hb dX2_fill_154 (by decide) (fun c9 => False.elim (by have t9 : l7_x144.toInt ≥ 12 := toI_ge c9 rfl (by decide : (12 : Int32).toInt = 12); omega)) (fun c_154 => ?_)
                      have t_154 : ¬ l7_x144.toInt ≥ 12 := toI_nge c_154 rfl (by decide : (12 : Int32).toInt = 12)
                      refine lv_aload_n hx hb dX2_fill_157 rfl (lv_at hl 5 rfl) ?_
                      refine va_get (D := (dC, dI)) (ci := 2) (v := .ref (aN 4)) (C := RX2) (T := TX2) (N := 14) hx hb hts iwsMX2_fill_in2 hown hK hP 0 rfl rfl 6 (by decide) (hts (.fieldLink RX2 24 "OptimaWorks$NetDesk" "free" "[I") (by decide +kernel)) (fun _ h9 => h9) rfl dX2_fill_158 ?_
                      refine lv_aload_n hx hb dX2_fill_161 rfl (lv_at hl 5 rfl) ?_
                      refine va_get (D := (dC, dI)) (ci := 2) (v := .ref (aN 5)) (C := RX2) (T := TX2) (N := 14) hx hb hts iwsMX2_fill_in2 hown hK hP 0 rfl rfl 7 (by decide) (hts (.fieldLink RX2 27 "OptimaWorks$NetDesk" "before" "[I") (by decide +kernel)) (fun _ h9 => h9) rfl dX2_fill_162 ?_
                      refine lv_iload hx hb dX2_fill_165 (lv_at hl 1 rfl) ?_
                      refine va_iald (cA := kN 5) (n := 12) (f := fN_before_4799) hx hb hK hP 6 5 rfl rfl (vp_in_iff.mpr ⟨b_l6_x144.1, (Int.lt_of_le_of_lt (b_l6_x144.2) (by decide))⟩) dX2_fill_167 ?_
                      refine lv_topi (fun v5060 hv5060 => ?_)
                      have b_v5060 : 0 ≤ v5060.toInt ∧ v5060.toInt ≤ 11 ∧ bt iN_reached_4799 v5060.toInt.toNat = true := by rw [hv5060]; exact RB.at hRB (by omega) (by omega) hnd t_147
                      have b1_v5060 : v5060 = fN_before_4799 (l6_x144).toNatClampNeg := hv5060
                      clear hv5060
                      refine lv_bipush (v := 12) hx hb dX2_fill_168 (by decide) ?_
                      refine lv_imul hx hb dX2_fill_170 ?_
                      refine lv_topi (fun y5061 hy5061 => ?_)
                      obtain rfl : (iI (v5060.toInt * 12)) = y5061 := (hy5061.trans (iI_mul2 (iI_of _) (by decide : (12 : Int32) = iI 12))).symm
                      refine lv_iload hx hb dX2_fill_171 (lv_at hl 1 rfl) ?_
                      refine lv_iadd hx hb dX2_fill_173 ?_
                      refine lv_topi (fun y5062 hy5062 => ?_)
                      obtain rfl : (iI ((v5060.toInt * 12) + l6_x144.toInt)) = y5062 := (hy5062.trans (iI_add2 rfl (iI_of _))).symm
                      refine lv_dup2_11 hx hb dX2_fill_174 rfl rfl ?_
                      refine va_iald (cA := kN 4) (n := 144) (f := fN_free_x144) hx hb hK hP 5 4 rfl rfl (vp_iI (by omega) (by omega) (by decide)) dX2_fill_175 ?_
                      refine lv_topi (fun v5063 hv5063 => ?_)
                      have b_v5063 : v5063 = fN_free_x144 ((iI ((v5060.toInt * 12) + l6_x144.toInt))).toNatClampNeg := hv5063
                      clear hv5063
                      refine lv_iload hx hb dX2_fill_176 (lv_at hl 2 rfl) ?_
                      refine lv_isub hx hb dX2_fill_178 ?_
                      refine lv_topi (fun y5064 hy5064 => ?_)
                      obtain rfl : (iI (v5063.toInt - l5_x85.toInt)) = y5064 := (hy5064.trans (iI_sub2 (iI_of _) (iI_of _))).symm
                      refine va_iast (cA := kN 4) (n := 144) (f := fN_free_x144) hx hb hK hP hD hS 5 4 rfl rfl (vp_iI (by omega) (by omega) (by decide)) dX2_fill_179 (fun H locs hP hD hS => ?_)
                      obtain ⟨u5065, hu5065⟩ : ∃ f9, f9 = upd fN_free_x144 ((iI ((v5060.toInt * 12) + l6_x144.toInt))).toNatClampNeg (iI (v5063.toInt - l5_x85.toInt)) := ⟨_, rfl⟩
                      have hP : va_P (dC, dI) vwCl (WN hN aN kN iN_arcs fN_from fN_to fN_room fN_cost iN_reached_4799 u5065 fN_before_4799 fN_flow fN_length fN_stop iN_stops fN_price fN_rest) H := by rw [hu5065]; exact hP
                      have hD : va_D A (WN hN aN kN iN_arcs fN_from fN_to fN_room fN_cost iN_reached_4799 u5065 fN_before_4799 fN_flow fN_length fN_stop iN_stops fN_price fN_rest) := by rw [hu5065]; exact hD
                      have b_u5065 : u5065 = upd fN_free_x144 ((iI ((v5060.toInt * 12) + l6_x144.toInt))).toNatClampNeg (iI (v5063.toInt - l5_x85.toInt)) := hu5065
                      clear hu5065
                      refine lv_aload_n hx hb dX2_fill_180 rfl (lv_at hl 5 rfl) ?_
                      refine va_get (D := (dC, dI)) (ci := 2) (v := .ref (aN 4)) (C := RX2) (T := TX2) (N := 14) hx hb hts iwsMX2_fill_in2 hown hK hP 0 rfl rfl 6 (by decide) (hts (.fieldLink RX2 24 "OptimaWorks$NetDesk" "free" "[I") (by decide +kernel)) (fun _ h9 => h9) rfl dX2_fill_181 ?_
                      refine lv_iload hx hb dX2_fill_184 (lv_at hl 1 rfl) ?_
                      refine lv_bipush (v := 12) hx hb dX2_fill_186 (by decide) ?_
                      refine lv_imul hx hb dX2_fill_188 ?_
                      refine lv_topi (fun y5066 hy5066 => ?_)
                      obtain rfl : (iI (l6_x144.toInt * 12)) = y5066 := (hy5066.trans (iI_mul2 (iI_of _) (by decide : (12 : Int32) = iI 12))).symm
                      refine lv_aload_n hx hb dX2_fill_189 rfl (lv_at hl 5 rfl) ?_
                      refine va_get (D := (dC, dI)) (ci := 2) (v := .ref (aN 5)) (C := RX2) (T := TX2) (N := 14) hx hb hts iwsMX2_fill_in2 hown hK hP 0 rfl rfl 7 (by decide) (hts (.fieldLink RX2 27 "OptimaWorks$NetDesk" "before" "[I") (by decide +kernel)) (fun _ h9 => h9) rfl dX2_fill_190 ?_
                      refine lv_iload hx hb dX2_fill_193 (lv_at hl 1 rfl) ?_
                      refine va_iald (cA := kN 5) (n := 12) (f := fN_before_4799) hx hb hK hP 6 5 rfl rfl (vp_in_iff.mpr ⟨b_l6_x144.1, (Int.lt_of_le_of_lt (b_l6_x144.2) (by decide))⟩) dX2_fill_195 ?_
                      refine lv_topi (fun v5067 hv5067 => ?_)
                      have b_v5067 : 0 ≤ v5067.toInt ∧ v5067.toInt ≤ 11 ∧ bt iN_reached_4799 v5067.toInt.toNat = true := by rw [hv5067]; exact RB.at hRB (by omega) (by omega) hnd t_147
                      have b1_v5067 : v5067 = fN_before_4799 (l6_x144).toNatClampNeg := hv5067
                      clear hv5067
                      refine lv_iadd hx hb dX2_fill_196 ?_
                      refine lv_topi (fun y5068 hy5068 => ?_)
                      obtain rfl : (iI ((l6_x144.toInt * 12) + v5067.toInt)) = y5068 := (hy5068.trans (iI_add2 rfl (iI_of _))).symm
                      refine lv_dup2_11 hx hb dX2_fill_197 rfl rfl ?_
                      refine va_iald (cA := kN 4) (n := 144) (f := u5065) hx hb hK hP 5 4 rfl rfl (vp_iI (by omega) (by omega) (by decide)) dX2_fill_198 ?_
                      refine lv_topi (fun v5069 hv5069 => ?_)
                      have b_v5069 : v5069 = u5065 ((iI ((l6_x144.toInt * 12) + v5067.toInt))).toNatClampNeg := hv5069
                      clear hv5069
                      refine lv_iload hx hb dX2_fill_199 (lv_at hl 2 rfl) ?_
                      refine lv_iadd hx hb dX2_fill_201 ?_
                      refine lv_topi (fun y5070 hy5070 => ?_)
                      obtain rfl : (iI (v5069.toInt + l5_x85.toInt)) = y5070 := (hy5070.trans (iI_add2 (iI_of _) (iI_of _))).symm
                      refine va_iast (cA := kN 4) (n := 144) (f := u5065) hx hb hK hP hD hS 5 4 rfl rfl (vp_iI (by omega) (by omega) (by decide)) dX2_fill_202 (fun H locs hP hD hS => ?_)
                      obtain ⟨u5071, hu5071⟩ : ∃ f9, f9 = upd u5065 ((iI ((l6_x144.toInt * 12) + v5067.toInt))).toNatClampNeg (iI (v5069.toInt + l5_x85.toInt)) := ⟨_, rfl⟩
                      have hP : va_P (dC, dI) vwCl (WN hN aN kN iN_arcs fN_from fN_to fN_room fN_cost iN_reached_4799 u5071 fN_before_4799 fN_flow fN_length fN_stop iN_stops fN_price fN_rest) H := by rw [hu5071]; exact hP
                      have hD : va_D A (WN hN aN kN iN_arcs fN_from fN_to fN_room fN_cost iN_reached_4799 u5071 fN_before_4799 fN_flow fN_length fN_stop iN_stops fN_price fN_rest) := by rw [hu5071]; exact hD
                      have b_u5071 : u5071 = upd u5065 ((iI ((l6_x144.toInt * 12) + v5067.toInt))).toNatClampNeg (iI (v5069.toInt + l5_x85.toInt)) := hu5071
                      clear hu5071
                      refine lv_aload_n hx hb dX2_fill_203 rfl (lv_at hl 5 rfl) ?_
                      refine va_get (D := (dC, dI)) (ci := 2) (v := .ref (aN 5)) (C := RX2) (T := TX2) (N := 14) hx hb hts iwsMX2_fill_in2 hown hK hP 0 rfl rfl 7 (by decide) (hts (.fieldLink RX2 27 "OptimaWorks$NetDesk" "before" "[I") (by decide +kernel)) (fun _ h9 => h9) rfl dX2_fill_204 ?_
                      refine lv_iload hx hb dX2_fill_207 (lv_at hl 1 rfl) ?_
                      refine va_iald (cA := kN 5) (n := 12) (f := fN_before_4799) hx hb hK hP 6 5 rfl rfl (vp_in_iff.mpr ⟨b_l6_x144.1, (Int.lt_of_le_of_lt (b_l6_x144.2) (by decide))⟩) dX2_fill_209 ?_
                      refine lv_topi (fun v5072 hv5072 => ?_)
                      have b_v5072 : 0 ≤ v5072.toInt ∧ v5072.toInt ≤ 11 ∧ bt iN_reached_4799 v5072.toInt.toNat = true := by rw [hv5072]; exact RB.at hRB (by omega) (by omega) hnd t_147
                      have b1_v5072 : v5072 = fN_before_4799 (l6_x144).toNatClampNeg := hv5072
                      clear hv5072
                      refine lv_istore hx hb dX2_fill_210 hl (by decide) rfl (fun ls (hl : lv_has ls _ ([(6, .int v5072), (7, .int l7_x144), (5, .int l5_x85), (4, .int l4_x59), (3, .int l3_x59), (0, .ref (hN 0)), (1, .int p1), (2, .int p2)])) => ?_)
                      refine lv_iinc (v := (iI (l7_x144.toInt + 1))) hx hb dX2_fill_212 hl (k := 1) rfl (iI_add2 (iI_of _) (by decide : (1 : Int32) = iI 1)) (by decide) rfl (fun ls (hl : lv_has ls _ ([(7, .int (iI (l7_x144.toInt + 1))), (6, .int v5072), (5, .int l5_x85), (4, .int l4_x59), (3, .int l3_x59), (0, .ref (hN 0)), (1, .int p1), (2, .int p2)])) => ?_)
                      refine lv_goto (tgt := 144) hx hb dX2_fill_215 (by decide) ?_
                      have hl : lv_has _ _ ([(7, .int (iI (l7_x144.toInt + 1))), (6, .int v5072), (5, .int l5_x85), (4, .int l4_x59), (3, .int l3_x59), (0, .ref (hN 0)), (1, .int p1), (2, .int p2)]) := lv_sub hl [0, 1, 2, 3, 4, 5, 6, 7] rfl
                      exact ihx144 u5071 (iI (l7_x144.toInt + 1)) v5072 _ _ _ (iI_rng (Int.le_trans (by decide) (Int.add_le_add (b_l7_x144.1) (Int.le_refl _))) (by omega) (by decide) (by decide)) (by first | exact b_v5072 | assumption | exact ⟨by omega, by omega⟩) (show bt iN_reached_4799 v5072.toInt.toNat = true from b_v5072.2.2) (show Wk2 p2.toInt.toNat fN_free_x59 fN_before_4799 u5071 iN_reached_4799 lev l5_x85.toInt l7_x85.toInt.toNat (iI (l7_x144.toInt + 1)).toInt.toNat v5072.toInt.toNat from by have hns : l6_x144.toInt.toNat ≠ p1.toInt.toNat := (by omega); have ea : v5060.toInt.toNat = (fN_before_4799 l6_x144.toInt.toNat).toInt.toNat := (by rw [b1_v5060]; rfl); have eb : v5067.toInt.toNat = (fN_before_4799 l6_x144.toInt.toNat).toInt.toNat := (by rw [b1_v5067]; rfl); have ec : v5072.toInt.toNat = (fN_before_4799 l6_x144.toInt.toNat).toInt.toNat := (by rw [b1_v5072]; rfl); have hat := hW2.at hL hns; have hwd := hW2.wid hL hW1 hms hns; have ha1 := hat.1; rw [← ec] at ha1 hat hwd; have hpn : v5072.toInt.toNat ≠ l6_x144.toInt.toNat := (fun e9 => by have h9 := hat.2.2.2.1; rw [e9] at h9; omega); have hhi := hW2.hi hMI hRm (by (try dsimp only); omega) (by (try dsimp only); omega) hsm.1 hv40 (by omega) ha1 hpn; have hlo := hW2.2.2.2.2.2.1 (12 * l6_x144.toInt.toNat + v5072.toInt.toNat) (by omega); have ei1 : ((iI ((v5060.toInt * 12) + l6_x144.toInt))).toNatClampNeg = 12 * v5072.toInt.toNat + l6_x144.toInt.toNat := (by rw [ec, ← ea]; show (iI (v5060.toInt * 12 + l6_x144.toInt)).toInt.toNat = _; rw [iI_t (by omega) (by omega)]; omega); have ei2 : ((iI ((l6_x144.toInt * 12) + v5067.toInt))).toNatClampNeg = 12 * l6_x144.toInt.toNat + v5072.toInt.toNat := (by rw [ec, ← eb]; show (iI (l6_x144.toInt * 12 + v5067.toInt)).toInt.toNat = _; rw [iI_t (by omega) (by omega)]; omega); have hg9 : l5_x85.toInt ≤ v5063.toInt := (by rw [b_v5063, ei1]; exact hwd); have hl9 := Int32.toInt_lt v5063; have hy9 : v5069 = fN_free_x144 (12 * l6_x144.toInt.toNat + v5072.toInt.toNat) := (by rw [b_v5069, b_u5065, ei2]; exact if_neg (by rw [ei1]; omega)); rw [← hy9] at hhi hlo; exact Wk2.step hW2 hL hW1 hms hns ec (by rw [iI_t (by omega) (by omega)]; omega) ei1 ei2 b_u5065 (by rw [← b_v5063]; exact iI_t (by omega) (by omega)) b_u5071 (by rw [← b_v5069]; exact iI_t (by omega) (by omega))) (by have e9 : ((iI (l7_x144.toInt + 1))).toInt = (l7_x144.toInt + 1) := (iI_t (Int.le_trans (by decide) (Int.add_le_add (b_l7_x144.1) (Int.le_refl _))) (Int.le_trans (Int.add_le_add (b_l7_x144.2) (Int.le_refl _)) (by decide))); omega) hP hD hS hl
                · have t_88 : ¬ l6_x85.toInt = p1.toInt := toI_neq c_88 rfl rfl
                  have hst9 := hW1.2.2.2.1
                  refine lv_iload hx hb dX2_fill_91 (lv_at hl 0 rfl) ?_
                  refine lv_bipush (v := 12) hx hb dX2_fill_93 (by decide) ?_
                  refine lv_icmp_ge (tgt := 138) hx hb dX2_fill_95 (by decide) (fun c9 => False.elim (by have t9 : l7_x85.toInt ≥ 12 := toI_ge c9 rfl (by decide : (12 : Int32).toInt = 12); omega)) (fun c_95 => ?_)
                  have t_95 : ¬ l7_x85.toInt ≥ 12 := toI_nge c_95 rfl (by decide : (12 : Int32).toInt = 12)
                  refine lv_iload hx hb dX2_fill_98 (lv_at hl 2 rfl) ?_
                  refine lv_aload_n hx hb dX2_fill_100 rfl (lv_at hl 5 rfl) ?_
                  refine va_get (D := (dC, dI)) (ci := 2) (v := .ref (aN 4)) (C := RX2) (T := TX2) (N := 14) hx hb hts iwsMX2_fill_in2 hown hK hP 0 rfl rfl 6 (by decide) (hts (.fieldLink RX2 24 "OptimaWorks$NetDesk" "free" "[I") (by decide +kernel)) (fun _ h9 => h9) rfl dX2_fill_101 ?_
                  refine lv_aload_n hx hb dX2_fill_104 rfl (lv_at hl 5 rfl) ?_
                  refine va_get (D := (dC, dI)) (ci := 2) (v := .ref (aN 5)) (C := RX2) (T := TX2) (N := 14) hx hb hts iwsMX2_fill_in2 hown hK hP 0 rfl rfl 7 (by decide) (hts (.fieldLink RX2 27 "OptimaWorks$NetDesk" "before" "[I") (by decide +kernel)) (fun _ h9 => h9) rfl dX2_fill_105 ?_
                  refine lv_iload hx hb dX2_fill_108 (lv_at hl 1 rfl) ?_
                  refine va_iald (cA := kN 5) (n := 12) (f := fN_before_4799) hx hb hK hP 6 5 rfl rfl (vp_in_iff.mpr ⟨b_l6_x85.1, (Int.lt_of_le_of_lt (b_l6_x85.2) (by decide))⟩) dX2_fill_110 ?_
                  refine lv_topi (fun v5073 hv5073 => ?_)
                  have b_v5073 : 0 ≤ v5073.toInt ∧ v5073.toInt ≤ 11 ∧ bt iN_reached_4799 v5073.toInt.toNat = true := by rw [hv5073]; exact RB.at hRB (by omega) (by omega) hnd t_88
                  have b1_v5073 : v5073 = fN_before_4799 (l6_x85).toNatClampNeg := hv5073
                  clear hv5073
                  refine lv_bipush (v := 12) hx hb dX2_fill_111 (by decide) ?_
                  refine lv_imul hx hb dX2_fill_113 ?_
                  refine lv_topi (fun y5074 hy5074 => ?_)
                  obtain rfl : (iI (v5073.toInt * 12)) = y5074 := (hy5074.trans (iI_mul2 (iI_of _) (by decide : (12 : Int32) = iI 12))).symm
                  refine lv_iload hx hb dX2_fill_114 (lv_at hl 1 rfl) ?_
                  refine lv_iadd hx hb dX2_fill_116 ?_
                  refine lv_topi (fun y5075 hy5075 => ?_)
                  obtain rfl : (iI ((v5073.toInt * 12) + l6_x85.toInt)) = y5075 := (hy5075.trans (iI_add2 rfl (iI_of _))).symm
                  refine va_iald (cA := kN 4) (n := 144) (f := fN_free_x59) hx hb hK hP 5 4 rfl rfl (vp_iI (by omega) (by omega) (by decide)) dX2_fill_117 ?_
                  refine lv_topi (fun v5076 hv5076 => ?_)
                  have b_v5076 : v5076 = fN_free_x59 ((iI ((v5073.toInt * 12) + l6_x85.toInt))).toNatClampNeg := hv5076
                  clear hv5076
                  refine va_mmin hx hb (by rw [hml]; exact hl.1.symm) hown (hts (.methodLink RX2 61 Lib.Math.min.name) (by decide +kernel)) (hts (.static Lib.Math.min.name) (by decide +kernel)) (hts (.initialized "java/lang/Math") (by decide +kernel)) (hts (.code Lib.Math.min.name Lib.Math.min.code 2 (some .int)) (by decide +kernel)) (by decide +kernel) (Nat.le_of_ble_eq_true rfl) (by decide +kernel) (by decide +kernel) dX2_fill_118 ?_
                  refine lv_topi (fun v5077 hv5077 => ?_)
                  have b_v5077 : (v5077.toInt ≤ l5_x85.toInt ∧ v5077.toInt ≤ v5076.toInt) ∧ (v5077.toInt = l5_x85.toInt ∨ v5077.toInt = v5076.toInt) := by rw [hv5077]; exact min_t rfl rfl
                  clear hv5077
                  refine lv_istore hx hb dX2_fill_121 hl (by decide) rfl (fun ls (hl : lv_has ls _ ([(5, .int v5077), (7, .int l7_x85), (6, .int l6_x85), (4, .int l4_x59), (3, .int l3_x59), (0, .ref (hN 0)), (1, .int p1), (2, .int p2)])) => ?_)
                  refine lv_aload_n hx hb dX2_fill_123 rfl (lv_at hl 5 rfl) ?_
                  refine va_get (D := (dC, dI)) (ci := 2) (v := .ref (aN 5)) (C := RX2) (T := TX2) (N := 14) hx hb hts iwsMX2_fill_in2 hown hK hP 0 rfl rfl 7 (by decide) (hts (.fieldLink RX2 27 "OptimaWorks$NetDesk" "before" "[I") (by decide +kernel)) (fun _ h9 => h9) rfl dX2_fill_124 ?_
                  refine lv_iload hx hb dX2_fill_127 (lv_at hl 2 rfl) ?_
                  refine va_iald (cA := kN 5) (n := 12) (f := fN_before_4799) hx hb hK hP 6 5 rfl rfl (vp_in_iff.mpr ⟨b_l6_x85.1, (Int.lt_of_le_of_lt (b_l6_x85.2) (by decide))⟩) dX2_fill_129 ?_
                  refine lv_topi (fun v5078 hv5078 => ?_)
                  have b_v5078 : 0 ≤ v5078.toInt ∧ v5078.toInt ≤ 11 ∧ bt iN_reached_4799 v5078.toInt.toNat = true := by rw [hv5078]; exact RB.at hRB (by omega) (by omega) hnd t_88
                  have b1_v5078 : v5078 = fN_before_4799 (l6_x85).toNatClampNeg := hv5078
                  clear hv5078
                  refine lv_istore hx hb dX2_fill_130 hl (by decide) rfl (fun ls (hl : lv_has ls _ ([(6, .int v5078), (5, .int v5077), (7, .int l7_x85), (4, .int l4_x59), (3, .int l3_x59), (0, .ref (hN 0)), (1, .int p1), (2, .int p2)])) => ?_)
                  refine lv_iinc (v := (iI (l7_x85.toInt + 1))) hx hb dX2_fill_132 hl (k := 2) rfl (iI_add2 (iI_of _) (by decide : (1 : Int32) = iI 1)) (by decide) rfl (fun ls (hl : lv_has ls _ ([(7, .int (iI (l7_x85.toInt + 1))), (6, .int v5078), (5, .int v5077), (4, .int l4_x59), (3, .int l3_x59), (0, .ref (hN 0)), (1, .int p1), (2, .int p2)])) => ?_)
                  refine lv_goto (tgt := 85) hx hb dX2_fill_135 (by decide) ?_
                  have hl : lv_has _ _ ([(7, .int (iI (l7_x85.toInt + 1))), (6, .int v5078), (5, .int v5077), (4, .int l4_x59), (3, .int l3_x59), (0, .ref (hN 0)), (1, .int p1), (2, .int p2)]) := lv_sub hl [0, 1, 2, 3, 4, 5, 6, 7] rfl
                  exact ihx85 (iI (l7_x85.toInt + 1)) v5078 v5077 _ _ _ (iI_rng (Int.le_trans (by decide) (Int.add_le_add (b_l7_x85.1) (Int.le_refl _))) (by omega) (by decide) (by decide)) (by first | exact b_v5078 | assumption | exact ⟨by omega, by omega⟩) (show bt iN_reached_4799 v5078.toInt.toNat = true from b_v5078.2.2) (show Wk1 p2.toInt.toNat fN_free_x59 fN_before_4799 iN_reached_4799 lev (iI (l7_x85.toInt + 1)).toInt.toNat v5078.toInt.toNat v5077.toInt from by have hns : l6_x85.toInt.toNat ≠ p1.toInt.toNat := (by omega); have hat := hW1.at hL hns; have ea : v5073.toInt.toNat = (fN_before_4799 l6_x85.toInt.toNat).toInt.toNat := (by rw [b1_v5073]; rfl); have eb : v5078.toInt.toNat = (fN_before_4799 l6_x85.toInt.toNat).toInt.toNat := (by rw [b1_v5078]; rfl); have ei : ((iI ((v5073.toInt * 12) + l6_x85.toInt))).toNatClampNeg = 12 * v5078.toInt.toNat + l6_x85.toInt.toNat := (by rw [eb, ← ea]; show (iI (v5073.toInt * 12 + l6_x85.toInt)).toInt.toNat = _; rw [iI_t (by omega) (by omega)]; omega); have hx7 : v5076.toInt = (fN_free_x59 (12 * v5078.toInt.toNat + l6_x85.toInt.toNat)).toInt := (by rw [← ei, ← b_v5076]); rw [← eb, ← hx7] at hat; have hp9 := hat.2.2.2.2; have hw9_ := hW1.2.2.2.2.1; exact Wk1.step hW1 hL hns eb (by rw [iI_t (by omega) (by omega)]; omega) (by omega) (by rw [← hx7]; omega) (by omega)) (by have e9 : ((iI (l7_x85.toInt + 1))).toInt = (l7_x85.toInt + 1) := (iI_t (Int.le_trans (by decide) (Int.add_le_add (b_l7_x85.1) (Int.le_refl _))) (Int.le_trans (Int.add_le_add (b_l7_x85.2) (Int.le_refl _)) (by decide))); omega) hP hD hS hl
        · rintro H locs ls stk ⟨iN_reached_j12, fN_before_j12, b_fN_before_j12, hfe, rfl, hP, hD, hS, hl⟩
          refine lv_iload_n hx hb dX2_fill_229 rfl (lv_at hl 1 rfl) ?_
          refine W.widen (k := 0) (n := 0) (by decide +kernel) (by decide +kernel) ?_
          exact W.iret (v := l3_x59) hx hb hr (fun t9_ ht hW => ⟨⟨l3_x59, (iN_reached_j12, fN_free_x59, fN_before_j12), rfl, ⟨b_fN_before_j12, (by (try dsimp only); exact (hfe.1)), (by (try dsimp only); exact (hfe.2))⟩, by rw [ht]; exact hP, hD⟩, hS.F ht⟩) hS.2.2 dX2_fill_230
    · have t_15 : ¬ l3_x10.toInt ≥ iN_arcs.toInt := toI_nge c_15 rfl rfl
      refine lv_aload_n hx hb dX2_fill_18 rfl (lv_at hl 1 rfl) ?_
      refine va_get (D := (dC, dI)) (ci := 2) (v := .ref (aN 4)) (C := RX2) (T := TX2) (N := 14) hx hb hts iwsMX2_fill_in2 hown hK hP 0 rfl rfl 6 (by decide) (hts (.fieldLink RX2 24 "OptimaWorks$NetDesk" "free" "[I") (by decide +kernel)) (fun _ h9 => h9) rfl dX2_fill_19 ?_
      refine lv_aload_n hx hb dX2_fill_22 rfl (lv_at hl 1 rfl) ?_
      refine va_get (D := (dC, dI)) (ci := 2) (v := .ref (aN 0)) (C := RX2) (T := TX2) (N := 14) hx hb hts iwsMX2_fill_in2 hown hK hP 0 rfl rfl 1 (by decide) (hts (.fieldLink RX2 11 "OptimaWorks$NetDesk" "from" "[I") (by decide +kernel)) (fun _ h9 => h9) rfl dX2_fill_23 ?_
      refine lv_iload_n hx hb dX2_fill_26 rfl (lv_at hl 0 rfl) ?_
      refine va_iald (cA := kN 0) (n := 40) (f := fN_from) hx hb hK hP 1 0 rfl rfl (vp_in_iff.mpr ⟨b_l3_x10.1, (Int.lt_of_lt_of_le (Int.not_le.mp t_15) (Int.le_trans b_iN_arcs.2 (by decide)))⟩) dX2_fill_27 ?_
      refine lv_topi (fun v5079 hv5079 => ?_)
      have b_v5079 : 0 ≤ v5079.toInt ∧ v5079.toInt ≤ 11 := by rw [hv5079]; exact b_fN_from _
      have b1_v5079 : v5079 = fN_from (l3_x10).toNatClampNeg := hv5079
      clear hv5079
      refine lv_bipush (v := 12) hx hb dX2_fill_28 (by decide) ?_
      refine lv_imul hx hb dX2_fill_30 ?_
      refine lv_topi (fun y5080 hy5080 => ?_)
      obtain rfl : (iI (v5079.toInt * 12)) = y5080 := (hy5080.trans (iI_mul2 (iI_of _) (by decide : (12 : Int32) = iI 12))).symm
      refine lv_aload_n hx hb dX2_fill_31 rfl (lv_at hl 1 rfl) ?_
      refine va_get (D := (dC, dI)) (ci := 2) (v := .ref (aN 1)) (C := RX2) (T := TX2) (N := 14) hx hb hts iwsMX2_fill_in2 hown hK hP 0 rfl rfl 2 (by decide) (hts (.fieldLink RX2 15 "OptimaWorks$NetDesk" "to" "[I") (by decide +kernel)) (fun _ h9 => h9) rfl dX2_fill_32 ?_
      refine lv_iload_n hx hb dX2_fill_35 rfl (lv_at hl 0 rfl) ?_
      refine va_iald (cA := kN 1) (n := 40) (f := fN_to) hx hb hK hP 2 1 rfl rfl (vp_in_iff.mpr ⟨b_l3_x10.1, (Int.lt_of_lt_of_le (Int.not_le.mp t_15) (Int.le_trans b_iN_arcs.2 (by decide)))⟩) dX2_fill_36 ?_
      refine lv_topi (fun v5081 hv5081 => ?_)
      have b_v5081 : 0 ≤ v5081.toInt ∧ v5081.toInt ≤ 11 := by rw [hv5081]; exact b_fN_to _
      have b1_v5081 : v5081 = fN_to (l3_x10).toNatClampNeg := hv5081
      clear hv5081
      refine lv_iadd hx hb dX2_fill_37 ?_
      refine lv_topi (fun y5082 hy5082 => ?_)
      obtain rfl : (iI ((v5079.toInt * 12) + v5081.toInt)) = y5082 := (hy5082.trans (iI_add2 rfl (iI_of _))).symm
      refine lv_dup2_11 hx hb dX2_fill_38 rfl rfl ?_
      refine va_iald (cA := kN 4) (n := 144) (f := fN_free_x10) hx hb hK hP 5 4 rfl rfl (vp_iI (Int.le_trans (by decide) (Int.add_le_add (Int.mul_le_mul_of_nonneg_right (b_v5079.1) (by decide)) (b_v5081.1))) (Int.lt_of_le_of_lt (Int.add_le_add (Int.mul_le_mul_of_nonneg_right (b_v5079.2) (by decide)) (b_v5081.2)) (by decide)) (by decide)) dX2_fill_39 ?_
      refine lv_topi (fun v5083 hv5083 => ?_)
      have b_v5083 : v5083 = fN_free_x10 ((iI ((v5079.toInt * 12) + v5081.toInt))).toNatClampNeg := hv5083
      clear hv5083
      refine lv_aload_n hx hb dX2_fill_40 rfl (lv_at hl 1 rfl) ?_
      refine va_get (D := (dC, dI)) (ci := 2) (v := .ref (aN 2)) (C := RX2) (T := TX2) (N := 14) hx hb hts iwsMX2_fill_in2 hown hK hP 0 rfl rfl 3 (by decide) (hts (.fieldLink RX2 18 "OptimaWorks$NetDesk" "room" "[I") (by decide +kernel)) (fun _ h9 => h9) rfl dX2_fill_41 ?_
      refine lv_iload_n hx hb dX2_fill_44 rfl (lv_at hl 0 rfl) ?_
      refine va_iald (cA := kN 2) (n := 40) (f := fN_room) hx hb hK hP 3 2 rfl rfl (vp_in_iff.mpr ⟨b_l3_x10.1, (Int.lt_of_lt_of_le (Int.not_le.mp t_15) (Int.le_trans b_iN_arcs.2 (by decide)))⟩) dX2_fill_45 ?_
      refine lv_topi (fun v5084 hv5084 => ?_)
      have b_v5084 : 0 ≤ v5084.toInt ∧ v5084.toInt ≤ 1000 := by rw [hv5084]; exact ⟨(hRm l3_x10.toInt.toNat (by (try dsimp only); omega)).1, (hRm l3_x10.toInt.toNat (by (try dsimp only); omega)).2.1⟩
      have b1_v5084 : v5084 = fN_room (l3_x10).toNatClampNeg := hv5084
      clear hv5084
      refine lv_iadd hx hb dX2_fill_46 ?_
      refine lv_topi (fun y5085 hy5085 => ?_)
      obtain rfl : (iI (v5083.toInt + v5084.toInt)) = y5085 := (hy5085.trans (iI_add2 (iI_of _) (iI_of _))).symm
      refine va_iast (cA := kN 4) (n := 144) (f := fN_free_x10) hx hb hK hP hD hS 5 4 rfl rfl (vp_iI (Int.le_trans (by decide) (Int.add_le_add (Int.mul_le_mul_of_nonneg_right (b_v5079.1) (by decide)) (b_v5081.1))) (Int.lt_of_le_of_lt (Int.add_le_add (Int.mul_le_mul_of_nonneg_right (b_v5079.2) (by decide)) (b_v5081.2)) (by decide)) (by decide)) dX2_fill_47 (fun H locs hP hD hS => ?_)
      obtain ⟨u5086, hu5086⟩ : ∃ f9, f9 = upd fN_free_x10 ((iI ((v5079.toInt * 12) + v5081.toInt))).toNatClampNeg (iI (v5083.toInt + v5084.toInt)) := ⟨_, rfl⟩
      have hP : va_P (dC, dI) vwCl (WN hN aN kN iN_arcs fN_from fN_to fN_room fN_cost iN_reached u5086 fN_before fN_flow fN_length fN_stop iN_stops fN_price fN_rest) H := by rw [hu5086]; exact hP
      have hD : va_D A (WN hN aN kN iN_arcs fN_from fN_to fN_room fN_cost iN_reached u5086 fN_before fN_flow fN_length fN_stop iN_stops fN_price fN_rest) := by rw [hu5086]; exact hD
      have b_u5086 : u5086 = upd fN_free_x10 ((iI ((v5079.toInt * 12) + v5081.toInt))).toNatClampNeg (iI (v5083.toInt + v5084.toInt)) := hu5086
      clear hu5086
      refine lv_iinc (v := (iI (l3_x10.toInt + 1))) hx hb dX2_fill_48 hl (k := 0) rfl (iI_add2 (iI_of _) (by decide : (1 : Int32) = iI 1)) (by decide) rfl (fun ls (hl : lv_has ls _ ([(3, .int (iI (l3_x10.toInt + 1))), (0, .ref (hN 0)), (1, .int p1), (2, .int p2)])) => ?_)
      refine lv_goto (tgt := 10) hx hb dX2_fill_51 (by decide) ?_
      have hl : lv_has _ _ ([(3, .int (iI (l3_x10.toInt + 1))), (0, .ref (hN 0)), (1, .int p1), (2, .int p2)]) := lv_sub hl [0, 1, 2, 3] rfl
      exact ihx10 u5086 (iI (l3_x10.toInt + 1)) _ _ _ (iI_rng (Int.le_trans (by decide) (Int.add_le_add (b_l3_x10.1) (Int.le_refl _))) (by omega) (by decide) (by decide)) (show mG (iN_arcs.toInt, fN_from, fN_to, fN_room, fN_cost) u5086 (iI (l3_x10.toInt + 1)).toInt.toNat from by rw [show (iI (l3_x10.toInt + 1)).toInt.toNat = l3_x10.toInt.toNat + 1 from by rw [iI_t (by omega) (by omega)]; omega]; have ef : tFr (iN_arcs.toInt, fN_from, fN_to, fN_room, fN_cost) l3_x10.toInt.toNat = v5079.toInt.toNat := (by rw [b1_v5079]; rfl); have et : tTo (iN_arcs.toInt, fN_from, fN_to, fN_room, fN_cost) l3_x10.toInt.toNat = v5081.toInt.toNat := (by rw [b1_v5081]; rfl); have er : tRo (iN_arcs.toInt, fN_from, fN_to, fN_room, fN_cost) l3_x10.toInt.toNat = v5084.toInt := (by rw [b1_v5084]; rfl); have hc9 : ((iI ((v5079.toInt * 12) + v5081.toInt))).toNatClampNeg = 12 * tFr (iN_arcs.toInt, fN_from, fN_to, fN_room, fN_cost) l3_x10.toInt.toNat + tTo (iN_arcs.toInt, fN_from, fN_to, fN_room, fN_cost) l3_x10.toInt.toNat := (by rw [ef, et]; show (iI (v5079.toInt * 12 + v5081.toInt)).toInt.toNat = _; rw [iI_t (by omega) (by omega)]; omega); have hx9 := hG.1 ((iI ((v5079.toInt * 12) + v5081.toInt))).toNatClampNeg (by rw [hc9, ef, et]; omega); rw [← b_v5083] at hx9; exact mG.step hG (by (try dsimp only); omega) hRm hVal hc9 b_v5083 b_u5086 (by rw [iI_t (by omega) (by omega), er])) (show (iI (l3_x10.toInt + 1)).toInt ≤ iN_arcs.toInt from by rw [iI_t (by omega) (by omega)]; omega) (by have e9 : ((iI (l3_x10.toInt + 1))).toInt = (l3_x10.toInt + 1) := (iI_t (Int.le_trans (by decide) (Int.add_le_add (b_l3_x10.1) (Int.le_refl _))) (Int.le_trans (Int.add_le_add (b_l3_x10.2) (Int.le_refl _)) (by decide))); omega) hP hD hS hl

theorem hd_yX12_join_RX12 : yX12_join.cls = RX12 ∧ yX12_join.cls ≠ "java/lang/invoke/MethodHandle" ∧ yX12_join.cls ≠ "java/lang/invoke/VarHandle" ∧ (parseMethodDescriptor yX12_join.desc).map (fun d => d.parameters.length) = some 4 := by decide +kernel
theorem hd_yX12_scale_RX12 : yX12_scale.cls = RX12 ∧ yX12_scale.cls ≠ "java/lang/invoke/MethodHandle" ∧ yX12_scale.cls ≠ "java/lang/invoke/VarHandle" ∧ (parseMethodDescriptor yX12_scale.desc).map (fun d => d.parameters.length) = some 4 := by decide +kernel
theorem hd_yX12_stepOne_RX12 : yX12_stepOne.cls = RX12 ∧ yX12_stepOne.cls ≠ "java/lang/invoke/MethodHandle" ∧ yX12_stepOne.cls ≠ "java/lang/invoke/VarHandle" ∧ (parseMethodDescriptor yX12_stepOne.desc).map (fun d => d.parameters.length) = some 0 := by decide +kernel
theorem dX12_workPair_0 : decode cX12_workPair 0 = .ok (.aload_n 0, 1) := dk_42 (by decide +kernel)
theorem dX12_workPair_1 : decode cX12_workPair 1 = .ok (.getfield 182, 3) := dk_180 (by decide +kernel)
theorem dX12_workPair_4 : decode cX12_workPair 4 = .ok (.iload_n 1, 1) := dk_27 (by decide +kernel)
theorem dX12_workPair_5 : decode cX12_workPair 5 = .ok (.dup2, 1) := dk_92 (by decide +kernel)
theorem dX12_workPair_6 : decode cX12_workPair 6 = .ok (.iaload, 1) := dk_46 (by decide +kernel)
theorem dX12_workPair_7 : decode cX12_workPair 7 = .ok (.iconst 1, 1) := dk_4 (by decide +kernel)
theorem dX12_workPair_8 : decode cX12_workPair 8 = .ok (.iadd, 1) := dk_96 (by decide +kernel)
theorem dX12_workPair_9 : decode cX12_workPair 9 = .ok (.iastore, 1) := dk_79 (by decide +kernel)
theorem dX12_workPair_10 : decode cX12_workPair 10 = .ok (.aload_n 0, 1) := dk_42 (by decide +kernel)
theorem dX12_workPair_11 : decode cX12_workPair 11 = .ok (.getfield 182, 3) := dk_180 (by decide +kernel)
theorem dX12_workPair_14 : decode cX12_workPair 14 = .ok (.iload_n 1, 1) := dk_27 (by decide +kernel)
theorem dX12_workPair_15 : decode cX12_workPair 15 = .ok (.iaload, 1) := dk_46 (by decide +kernel)
theorem dX12_workPair_16 : decode cX12_workPair 16 = .ok (.iconst 1, 1) := dk_4 (by decide +kernel)
theorem dX12_workPair_17 : decode cX12_workPair 17 = .ok (.if_icmp .ne 16, 3) := dk_160 (by decide +kernel)
theorem dX12_workPair_20 : decode cX12_workPair 20 = .ok (.aload_n 0, 1) := dk_42 (by decide +kernel)
theorem dX12_workPair_21 : decode cX12_workPair 21 = .ok (.aload_n 0, 1) := dk_42 (by decide +kernel)
theorem dX12_workPair_22 : decode cX12_workPair 22 = .ok (.getfield 113, 3) := dk_180 (by decide +kernel)
theorem dX12_workPair_25 : decode cX12_workPair 25 = .ok (.iload_n 2, 1) := dk_28 (by decide +kernel)
theorem dX12_workPair_26 : decode cX12_workPair 26 = .ok (.iaload, 1) := dk_46 (by decide +kernel)
theorem dX12_workPair_27 : decode cX12_workPair 27 = .ok (.invokevirtual 650, 3) := dk_182 (by decide +kernel)
theorem dX12_workPair_30 : decode cX12_workPair 30 = .ok (.goto 146, 3) := dk_167 (by decide +kernel)
theorem dX12_workPair_33 : decode cX12_workPair 33 = .ok (.aload_n 0, 1) := dk_42 (by decide +kernel)
theorem dX12_workPair_34 : decode cX12_workPair 34 = .ok (.getfield 182, 3) := dk_180 (by decide +kernel)
theorem dX12_workPair_37 : decode cX12_workPair 37 = .ok (.iload_n 1, 1) := dk_27 (by decide +kernel)
theorem dX12_workPair_38 : decode cX12_workPair 38 = .ok (.iaload, 1) := dk_46 (by decide +kernel)
theorem dX12_workPair_39 : decode cX12_workPair 39 = .ok (.iconst 2, 1) := dk_5 (by decide +kernel)
theorem dX12_workPair_40 : decode cX12_workPair 40 = .ok (.if_icmp .ne 20, 3) := dk_160 (by decide +kernel)
theorem dX12_workPair_43 : decode cX12_workPair 43 = .ok (.aload_n 0, 1) := dk_42 (by decide +kernel)
theorem dX12_workPair_44 : decode cX12_workPair 44 = .ok (.invokevirtual 656, 3) := dk_182 (by decide +kernel)
theorem dX12_workPair_47 : decode cX12_workPair 47 = .ok (.aload_n 0, 1) := dk_42 (by decide +kernel)
theorem dX12_workPair_48 : decode cX12_workPair 48 = .ok (.aload_n 0, 1) := dk_42 (by decide +kernel)
theorem dX12_workPair_49 : decode cX12_workPair 49 = .ok (.getfield 116, 3) := dk_180 (by decide +kernel)
theorem dX12_workPair_52 : decode cX12_workPair 52 = .ok (.iload_n 2, 1) := dk_28 (by decide +kernel)
theorem dX12_workPair_53 : decode cX12_workPair 53 = .ok (.iaload, 1) := dk_46 (by decide +kernel)
theorem dX12_workPair_54 : decode cX12_workPair 54 = .ok (.invokevirtual 650, 3) := dk_182 (by decide +kernel)
theorem dX12_workPair_57 : decode cX12_workPair 57 = .ok (.goto 119, 3) := dk_167 (by decide +kernel)
theorem dX12_workPair_60 : decode cX12_workPair 60 = .ok (.aload_n 0, 1) := dk_42 (by decide +kernel)
theorem dX12_workPair_61 : decode cX12_workPair 61 = .ok (.getfield 659, 3) := dk_180 (by decide +kernel)
theorem dX12_workPair_64 : decode cX12_workPair 64 = .ok (.iconst 2, 1) := dk_5 (by decide +kernel)
theorem dX12_workPair_65 : decode cX12_workPair 65 = .ok (.isub, 1) := dk_100 (by decide +kernel)
theorem dX12_workPair_66 : decode cX12_workPair 66 = .ok (.istore_n 3, 1) := dk_62 (by decide +kernel)
theorem dX12_workPair_67 : decode cX12_workPair 67 = .ok (.aload_n 0, 1) := dk_42 (by decide +kernel)
theorem dX12_workPair_68 : decode cX12_workPair 68 = .ok (.getfield 659, 3) := dk_180 (by decide +kernel)
theorem dX12_workPair_71 : decode cX12_workPair 71 = .ok (.iconst 1, 1) := dk_4 (by decide +kernel)
theorem dX12_workPair_72 : decode cX12_workPair 72 = .ok (.isub, 1) := dk_100 (by decide +kernel)
theorem dX12_workPair_73 : decode cX12_workPair 73 = .ok (.istore 4, 2) := dk_54 (by decide +kernel)
theorem dX12_workPair_75 : decode cX12_workPair 75 = .ok (.aload_n 0, 1) := dk_42 (by decide +kernel)
theorem dX12_workPair_76 : decode cX12_workPair 76 = .ok (.getfield 110, 3) := dk_180 (by decide +kernel)
theorem dX12_workPair_79 : decode cX12_workPair 79 = .ok (.iload_n 2, 1) := dk_28 (by decide +kernel)
theorem dX12_workPair_80 : decode cX12_workPair 80 = .ok (.iaload, 1) := dk_46 (by decide +kernel)
theorem dX12_workPair_81 : decode cX12_workPair 81 = .ok (.iconst 5, 1) := dk_8 (by decide +kernel)
theorem dX12_workPair_82 : decode cX12_workPair 82 = .ok (.if_icmp .eq 14, 3) := dk_159 (by decide +kernel)
theorem dX12_workPair_85 : decode cX12_workPair 85 = .ok (.aload_n 0, 1) := dk_42 (by decide +kernel)
theorem dX12_workPair_86 : decode cX12_workPair 86 = .ok (.getfield 110, 3) := dk_180 (by decide +kernel)
theorem dX12_workPair_89 : decode cX12_workPair 89 = .ok (.iload_n 2, 1) := dk_28 (by decide +kernel)
theorem dX12_workPair_90 : decode cX12_workPair 90 = .ok (.iaload, 1) := dk_46 (by decide +kernel)
theorem dX12_workPair_91 : decode cX12_workPair 91 = .ok (.bipush 6, 2) := dk_16 (by decide +kernel)
theorem dX12_workPair_93 : decode cX12_workPair 93 = .ok (.if_icmp .ne 34, 3) := dk_160 (by decide +kernel)
theorem dX12_workPair_96 : decode cX12_workPair 96 = .ok (.aload_n 0, 1) := dk_42 (by decide +kernel)
theorem dX12_workPair_97 : decode cX12_workPair 97 = .ok (.iload_n 3, 1) := dk_29 (by decide +kernel)
theorem dX12_workPair_98 : decode cX12_workPair 98 = .ok (.iload 4, 2) := dk_21 (by decide +kernel)
theorem dX12_workPair_100 : decode cX12_workPair 100 = .ok (.aload_n 0, 1) := dk_42 (by decide +kernel)
theorem dX12_workPair_101 : decode cX12_workPair 101 = .ok (.getfield 110, 3) := dk_180 (by decide +kernel)
theorem dX12_workPair_104 : decode cX12_workPair 104 = .ok (.iload_n 2, 1) := dk_28 (by decide +kernel)
theorem dX12_workPair_105 : decode cX12_workPair 105 = .ok (.iaload, 1) := dk_46 (by decide +kernel)
theorem dX12_workPair_106 : decode cX12_workPair 106 = .ok (.iconst 5, 1) := dk_8 (by decide +kernel)
theorem dX12_workPair_107 : decode cX12_workPair 107 = .ok (.if_icmp .ne 7, 3) := dk_160 (by decide +kernel)
theorem dX12_workPair_110 : decode cX12_workPair 110 = .ok (.iconst 1, 1) := dk_4 (by decide +kernel)
theorem dX12_workPair_111 : decode cX12_workPair 111 = .ok (.goto 4, 3) := dk_167 (by decide +kernel)
theorem dX12_workPair_114 : decode cX12_workPair 114 = .ok (.iconst (-1), 1) := dk_2 (by decide +kernel)
theorem dX12_workPair_115 : decode cX12_workPair 115 = .ok (.aload_n 0, 1) := dk_42 (by decide +kernel)
theorem dX12_workPair_116 : decode cX12_workPair 116 = .ok (.getfield 122, 3) := dk_180 (by decide +kernel)
theorem dX12_workPair_119 : decode cX12_workPair 119 = .ok (.iload_n 2, 1) := dk_28 (by decide +kernel)
theorem dX12_workPair_120 : decode cX12_workPair 120 = .ok (.iaload, 1) := dk_46 (by decide +kernel)
theorem dX12_workPair_121 : decode cX12_workPair 121 = .ok (.invokevirtual 683, 3) := dk_182 (by decide +kernel)
theorem dX12_workPair_124 : decode cX12_workPair 124 = .ok (.goto 32, 3) := dk_167 (by decide +kernel)
theorem dX12_workPair_127 : decode cX12_workPair 127 = .ok (.aload_n 0, 1) := dk_42 (by decide +kernel)
theorem dX12_workPair_128 : decode cX12_workPair 128 = .ok (.iload_n 3, 1) := dk_29 (by decide +kernel)
theorem dX12_workPair_129 : decode cX12_workPair 129 = .ok (.iload 4, 2) := dk_21 (by decide +kernel)
theorem dX12_workPair_131 : decode cX12_workPair 131 = .ok (.aload_n 0, 1) := dk_42 (by decide +kernel)
theorem dX12_workPair_132 : decode cX12_workPair 132 = .ok (.getfield 110, 3) := dk_180 (by decide +kernel)
theorem dX12_workPair_135 : decode cX12_workPair 135 = .ok (.iload_n 2, 1) := dk_28 (by decide +kernel)
theorem dX12_workPair_136 : decode cX12_workPair 136 = .ok (.iaload, 1) := dk_46 (by decide +kernel)
theorem dX12_workPair_137 : decode cX12_workPair 137 = .ok (.bipush 8, 2) := dk_16 (by decide +kernel)
theorem dX12_workPair_139 : decode cX12_workPair 139 = .ok (.if_icmp .ne 7, 3) := dk_160 (by decide +kernel)
theorem dX12_workPair_142 : decode cX12_workPair 142 = .ok (.iconst 1, 1) := dk_4 (by decide +kernel)
theorem dX12_workPair_143 : decode cX12_workPair 143 = .ok (.goto 4, 3) := dk_167 (by decide +kernel)
theorem dX12_workPair_146 : decode cX12_workPair 146 = .ok (.iconst 0, 1) := dk_3 (by decide +kernel)
theorem dX12_workPair_147 : decode cX12_workPair 147 = .ok (.aload_n 0, 1) := dk_42 (by decide +kernel)
theorem dX12_workPair_148 : decode cX12_workPair 148 = .ok (.getfield 122, 3) := dk_180 (by decide +kernel)
theorem dX12_workPair_151 : decode cX12_workPair 151 = .ok (.iload_n 2, 1) := dk_28 (by decide +kernel)
theorem dX12_workPair_152 : decode cX12_workPair 152 = .ok (.iaload, 1) := dk_46 (by decide +kernel)
theorem dX12_workPair_153 : decode cX12_workPair 153 = .ok (.invokevirtual 686, 3) := dk_182 (by decide +kernel)
theorem dX12_workPair_156 : decode cX12_workPair 156 = .ok (.aload_n 0, 1) := dk_42 (by decide +kernel)
theorem dX12_workPair_157 : decode cX12_workPair 157 = .ok (.dup, 1) := dk_89 (by decide +kernel)
theorem dX12_workPair_158 : decode cX12_workPair 158 = .ok (.getfield 659, 3) := dk_180 (by decide +kernel)
theorem dX12_workPair_161 : decode cX12_workPair 161 = .ok (.iconst 1, 1) := dk_4 (by decide +kernel)
theorem dX12_workPair_162 : decode cX12_workPair 162 = .ok (.isub, 1) := dk_100 (by decide +kernel)
theorem dX12_workPair_163 : decode cX12_workPair 163 = .ok (.putfield 659, 3) := dk_181 (by decide +kernel)
theorem dX12_workPair_166 : decode cX12_workPair 166 = .ok (.aload_n 0, 1) := dk_42 (by decide +kernel)
theorem dX12_workPair_167 : decode cX12_workPair 167 = .ok (.dup, 1) := dk_89 (by decide +kernel)
theorem dX12_workPair_168 : decode cX12_workPair 168 = .ok (.getfield 647, 3) := dk_180 (by decide +kernel)
theorem dX12_workPair_171 : decode cX12_workPair 171 = .ok (.iconst 1, 1) := dk_4 (by decide +kernel)
theorem dX12_workPair_172 : decode cX12_workPair 172 = .ok (.isub, 1) := dk_100 (by decide +kernel)
theorem dX12_workPair_173 : decode cX12_workPair 173 = .ok (.putfield 647, 3) := dk_181 (by decide +kernel)
theorem dX12_workPair_176 : decode cX12_workPair 176 = .ok (.return_, 1) := dk_177 (by decide +kernel)
def wsRX12_workPair : List Cond := .code yX12_workPair cX12_workPair 5 none :: ([.fieldLink RX12 182 "OptimaWorksModel" "stage" "[I", .fieldLink RX12 659 "OptimaWorksModel" "piled" "I", .fieldLink RX12 110 "OptimaWorksModel" "kind" "[I", .fieldLink RX12 122 "OptimaWorksModel" "where" "[I", .fieldLink RX12 647 "OptimaWorksModel" "framed" "I", .fieldLink RX12 116 "OptimaWorksModel" "partB" "[I", .fieldLink RX12 113 "OptimaWorksModel" "partA" "[I"] ++ wsX120 ++ (wsV RX12 683 RX12 yX12_join wsRX12_join) ++ (wsV RX12 686 RX12 yX12_scale wsRX12_scale) ++ (wsV RX12 656 RX12 yX12_stepOne wsRX12_stepOne) ++ (wsV RX12 650 RX12 yX12_call wsRX12_call))
theorem iwsRX12_workPair_in12 : ∀ w ∈ wsX120, w ∈ wsRX12_workPair := fun _ h => List.mem_cons_of_mem _ (List.mem_append_left _ (List.mem_append_left _ (List.mem_append_left _ (List.mem_append_left _ (List.mem_append_right _ h)))))
theorem gwsRX12_workPair_0 : GoodIn wsRX12_workPair (wsV RX12 683 RX12 yX12_join wsRX12_join) := goodIn_sub (fun _ h => List.mem_cons_of_mem _ (List.mem_append_left _ (List.mem_append_left _ (List.mem_append_left _ (List.mem_append_right _ h))))) (gdV (by decide +kernel) gdwsRX12_join)
theorem gwsRX12_workPair_1 : GoodIn wsRX12_workPair (wsV RX12 686 RX12 yX12_scale wsRX12_scale) := goodIn_sub (fun _ h => List.mem_cons_of_mem _ (List.mem_append_left _ (List.mem_append_left _ (List.mem_append_right _ h)))) (gdV (by decide +kernel) gdwsRX12_scale)
theorem gwsRX12_workPair_2 : GoodIn wsRX12_workPair (wsV RX12 656 RX12 yX12_stepOne wsRX12_stepOne) := goodIn_sub (fun _ h => List.mem_cons_of_mem _ (List.mem_append_left _ (List.mem_append_right _ h))) (gdV (by decide +kernel) gdwsRX12_stepOne)
theorem gwsRX12_workPair_3 : GoodIn wsRX12_workPair (wsV RX12 650 RX12 yX12_call wsRX12_call) := goodIn_sub (fun _ h => List.mem_cons_of_mem _ (List.mem_append_right _ h)) (gdV (by decide +kernel) gdwsRX12_call)
theorem gdwsRX12_workPair : wsRX12_workPair.all goodWord = true := gdC rfl (gdA (gdA (gdA (gdA (gdA (by decide +kernel : ([.fieldLink RX12 182 "OptimaWorksModel" "stage" "[I", .fieldLink RX12 659 "OptimaWorksModel" "piled" "I", .fieldLink RX12 110 "OptimaWorksModel" "kind" "[I", .fieldLink RX12 122 "OptimaWorksModel" "where" "[I", .fieldLink RX12 647 "OptimaWorksModel" "framed" "I", .fieldLink RX12 116 "OptimaWorksModel" "partB" "[I", .fieldLink RX12 113 "OptimaWorksModel" "partA" "[I"] : List Cond).all goodWord = true) gdwsX120) (gdV (by decide +kernel) gdwsRX12_join)) (gdV (by decide +kernel) gdwsRX12_scale)) (gdV (by decide +kernel) gdwsRX12_stepOne)) (gdV (by decide +kernel) gdwsRX12_call))
set_option maxHeartbeats 4000000 in
set_option maxRecDepth 100000 in
/-- workPair(f, n) -/
theorem r_X12_workPair (l : Launch) (dC : Nat → ClassId) (dI : Nat → Nat → Nat) (a : Nat → Nat) (k : Nat → ClassId) (h0 : Nat) (vi : Nat → Int32) (vj : Nat → Int64) (vF : Nat → Nat → Int32) (vG : Nat → Nat → Int64) (nF : Nat → Nat → Int32) (V : Nat → Prop) (wt : Nat → Nat) (dp : Nat → Nat) (pd : Nat → Nat) (nN : Nat) (kN : Nat) (sN : Nat) (la : Nat) (hN : Nat) (pN : Nat) (rN : Nat) (fN : Nat) (fr : Nat) (cN : Nat) (dN : Nat) (hnN : nN < 4000) (hfN : fN < 4299) (hkN : vF 29 nN = nI kN) (hsN : vF 53 fN = nI sN) (hfr9 : vi 89 = nI fr) (hfr1 : fr = fN + 1) (hTo : TopO nF V wt dp pd nN kN sN la hN pN rN) (hcN : vF 30 nN = nI cN) (hdN : vF 31 nN = nI dN) (hcT : KidL nF V dp pd nN 30 0 cN) (hdT : KidL nF V dp pd nN 31 1 dN) (hwN : wt cN + wt dN + 3 ≤ wt nN) (hkk : (5 ≤ kN ∧ kN ≤ 8) ∨ kN = 13) (hk8 : kN ≤ 8) (hpl : vi 81 = nI pN) (hRw : ∀ v9, v9 < pN → RowU (vF 49) (vF 50) v9) (hpp : hN + pd nN ≤ 100) (hpd : 2 ≤ pd nN) (hst0 : 0 ≤ (vi 21).toInt) (sz : Nat) : Met l yX12_workPair wsRX12_workPair ({ frames := 3, cells := 0, slots := 0, locals := 94 }) (va_Pc [.ref h0, .int (nI fN), .int (nI nN)] (fun U => U.heap.size = sz ∧ va_P (dC, dI) vwCl (WR a k h0 vi vj vF vG) U.heap ∧ va_K (dC, dI) vwCl (tX12 k) U ∧ va_D (fun _ => True) (WR a k h0 vi vj vF vG))) (va_Qv (fun (u : (Nat → Int32) × (Nat → Int32) × (Nat → Int32) × (Nat → Int32) × (Nat) × (Nat) × (Int32) × (Int32) × (Int32)) => (∀ v9, v9 < (u.2.2.2.2.2.1) → RowU (u.1) (u.2.1) v9) ∧ (0 ≤ ((u.2.2.2.2.2.2.1)).toInt) ∧ ((u.2.2.2.2.2.2.1) = vi 21 ∨ 0 < ((u.2.2.2.2.2.2.1)).toInt) ∧ (StpO nF V wt dp pd nN kN fN hN rN (vF 52) (vF 53) (vF 54) (u.2.2.1) (u.2.2.2.1) (vF 54) (u.2.2.2.2.1) (u.2.2.2.2.2.1))) (fun (u : (Nat → Int32) × (Nat → Int32) × (Nat → Int32) × (Nat → Int32) × (Nat) × (Nat) × (Int32) × (Int32) × (Int32)) t => va_P (dC, dI) vwCl (WR a k h0 (fT (fT (fT (fT (fT vi 21 (u.2.2.2.2.2.2.1)) 22 (u.2.2.2.2.2.2.2.1)) 81 (nI (u.2.2.2.2.2.1))) 89 (nI (u.2.2.2.2.1))) 82 (u.2.2.2.2.2.2.2.2)) vj (fT (fT (fT (fT vF 53 (u.2.2.2.1)) 49 (u.1)) 50 (u.2.1)) 52 (u.2.2.1)) vG) t.heap ∧ va_D (va_A (WR a k h0 vi vj vF vG) sz) (WR a k h0 (fT (fT (fT (fT (fT vi 21 (u.2.2.2.2.2.2.1)) 22 (u.2.2.2.2.2.2.2.1)) 81 (nI (u.2.2.2.2.2.1))) 89 (nI (u.2.2.2.2.1))) 82 (u.2.2.2.2.2.2.2.2)) vj (fT (fT (fT (fT vF 53 (u.2.2.2.1)) 49 (u.1)) 50 (u.2.1)) 52 (u.2.2.1)) vG)) (va_A (WR a k h0 vi vj vF vG) sz)) 0 0 (va_A (WR a k h0 vi vj vF vG) sz) := by
  refine Met.ofW (cc := cX12_workPair) (maxL := 5) (ret := none) (by decide) rfl ?_
  intro p e s m args below meth c s₁ B hml hv
  obtain ⟨rfl, hsz, hP, hK, hD0⟩ := hv
  have hx := B.exec
  have hb := B.bytes
  have hr := B.returns
  have hts := atoms_spec (ws := wsRX12_workPair) B.pre
  have hown : s.vm.findClass RX12 = some m.cls := findClass_of_methodNamed B.named
  have hlocks := B.notSynchronized
  subst hsz
  have hD := hD0.self (sz := s.heap.size)
  generalize hAe : va_A (WR a k h0 vi vj vF vG) s.heap.size = A at hD ⊢
  have hA : ∀ q : Nat, s.heap.size ≤ q → A q := fun q h => by rw [← hAe]; exact Or.inr h
  have hS : va_S A s.heap s.heap [] := va_S.rf
  have hl := lv_entry ([.ref h0, .int (nI fN), .int (nI nN)]) (n := 5) (Nat.le_of_ble_eq_true rfl)
  rw [lg_entry_eq]
  generalize (lg_sl ([.ref h0, .int (nI fN), .int (nI nN)]) ++ List.replicate (5 - (lg_sl ([.ref h0, .int (nI fN), .int (nI nN)])).length) Slot.unset).toArray = ls at hl ⊢
  have hl : lv_has ls 5 [(0, .ref h0), (1, .int (nI fN)), (2, .int (nI nN))] := hl
  have hsd := hTo.pair hkk hdT
  have hq1 := hcT.2.2.2.1
  have hq2 := hdT.2.2.2.1
  refine lv_aload_n hx hb dX12_workPair_0 rfl (lv_at hl 0 rfl) ?_
  refine va_get (D := (dC, dI)) (ci := 12) (v := .ref (a 53)) (C := RX12) (T := TX12) (N := 163) (fs := fM (vS a vi vj)) hx hb hts iwsRX12_workPair_in12 hown hK hP 0 rfl rfl 86 (by decide) (hts (.fieldLink RX12 182 "OptimaWorksModel" "stage" "[I") (by decide +kernel)) (fun _ h9 => h9) rfl dX12_workPair_1 ?_
  refine lv_iload_n hx hb dX12_workPair_4 rfl (lv_at hl 1 rfl) ?_
  refine lv_dup2_11 hx hb dX12_workPair_5 rfl rfl ?_
  refine va_iald (cA := k 53) (n := 4300) (f := (vF 53)) hx hb hK hP 54 53 (WR_get 53 (by decide)) (TR_get 53 (by decide)) (vp_in_nI (show fN < 4300 by omega) (by omega)) dX12_workPair_6 ?_
  refine lv_topi (fun y1 hy1 => ?_)
  obtain rfl : ((vF 53) fN) = y1 := (hy1.trans (by rw [nI_clamp (by omega)])).symm
  refine lv_topi (fun y2 hy2 => ?_)
  obtain rfl : (nI sN) = y2 := (hy2.trans (hsN)).symm
  refine lv_iconst (v := 1) hx hb dX12_workPair_7 (by decide) ?_
  refine lv_iadd hx hb dX12_workPair_8 ?_
  refine lv_topi (fun y3 hy3 => ?_)
  obtain rfl : (nI (sN + 1)) = y3 := (hy3.trans (nI_add sN 1)).symm
  refine va_iast (cA := k 53) (n := 4300) (f := (vF 53)) hx hb hK hP hD hS 54 53 (WR_get 53 (by decide)) (TR_get 53 (by decide)) (vp_in_nI (show fN < 4300 by omega) (by omega)) dX12_workPair_9 (fun H locs hP hD hS => ?_)
  have hP : va_P (dC, dI) vwCl (WR a k h0 vi vj (fT vF 53 (upd (vF 53) ((nI fN)).toNatClampNeg (nI (sN + 1)))) vG) H := by rw [← WR_F 53 (by decide) _ rfl]; exact hP
  have hD : va_D A (WR a k h0 vi vj (fT vF 53 (upd (vF 53) ((nI fN)).toNatClampNeg (nI (sN + 1)))) vG) := by rw [← WR_F 53 (by decide) _ rfl]; exact hD
  refine lv_aload_n hx hb dX12_workPair_10 rfl (lv_at hl 0 rfl) ?_
  refine va_get (D := (dC, dI)) (ci := 12) (v := .ref (a 53)) (C := RX12) (T := TX12) (N := 163) (fs := fM (vS a vi vj)) hx hb hts iwsRX12_workPair_in12 hown hK hP 0 rfl rfl 86 (by decide) (hts (.fieldLink RX12 182 "OptimaWorksModel" "stage" "[I") (by decide +kernel)) (fun _ h9 => h9) rfl dX12_workPair_11 ?_
  refine lv_iload_n hx hb dX12_workPair_14 rfl (lv_at hl 1 rfl) ?_
  refine va_iald (cA := k 53) (n := 4300) (f := (upd (vF 53) ((nI fN)).toNatClampNeg (nI (sN + 1)))) hx hb hK hP 54 53 (WR_get 53 (by decide)) (TR_get 53 (by decide)) (vp_in_nI (show fN < 4300 by omega) (by omega)) dX12_workPair_15 ?_
  refine lv_topi (fun y4 hy4 => ?_)
  obtain rfl : ((upd (vF 53) ((nI fN)).toNatClampNeg (nI (sN + 1))) fN) = y4 := (hy4.trans (by rw [nI_clamp (by omega)])).symm
  refine lv_topi (fun y5 hy5 => ?_)
  obtain rfl : (nI (sN + 1)) = y5 := (hy5.trans ((by rw [upd_at (by omega), if_pos rfl]))).symm
  refine lv_iconst (v := 1) hx hb dX12_workPair_16 (by decide) ?_
  refine lv_icmp_ne (tgt := 33) hx hb dX12_workPair_17 (by decide) (fun c_17 => ?_) (fun c_17 => ?_)
  · have t_17 : (((sN + 1) : Nat) : Int) ≠ 1 := toI_ne c_17 (nI_toInt (by omega)) (by decide)
    refine lv_aload_n hx hb dX12_workPair_33 rfl (lv_at hl 0 rfl) ?_
    refine va_get (D := (dC, dI)) (ci := 12) (v := .ref (a 53)) (C := RX12) (T := TX12) (N := 163) (fs := fM (vS a vi vj)) hx hb hts iwsRX12_workPair_in12 hown hK hP 0 rfl rfl 86 (by decide) (hts (.fieldLink RX12 182 "OptimaWorksModel" "stage" "[I") (by decide +kernel)) (fun _ h9 => h9) rfl dX12_workPair_34 ?_
    refine lv_iload_n hx hb dX12_workPair_37 rfl (lv_at hl 1 rfl) ?_
    refine va_iald (cA := k 53) (n := 4300) (f := (upd (vF 53) ((nI fN)).toNatClampNeg (nI (sN + 1)))) hx hb hK hP 54 53 (WR_get 53 (by decide)) (TR_get 53 (by decide)) (vp_in_nI (show fN < 4300 by omega) (by omega)) dX12_workPair_38 ?_
    refine lv_topi (fun y6 hy6 => ?_)
    obtain rfl : ((upd (vF 53) ((nI fN)).toNatClampNeg (nI (sN + 1))) fN) = y6 := (hy6.trans (by rw [nI_clamp (by omega)])).symm
    refine lv_topi (fun y7 hy7 => ?_)
    obtain rfl : (nI (sN + 1)) = y7 := (hy7.trans ((by rw [upd_at (by omega), if_pos rfl]))).symm
    refine lv_iconst (v := 2) hx hb dX12_workPair_39 (by decide) ?_
    refine lv_icmp_ne (tgt := 60) hx hb dX12_workPair_40 (by decide) (fun c_40 => ?_) (fun c_40 => ?_)
    · have t_40 : (((sN + 1) : Nat) : Int) ≠ 2 := toI_ne c_40 (nI_toInt (by omega)) (by decide)
      refine lv_aload_n hx hb dX12_workPair_60 rfl (lv_at hl 0 rfl) ?_
      refine va_get (D := (dC, dI)) (ci := 12) (v := .int (vi 81)) (C := RX12) (T := TX12) (N := 163) (fs := fM (vS a vi vj)) hx hb hts iwsRX12_workPair_in12 hown hK hP 0 rfl rfl 81 (by decide) (hts (.fieldLink RX12 659 "OptimaWorksModel" "piled" "I") (by decide +kernel)) (fun _ h9 => h9) rfl dX12_workPair_61 ?_
      refine lv_topi (fun y8 hy8 => ?_)
      obtain rfl : (nI pN) = y8 := (hy8.trans (hpl)).symm
      refine lv_iconst (v := 2) hx hb dX12_workPair_64 (by decide) ?_
      refine lv_isub hx hb dX12_workPair_65 ?_
      refine lv_topi (fun y9 hy9 => ?_)
      obtain rfl : (nI (pN - 2)) = y9 := (hy9.trans (pk_sub (a := pN) (b := 2) (by omega))).symm
      refine lv_istore_n hx hb dX12_workPair_66 rfl hl (by decide) rfl (fun ls (hl : lv_has ls _ ([(3, .int (nI (pN - 2))), (0, .ref h0), (1, .int (nI fN)), (2, .int (nI nN))])) => ?_)
      refine lv_aload_n hx hb dX12_workPair_67 rfl (lv_at hl 1 rfl) ?_
      refine va_get (D := (dC, dI)) (ci := 12) (v := .int (vi 81)) (C := RX12) (T := TX12) (N := 163) (fs := fM (vS a vi vj)) hx hb hts iwsRX12_workPair_in12 hown hK hP 0 rfl rfl 81 (by decide) (hts (.fieldLink RX12 659 "OptimaWorksModel" "piled" "I") (by decide +kernel)) (fun _ h9 => h9) rfl dX12_workPair_68 ?_
      refine lv_topi (fun y10 hy10 => ?_)
      obtain rfl : (nI pN) = y10 := (hy10.trans (hpl)).symm
      refine lv_iconst (v := 1) hx hb dX12_workPair_71 (by decide) ?_
      refine lv_isub hx hb dX12_workPair_72 ?_
      refine lv_topi (fun y11 hy11 => ?_)
      obtain rfl : (nI (pN - 1)) = y11 := (hy11.trans (pk_sub (a := pN) (b := 1) (by omega))).symm
      refine lv_istore hx hb dX12_workPair_73 hl (by decide) rfl (fun ls (hl : lv_has ls _ ([(4, .int (nI (pN - 1))), (3, .int (nI (pN - 2))), (0, .ref h0), (1, .int (nI fN)), (2, .int (nI nN))])) => ?_)
      refine lv_aload_n hx hb dX12_workPair_75 rfl (lv_at hl 2 rfl) ?_
      refine va_get (D := (dC, dI)) (ci := 12) (v := .ref (a 29)) (C := RX12) (T := TX12) (N := 163) (fs := fM (vS a vi vj)) hx hb hts iwsRX12_workPair_in12 hown hK hP 0 rfl rfl 53 (by decide) (hts (.fieldLink RX12 110 "OptimaWorksModel" "kind" "[I") (by decide +kernel)) (fun _ h9 => h9) rfl dX12_workPair_76 ?_
      refine lv_iload_n hx hb dX12_workPair_79 rfl (lv_at hl 4 rfl) ?_
      refine va_iald (cA := k 29) (n := 4200) (f := (vF 29)) hx hb hK hP 30 29 (WR_get 29 (by decide)) (TR_get 29 (by decide)) (vp_in_nI (show nN < 4200 by omega) (by omega)) dX12_workPair_80 ?_
      refine lv_topi (fun y12 hy12 => ?_)
      obtain rfl : ((vF 29) nN) = y12 := (hy12.trans (by rw [nI_clamp (by omega)])).symm
      refine lv_topi (fun y13 hy13 => ?_)
      obtain rfl : (nI kN) = y13 := (hy13.trans (hkN)).symm
      refine lv_iconst (v := 5) hx hb dX12_workPair_81 (by decide) ?_
      refine lv_icmp_eq (tgt := 96) hx hb dX12_workPair_82 (by decide) (fun c_82 => ?_) (fun c_82 => ?_)
      · have t_82 : ((kN : Nat) : Int) = 5 := toI_eq c_82 (nI_toInt (by omega)) (by decide)
        refine lv_aload_n hx hb dX12_workPair_96 rfl (lv_at hl 2 rfl) ?_
        refine lv_iload_n hx hb dX12_workPair_97 rfl (lv_at hl 1 rfl) ?_
        refine lv_iload hx hb dX12_workPair_98 (lv_at hl 0 rfl) ?_
        refine lv_aload_n hx hb dX12_workPair_100 rfl (lv_at hl 2 rfl) ?_
        refine va_get (D := (dC, dI)) (ci := 12) (v := .ref (a 29)) (C := RX12) (T := TX12) (N := 163) (fs := fM (vS a vi vj)) hx hb hts iwsRX12_workPair_in12 hown hK hP 0 rfl rfl 53 (by decide) (hts (.fieldLink RX12 110 "OptimaWorksModel" "kind" "[I") (by decide +kernel)) (fun _ h9 => h9) rfl dX12_workPair_101 ?_
        refine lv_iload_n hx hb dX12_workPair_104 rfl (lv_at hl 4 rfl) ?_
        refine va_iald (cA := k 29) (n := 4200) (f := (vF 29)) hx hb hK hP 30 29 (WR_get 29 (by decide)) (TR_get 29 (by decide)) (vp_in_nI (show nN < 4200 by omega) (by omega)) dX12_workPair_105 ?_
        refine lv_topi (fun y14 hy14 => ?_)
        obtain rfl : ((vF 29) nN) = y14 := (hy14.trans (by rw [nI_clamp (by omega)])).symm
        refine lv_topi (fun y15 hy15 => ?_)
        obtain rfl : (nI kN) = y15 := (hy15.trans (hkN)).symm
        refine lv_iconst (v := 5) hx hb dX12_workPair_106 (by decide) ?_
        refine W.cut (pc := 115) (fun H locs ls stk => ∃ (hwv : Int32), ((hwv).toInt = 1 ∨ (hwv).toInt = -1) ∧  stk = [.int hwv, .int (nI (pN - 1)), .int (nI (pN - 2)), .ref h0] ∧ va_P (dC, dI) vwCl (WR a k h0 vi vj (fT vF 53 (upd (vF 53) ((nI fN)).toNatClampNeg (nI (sN + 1)))) vG) H ∧ va_D A (WR a k h0 vi vj (fT vF 53 (upd (vF 53) ((nI fN)).toNatClampNeg (nI (sN + 1)))) vG) ∧ va_S A s.heap H locs ∧ lv_has ls 5 [(4, .int (nI (pN - 1))), (3, .int (nI (pN - 2))), (0, .ref h0), (1, .int (nI fN)), (2, .int (nI nN))]) (fun join1 => ?_) ?_
        · refine lv_icmp_ne (tgt := 114) hx hb dX12_workPair_107 (by decide) (fun c_107 => ?_) (fun c_107 => ?_)
          · have t_107 : ((kN : Nat) : Int) ≠ 5 := toI_ne c_107 (nI_toInt (by omega)) (by decide)
            refine lv_iconst (v := (-1)) hx hb dX12_workPair_114 (by decide) ?_
            have hl : lv_has _ _ ([(4, .int (nI (pN - 1))), (3, .int (nI (pN - 2))), (0, .ref h0), (1, .int (nI fN)), (2, .int (nI nN))]) := lv_sub hl [0, 1, 2, 3, 4] rfl
            exact join1 _ _ _ _ ⟨(-1), by decide, rfl, hP, hD, hS, hl⟩
          · have t_107 : ((kN : Nat) : Int) = 5 := toI_nne c_107 (nI_toInt (by omega)) (by decide)
            refine lv_iconst (v := 1) hx hb dX12_workPair_110 (by decide) ?_
            refine lv_goto (tgt := 115) hx hb dX12_workPair_111 (by decide) ?_
            have hl : lv_has _ _ ([(4, .int (nI (pN - 1))), (3, .int (nI (pN - 2))), (0, .ref h0), (1, .int (nI fN)), (2, .int (nI nN))]) := lv_sub hl [0, 1, 2, 3, 4] rfl
            exact join1 _ _ _ _ ⟨1, by decide, rfl, hP, hD, hS, hl⟩
        · rintro H locs ls stk ⟨hwv, hhw, rfl, hP, hD, hS, hl⟩
          refine lv_aload_n hx hb dX12_workPair_115 rfl (lv_at hl 2 rfl) ?_
          refine va_get (D := (dC, dI)) (ci := 12) (v := .ref (a 33)) (C := RX12) (T := TX12) (N := 163) (fs := fM (vS a vi vj)) hx hb hts iwsRX12_workPair_in12 hown hK hP 0 rfl rfl 57 (by decide) (hts (.fieldLink RX12 122 "OptimaWorksModel" "where" "[I") (by decide +kernel)) (fun _ h9 => h9) rfl dX12_workPair_116 ?_
          refine lv_iload_n hx hb dX12_workPair_119 rfl (lv_at hl 4 rfl) ?_
          refine va_iald (cA := k 33) (n := 4200) (f := (vF 33)) hx hb hK hP 34 33 (WR_get 33 (by decide)) (TR_get 33 (by decide)) (vp_in_nI (show nN < 4200 by omega) (by omega)) dX12_workPair_120 ?_
          refine lv_topi (fun y16 hy16 => ?_)
          obtain rfl : ((vF 33) nN) = y16 := (hy16.trans (by rw [nI_clamp (by omega)])).symm
          have hFc := allFree hD hS hA
          refine va_callv (va_runV (As := [.int (nI (pN - 2)), .int (nI (pN - 1)), .int hwv, .int ((vF 33) nN)]) (rest := []) ⟨hx, hb, hml, hown, hts⟩ (r_X12_join l dC dI a k h0 vi vj (fT vF 53 (upd (vF 53) ((nI fN)).toNatClampNeg (nI (sN + 1)))) vG (pN - 2) (pN - 1) hwv ((hwv).toInt) ((vF 33) nN) (by first | assumption | decide | omega | rfl) (by first | assumption | decide | omega | rfl) (rfl) (hhw) (hRw _ (by omega)) (hRw _ (by omega)) H.size) (cwV 4 hts gwsRX12_workPair_0 rfl rfl rfl hd_yX12_join_RX12 (by decide +kernel)) (fz_pre (va_recv hK hP (ci := 12) (q0 := 0) rfl rfl) hP hK hD) rfl rfl hl.1 rfl (lv_room (Nat.le_of_ble_eq_true rfl)) dX12_workPair_121 (by decide +kernel)) hS (fun q _ h => hFc q h) hFc (fun u t9_ H locs ht hvm hw9 hB9 hz1 hk1 hS => ?_)
          obtain ⟨s2121, p2121, f49121, f50121⟩ := u
          try dsimp only at hw9 hB9
          have hP : va_P (dC, dI) vwCl (WR a k h0 (fT (fT vi 21 s2121) 22 p2121) vj (fT (fT (fT vF 53 (upd (vF 53) ((nI fN)).toNatClampNeg (nI (sN + 1)))) 49 f49121) 50 f50121) vG) H := fz_P ht hB9.1
          have hD : va_D A (WR a k h0 (fT (fT vi 21 s2121) 22 p2121) vj (fT (fT (fT vF 53 (upd (vF 53) ((nI fN)).toNatClampNeg (nI (sN + 1)))) 49 f49121) 50 f50121) vG) := hB9.2.weaken (fun _ q _ h => hFc q.1 h)
          obtain ⟨f121_0, f121_1, f121_2, f121_3⟩ := hw9
          have f121_0 : ∀ v9, v9 < 100 → RowU (vF 49) (vF 50) v9 → RowU f49121 f50121 v9 := f121_0
          have f121_1 : ∀ q, (q < 9 * (pN - 2) ∨ 9 * (pN - 2) + 9 ≤ q) → f49121 q = (vF 49) q := f121_1
          have f121_2 : ∀ q, (q < 9 * (pN - 2) ∨ 9 * (pN - 2) + 9 ≤ q) → f50121 q = (vF 50) q := f121_2
          have f121_3 : s2121 = (vi 21) ∨ 0 < (s2121).toInt := f121_3
          refine lv_goto (tgt := 156) hx hb dX12_workPair_124 (by decide) ?_
          refine lv_aload_n hx hb dX12_workPair_156 rfl (lv_at hl 2 rfl) ?_
          refine lv_dup hx hb dX12_workPair_157 rfl ?_
          refine va_get (D := (dC, dI)) (ci := 12) (v := .int (vi 81)) (C := RX12) (T := TX12) (N := 163) (fs := fM (vS a (fT (fT vi 21 s2121) 22 p2121) vj)) hx hb hts iwsRX12_workPair_in12 hown hK hP 0 rfl rfl 81 (by decide) (hts (.fieldLink RX12 659 "OptimaWorksModel" "piled" "I") (by decide +kernel)) (fun _ h9 => h9) rfl dX12_workPair_158 ?_
          refine lv_topi (fun y17 hy17 => ?_)
          obtain rfl : (nI pN) = y17 := (hy17.trans (hpl)).symm
          refine lv_iconst (v := 1) hx hb dX12_workPair_161 (by decide) ?_
          refine lv_isub hx hb dX12_workPair_162 ?_
          refine lv_topi (fun y18 hy18 => ?_)
          obtain rfl : (nI (pN - 1)) = y18 := (hy18.trans (pk_sub (a := pN) (b := 1) (by omega))).symm
          refine va_put (D := (dC, dI)) (ci := 12) (v := .int (nI (pN - 1))) (ty := .int) (C := RX12) (T := TX12) (N := 163) (fs := fM (vS a (fT (fT vi 21 s2121) 22 p2121) vj)) hx hb hts iwsRX12_workPair_in12 tyX12 tyX12_ok nmX12 hown hK hP hD hS 0 rfl rfl 81 (by decide) (hts (.fieldLink RX12 659 "OptimaWorksModel" "piled" "I") (by decide +kernel)) (fun _ h9 => h9) rfl (by decide +kernel) rfl rfl (Nat.le_of_ble_eq_true rfl) dX12_workPair_163 (fun H locs hP hD hS => ?_)
          have hP : va_P (dC, dI) vwCl (WR a k h0 (fT (fT (fT vi 21 s2121) 22 p2121) 81 (nI (pN - 1))) vj (fT (fT (fT vF 53 (upd (vF 53) ((nI fN)).toNatClampNeg (nI (sN + 1)))) 49 f49121) 50 f50121) vG) H := by rw [← WR_i 81 _ rfl]; exact hP
          have hD : va_D A (WR a k h0 (fT (fT (fT vi 21 s2121) 22 p2121) 81 (nI (pN - 1))) vj (fT (fT (fT vF 53 (upd (vF 53) ((nI fN)).toNatClampNeg (nI (sN + 1)))) 49 f49121) 50 f50121) vG) := by rw [← WR_i 81 _ rfl]; exact hD
          refine lv_aload_n hx hb dX12_workPair_166 rfl (lv_at hl 2 rfl) ?_
          refine lv_dup hx hb dX12_workPair_167 rfl ?_
          refine va_get (D := (dC, dI)) (ci := 12) (v := .int (vi 89)) (C := RX12) (T := TX12) (N := 163) (fs := fM (vS a (fT (fT (fT vi 21 s2121) 22 p2121) 81 (nI (pN - 1))) vj)) hx hb hts iwsRX12_workPair_in12 hown hK hP 0 rfl rfl 89 (by decide) (hts (.fieldLink RX12 647 "OptimaWorksModel" "framed" "I") (by decide +kernel)) (fun _ h9 => h9) rfl dX12_workPair_168 ?_
          refine lv_topi (fun y19 hy19 => ?_)
          obtain rfl : (nI fr) = y19 := (hy19.trans (hfr9)).symm
          refine lv_iconst (v := 1) hx hb dX12_workPair_171 (by decide) ?_
          refine lv_isub hx hb dX12_workPair_172 ?_
          refine lv_topi (fun y20 hy20 => ?_)
          obtain rfl : (nI (fr - 1)) = y20 := (hy20.trans (pk_sub (a := fr) (b := 1) (by omega))).symm
          refine va_put (D := (dC, dI)) (ci := 12) (v := .int (nI (fr - 1))) (ty := .int) (C := RX12) (T := TX12) (N := 163) (fs := fM (vS a (fT (fT (fT vi 21 s2121) 22 p2121) 81 (nI (pN - 1))) vj)) hx hb hts iwsRX12_workPair_in12 tyX12 tyX12_ok nmX12 hown hK hP hD hS 0 rfl rfl 89 (by decide) (hts (.fieldLink RX12 647 "OptimaWorksModel" "framed" "I") (by decide +kernel)) (fun _ h9 => h9) rfl (by decide +kernel) rfl rfl (Nat.le_of_ble_eq_true rfl) dX12_workPair_173 (fun H locs hP hD hS => ?_)
          have hP : va_P (dC, dI) vwCl (WR a k h0 (fT (fT (fT (fT vi 21 s2121) 22 p2121) 81 (nI (pN - 1))) 89 (nI (fr - 1))) vj (fT (fT (fT vF 53 (upd (vF 53) ((nI fN)).toNatClampNeg (nI (sN + 1)))) 49 f49121) 50 f50121) vG) H := by rw [← WR_i 89 _ rfl]; exact hP
          have hD : va_D A (WR a k h0 (fT (fT (fT (fT vi 21 s2121) 22 p2121) 81 (nI (pN - 1))) 89 (nI (fr - 1))) vj (fT (fT (fT vF 53 (upd (vF 53) ((nI fN)).toNatClampNeg (nI (sN + 1)))) 49 f49121) 50 f50121) vG) := by rw [← WR_i 89 _ rfl]; exact hD
          refine W.widen (k := 0) (n := 0) (by decide +kernel) (by decide +kernel) ?_
          have e9 : fT (fT (fT (fT (fT vi 21 s2121) 22 p2121) 81 (nI (pN - 1))) 89 (nI (fr - 1))) 82 (vi 82) = fT (fT (fT (fT vi 21 s2121) 22 p2121) 81 (nI (pN - 1))) 89 (nI (fr - 1)) := fT_id _ _ ((fT_ne _ _ (Nat.ne_of_beq_eq_false rfl)).trans ((fT_ne _ _ (Nat.ne_of_beq_eq_false rfl)).trans ((fT_ne _ _ (Nat.ne_of_beq_eq_false rfl)).trans (fT_ne _ _ (Nat.ne_of_beq_eq_false rfl)))))
          have hP : va_P (dC, dI) vwCl (WR a k h0 (fT (fT (fT (fT (fT vi 21 s2121) 22 p2121) 81 (nI (pN - 1))) 89 (nI (fr - 1))) 82 (vi 82)) vj (fT (fT (fT vF 53 (upd (vF 53) ((nI fN)).toNatClampNeg (nI (sN + 1)))) 49 f49121) 50 f50121) vG) H := by rw [e9]; exact hP
          have hD : va_D A (WR a k h0 (fT (fT (fT (fT (fT vi 21 s2121) 22 p2121) 81 (nI (pN - 1))) 89 (nI (fr - 1))) 82 (vi 82)) vj (fT (fT (fT vF 53 (upd (vF 53) ((nI fN)).toNatClampNeg (nI (sN + 1)))) 49 f49121) 50 f50121) vG) := by rw [e9]; exact hD
          clear e9
          have e9 : fT (fT (fT (fT vF 53 (upd (vF 53) ((nI fN)).toNatClampNeg (nI (sN + 1)))) 49 f49121) 50 f50121) 52 (vF 52) = fT (fT (fT vF 53 (upd (vF 53) ((nI fN)).toNatClampNeg (nI (sN + 1)))) 49 f49121) 50 f50121 := fT_id _ _ ((fT_ne _ _ (Nat.ne_of_beq_eq_false rfl)).trans ((fT_ne _ _ (Nat.ne_of_beq_eq_false rfl)).trans (fT_ne _ _ (Nat.ne_of_beq_eq_false rfl))))
          have hP : va_P (dC, dI) vwCl (WR a k h0 (fT (fT (fT (fT (fT vi 21 s2121) 22 p2121) 81 (nI (pN - 1))) 89 (nI (fr - 1))) 82 (vi 82)) vj (fT (fT (fT (fT vF 53 (upd (vF 53) ((nI fN)).toNatClampNeg (nI (sN + 1)))) 49 f49121) 50 f50121) 52 (vF 52)) vG) H := by rw [e9]; exact hP
          have hD : va_D A (WR a k h0 (fT (fT (fT (fT (fT vi 21 s2121) 22 p2121) 81 (nI (pN - 1))) 89 (nI (fr - 1))) 82 (vi 82)) vj (fT (fT (fT (fT vF 53 (upd (vF 53) ((nI fN)).toNatClampNeg (nI (sN + 1)))) 49 f49121) 50 f50121) 52 (vF 52)) vG) := by rw [e9]; exact hD
          clear e9
          exact W.vret hx hb hr (fun t9_ ht hW => ⟨⟨(f49121, f50121, (vF 52), (upd (vF 53) ((nI fN)).toNatClampNeg (nI (sN + 1))), (fr - 1), (pN - 1), s2121, p2121, (vi 82)), rfl, by (try dsimp only); exact ⟨fun v9 h9 => f121_0 v9 (by omega) (hRw v9 (by omega)), by (rcases f121_3 with h9 | h9); (rw [h9]; exact hst0); omega, f121_3, StpO.pop hfN hfr1 (fun _ _ => rfl) (by rw [if_pos (by omega)]; omega)⟩, by rw [ht]; exact hP, hD⟩, hS.F ht⟩) hS.2.2 dX12_workPair_176
      · have t_82 : ¬ ((kN : Nat) : Int) = 5 := toI_neq c_82 (nI_toInt (by omega)) (by decide)
        refine lv_aload_n hx hb dX12_workPair_85 rfl (lv_at hl 2 rfl) ?_
        refine va_get (D := (dC, dI)) (ci := 12) (v := .ref (a 29)) (C := RX12) (T := TX12) (N := 163) (fs := fM (vS a vi vj)) hx hb hts iwsRX12_workPair_in12 hown hK hP 0 rfl rfl 53 (by decide) (hts (.fieldLink RX12 110 "OptimaWorksModel" "kind" "[I") (by decide +kernel)) (fun _ h9 => h9) rfl dX12_workPair_86 ?_
        refine lv_iload_n hx hb dX12_workPair_89 rfl (lv_at hl 4 rfl) ?_
        refine va_iald (cA := k 29) (n := 4200) (f := (vF 29)) hx hb hK hP 30 29 (WR_get 29 (by decide)) (TR_get 29 (by decide)) (vp_in_nI (show nN < 4200 by omega) (by omega)) dX12_workPair_90 ?_
        refine lv_topi (fun y21 hy21 => ?_)
        obtain rfl : ((vF 29) nN) = y21 := (hy21.trans (by rw [nI_clamp (by omega)])).symm
        refine lv_topi (fun y22 hy22 => ?_)
        obtain rfl : (nI kN) = y22 := (hy22.trans (hkN)).symm
        refine lv_bipush (v := 6) hx hb dX12_workPair_91 (by decide) ?_
        refine lv_icmp_ne (tgt := 127) hx hb dX12_workPair_93 (by decide) (fun c_93 => ?_) (fun c_93 => ?_)
        · have t_93 : ((kN : Nat) : Int) ≠ 6 := toI_ne c_93 (nI_toInt (by omega)) (by decide)
          refine lv_aload_n hx hb dX12_workPair_127 rfl (lv_at hl 2 rfl) ?_
          refine lv_iload_n hx hb dX12_workPair_128 rfl (lv_at hl 1 rfl) ?_
          refine lv_iload hx hb dX12_workPair_129 (lv_at hl 0 rfl) ?_
          refine lv_aload_n hx hb dX12_workPair_131 rfl (lv_at hl 2 rfl) ?_
          refine va_get (D := (dC, dI)) (ci := 12) (v := .ref (a 29)) (C := RX12) (T := TX12) (N := 163) (fs := fM (vS a vi vj)) hx hb hts iwsRX12_workPair_in12 hown hK hP 0 rfl rfl 53 (by decide) (hts (.fieldLink RX12 110 "OptimaWorksModel" "kind" "[I") (by decide +kernel)) (fun _ h9 => h9) rfl dX12_workPair_132 ?_
          refine lv_iload_n hx hb dX12_workPair_135 rfl (lv_at hl 4 rfl) ?_
          refine va_iald (cA := k 29) (n := 4200) (f := (vF 29)) hx hb hK hP 30 29 (WR_get 29 (by decide)) (TR_get 29 (by decide)) (vp_in_nI (show nN < 4200 by omega) (by omega)) dX12_workPair_136 ?_
          refine lv_topi (fun y23 hy23 => ?_)
          obtain rfl : ((vF 29) nN) = y23 := (hy23.trans (by rw [nI_clamp (by omega)])).symm
          refine lv_topi (fun y24 hy24 => ?_)
          obtain rfl : (nI kN) = y24 := (hy24.trans (hkN)).symm
          refine lv_bipush (v := 8) hx hb dX12_workPair_137 (by decide) ?_
          refine W.cut (pc := 147) (fun H locs ls stk => ∃ (hwv : Int32),  stk = [.int hwv, .int (nI (pN - 1)), .int (nI (pN - 2)), .ref h0] ∧ va_P (dC, dI) vwCl (WR a k h0 vi vj (fT vF 53 (upd (vF 53) ((nI fN)).toNatClampNeg (nI (sN + 1)))) vG) H ∧ va_D A (WR a k h0 vi vj (fT vF 53 (upd (vF 53) ((nI fN)).toNatClampNeg (nI (sN + 1)))) vG) ∧ va_S A s.heap H locs ∧ lv_has ls 5 [(4, .int (nI (pN - 1))), (3, .int (nI (pN - 2))), (0, .ref h0), (1, .int (nI fN)), (2, .int (nI nN))]) (fun join2 => ?_) ?_
          · refine lv_icmp_ne (tgt := 146) hx hb dX12_workPair_139 (by decide) (fun c_139 => ?_) (fun c_139 => ?_)
            · have t_139 : ((kN : Nat) : Int) ≠ 8 := toI_ne c_139 (nI_toInt (by omega)) (by decide)
              refine lv_iconst (v := 0) hx hb dX12_workPair_146 (by decide) ?_
              have hl : lv_has _ _ ([(4, .int (nI (pN - 1))), (3, .int (nI (pN - 2))), (0, .ref h0), (1, .int (nI fN)), (2, .int (nI nN))]) := lv_sub hl [0, 1, 2, 3, 4] rfl
              exact join2 _ _ _ _ ⟨0, rfl, hP, hD, hS, hl⟩
            · have t_139 : ((kN : Nat) : Int) = 8 := toI_nne c_139 (nI_toInt (by omega)) (by decide)
              refine lv_iconst (v := 1) hx hb dX12_workPair_142 (by decide) ?_
              refine lv_goto (tgt := 147) hx hb dX12_workPair_143 (by decide) ?_
              have hl : lv_has _ _ ([(4, .int (nI (pN - 1))), (3, .int (nI (pN - 2))), (0, .ref h0), (1, .int (nI fN)), (2, .int (nI nN))]) := lv_sub hl [0, 1, 2, 3, 4] rfl
              exact join2 _ _ _ _ ⟨1, rfl, hP, hD, hS, hl⟩
          · rintro H locs ls stk ⟨hwv, rfl, hP, hD, hS, hl⟩
            refine lv_aload_n hx hb dX12_workPair_147 rfl (lv_at hl 2 rfl) ?_
            refine va_get (D := (dC, dI)) (ci := 12) (v := .ref (a 33)) (C := RX12) (T := TX12) (N := 163) (fs := fM (vS a vi vj)) hx hb hts iwsRX12_workPair_in12 hown hK hP 0 rfl rfl 57 (by decide) (hts (.fieldLink RX12 122 "OptimaWorksModel" "where" "[I") (by decide +kernel)) (fun _ h9 => h9) rfl dX12_workPair_148 ?_
            refine lv_iload_n hx hb dX12_workPair_151 rfl (lv_at hl 4 rfl) ?_
            refine va_iald (cA := k 33) (n := 4200) (f := (vF 33)) hx hb hK hP 34 33 (WR_get 33 (by decide)) (TR_get 33 (by decide)) (vp_in_nI (show nN < 4200 by omega) (by omega)) dX12_workPair_152 ?_
            refine lv_topi (fun y25 hy25 => ?_)
            obtain rfl : ((vF 33) nN) = y25 := (hy25.trans (by rw [nI_clamp (by omega)])).symm
            have hFc := allFree hD hS hA
            refine va_callv (va_runV (As := [.int (nI (pN - 2)), .int (nI (pN - 1)), .int hwv, .int ((vF 33) nN)]) (rest := []) ⟨hx, hb, hml, hown, hts⟩ (r_X12_scale l dC dI a k h0 vi vj (fT vF 53 (upd (vF 53) ((nI fN)).toNatClampNeg (nI (sN + 1)))) vG (pN - 2) (pN - 1) hwv ((vF 33) nN) (by first | assumption | decide | omega | rfl) (by first | assumption | decide | omega | rfl) (hRw _ (by omega)) (hRw _ (by omega)) H.size) (cwV 4 hts gwsRX12_workPair_1 rfl rfl rfl hd_yX12_scale_RX12 (by decide +kernel)) (fz_pre (va_recv hK hP (ci := 12) (q0 := 0) rfl rfl) hP hK hD) rfl rfl hl.1 rfl (lv_room (Nat.le_of_ble_eq_true rfl)) dX12_workPair_153 (by decide +kernel)) hS (fun q _ h => hFc q h) hFc (fun u t9_ H locs ht hvm hw9 hB9 hz1 hk1 hS => ?_)
            obtain ⟨s2153, p2153, f49153, f50153⟩ := u
            try dsimp only at hw9 hB9
            have hP : va_P (dC, dI) vwCl (WR a k h0 (fT (fT vi 21 s2153) 22 p2153) vj (fT (fT (fT vF 53 (upd (vF 53) ((nI fN)).toNatClampNeg (nI (sN + 1)))) 49 f49153) 50 f50153) vG) H := fz_P ht hB9.1
            have hD : va_D A (WR a k h0 (fT (fT vi 21 s2153) 22 p2153) vj (fT (fT (fT vF 53 (upd (vF 53) ((nI fN)).toNatClampNeg (nI (sN + 1)))) 49 f49153) 50 f50153) vG) := hB9.2.weaken (fun _ q _ h => hFc q.1 h)
            obtain ⟨f153_0, f153_1, f153_2, f153_3⟩ := hw9
            have f153_0 : ∀ v9, v9 < 100 → RowU (vF 49) (vF 50) v9 → RowU f49153 f50153 v9 := f153_0
            have f153_1 : ∀ q, (q < 9 * (pN - 2) ∨ 9 * (pN - 2) + 9 ≤ q) → f49153 q = (vF 49) q := f153_1
            have f153_2 : ∀ q, (q < 9 * (pN - 2) ∨ 9 * (pN - 2) + 9 ≤ q) → f50153 q = (vF 50) q := f153_2
            have f153_3 : s2153 = (vi 21) ∨ 0 < (s2153).toInt := f153_3
            refine lv_aload_n hx hb dX12_workPair_156 rfl (lv_at hl 2 rfl) ?_
            refine lv_dup hx hb dX12_workPair_157 rfl ?_
            refine va_get (D := (dC, dI)) (ci := 12) (v := .int (vi 81)) (C := RX12) (T := TX12) (N := 163) (fs := fM (vS a (fT (fT vi 21 s2153) 22 p2153) vj)) hx hb hts iwsRX12_workPair_in12 hown hK hP 0 rfl rfl 81 (by decide) (hts (.fieldLink RX12 659 "OptimaWorksModel" "piled" "I") (by decide +kernel)) (fun _ h9 => h9) rfl dX12_workPair_158 ?_
            refine lv_topi (fun y26 hy26 => ?_)
            obtain rfl : (nI pN) = y26 := (hy26.trans (hpl)).symm
            refine lv_iconst (v := 1) hx hb dX12_workPair_161 (by decide) ?_
            refine lv_isub hx hb dX12_workPair_162 ?_
            refine lv_topi (fun y27 hy27 => ?_)
            obtain rfl : (nI (pN - 1)) = y27 := (hy27.trans (pk_sub (a := pN) (b := 1) (by omega))).symm
            refine va_put (D := (dC, dI)) (ci := 12) (v := .int (nI (pN - 1))) (ty := .int) (C := RX12) (T := TX12) (N := 163) (fs := fM (vS a (fT (fT vi 21 s2153) 22 p2153) vj)) hx hb hts iwsRX12_workPair_in12 tyX12 tyX12_ok nmX12 hown hK hP hD hS 0 rfl rfl 81 (by decide) (hts (.fieldLink RX12 659 "OptimaWorksModel" "piled" "I") (by decide +kernel)) (fun _ h9 => h9) rfl (by decide +kernel) rfl rfl (Nat.le_of_ble_eq_true rfl) dX12_workPair_163 (fun H locs hP hD hS => ?_)
            have hP : va_P (dC, dI) vwCl (WR a k h0 (fT (fT (fT vi 21 s2153) 22 p2153) 81 (nI (pN - 1))) vj (fT (fT (fT vF 53 (upd (vF 53) ((nI fN)).toNatClampNeg (nI (sN + 1)))) 49 f49153) 50 f50153) vG) H := by rw [← WR_i 81 _ rfl]; exact hP
            have hD : va_D A (WR a k h0 (fT (fT (fT vi 21 s2153) 22 p2153) 81 (nI (pN - 1))) vj (fT (fT (fT vF 53 (upd (vF 53) ((nI fN)).toNatClampNeg (nI (sN + 1)))) 49 f49153) 50 f50153) vG) := by rw [← WR_i 81 _ rfl]; exact hD
            refine lv_aload_n hx hb dX12_workPair_166 rfl (lv_at hl 2 rfl) ?_
            refine lv_dup hx hb dX12_workPair_167 rfl ?_
            refine va_get (D := (dC, dI)) (ci := 12) (v := .int (vi 89)) (C := RX12) (T := TX12) (N := 163) (fs := fM (vS a (fT (fT (fT vi 21 s2153) 22 p2153) 81 (nI (pN - 1))) vj)) hx hb hts iwsRX12_workPair_in12 hown hK hP 0 rfl rfl 89 (by decide) (hts (.fieldLink RX12 647 "OptimaWorksModel" "framed" "I") (by decide +kernel)) (fun _ h9 => h9) rfl dX12_workPair_168 ?_
            refine lv_topi (fun y28 hy28 => ?_)
            obtain rfl : (nI fr) = y28 := (hy28.trans (hfr9)).symm
            refine lv_iconst (v := 1) hx hb dX12_workPair_171 (by decide) ?_
            refine lv_isub hx hb dX12_workPair_172 ?_
            refine lv_topi (fun y29 hy29 => ?_)
            obtain rfl : (nI (fr - 1)) = y29 := (hy29.trans (pk_sub (a := fr) (b := 1) (by omega))).symm
            refine va_put (D := (dC, dI)) (ci := 12) (v := .int (nI (fr - 1))) (ty := .int) (C := RX12) (T := TX12) (N := 163) (fs := fM (vS a (fT (fT (fT vi 21 s2153) 22 p2153) 81 (nI (pN - 1))) vj)) hx hb hts iwsRX12_workPair_in12 tyX12 tyX12_ok nmX12 hown hK hP hD hS 0 rfl rfl 89 (by decide) (hts (.fieldLink RX12 647 "OptimaWorksModel" "framed" "I") (by decide +kernel)) (fun _ h9 => h9) rfl (by decide +kernel) rfl rfl (Nat.le_of_ble_eq_true rfl) dX12_workPair_173 (fun H locs hP hD hS => ?_)
            have hP : va_P (dC, dI) vwCl (WR a k h0 (fT (fT (fT (fT vi 21 s2153) 22 p2153) 81 (nI (pN - 1))) 89 (nI (fr - 1))) vj (fT (fT (fT vF 53 (upd (vF 53) ((nI fN)).toNatClampNeg (nI (sN + 1)))) 49 f49153) 50 f50153) vG) H := by rw [← WR_i 89 _ rfl]; exact hP
            have hD : va_D A (WR a k h0 (fT (fT (fT (fT vi 21 s2153) 22 p2153) 81 (nI (pN - 1))) 89 (nI (fr - 1))) vj (fT (fT (fT vF 53 (upd (vF 53) ((nI fN)).toNatClampNeg (nI (sN + 1)))) 49 f49153) 50 f50153) vG) := by rw [← WR_i 89 _ rfl]; exact hD
            refine W.widen (k := 0) (n := 0) (by decide +kernel) (by decide +kernel) ?_
            have e9 : fT (fT (fT (fT (fT vi 21 s2153) 22 p2153) 81 (nI (pN - 1))) 89 (nI (fr - 1))) 82 (vi 82) = fT (fT (fT (fT vi 21 s2153) 22 p2153) 81 (nI (pN - 1))) 89 (nI (fr - 1)) := fT_id _ _ ((fT_ne _ _ (Nat.ne_of_beq_eq_false rfl)).trans ((fT_ne _ _ (Nat.ne_of_beq_eq_false rfl)).trans ((fT_ne _ _ (Nat.ne_of_beq_eq_false rfl)).trans (fT_ne _ _ (Nat.ne_of_beq_eq_false rfl)))))
            have hP : va_P (dC, dI) vwCl (WR a k h0 (fT (fT (fT (fT (fT vi 21 s2153) 22 p2153) 81 (nI (pN - 1))) 89 (nI (fr - 1))) 82 (vi 82)) vj (fT (fT (fT vF 53 (upd (vF 53) ((nI fN)).toNatClampNeg (nI (sN + 1)))) 49 f49153) 50 f50153) vG) H := by rw [e9]; exact hP
            have hD : va_D A (WR a k h0 (fT (fT (fT (fT (fT vi 21 s2153) 22 p2153) 81 (nI (pN - 1))) 89 (nI (fr - 1))) 82 (vi 82)) vj (fT (fT (fT vF 53 (upd (vF 53) ((nI fN)).toNatClampNeg (nI (sN + 1)))) 49 f49153) 50 f50153) vG) := by rw [e9]; exact hD
            clear e9
            have e9 : fT (fT (fT (fT vF 53 (upd (vF 53) ((nI fN)).toNatClampNeg (nI (sN + 1)))) 49 f49153) 50 f50153) 52 (vF 52) = fT (fT (fT vF 53 (upd (vF 53) ((nI fN)).toNatClampNeg (nI (sN + 1)))) 49 f49153) 50 f50153 := fT_id _ _ ((fT_ne _ _ (Nat.ne_of_beq_eq_false rfl)).trans ((fT_ne _ _ (Nat.ne_of_beq_eq_false rfl)).trans (fT_ne _ _ (Nat.ne_of_beq_eq_false rfl))))
            have hP : va_P (dC, dI) vwCl (WR a k h0 (fT (fT (fT (fT (fT vi 21 s2153) 22 p2153) 81 (nI (pN - 1))) 89 (nI (fr - 1))) 82 (vi 82)) vj (fT (fT (fT (fT vF 53 (upd (vF 53) ((nI fN)).toNatClampNeg (nI (sN + 1)))) 49 f49153) 50 f50153) 52 (vF 52)) vG) H := by rw [e9]; exact hP
            have hD : va_D A (WR a k h0 (fT (fT (fT (fT (fT vi 21 s2153) 22 p2153) 81 (nI (pN - 1))) 89 (nI (fr - 1))) 82 (vi 82)) vj (fT (fT (fT (fT vF 53 (upd (vF 53) ((nI fN)).toNatClampNeg (nI (sN + 1)))) 49 f49153) 50 f50153) 52 (vF 52)) vG) := by rw [e9]; exact hD
            clear e9
            exact W.vret hx hb hr (fun t9_ ht hW => ⟨⟨(f49153, f50153, (vF 52), (upd (vF 53) ((nI fN)).toNatClampNeg (nI (sN + 1))), (fr - 1), (pN - 1), s2153, p2153, (vi 82)), rfl, by (try dsimp only); exact ⟨fun v9 h9 => f153_0 v9 (by omega) (hRw v9 (by omega)), by (rcases f153_3 with h9 | h9); (rw [h9]; exact hst0); omega, f153_3, StpO.pop hfN hfr1 (fun _ _ => rfl) (by rw [if_pos (by omega)]; omega)⟩, by rw [ht]; exact hP, hD⟩, hS.F ht⟩) hS.2.2 dX12_workPair_176
        · have t_93 : ((kN : Nat) : Int) = 6 := toI_nne c_93 (nI_toInt (by omega)) (by decide)
          refine lv_aload_n hx hb dX12_workPair_96 rfl (lv_at hl 2 rfl) ?_
          refine lv_iload_n hx hb dX12_workPair_97 rfl (lv_at hl 1 rfl) ?_
          refine lv_iload hx hb dX12_workPair_98 (lv_at hl 0 rfl) ?_
          refine lv_aload_n hx hb dX12_workPair_100 rfl (lv_at hl 2 rfl) ?_
          refine va_get (D := (dC, dI)) (ci := 12) (v := .ref (a 29)) (C := RX12) (T := TX12) (N := 163) (fs := fM (vS a vi vj)) hx hb hts iwsRX12_workPair_in12 hown hK hP 0 rfl rfl 53 (by decide) (hts (.fieldLink RX12 110 "OptimaWorksModel" "kind" "[I") (by decide +kernel)) (fun _ h9 => h9) rfl dX12_workPair_101 ?_
          refine lv_iload_n hx hb dX12_workPair_104 rfl (lv_at hl 4 rfl) ?_
          refine va_iald (cA := k 29) (n := 4200) (f := (vF 29)) hx hb hK hP 30 29 (WR_get 29 (by decide)) (TR_get 29 (by decide)) (vp_in_nI (show nN < 4200 by omega) (by omega)) dX12_workPair_105 ?_
          refine lv_topi (fun y30 hy30 => ?_)
          obtain rfl : ((vF 29) nN) = y30 := (hy30.trans (by rw [nI_clamp (by omega)])).symm
          refine lv_topi (fun y31 hy31 => ?_)
          obtain rfl : (nI kN) = y31 := (hy31.trans (hkN)).symm
          refine lv_iconst (v := 5) hx hb dX12_workPair_106 (by decide) ?_
          refine W.cut (pc := 115) (fun H locs ls stk => ∃ (hwv : Int32), ((hwv).toInt = 1 ∨ (hwv).toInt = -1) ∧  stk = [.int hwv, .int (nI (pN - 1)), .int (nI (pN - 2)), .ref h0] ∧ va_P (dC, dI) vwCl (WR a k h0 vi vj (fT vF 53 (upd (vF 53) ((nI fN)).toNatClampNeg (nI (sN + 1)))) vG) H ∧ va_D A (WR a k h0 vi vj (fT vF 53 (upd (vF 53) ((nI fN)).toNatClampNeg (nI (sN + 1)))) vG) ∧ va_S A s.heap H locs ∧ lv_has ls 5 [(4, .int (nI (pN - 1))), (3, .int (nI (pN - 2))), (0, .ref h0), (1, .int (nI fN)), (2, .int (nI nN))]) (fun join3 => ?_) ?_
          · refine lv_icmp_ne (tgt := 114) hx hb dX12_workPair_107 (by decide) (fun c_107 => ?_) (fun c_107 => ?_)
            · have t_107 : ((kN : Nat) : Int) ≠ 5 := toI_ne c_107 (nI_toInt (by omega)) (by decide)
              refine lv_iconst (v := (-1)) hx hb dX12_workPair_114 (by decide) ?_
              have hl : lv_has _ _ ([(4, .int (nI (pN - 1))), (3, .int (nI (pN - 2))), (0, .ref h0), (1, .int (nI fN)), (2, .int (nI nN))]) := lv_sub hl [0, 1, 2, 3, 4] rfl
              exact join3 _ _ _ _ ⟨(-1), by decide, rfl, hP, hD, hS, hl⟩
            · have t_107 : ((kN : Nat) : Int) = 5 := toI_nne c_107 (nI_toInt (by omega)) (by decide)
              refine lv_iconst (v := 1) hx hb dX12_workPair_110 (by decide) ?_
              refine lv_goto (tgt := 115) hx hb dX12_workPair_111 (by decide) ?_
              have hl : lv_has _ _ ([(4, .int (nI (pN - 1))), (3, .int (nI (pN - 2))), (0, .ref h0), (1, .int (nI fN)), (2, .int (nI nN))]) := lv_sub hl [0, 1, 2, 3, 4] rfl
              exact join3 _ _ _ _ ⟨1, by decide, rfl, hP, hD, hS, hl⟩
          · rintro H locs ls stk ⟨hwv, hhw, rfl, hP, hD, hS, hl⟩
            refine lv_aload_n hx hb dX12_workPair_115 rfl (lv_at hl 2 rfl) ?_
            refine va_get (D := (dC, dI)) (ci := 12) (v := .ref (a 33)) (C := RX12) (T := TX12) (N := 163) (fs := fM (vS a vi vj)) hx hb hts iwsRX12_workPair_in12 hown hK hP 0 rfl rfl 57 (by decide) (hts (.fieldLink RX12 122 "OptimaWorksModel" "where" "[I") (by decide +kernel)) (fun _ h9 => h9) rfl dX12_workPair_116 ?_
            refine lv_iload_n hx hb dX12_workPair_119 rfl (lv_at hl 4 rfl) ?_
            refine va_iald (cA := k 33) (n := 4200) (f := (vF 33)) hx hb hK hP 34 33 (WR_get 33 (by decide)) (TR_get 33 (by decide)) (vp_in_nI (show nN < 4200 by omega) (by omega)) dX12_workPair_120 ?_
            refine lv_topi (fun y32 hy32 => ?_)
            obtain rfl : ((vF 33) nN) = y32 := (hy32.trans (by rw [nI_clamp (by omega)])).symm
            have hFc := allFree hD hS hA
            refine va_callv (va_runV (As := [.int (nI (pN - 2)), .int (nI (pN - 1)), .int hwv, .int ((vF 33) nN)]) (rest := []) ⟨hx, hb, hml, hown, hts⟩ (r_X12_join l dC dI a k h0 vi vj (fT vF 53 (upd (vF 53) ((nI fN)).toNatClampNeg (nI (sN + 1)))) vG (pN - 2) (pN - 1) hwv ((hwv).toInt) ((vF 33) nN) (by first | assumption | decide | omega | rfl) (by first | assumption | decide | omega | rfl) (rfl) (hhw) (hRw _ (by omega)) (hRw _ (by omega)) H.size) (cwV 4 hts gwsRX12_workPair_0 rfl rfl rfl hd_yX12_join_RX12 (by decide +kernel)) (fz_pre (va_recv hK hP (ci := 12) (q0 := 0) rfl rfl) hP hK hD) rfl rfl hl.1 rfl (lv_room (Nat.le_of_ble_eq_true rfl)) dX12_workPair_121 (by decide +kernel)) hS (fun q _ h => hFc q h) hFc (fun u t9_ H locs ht hvm hw9 hB9 hz1 hk1 hS => ?_)
            obtain ⟨s2121_1, p2121_1, f49121_1, f50121_1⟩ := u
            try dsimp only at hw9 hB9
            have hP : va_P (dC, dI) vwCl (WR a k h0 (fT (fT vi 21 s2121_1) 22 p2121_1) vj (fT (fT (fT vF 53 (upd (vF 53) ((nI fN)).toNatClampNeg (nI (sN + 1)))) 49 f49121_1) 50 f50121_1) vG) H := fz_P ht hB9.1
            have hD : va_D A (WR a k h0 (fT (fT vi 21 s2121_1) 22 p2121_1) vj (fT (fT (fT vF 53 (upd (vF 53) ((nI fN)).toNatClampNeg (nI (sN + 1)))) 49 f49121_1) 50 f50121_1) vG) := hB9.2.weaken (fun _ q _ h => hFc q.1 h)
            obtain ⟨f121_1_0, f121_1_1, f121_1_2, f121_1_3⟩ := hw9
            have f121_1_0 : ∀ v9, v9 < 100 → RowU (vF 49) (vF 50) v9 → RowU f49121_1 f50121_1 v9 := f121_1_0
            have f121_1_1 : ∀ q, (q < 9 * (pN - 2) ∨ 9 * (pN - 2) + 9 ≤ q) → f49121_1 q = (vF 49) q := f121_1_1
            have f121_1_2 : ∀ q, (q < 9 * (pN - 2) ∨ 9 * (pN - 2) + 9 ≤ q) → f50121_1 q = (vF 50) q := f121_1_2
            have f121_1_3 : s2121_1 = (vi 21) ∨ 0 < (s2121_1).toInt := f121_1_3
            refine lv_goto (tgt := 156) hx hb dX12_workPair_124 (by decide) ?_
            refine lv_aload_n hx hb dX12_workPair_156 rfl (lv_at hl 2 rfl) ?_
            refine lv_dup hx hb dX12_workPair_157 rfl ?_
            refine va_get (D := (dC, dI)) (ci := 12) (v := .int (vi 81)) (C := RX12) (T := TX12) (N := 163) (fs := fM (vS a (fT (fT vi 21 s2121_1) 22 p2121_1) vj)) hx hb hts iwsRX12_workPair_in12 hown hK hP 0 rfl rfl 81 (by decide) (hts (.fieldLink RX12 659 "OptimaWorksModel" "piled" "I") (by decide +kernel)) (fun _ h9 => h9) rfl dX12_workPair_158 ?_
            refine lv_topi (fun y33 hy33 => ?_)
            obtain rfl : (nI pN) = y33 := (hy33.trans (hpl)).symm
            refine lv_iconst (v := 1) hx hb dX12_workPair_161 (by decide) ?_
            refine lv_isub hx hb dX12_workPair_162 ?_
            refine lv_topi (fun y34 hy34 => ?_)
            obtain rfl : (nI (pN - 1)) = y34 := (hy34.trans (pk_sub (a := pN) (b := 1) (by omega))).symm
            refine va_put (D := (dC, dI)) (ci := 12) (v := .int (nI (pN - 1))) (ty := .int) (C := RX12) (T := TX12) (N := 163) (fs := fM (vS a (fT (fT vi 21 s2121_1) 22 p2121_1) vj)) hx hb hts iwsRX12_workPair_in12 tyX12 tyX12_ok nmX12 hown hK hP hD hS 0 rfl rfl 81 (by decide) (hts (.fieldLink RX12 659 "OptimaWorksModel" "piled" "I") (by decide +kernel)) (fun _ h9 => h9) rfl (by decide +kernel) rfl rfl (Nat.le_of_ble_eq_true rfl) dX12_workPair_163 (fun H locs hP hD hS => ?_)
            have hP : va_P (dC, dI) vwCl (WR a k h0 (fT (fT (fT vi 21 s2121_1) 22 p2121_1) 81 (nI (pN - 1))) vj (fT (fT (fT vF 53 (upd (vF 53) ((nI fN)).toNatClampNeg (nI (sN + 1)))) 49 f49121_1) 50 f50121_1) vG) H := by rw [← WR_i 81 _ rfl]; exact hP
            have hD : va_D A (WR a k h0 (fT (fT (fT vi 21 s2121_1) 22 p2121_1) 81 (nI (pN - 1))) vj (fT (fT (fT vF 53 (upd (vF 53) ((nI fN)).toNatClampNeg (nI (sN + 1)))) 49 f49121_1) 50 f50121_1) vG) := by rw [← WR_i 81 _ rfl]; exact hD
            refine lv_aload_n hx hb dX12_workPair_166 rfl (lv_at hl 2 rfl) ?_
            refine lv_dup hx hb dX12_workPair_167 rfl ?_
            refine va_get (D := (dC, dI)) (ci := 12) (v := .int (vi 89)) (C := RX12) (T := TX12) (N := 163) (fs := fM (vS a (fT (fT (fT vi 21 s2121_1) 22 p2121_1) 81 (nI (pN - 1))) vj)) hx hb hts iwsRX12_workPair_in12 hown hK hP 0 rfl rfl 89 (by decide) (hts (.fieldLink RX12 647 "OptimaWorksModel" "framed" "I") (by decide +kernel)) (fun _ h9 => h9) rfl dX12_workPair_168 ?_
            refine lv_topi (fun y35 hy35 => ?_)
            obtain rfl : (nI fr) = y35 := (hy35.trans (hfr9)).symm
            refine lv_iconst (v := 1) hx hb dX12_workPair_171 (by decide) ?_
            refine lv_isub hx hb dX12_workPair_172 ?_
            refine lv_topi (fun y36 hy36 => ?_)
            obtain rfl : (nI (fr - 1)) = y36 := (hy36.trans (pk_sub (a := fr) (b := 1) (by omega))).symm
            refine va_put (D := (dC, dI)) (ci := 12) (v := .int (nI (fr - 1))) (ty := .int) (C := RX12) (T := TX12) (N := 163) (fs := fM (vS a (fT (fT (fT vi 21 s2121_1) 22 p2121_1) 81 (nI (pN - 1))) vj)) hx hb hts iwsRX12_workPair_in12 tyX12 tyX12_ok nmX12 hown hK hP hD hS 0 rfl rfl 89 (by decide) (hts (.fieldLink RX12 647 "OptimaWorksModel" "framed" "I") (by decide +kernel)) (fun _ h9 => h9) rfl (by decide +kernel) rfl rfl (Nat.le_of_ble_eq_true rfl) dX12_workPair_173 (fun H locs hP hD hS => ?_)
            have hP : va_P (dC, dI) vwCl (WR a k h0 (fT (fT (fT (fT vi 21 s2121_1) 22 p2121_1) 81 (nI (pN - 1))) 89 (nI (fr - 1))) vj (fT (fT (fT vF 53 (upd (vF 53) ((nI fN)).toNatClampNeg (nI (sN + 1)))) 49 f49121_1) 50 f50121_1) vG) H := by rw [← WR_i 89 _ rfl]; exact hP
            have hD : va_D A (WR a k h0 (fT (fT (fT (fT vi 21 s2121_1) 22 p2121_1) 81 (nI (pN - 1))) 89 (nI (fr - 1))) vj (fT (fT (fT vF 53 (upd (vF 53) ((nI fN)).toNatClampNeg (nI (sN + 1)))) 49 f49121_1) 50 f50121_1) vG) := by rw [← WR_i 89 _ rfl]; exact hD
            refine W.widen (k := 0) (n := 0) (by decide +kernel) (by decide +kernel) ?_
            have e9 : fT (fT (fT (fT (fT vi 21 s2121_1) 22 p2121_1) 81 (nI (pN - 1))) 89 (nI (fr - 1))) 82 (vi 82) = fT (fT (fT (fT vi 21 s2121_1) 22 p2121_1) 81 (nI (pN - 1))) 89 (nI (fr - 1)) := fT_id _ _ ((fT_ne _ _ (Nat.ne_of_beq_eq_false rfl)).trans ((fT_ne _ _ (Nat.ne_of_beq_eq_false rfl)).trans ((fT_ne _ _ (Nat.ne_of_beq_eq_false rfl)).trans (fT_ne _ _ (Nat.ne_of_beq_eq_false rfl)))))
            have hP : va_P (dC, dI) vwCl (WR a k h0 (fT (fT (fT (fT (fT vi 21 s2121_1) 22 p2121_1) 81 (nI (pN - 1))) 89 (nI (fr - 1))) 82 (vi 82)) vj (fT (fT (fT vF 53 (upd (vF 53) ((nI fN)).toNatClampNeg (nI (sN + 1)))) 49 f49121_1) 50 f50121_1) vG) H := by rw [e9]; exact hP
            have hD : va_D A (WR a k h0 (fT (fT (fT (fT (fT vi 21 s2121_1) 22 p2121_1) 81 (nI (pN - 1))) 89 (nI (fr - 1))) 82 (vi 82)) vj (fT (fT (fT vF 53 (upd (vF 53) ((nI fN)).toNatClampNeg (nI (sN + 1)))) 49 f49121_1) 50 f50121_1) vG) := by rw [e9]; exact hD
            clear e9
            have e9 : fT (fT (fT (fT vF 53 (upd (vF 53) ((nI fN)).toNatClampNeg (nI (sN + 1)))) 49 f49121_1) 50 f50121_1) 52 (vF 52) = fT (fT (fT vF 53 (upd (vF 53) ((nI fN)).toNatClampNeg (nI (sN + 1)))) 49 f49121_1) 50 f50121_1 := fT_id _ _ ((fT_ne _ _ (Nat.ne_of_beq_eq_false rfl)).trans ((fT_ne _ _ (Nat.ne_of_beq_eq_false rfl)).trans (fT_ne _ _ (Nat.ne_of_beq_eq_false rfl))))
            have hP : va_P (dC, dI) vwCl (WR a k h0 (fT (fT (fT (fT (fT vi 21 s2121_1) 22 p2121_1) 81 (nI (pN - 1))) 89 (nI (fr - 1))) 82 (vi 82)) vj (fT (fT (fT (fT vF 53 (upd (vF 53) ((nI fN)).toNatClampNeg (nI (sN + 1)))) 49 f49121_1) 50 f50121_1) 52 (vF 52)) vG) H := by rw [e9]; exact hP
            have hD : va_D A (WR a k h0 (fT (fT (fT (fT (fT vi 21 s2121_1) 22 p2121_1) 81 (nI (pN - 1))) 89 (nI (fr - 1))) 82 (vi 82)) vj (fT (fT (fT (fT vF 53 (upd (vF 53) ((nI fN)).toNatClampNeg (nI (sN + 1)))) 49 f49121_1) 50 f50121_1) 52 (vF 52)) vG) := by rw [e9]; exact hD
            clear e9
            exact W.vret hx hb hr (fun t9_ ht hW => ⟨⟨(f49121_1, f50121_1, (vF 52), (upd (vF 53) ((nI fN)).toNatClampNeg (nI (sN + 1))), (fr - 1), (pN - 1), s2121_1, p2121_1, (vi 82)), rfl, by (try dsimp only); exact ⟨fun v9 h9 => f121_1_0 v9 (by omega) (hRw v9 (by omega)), by (rcases f121_1_3 with h9 | h9); (rw [h9]; exact hst0); omega, f121_1_3, StpO.pop hfN hfr1 (fun _ _ => rfl) (by rw [if_pos (by omega)]; omega)⟩, by rw [ht]; exact hP, hD⟩, hS.F ht⟩) hS.2.2 dX12_workPair_176
    · have t_40 : (((sN + 1) : Nat) : Int) = 2 := toI_nne c_40 (nI_toInt (by omega)) (by decide)
      refine lv_aload_n hx hb dX12_workPair_43 rfl (lv_at hl 0 rfl) ?_
      have hFc := allFree hD hS hA
      refine va_callv (va_runV (As := []) (rest := []) ⟨hx, hb, hml, hown, hts⟩ (r_X12_stepOne l dC dI a k h0 vi vj (fT vF 53 (upd (vF 53) ((nI fN)).toNatClampNeg (nI (sN + 1)))) vG (by first | assumption | decide | omega | rfl) H.size) (cwV 0 hts gwsRX12_workPair_2 rfl rfl rfl hd_yX12_stepOne_RX12 (by decide +kernel)) (fz_pre (va_recv hK hP (ci := 12) (q0 := 0) rfl rfl) hP hK hD) rfl rfl hl.1 rfl (lv_room (Nat.le_of_ble_eq_true rfl)) dX12_workPair_44 (by decide +kernel)) hS (fun q _ h => hFc q h) hFc (fun u t9_ H locs ht hvm hw9 hB9 hz1 hk1 hS => ?_)
      obtain ⟨s244, p244, sp244⟩ := u
      try dsimp only at hw9 hB9
      have hP : va_P (dC, dI) vwCl (WR a k h0 (fT (fT (fT vi 21 s244) 22 p244) 82 sp244) vj (fT vF 53 (upd (vF 53) ((nI fN)).toNatClampNeg (nI (sN + 1)))) vG) H := fz_P ht hB9.1
      have hD : va_D A (WR a k h0 (fT (fT (fT vi 21 s244) 22 p244) 82 sp244) vj (fT vF 53 (upd (vF 53) ((nI fN)).toNatClampNeg (nI (sN + 1)))) vG) := hB9.2.weaken (fun _ q _ h => hFc q.1 h)
      obtain ⟨f44_0, f44_1⟩ := hw9
      have f44_1 : s244 = (vi 21) ∨ 0 < (s244).toInt := f44_1
      refine lv_aload_n hx hb dX12_workPair_47 rfl (lv_at hl 0 rfl) ?_
      refine lv_aload_n hx hb dX12_workPair_48 rfl (lv_at hl 0 rfl) ?_
      refine va_get (D := (dC, dI)) (ci := 12) (v := .ref (a 31)) (C := RX12) (T := TX12) (N := 163) (fs := fM (vS a (fT (fT (fT vi 21 s244) 22 p244) 82 sp244) vj)) hx hb hts iwsRX12_workPair_in12 hown hK hP 0 rfl rfl 55 (by decide) (hts (.fieldLink RX12 116 "OptimaWorksModel" "partB" "[I") (by decide +kernel)) (fun _ h9 => h9) rfl dX12_workPair_49 ?_
      refine lv_iload_n hx hb dX12_workPair_52 rfl (lv_at hl 2 rfl) ?_
      refine va_iald (cA := k 31) (n := 4200) (f := (vF 31)) hx hb hK hP 32 31 (WR_get 31 (by decide)) (TR_get 31 (by decide)) (vp_in_nI (show nN < 4200 by omega) (by omega)) dX12_workPair_53 ?_
      refine lv_topi (fun y37 hy37 => ?_)
      obtain rfl : ((vF 31) nN) = y37 := (hy37.trans (by rw [nI_clamp (by omega)])).symm
      refine lv_topi (fun y38 hy38 => ?_)
      obtain rfl : (nI dN) = y38 := (hy38.trans (hdN)).symm
      have hFc := allFree hD hS hA
      refine va_callv (va_runV (As := [.int (nI dN)]) (rest := []) ⟨hx, hb, hml, hown, hts⟩ (r_X12_call l dC dI a k h0 (fT (fT (fT vi 21 s244) 22 p244) 82 sp244) vj (fT vF 53 (upd (vF 53) ((nI fN)).toNatClampNeg (nI (sN + 1)))) vG (nI dN) fr hfr9 (by first | assumption | decide | omega | rfl) H.size) (cwV 1 hts gwsRX12_workPair_3 rfl rfl rfl hd_yX12_call_RX12 (by decide +kernel)) (fz_pre (va_recv hK hP (ci := 12) (q0 := 0) rfl rfl) hP hK hD) rfl rfl hl.1 rfl (lv_room (Nat.le_of_ble_eq_true rfl)) dX12_workPair_54 (by decide +kernel)) hS (fun q _ h => hFc q h) hFc (fun u t9_ H locs ht hvm hw9 hB9 hz1 hk1 hS => ?_)
      have hP : va_P (dC, dI) vwCl (WR a k h0 (fT (fT (fT (fT vi 21 s244) 22 p244) 82 sp244) 89 (nI (fr + 1))) vj (fT (fT (fT vF 53 (upd (vF 53) ((nI fN)).toNatClampNeg (nI (sN + 1)))) 52 (upd (vF 52) (nI fr).toNatClampNeg (nI dN))) 53 (upd (upd (vF 53) ((nI fN)).toNatClampNeg (nI (sN + 1))) (nI fr).toNatClampNeg 0)) vG) H := fz_P ht hB9.1
      have hD : va_D A (WR a k h0 (fT (fT (fT (fT vi 21 s244) 22 p244) 82 sp244) 89 (nI (fr + 1))) vj (fT (fT (fT vF 53 (upd (vF 53) ((nI fN)).toNatClampNeg (nI (sN + 1)))) 52 (upd (vF 52) (nI fr).toNatClampNeg (nI dN))) 53 (upd (upd (vF 53) ((nI fN)).toNatClampNeg (nI (sN + 1))) (nI fr).toNatClampNeg 0)) vG) := hB9.2.weaken (fun _ q _ h => hFc q.1 h)
      have e9 : fT (fT vF 53 (upd (upd (vF 53) ((nI fN)).toNatClampNeg (nI (sN + 1))) (nI fr).toNatClampNeg 0)) 52 (upd (vF 52) (nI fr).toNatClampNeg (nI dN)) = fT (fT (fT vF 53 (upd (vF 53) ((nI fN)).toNatClampNeg (nI (sN + 1)))) 52 (upd (vF 52) (nI fr).toNatClampNeg (nI dN))) 53 (upd (upd (vF 53) ((nI fN)).toNatClampNeg (nI (sN + 1))) (nI fr).toNatClampNeg 0) := ((fT_sw _ _ _ (Nat.ne_of_beq_eq_false rfl)).trans (congrArg (fun g9 => fT g9 52 (upd (vF 52) (nI fr).toNatClampNeg (nI dN))) (fT_sm _ _ _ _))).symm
      rw [← e9] at hP hD
      clear e9
      have hP : va_P (dC, dI) vwCl (WR a k h0 (fT (fT (fT (fT vi 21 s244) 22 p244) 82 sp244) 89 (nI (fr + 1))) vj (fT (fT vF 53 (upd (upd (vF 53) ((nI fN)).toNatClampNeg (nI (sN + 1))) (nI fr).toNatClampNeg 0)) 52 (upd (vF 52) (nI fr).toNatClampNeg (nI dN))) vG) H := hP
      have hD : va_D A (WR a k h0 (fT (fT (fT (fT vi 21 s244) 22 p244) 82 sp244) 89 (nI (fr + 1))) vj (fT (fT vF 53 (upd (upd (vF 53) ((nI fN)).toNatClampNeg (nI (sN + 1))) (nI fr).toNatClampNeg 0)) 52 (upd (vF 52) (nI fr).toNatClampNeg (nI dN))) vG) := hD
      refine lv_goto (tgt := 176) hx hb dX12_workPair_57 (by decide) ?_
      refine W.widen (k := 0) (n := 0) (by decide +kernel) (by decide +kernel) ?_
      have e9 : fT (fT (fT (fT (fT vi 21 s244) 22 p244) 81 (nI pN)) 89 (nI (fr + 1))) 82 sp244 = fT (fT (fT (fT vi 21 s244) 22 p244) 82 sp244) 89 (nI (fr + 1)) := by funext q9; by_cases h9_21 : q9 = 21; (subst h9_21; exact ((fT_ne _ _ (Nat.ne_of_beq_eq_false rfl)).trans ((fT_ne _ _ (Nat.ne_of_beq_eq_false rfl)).trans ((fT_ne _ _ (Nat.ne_of_beq_eq_false rfl)).trans ((fT_ne _ _ (Nat.ne_of_beq_eq_false rfl)).trans (fT_eq _ _ _))))).trans (Eq.trans (by first | rfl | assumption | (symm; assumption) | (subst_vars; rfl)) ((fT_ne _ _ (Nat.ne_of_beq_eq_false rfl)).trans ((fT_ne _ _ (Nat.ne_of_beq_eq_false rfl)).trans ((fT_ne _ _ (Nat.ne_of_beq_eq_false rfl)).trans (fT_eq _ _ _)))).symm)); by_cases h9_22 : q9 = 22; (subst h9_22; exact ((fT_ne _ _ (Nat.ne_of_beq_eq_false rfl)).trans ((fT_ne _ _ (Nat.ne_of_beq_eq_false rfl)).trans ((fT_ne _ _ (Nat.ne_of_beq_eq_false rfl)).trans (fT_eq _ _ _)))).trans (Eq.trans (by first | rfl | assumption | (symm; assumption) | (subst_vars; rfl)) ((fT_ne _ _ (Nat.ne_of_beq_eq_false rfl)).trans ((fT_ne _ _ (Nat.ne_of_beq_eq_false rfl)).trans (fT_eq _ _ _))).symm)); by_cases h9_81 : q9 = 81; (subst h9_81; exact ((fT_ne _ _ (Nat.ne_of_beq_eq_false rfl)).trans ((fT_ne _ _ (Nat.ne_of_beq_eq_false rfl)).trans (fT_eq _ _ _))).trans (Eq.trans (by first | rfl | assumption | (symm; assumption) | (subst_vars; rfl)) ((fT_ne _ _ (Nat.ne_of_beq_eq_false rfl)).trans ((fT_ne _ _ (Nat.ne_of_beq_eq_false rfl)).trans ((fT_ne _ _ (Nat.ne_of_beq_eq_false rfl)).trans (fT_ne _ _ (Nat.ne_of_beq_eq_false rfl))))).symm)); by_cases h9_89 : q9 = 89; (subst h9_89; exact ((fT_ne _ _ (Nat.ne_of_beq_eq_false rfl)).trans (fT_eq _ _ _)).trans (Eq.trans (by first | rfl | assumption | (symm; assumption) | (subst_vars; rfl)) (fT_eq _ _ _).symm)); by_cases h9_82 : q9 = 82; (subst h9_82; exact (fT_eq _ _ _).trans (Eq.trans (by first | rfl | assumption | (symm; assumption) | (subst_vars; rfl)) ((fT_ne _ _ (Nat.ne_of_beq_eq_false rfl)).trans (fT_eq _ _ _)).symm)); exact ((fT_ne _ _ h9_82).trans ((fT_ne _ _ h9_89).trans ((fT_ne _ _ h9_81).trans ((fT_ne _ _ h9_22).trans (fT_ne _ _ h9_21))))).trans ((fT_ne _ _ h9_89).trans ((fT_ne _ _ h9_82).trans ((fT_ne _ _ h9_22).trans (fT_ne _ _ h9_21)))).symm
      have hP : va_P (dC, dI) vwCl (WR a k h0 (fT (fT (fT (fT (fT vi 21 s244) 22 p244) 81 (nI pN)) 89 (nI (fr + 1))) 82 sp244) vj (fT (fT vF 53 (upd (upd (vF 53) ((nI fN)).toNatClampNeg (nI (sN + 1))) (nI fr).toNatClampNeg 0)) 52 (upd (vF 52) (nI fr).toNatClampNeg (nI dN))) vG) H := by rw [e9]; exact hP
      have hD : va_D A (WR a k h0 (fT (fT (fT (fT (fT vi 21 s244) 22 p244) 81 (nI pN)) 89 (nI (fr + 1))) 82 sp244) vj (fT (fT vF 53 (upd (upd (vF 53) ((nI fN)).toNatClampNeg (nI (sN + 1))) (nI fr).toNatClampNeg 0)) 52 (upd (vF 52) (nI fr).toNatClampNeg (nI dN))) vG) := by rw [e9]; exact hD
      clear e9
      have e9 : fT (fT (fT (fT vF 53 (upd (upd (vF 53) ((nI fN)).toNatClampNeg (nI (sN + 1))) (nI fr).toNatClampNeg 0)) 49 (vF 49)) 50 (vF 50)) 52 (upd (vF 52) (nI fr).toNatClampNeg (nI dN)) = fT (fT vF 53 (upd (upd (vF 53) ((nI fN)).toNatClampNeg (nI (sN + 1))) (nI fr).toNatClampNeg 0)) 52 (upd (vF 52) (nI fr).toNatClampNeg (nI dN)) := by funext q9; by_cases h9_53 : q9 = 53; (subst h9_53; exact ((fT_ne _ _ (Nat.ne_of_beq_eq_false rfl)).trans ((fT_ne _ _ (Nat.ne_of_beq_eq_false rfl)).trans ((fT_ne _ _ (Nat.ne_of_beq_eq_false rfl)).trans (fT_eq _ _ _)))).trans (Eq.trans (by first | rfl | assumption | (symm; assumption) | (subst_vars; rfl)) ((fT_ne _ _ (Nat.ne_of_beq_eq_false rfl)).trans (fT_eq _ _ _)).symm)); by_cases h9_49 : q9 = 49; (subst h9_49; exact ((fT_ne _ _ (Nat.ne_of_beq_eq_false rfl)).trans ((fT_ne _ _ (Nat.ne_of_beq_eq_false rfl)).trans (fT_eq _ _ _))).trans (Eq.trans (by first | rfl | assumption | (symm; assumption) | (subst_vars; rfl)) ((fT_ne _ _ (Nat.ne_of_beq_eq_false rfl)).trans (fT_ne _ _ (Nat.ne_of_beq_eq_false rfl))).symm)); by_cases h9_50 : q9 = 50; (subst h9_50; exact ((fT_ne _ _ (Nat.ne_of_beq_eq_false rfl)).trans (fT_eq _ _ _)).trans (Eq.trans (by first | rfl | assumption | (symm; assumption) | (subst_vars; rfl)) ((fT_ne _ _ (Nat.ne_of_beq_eq_false rfl)).trans (fT_ne _ _ (Nat.ne_of_beq_eq_false rfl))).symm)); by_cases h9_52 : q9 = 52; (subst h9_52; exact (fT_eq _ _ _).trans (Eq.trans (by first | rfl | assumption | (symm; assumption) | (subst_vars; rfl)) (fT_eq _ _ _).symm)); exact ((fT_ne _ _ h9_52).trans ((fT_ne _ _ h9_50).trans ((fT_ne _ _ h9_49).trans (fT_ne _ _ h9_53)))).trans ((fT_ne _ _ h9_52).trans (fT_ne _ _ h9_53)).symm
      have hP : va_P (dC, dI) vwCl (WR a k h0 (fT (fT (fT (fT (fT vi 21 s244) 22 p244) 81 (nI pN)) 89 (nI (fr + 1))) 82 sp244) vj (fT (fT (fT (fT vF 53 (upd (upd (vF 53) ((nI fN)).toNatClampNeg (nI (sN + 1))) (nI fr).toNatClampNeg 0)) 49 (vF 49)) 50 (vF 50)) 52 (upd (vF 52) (nI fr).toNatClampNeg (nI dN))) vG) H := by rw [e9]; exact hP
      have hD : va_D A (WR a k h0 (fT (fT (fT (fT (fT vi 21 s244) 22 p244) 81 (nI pN)) 89 (nI (fr + 1))) 82 sp244) vj (fT (fT (fT (fT vF 53 (upd (upd (vF 53) ((nI fN)).toNatClampNeg (nI (sN + 1))) (nI fr).toNatClampNeg 0)) 49 (vF 49)) 50 (vF 50)) 52 (upd (vF 52) (nI fr).toNatClampNeg (nI dN))) vG) := by rw [e9]; exact hD
      clear e9
      exact W.vret hx hb hr (fun t9_ ht hW => ⟨⟨((vF 49), (vF 50), (upd (vF 52) (nI fr).toNatClampNeg (nI dN)), (upd (upd (vF 53) ((nI fN)).toNatClampNeg (nI (sN + 1))) (nI fr).toNatClampNeg 0), (fr + 1), pN, s244, p244, sp244), rfl, by (try dsimp only); exact ⟨fun v9 h9 => hRw v9 h9, f44_0, f44_1, by (obtain rfl : sN = 1 := by omega); (obtain rfl : pN = hN + 1 := by omega); exact StpO.push 2 la 1 hfN hfr1 (fun _ _ => rfl) (fun h9 => absurd h9 (by omega)) hdT.2.1 hdT.2.2.1 (by omega) (WtO.p2 hkk hdT.2.2.2.2 (Nat.le_refl _)) (by omega)⟩, by rw [ht]; exact hP, hD⟩, hS.F ht⟩) hS.2.2 dX12_workPair_176
  · have t_17 : (((sN + 1) : Nat) : Int) = 1 := toI_nne c_17 (nI_toInt (by omega)) (by decide)
    refine lv_aload_n hx hb dX12_workPair_20 rfl (lv_at hl 0 rfl) ?_
    refine lv_aload_n hx hb dX12_workPair_21 rfl (lv_at hl 0 rfl) ?_
    refine va_get (D := (dC, dI)) (ci := 12) (v := .ref (a 30)) (C := RX12) (T := TX12) (N := 163) (fs := fM (vS a vi vj)) hx hb hts iwsRX12_workPair_in12 hown hK hP 0 rfl rfl 54 (by decide) (hts (.fieldLink RX12 113 "OptimaWorksModel" "partA" "[I") (by decide +kernel)) (fun _ h9 => h9) rfl dX12_workPair_22 ?_
    refine lv_iload_n hx hb dX12_workPair_25 rfl (lv_at hl 2 rfl) ?_
    refine va_iald (cA := k 30) (n := 4200) (f := (vF 30)) hx hb hK hP 31 30 (WR_get 30 (by decide)) (TR_get 30 (by decide)) (vp_in_nI (show nN < 4200 by omega) (by omega)) dX12_workPair_26 ?_
    refine lv_topi (fun y39 hy39 => ?_)
    obtain rfl : ((vF 30) nN) = y39 := (hy39.trans (by rw [nI_clamp (by omega)])).symm
    refine lv_topi (fun y40 hy40 => ?_)
    obtain rfl : (nI cN) = y40 := (hy40.trans (hcN)).symm
    have hFc := allFree hD hS hA
    refine va_callv (va_runV (As := [.int (nI cN)]) (rest := []) ⟨hx, hb, hml, hown, hts⟩ (r_X12_call l dC dI a k h0 vi vj (fT vF 53 (upd (vF 53) ((nI fN)).toNatClampNeg (nI (sN + 1)))) vG (nI cN) fr hfr9 (by first | assumption | decide | omega | rfl) H.size) (cwV 1 hts gwsRX12_workPair_3 rfl rfl rfl hd_yX12_call_RX12 (by decide +kernel)) (fz_pre (va_recv hK hP (ci := 12) (q0 := 0) rfl rfl) hP hK hD) rfl rfl hl.1 rfl (lv_room (Nat.le_of_ble_eq_true rfl)) dX12_workPair_27 (by decide +kernel)) hS (fun q _ h => hFc q h) hFc (fun u t9_ H locs ht hvm hw9 hB9 hz1 hk1 hS => ?_)
    have hP : va_P (dC, dI) vwCl (WR a k h0 (fT vi 89 (nI (fr + 1))) vj (fT (fT (fT vF 53 (upd (vF 53) ((nI fN)).toNatClampNeg (nI (sN + 1)))) 52 (upd (vF 52) (nI fr).toNatClampNeg (nI cN))) 53 (upd (upd (vF 53) ((nI fN)).toNatClampNeg (nI (sN + 1))) (nI fr).toNatClampNeg 0)) vG) H := fz_P ht hB9.1
    have hD : va_D A (WR a k h0 (fT vi 89 (nI (fr + 1))) vj (fT (fT (fT vF 53 (upd (vF 53) ((nI fN)).toNatClampNeg (nI (sN + 1)))) 52 (upd (vF 52) (nI fr).toNatClampNeg (nI cN))) 53 (upd (upd (vF 53) ((nI fN)).toNatClampNeg (nI (sN + 1))) (nI fr).toNatClampNeg 0)) vG) := hB9.2.weaken (fun _ q _ h => hFc q.1 h)
    have e9 : fT (fT vF 53 (upd (upd (vF 53) ((nI fN)).toNatClampNeg (nI (sN + 1))) (nI fr).toNatClampNeg 0)) 52 (upd (vF 52) (nI fr).toNatClampNeg (nI cN)) = fT (fT (fT vF 53 (upd (vF 53) ((nI fN)).toNatClampNeg (nI (sN + 1)))) 52 (upd (vF 52) (nI fr).toNatClampNeg (nI cN))) 53 (upd (upd (vF 53) ((nI fN)).toNatClampNeg (nI (sN + 1))) (nI fr).toNatClampNeg 0) := ((fT_sw _ _ _ (Nat.ne_of_beq_eq_false rfl)).trans (congrArg (fun g9 => fT g9 52 (upd (vF 52) (nI fr).toNatClampNeg (nI cN))) (fT_sm _ _ _ _))).symm
    rw [← e9] at hP hD
    clear e9
    have hP : va_P (dC, dI) vwCl (WR a k h0 (fT vi 89 (nI (fr + 1))) vj (fT (fT vF 53 (upd (upd (vF 53) ((nI fN)).toNatClampNeg (nI (sN + 1))) (nI fr).toNatClampNeg 0)) 52 (upd (vF 52) (nI fr).toNatClampNeg (nI cN))) vG) H := hP
    have hD : va_D A (WR a k h0 (fT vi 89 (nI (fr + 1))) vj (fT (fT vF 53 (upd (upd (vF 53) ((nI fN)).toNatClampNeg (nI (sN + 1))) (nI fr).toNatClampNeg 0)) 52 (upd (vF 52) (nI fr).toNatClampNeg (nI cN))) vG) := hD
    refine lv_goto (tgt := 176) hx hb dX12_workPair_30 (by decide) ?_
    refine W.widen (k := 0) (n := 0) (by decide +kernel) (by decide +kernel) ?_
    have e9 : fT (fT (fT (fT (fT vi 21 (vi 21)) 22 (vi 22)) 81 (nI pN)) 89 (nI (fr + 1))) 82 (vi 82) = fT vi 89 (nI (fr + 1)) := by funext q9; by_cases h9_21 : q9 = 21; (subst h9_21; exact ((fT_ne _ _ (Nat.ne_of_beq_eq_false rfl)).trans ((fT_ne _ _ (Nat.ne_of_beq_eq_false rfl)).trans ((fT_ne _ _ (Nat.ne_of_beq_eq_false rfl)).trans ((fT_ne _ _ (Nat.ne_of_beq_eq_false rfl)).trans (fT_eq _ _ _))))).trans (Eq.trans (by first | rfl | assumption | (symm; assumption) | (subst_vars; rfl)) (fT_ne _ _ (Nat.ne_of_beq_eq_false rfl)).symm)); by_cases h9_22 : q9 = 22; (subst h9_22; exact ((fT_ne _ _ (Nat.ne_of_beq_eq_false rfl)).trans ((fT_ne _ _ (Nat.ne_of_beq_eq_false rfl)).trans ((fT_ne _ _ (Nat.ne_of_beq_eq_false rfl)).trans (fT_eq _ _ _)))).trans (Eq.trans (by first | rfl | assumption | (symm; assumption) | (subst_vars; rfl)) (fT_ne _ _ (Nat.ne_of_beq_eq_false rfl)).symm)); by_cases h9_81 : q9 = 81; (subst h9_81; exact ((fT_ne _ _ (Nat.ne_of_beq_eq_false rfl)).trans ((fT_ne _ _ (Nat.ne_of_beq_eq_false rfl)).trans (fT_eq _ _ _))).trans (Eq.trans (by first | rfl | assumption | (symm; assumption) | (subst_vars; rfl)) (fT_ne _ _ (Nat.ne_of_beq_eq_false rfl)).symm)); by_cases h9_89 : q9 = 89; (subst h9_89; exact ((fT_ne _ _ (Nat.ne_of_beq_eq_false rfl)).trans (fT_eq _ _ _)).trans (Eq.trans (by first | rfl | assumption | (symm; assumption) | (subst_vars; rfl)) (fT_eq _ _ _).symm)); by_cases h9_82 : q9 = 82; (subst h9_82; exact (fT_eq _ _ _).trans (Eq.trans (by first | rfl | assumption | (symm; assumption) | (subst_vars; rfl)) (fT_ne _ _ (Nat.ne_of_beq_eq_false rfl)).symm)); exact ((fT_ne _ _ h9_82).trans ((fT_ne _ _ h9_89).trans ((fT_ne _ _ h9_81).trans ((fT_ne _ _ h9_22).trans (fT_ne _ _ h9_21))))).trans (fT_ne _ _ h9_89).symm
    have hP : va_P (dC, dI) vwCl (WR a k h0 (fT (fT (fT (fT (fT vi 21 (vi 21)) 22 (vi 22)) 81 (nI pN)) 89 (nI (fr + 1))) 82 (vi 82)) vj (fT (fT vF 53 (upd (upd (vF 53) ((nI fN)).toNatClampNeg (nI (sN + 1))) (nI fr).toNatClampNeg 0)) 52 (upd (vF 52) (nI fr).toNatClampNeg (nI cN))) vG) H := by rw [e9]; exact hP
    have hD : va_D A (WR a k h0 (fT (fT (fT (fT (fT vi 21 (vi 21)) 22 (vi 22)) 81 (nI pN)) 89 (nI (fr + 1))) 82 (vi 82)) vj (fT (fT vF 53 (upd (upd (vF 53) ((nI fN)).toNatClampNeg (nI (sN + 1))) (nI fr).toNatClampNeg 0)) 52 (upd (vF 52) (nI fr).toNatClampNeg (nI cN))) vG) := by rw [e9]; exact hD
    clear e9
    have e9 : fT (fT (fT (fT vF 53 (upd (upd (vF 53) ((nI fN)).toNatClampNeg (nI (sN + 1))) (nI fr).toNatClampNeg 0)) 49 (vF 49)) 50 (vF 50)) 52 (upd (vF 52) (nI fr).toNatClampNeg (nI cN)) = fT (fT vF 53 (upd (upd (vF 53) ((nI fN)).toNatClampNeg (nI (sN + 1))) (nI fr).toNatClampNeg 0)) 52 (upd (vF 52) (nI fr).toNatClampNeg (nI cN)) := by funext q9; by_cases h9_53 : q9 = 53; (subst h9_53; exact ((fT_ne _ _ (Nat.ne_of_beq_eq_false rfl)).trans ((fT_ne _ _ (Nat.ne_of_beq_eq_false rfl)).trans ((fT_ne _ _ (Nat.ne_of_beq_eq_false rfl)).trans (fT_eq _ _ _)))).trans (Eq.trans (by first | rfl | assumption | (symm; assumption) | (subst_vars; rfl)) ((fT_ne _ _ (Nat.ne_of_beq_eq_false rfl)).trans (fT_eq _ _ _)).symm)); by_cases h9_49 : q9 = 49; (subst h9_49; exact ((fT_ne _ _ (Nat.ne_of_beq_eq_false rfl)).trans ((fT_ne _ _ (Nat.ne_of_beq_eq_false rfl)).trans (fT_eq _ _ _))).trans (Eq.trans (by first | rfl | assumption | (symm; assumption) | (subst_vars; rfl)) ((fT_ne _ _ (Nat.ne_of_beq_eq_false rfl)).trans (fT_ne _ _ (Nat.ne_of_beq_eq_false rfl))).symm)); by_cases h9_50 : q9 = 50; (subst h9_50; exact ((fT_ne _ _ (Nat.ne_of_beq_eq_false rfl)).trans (fT_eq _ _ _)).trans (Eq.trans (by first | rfl | assumption | (symm; assumption) | (subst_vars; rfl)) ((fT_ne _ _ (Nat.ne_of_beq_eq_false rfl)).trans (fT_ne _ _ (Nat.ne_of_beq_eq_false rfl))).symm)); by_cases h9_52 : q9 = 52; (subst h9_52; exact (fT_eq _ _ _).trans (Eq.trans (by first | rfl | assumption | (symm; assumption) | (subst_vars; rfl)) (fT_eq _ _ _).symm)); exact ((fT_ne _ _ h9_52).trans ((fT_ne _ _ h9_50).trans ((fT_ne _ _ h9_49).trans (fT_ne _ _ h9_53)))).trans ((fT_ne _ _ h9_52).trans (fT_ne _ _ h9_53)).symm
    have hP : va_P (dC, dI) vwCl (WR a k h0 (fT (fT (fT (fT (fT vi 21 (vi 21)) 22 (vi 22)) 81 (nI pN)) 89 (nI (fr + 1))) 82 (vi 82)) vj (fT (fT (fT (fT vF 53 (upd (upd (vF 53) ((nI fN)).toNatClampNeg (nI (sN + 1))) (nI fr).toNatClampNeg 0)) 49 (vF 49)) 50 (vF 50)) 52 (upd (vF 52) (nI fr).toNatClampNeg (nI cN))) vG) H := by rw [e9]; exact hP
    have hD : va_D A (WR a k h0 (fT (fT (fT (fT (fT vi 21 (vi 21)) 22 (vi 22)) 81 (nI pN)) 89 (nI (fr + 1))) 82 (vi 82)) vj (fT (fT (fT (fT vF 53 (upd (upd (vF 53) ((nI fN)).toNatClampNeg (nI (sN + 1))) (nI fr).toNatClampNeg 0)) 49 (vF 49)) 50 (vF 50)) 52 (upd (vF 52) (nI fr).toNatClampNeg (nI cN))) vG) := by rw [e9]; exact hD
    clear e9
    exact W.vret hx hb hr (fun t9_ ht hW => ⟨⟨((vF 49), (vF 50), (upd (vF 52) (nI fr).toNatClampNeg (nI cN)), (upd (upd (vF 53) ((nI fN)).toNatClampNeg (nI (sN + 1))) (nI fr).toNatClampNeg 0), (fr + 1), pN, (vi 21), (vi 22), (vi 82)), rfl, by (try dsimp only); exact ⟨fun v9 h9 => hRw v9 h9, hst0, Or.inl rfl, by (obtain rfl : sN = 0 := by omega); (obtain rfl : pN = hN := by omega); exact StpO.push 1 la (wt dN + 2) hfN hfr1 (fun _ _ => rfl) (fun h9 => absurd h9 (by omega)) hcT.2.1 hcT.2.2.1 (by omega) (WtO.p1 hkk hcT.2.2.2.2 hdT (Nat.le_refl _)) (by omega)⟩, by rw [ht]; exact hP, hD⟩, hS.F ht⟩) hS.2.2 dX12_workPair_176

section
theorem hd_yX12_join_RX12 : yX12_join.cls = RX12 ∧ yX12_join.cls ≠ "java/lang/invoke/MethodHandle" ∧ yX12_join.cls ≠ "java/lang/invoke/VarHandle" ∧ (parseMethodDescriptor yX12_join.desc).map (fun d => d.parameters.length) = some 4 := by decide +kernel
theorem hd_yX12_scale_RX12 : yX12_scale.cls = RX12 ∧ yX12_scale.cls ≠ "java/lang/invoke/MethodHandle" ∧ yX12_scale.cls ≠ "java/lang/invoke/VarHandle" ∧ (parseMethodDescriptor yX12_scale.desc).map (fun d => d.parameters.length) = some 4 := by decide +kernel
theorem hd_yX12_stepOne_RX12 : yX12_stepOne.cls = RX12 ∧ yX12_stepOne.cls ≠ "java/lang/invoke/MethodHandle" ∧ yX12_stepOne.cls ≠ "java/lang/invoke/VarHandle" ∧ (parseMethodDescriptor yX12_stepOne.desc).map (fun d => d.parameters.length) = some 0 := by decide +kernel
theorem dX12_workPair_0 : decode cX12_workPair 0 = .ok (.aload_n 0, 1) := dk_42 (by decide +kernel)
theorem dX12_workPair_1 : decode cX12_workPair 1 = .ok (.getfield 182, 3) := dk_180 (by decide +kernel)
theorem dX12_workPair_4 : decode cX12_workPair 4 = .ok (.iload_n 1, 1) := dk_27 (by decide +kernel)
theorem dX12_workPair_5 : decode cX12_workPair 5 = .ok (.dup2, 1) := dk_92 (by decide +kernel)
theorem dX12_workPair_6 : decode cX12_workPair 6 = .ok (.iaload, 1) := dk_46 (by decide +kernel)
theorem dX12_workPair_7 : decode cX12_workPair 7 = .ok (.iconst 1, 1) := dk_4 (by decide +kernel)
theorem dX12_workPair_8 : decode cX12_workPair 8 = .ok (.iadd, 1) := dk_96 (by decide +kernel)
theorem dX12_workPair_9 : decode cX12_workPair 9 = .ok (.iastore, 1) := dk_79 (by decide +kernel)
theorem dX12_workPair_10 : decode cX12_workPair 10 = .ok (.aload_n 0, 1) := dk_42 (by decide +kernel)
theorem dX12_workPair_11 : decode cX12_workPair 11 = .ok (.getfield 182, 3) := dk_180 (by decide +kernel)
theorem dX12_workPair_14 : decode cX12_workPair 14 = .ok (.iload_n 1, 1) := dk_27 (by decide +kernel)
theorem dX12_workPair_15 : decode cX12_workPair 15 = .ok (.iaload, 1) := dk_46 (by decide +kernel)
theorem dX12_workPair_16 : decode cX12_workPair 16 = .ok (.iconst 1, 1) := dk_4 (by decide +kernel)
theorem dX12_workPair_17 : decode cX12_workPair 17 = .ok (.if_icmp .ne 16, 3) := dk_160 (by decide +kernel)
theorem dX12_workPair_20 : decode cX12_workPair 20 = .ok (.aload_n 0, 1) := dk_42 (by decide +kernel)
theorem dX12_workPair_21 : decode cX12_workPair 21 = .ok (.aload_n 0, 1) := dk_42 (by decide +kernel)
theorem dX12_workPair_22 : decode cX12_workPair 22 = .ok (.getfield 113, 3) := dk_180 (by decide +kernel)
theorem dX12_workPair_25 : decode cX12_workPair 25 = .ok (.iload_n 2, 1) := dk_28 (by decide +kernel)
theorem dX12_workPair_26 : decode cX12_workPair 26 = .ok (.iaload, 1) := dk_46 (by decide +kernel)
theorem dX12_workPair_27 : decode cX12_workPair 27 = .ok (.invokevirtual 650, 3) := dk_182 (by decide +kernel)
theorem dX12_workPair_30 : decode cX12_workPair 30 = .ok (.goto 146, 3) := dk_167 (by decide +kernel)
theorem dX12_workPair_33 : decode cX12_workPair 33 = .ok (.aload_n 0, 1) := dk_42 (by decide +kernel)
theorem dX12_workPair_34 : decode cX12_workPair 34 = .ok (.getfield 182, 3) := dk_180 (by decide +kernel)
theorem dX12_workPair_37 : decode cX12_workPair 37 = .ok (.iload_n 1, 1) := dk_27 (by decide +kernel)
theorem dX12_workPair_38 : decode cX12_workPair 38 = .ok (.iaload, 1) := dk_46 (by decide +kernel)
theorem dX12_workPair_39 : decode cX12_workPair 39 = .ok (.iconst 2, 1) := dk_5 (by decide +kernel)
theorem dX12_workPair_40 : decode cX12_workPair 40 = .ok (.if_icmp .ne 20, 3) := dk_160 (by decide +kernel)
theorem dX12_workPair_43 : decode cX12_workPair 43 = .ok (.aload_n 0, 1) := dk_42 (by decide +kernel)
theorem dX12_workPair_44 : decode cX12_workPair 44 = .ok (.invokevirtual 656, 3) := dk_182 (by decide +kernel)
theorem dX12_workPair_47 : decode cX12_workPair 47 = .ok (.aload_n 0, 1) := dk_42 (by decide +kernel)
theorem dX12_workPair_48 : decode cX12_workPair 48 = .ok (.aload_n 0, 1) := dk_42 (by decide +kernel)
theorem dX12_workPair_49 : decode cX12_workPair 49 = .ok (.getfield 116, 3) := dk_180 (by decide +kernel)
theorem dX12_workPair_52 : decode cX12_workPair 52 = .ok (.iload_n 2, 1) := dk_28 (by decide +kernel)
theorem dX12_workPair_53 : decode cX12_workPair 53 = .ok (.iaload, 1) := dk_46 (by decide +kernel)
theorem dX12_workPair_54 : decode cX12_workPair 54 = .ok (.invokevirtual 650, 3) := dk_182 (by decide +kernel)
theorem dX12_workPair_57 : decode cX12_workPair 57 = .ok (.goto 119, 3) := dk_167 (by decide +kernel)
theorem dX12_workPair_60 : decode cX12_workPair 60 = .ok (.aload_n 0, 1) := dk_42 (by decide +kernel)
theorem dX12_workPair_61 : decode cX12_workPair 61 = .ok (.getfield 659, 3) := dk_180 (by decide +kernel)
theorem dX12_workPair_64 : decode cX12_workPair 64 = .ok (.iconst 2, 1) := dk_5 (by decide +kernel)
theorem dX12_workPair_65 : decode cX12_workPair 65 = .ok (.isub, 1) := dk_100 (by decide +kernel)
theorem dX12_workPair_66 : decode cX12_workPair 66 = .ok (.istore_n 3, 1) := dk_62 (by decide +kernel)
theorem dX12_workPair_67 : decode cX12_workPair 67 = .ok (.aload_n 0, 1) := dk_42 (by decide +kernel)
theorem dX12_workPair_68 : decode cX12_workPair 68 = .ok (.getfield 659, 3) := dk_180 (by decide +kernel)
theorem dX12_workPair_71 : decode cX12_workPair 71 = .ok (.iconst 1, 1) := dk_4 (by decide +kernel)
theorem dX12_workPair_72 : decode cX12_workPair 72 = .ok (.isub, 1) := dk_100 (by decide +kernel)
theorem dX12_workPair_73 : decode cX12_workPair 73 = .ok (.istore 4, 2) := dk_54 (by decide +kernel)
theorem dX12_workPair_75 : decode cX12_workPair 75 = .ok (.aload_n 0, 1) := dk_42 (by decide +kernel)
theorem dX12_workPair_76 : decode cX12_workPair 76 = .ok (.getfield 110, 3) := dk_180 (by decide +kernel)
theorem dX12_workPair_79 : decode cX12_workPair 79 = .ok (.iload_n 2, 1) := dk_28 (by decide +kernel)
theorem dX12_workPair_80 : decode cX12_workPair 80 = .ok (.iaload, 1) := dk_46 (by decide +kernel)
theorem dX12_workPair_81 : decode cX12_workPair 81 = .ok (.iconst 5, 1) := dk_8 (by decide +kernel)
theorem dX12_workPair_82 : decode cX12_workPair 82 = .ok (.if_icmp .eq 14, 3) := dk_159 (by decide +kernel)
theorem dX12_workPair_85 : decode cX12_workPair 85 = .ok (.aload_n 0, 1) := dk_42 (by decide +kernel)
theorem dX12_workPair_86 : decode cX12_workPair 86 = .ok (.getfield 110, 3) := dk_180 (by decide +kernel)
theorem dX12_workPair_89 : decode cX12_workPair 89 = .ok (.iload_n 2, 1) := dk_28 (by decide +kernel)
theorem dX12_workPair_90 : decode cX12_workPair 90 = .ok (.iaload, 1) := dk_46 (by decide +kernel)
theorem dX12_workPair_91 : decode cX12_workPair 91 = .ok (.bipush 6, 2) := dk_16 (by decide +kernel)
theorem dX12_workPair_93 : decode cX12_workPair 93 = .ok (.if_icmp .ne 34, 3) := dk_160 (by decide +kernel)
theorem dX12_workPair_96 : decode cX12_workPair 96 = .ok (.aload_n 0, 1) := dk_42 (by decide +kernel)
theorem dX12_workPair_97 : decode cX12_workPair 97 = .ok (.iload_n 3, 1) := dk_29 (by decide +kernel)
theorem dX12_workPair_98 : decode cX12_workPair 98 = .ok (.iload 4, 2) := dk_21 (by decide +kernel)
theorem dX12_workPair_100 : decode cX12_workPair 100 = .ok (.aload_n 0, 1) := dk_42 (by decide +kernel)
theorem dX12_workPair_101 : decode cX12_workPair 101 = .ok (.getfield 110, 3) := dk_180 (by decide +kernel)
theorem dX12_workPair_104 : decode cX12_workPair 104 = .ok (.iload_n 2, 1) := dk_28 (by decide +kernel)
theorem dX12_workPair_105 : decode cX12_workPair 105 = .ok (.iaload, 1) := dk_46 (by decide +kernel)
theorem dX12_workPair_106 : decode cX12_workPair 106 = .ok (.iconst 5, 1) := dk_8 (by decide +kernel)
theorem dX12_workPair_107 : decode cX12_workPair 107 = .ok (.if_icmp .ne 7, 3) := dk_160 (by decide +kernel)
theorem dX12_workPair_110 : decode cX12_workPair 110 = .ok (.iconst 1, 1) := dk_4 (by decide +kernel)
theorem dX12_workPair_111 : decode cX12_workPair 111 = .ok (.goto 4, 3) := dk_167 (by decide +kernel)
theorem dX12_workPair_114 : decode cX12_workPair 114 = .ok (.iconst (-1), 1) := dk_2 (by decide +kernel)
theorem dX12_workPair_115 : decode cX12_workPair 115 = .ok (.aload_n 0, 1) := dk_42 (by decide +kernel)
theorem dX12_workPair_116 : decode cX12_workPair 116 = .ok (.getfield 122, 3) := dk_180 (by decide +kernel)
theorem dX12_workPair_119 : decode cX12_workPair 119 = .ok (.iload_n 2, 1) := dk_28 (by decide +kernel)
theorem dX12_workPair_120 : decode cX12_workPair 120 = .ok (.iaload, 1) := dk_46 (by decide +kernel)
theorem dX12_workPair_121 : decode cX12_workPair 121 = .ok (.invokevirtual 683, 3) := dk_182 (by decide +kernel)
theorem dX12_workPair_124 : decode cX12_workPair 124 = .ok (.goto 32, 3) := dk_167 (by decide +kernel)
theorem dX12_workPair_127 : decode cX12_workPair 127 = .ok (.aload_n 0, 1) := dk_42 (by decide +kernel)
theorem dX12_workPair_128 : decode cX12_workPair 128 = .ok (.iload_n 3, 1) := dk_29 (by decide +kernel)
theorem dX12_workPair_129 : decode cX12_workPair 129 = .ok (.iload 4, 2) := dk_21 (by decide +kernel)
theorem dX12_workPair_131 : decode cX12_workPair 131 = .ok (.aload_n 0, 1) := dk_42 (by decide +kernel)
theorem dX12_workPair_132 : decode cX12_workPair 132 = .ok (.getfield 110, 3) := dk_180 (by decide +kernel)
theorem dX12_workPair_135 : decode cX12_workPair 135 = .ok (.iload_n 2, 1) := dk_28 (by decide +kernel)
theorem dX12_workPair_136 : decode cX12_workPair 136 = .ok (.iaload, 1) := dk_46 (by decide +kernel)
theorem dX12_workPair_137 : decode cX12_workPair 137 = .ok (.bipush 8, 2) := dk_16 (by decide +kernel)
theorem dX12_workPair_139 : decode cX12_workPair 139 = .ok (.if_icmp .ne 7, 3) := dk_160 (by decide +kernel)
theorem dX12_workPair_142 : decode cX12_workPair 142 = .ok (.iconst 1, 1) := dk_4 (by decide +kernel)
theorem dX12_workPair_143 : decode cX12_workPair 143 = .ok (.goto 4, 3) := dk_167 (by decide +kernel)
theorem dX12_workPair_146 : decode cX12_workPair 146 = .ok (.iconst 0, 1) := dk_3 (by decide +kernel)
theorem dX12_workPair_147 : decode cX12_workPair 147 = .ok (.aload_n 0, 1) := dk_42 (by decide +kernel)
theorem dX12_workPair_148 : decode cX12_workPair 148 = .ok (.getfield 122, 3) := dk_180 (by decide +kernel)
theorem dX12_workPair_151 : decode cX12_workPair 151 = .ok (.iload_n 2, 1) := dk_28 (by decide +kernel)
theorem dX12_workPair_152 : decode cX12_workPair 152 = .ok (.iaload, 1) := dk_46 (by decide +kernel)
theorem dX12_workPair_153 : decode cX12_workPair 153 = .ok (.invokevirtual 686, 3) := dk_182 (by decide +kernel)
theorem dX12_workPair_156 : decode cX12_workPair 156 = .ok (.aload_n 0, 1) := dk_42 (by decide +kernel)
theorem dX12_workPair_157 : decode cX12_workPair 157 = .ok (.dup, 1) := dk_89 (by decide +kernel)
theorem dX12_workPair_158 : decode cX12_workPair 158 = .ok (.getfield 659, 3) := dk_180 (by decide +kernel)
theorem dX12_workPair_161 : decode cX12_workPair 161 = .ok (.iconst 1, 1) := dk_4 (by decide +kernel)
theorem dX12_workPair_162 : decode cX12_workPair 162 = .ok (.isub, 1) := dk_100 (by decide +kernel)
theorem dX12_workPair_163 : decode cX12_workPair 163 = .ok (.putfield 659, 3) := dk_181 (by decide +kernel)
theorem dX12_workPair_166 : decode cX12_workPair 166 = .ok (.aload_n 0, 1) := dk_42 (by decide +kernel)
theorem dX12_workPair_167 : decode cX12_workPair 167 = .ok (.dup, 1) := dk_89 (by decide +kernel)
theorem dX12_workPair_168 : decode cX12_workPair 168 = .ok (.getfield 647, 3) := dk_180 (by decide +kernel)
theorem dX12_workPair_171 : decode cX12_workPair 171 = .ok (.iconst 1, 1) := dk_4 (by decide +kernel)
theorem dX12_workPair_172 : decode cX12_workPair 172 = .ok (.isub, 1) := dk_100 (by decide +kernel)
theorem dX12_workPair_173 : decode cX12_workPair 173 = .ok (.putfield 647, 3) := dk_181 (by decide +kernel)
theorem dX12_workPair_176 : decode cX12_workPair 176 = .ok (.return_, 1) := dk_177 (by decide +kernel)
def wsRX12_workPair : List Cond := .code yX12_workPair cX12_workPair 5 none :: ([.fieldLink RX12 182 "OptimaWorksModel" "stage" "[I", .fieldLink RX12 659 "OptimaWorksModel" "piled" "I", .fieldLink RX12 110 "OptimaWorksModel" "kind" "[I", .fieldLink RX12 122 "OptimaWorksModel" "where" "[I", .fieldLink RX12 647 "OptimaWorksModel" "framed" "I", .fieldLink RX12 116 "OptimaWorksModel" "partB" "[I", .fieldLink RX12 113 "OptimaWorksModel" "partA" "[I"] ++ wsX120 ++ (wsV RX12 683 RX12 yX12_join wsRX12_join) ++ (wsV RX12 686 RX12 yX12_scale wsRX12_scale) ++ (wsV RX12 656 RX12 yX12_stepOne wsRX12_stepOne) ++ (wsV RX12 650 RX12 yX12_call wsRX12_call))
theorem iwsRX12_workPair_in12 : ∀ w ∈ wsX120, w ∈ wsRX12_workPair := fun _ h => List.mem_cons_of_mem _ (List.mem_append_left _ (List.mem_append_left _ (List.mem_append_left _ (List.mem_append_left _ (List.mem_append_right _ h)))))
theorem gwsRX12_workPair_0 : GoodIn wsRX12_workPair (wsV RX12 683 RX12 yX12_join wsRX12_join) := goodIn_sub (fun _ h => List.mem_cons_of_mem _ (List.mem_append_left _ (List.mem_append_left _ (List.mem_append_left _ (List.mem_append_right _ h))))) (gdV (by decide +kernel) gdwsRX12_join)
theorem gwsRX12_workPair_1 : GoodIn wsRX12_workPair (wsV RX12 686 RX12 yX12_scale wsRX12_scale) := goodIn_sub (fun _ h => List.mem_cons_of_mem _ (List.mem_append_left _ (List.mem_append_left _ (List.mem_append_right _ h)))) (gdV (by decide +kernel) gdwsRX12_scale)
theorem gwsRX12_workPair_2 : GoodIn wsRX12_workPair (wsV RX12 656 RX12 yX12_stepOne wsRX12_stepOne) := goodIn_sub (fun _ h => List.mem_cons_of_mem _ (List.mem_append_left _ (List.mem_append_right _ h))) (gdV (by decide +kernel) gdwsRX12_stepOne)
theorem gwsRX12_workPair_3 : GoodIn wsRX12_workPair (wsV RX12 650 RX12 yX12_call wsRX12_call) := goodIn_sub (fun _ h => List.mem_cons_of_mem _ (List.mem_append_right _ h)) (gdV (by decide +kernel) gdwsRX12_call)
theorem gdwsRX12_workPair : wsRX12_workPair.all goodWord = true := gdC rfl (gdA (gdA (gdA (gdA (gdA (by decide +kernel : ([.fieldLink RX12 182 "OptimaWorksModel" "stage" "[I", .fieldLink RX12 659 "OptimaWorksModel" "piled" "I", .fieldLink RX12 110 "OptimaWorksModel" "kind" "[I", .fieldLink RX12 122 "OptimaWorksModel" "where" "[I", .fieldLink RX12 647 "OptimaWorksModel" "framed" "I", .fieldLink RX12 116 "OptimaWorksModel" "partB" "[I", .fieldLink RX12 113 "OptimaWorksModel" "partA" "[I"] : List Cond).all goodWord = true) gdwsX120) (gdV (by decide +kernel) gdwsRX12_join)) (gdV (by decide +kernel) gdwsRX12_scale)) (gdV (by decide +kernel) gdwsRX12_stepOne)) (gdV (by decide +kernel) gdwsRX12_call))
theorem hm_r_X12_workPair_0 : (.fieldLink RX12 182 "OptimaWorksModel" "stage" "[I" : Cond) ∈ wsRX12_workPair := by decide +kernel
theorem hm_r_X12_workPair_1 : (.fieldLink RX12 659 "OptimaWorksModel" "piled" "I" : Cond) ∈ wsRX12_workPair := by decide +kernel
theorem hm_r_X12_workPair_2 : (.fieldLink RX12 110 "OptimaWorksModel" "kind" "[I" : Cond) ∈ wsRX12_workPair := by decide +kernel
theorem hm_r_X12_workPair_3 : (.fieldLink RX12 122 "OptimaWorksModel" "where" "[I" : Cond) ∈ wsRX12_workPair := by decide +kernel
theorem hm_r_X12_workPair_4 : (.fieldLink RX12 647 "OptimaWorksModel" "framed" "I" : Cond) ∈ wsRX12_workPair := by decide +kernel
set_option maxHeartbeats 4000000 in
set_option maxRecDepth 100000 in
/-- workPair(f, n) -/
theorem r_X12_workPair (l : Launch) (dC : Nat → ClassId) (dI : Nat → Nat → Nat) (a : Nat → Nat) (k : Nat → ClassId) (h0 : Nat) (vi : Nat → Int32) (vj : Nat → Int64) (vF : Nat → Nat → Int32) (vG : Nat → Nat → Int64) (nF : Nat → Nat → Int32) (V : Nat → Prop) (wt : Nat → Nat) (dp : Nat → Nat) (pd : Nat → Nat) (nN : Nat) (kN : Nat) (sN : Nat) (la : Nat) (hN : Nat) (pN : Nat) (rN : Nat) (fN : Nat) (fr : Nat) (cN : Nat) (dN : Nat) (hnN : nN < 4000) (hfN : fN < 4299) (hkN : vF 29 nN = nI kN) (hsN : vF 53 fN = nI sN) (hfr9 : vi 89 = nI fr) (hfr1 : fr = fN + 1) (hTo : TopO nF V wt dp pd nN kN sN la hN pN rN) (hcN : vF 30 nN = nI cN) (hdN : vF 31 nN = nI dN) (hcT : KidL nF V dp pd nN 30 0 cN) (hdT : KidL nF V dp pd nN 31 1 dN) (hwN : wt cN + wt dN + 3 ≤ wt nN) (hkk : (5 ≤ kN ∧ kN ≤ 8) ∨ kN = 13) (hk8 : kN ≤ 8) (hpl : vi 81 = nI pN) (hRw : ∀ v9, v9 < pN → RowU (vF 49) (vF 50) v9) (hpp : hN + pd nN ≤ 100) (hpd : 2 ≤ pd nN) (hst0 : 0 ≤ (vi 21).toInt) (sz : Nat) : Met l yX12_workPair wsRX12_workPair ({ frames := 3, cells := 0, slots := 0, locals := 94 }) (va_Pc [.ref h0, .int (nI fN), .int (nI nN)] (fun U => U.heap.size = sz ∧ va_P (dC, dI) vwCl (WR a k h0 vi vj vF vG) U.heap ∧ va_K (dC, dI) vwCl (tX12 k) U ∧ va_D (fun _ => True) (WR a k h0 vi vj vF vG))) (va_Qv (fun (u : (Nat → Int32) × (Nat → Int32) × (Nat → Int32) × (Nat → Int32) × (Nat) × (Nat) × (Int32) × (Int32) × (Int32)) => (∀ v9, v9 < (u.2.2.2.2.2.1) → RowU (u.1) (u.2.1) v9) ∧ (0 ≤ ((u.2.2.2.2.2.2.1)).toInt) ∧ ((u.2.2.2.2.2.2.1) = vi 21 ∨ 0 < ((u.2.2.2.2.2.2.1)).toInt) ∧ (StpO nF V wt dp pd nN kN fN hN rN (vF 52) (vF 53) (vF 54) (u.2.2.1) (u.2.2.2.1) (vF 54) (u.2.2.2.2.1) (u.2.2.2.2.2.1))) (fun (u : (Nat → Int32) × (Nat → Int32) × (Nat → Int32) × (Nat → Int32) × (Nat) × (Nat) × (Int32) × (Int32) × (Int32)) t => va_P (dC, dI) vwCl (WR a k h0 (fT (fT (fT (fT (fT vi 21 (u.2.2.2.2.2.2.1)) 22 (u.2.2.2.2.2.2.2.1)) 81 (nI (u.2.2.2.2.2.1))) 89 (nI (u.2.2.2.2.1))) 82 (u.2.2.2.2.2.2.2.2)) vj (fT (fT (fT (fT vF 53 (u.2.2.2.1)) 49 (u.1)) 50 (u.2.1)) 52 (u.2.2.1)) vG) t.heap ∧ va_D (va_A (WR a k h0 vi vj vF vG) sz) (WR a k h0 (fT (fT (fT (fT (fT vi 21 (u.2.2.2.2.2.2.1)) 22 (u.2.2.2.2.2.2.2.1)) 81 (nI (u.2.2.2.2.2.1))) 89 (nI (u.2.2.2.2.1))) 82 (u.2.2.2.2.2.2.2.2)) vj (fT (fT (fT (fT vF 53 (u.2.2.2.1)) 49 (u.1)) 50 (u.2.1)) 52 (u.2.2.1)) vG)) (va_A (WR a k h0 vi vj vF vG) sz)) 0 0 (va_A (WR a k h0 vi vj vF vG) sz) := by
  refine Met.ofW (cc := cX12_workPair) (maxL := 5) (ret := none) (by decide) rfl ?_
  intro p e s m args below meth c s₁ B hml hv
  obtain ⟨rfl, hsz, hP, hK, hD0⟩ := hv
  have hx := B.exec
  have hb := B.bytes
  have hr := B.returns
  have hts := atoms_spec (ws := wsRX12_workPair) B.pre
  have hown : s.vm.findClass RX12 = some m.cls := findClass_of_methodNamed B.named
  have hlocks := B.notSynchronized
  subst hsz
  have hD := hD0.self (sz := s.heap.size)
  generalize hAe : va_A (WR a k h0 vi vj vF vG) s.heap.size = A at hD ⊢
  have hA : ∀ q : Nat, s.heap.size ≤ q → A q := fun q h => by rw [← hAe]; exact Or.inr h
  have hS : va_S A s.heap s.heap [] := va_S.rf
  have hl := lv_entry ([.ref h0, .int (nI fN), .int (nI nN)]) (n := 5) (Nat.le_of_ble_eq_true rfl)
  rw [lg_entry_eq]
  generalize (lg_sl ([.ref h0, .int (nI fN), .int (nI nN)]) ++ List.replicate (5 - (lg_sl ([.ref h0, .int (nI fN), .int (nI nN)])).length) Slot.unset).toArray = ls at hl ⊢
  have hl : lv_has ls 5 [(0, .ref h0), (1, .int (nI fN)), (2, .int (nI nN))] := hl
  have hsd := hTo.pair hkk hdT
  have hq1 := hcT.2.2.2.1
  have hq2 := hdT.2.2.2.1
  refine lv_aload_n hx hb dX12_workPair_0 rfl (lv_at hl 0 rfl) ?_
  refine va_get (D := (dC, dI)) (ci := 12) (v := .ref (a 53)) (C := RX12) (T := TX12) (N := 163) (fs := fM (vS a vi vj)) hx hb hts iwsRX12_workPair_in12 hown hK hP 0 rfl rfl 86 (by decide) (hts _ hm_r_X12_workPair_0) (fun _ h9 => h9) rfl dX12_workPair_1 ?_
  refine lv_iload_n hx hb dX12_workPair_4 rfl (lv_at hl 1 rfl) ?_
  refine lv_dup2_11 hx hb dX12_workPair_5 rfl rfl ?_
  refine va_iald (cA := k 53) (n := 4300) (f := (vF 53)) hx hb hK hP 54 53 (WR_get 53 (by decide)) (TR_get 53 (by decide)) (vp_in_nI (show fN < 4300 by omega) (by omega)) dX12_workPair_6 ?_
  refine lv_topi (fun y1 hy1 => ?_)
  obtain rfl : ((vF 53) fN) = y1 := (hy1.trans (by rw [nI_clamp (by omega)])).symm
  refine lv_topi (fun y2 hy2 => ?_)
  obtain rfl : (nI sN) = y2 := (hy2.trans (hsN)).symm
  refine lv_iconst (v := 1) hx hb dX12_workPair_7 (by decide) ?_
  refine lv_iadd hx hb dX12_workPair_8 ?_
  refine lv_topi (fun y3 hy3 => ?_)
  obtain rfl : (nI (sN + 1)) = y3 := (hy3.trans (nI_add sN 1)).symm
  refine va_iast (cA := k 53) (n := 4300) (f := (vF 53)) hx hb hK hP hD hS 54 53 (WR_get 53 (by decide)) (TR_get 53 (by decide)) (vp_in_nI (show fN < 4300 by omega) (by omega)) dX12_workPair_9 (fun H locs hP hD hS => ?_)
  have hP : va_P (dC, dI) vwCl (WR a k h0 vi vj (fT vF 53 (upd (vF 53) ((nI fN)).toNatClampNeg (nI (sN + 1)))) vG) H := fz_w (WR_F 53 (by decide) _ rfl) hP
  have hD : va_D A (WR a k h0 vi vj (fT vF 53 (upd (vF 53) ((nI fN)).toNatClampNeg (nI (sN + 1)))) vG) := fz_wD (WR_F 53 (by decide) _ rfl) hD
  refine lv_aload_n hx hb dX12_workPair_10 rfl (lv_at hl 0 rfl) ?_
  refine va_get (D := (dC, dI)) (ci := 12) (v := .ref (a 53)) (C := RX12) (T := TX12) (N := 163) (fs := fM (vS a vi vj)) hx hb hts iwsRX12_workPair_in12 hown hK hP 0 rfl rfl 86 (by decide) (hts _ hm_r_X12_workPair_0) (fun _ h9 => h9) rfl dX12_workPair_11 ?_
  refine lv_iload_n hx hb dX12_workPair_14 rfl (lv_at hl 1 rfl) ?_
  refine va_iald (cA := k 53) (n := 4300) (f := (upd (vF 53) ((nI fN)).toNatClampNeg (nI (sN + 1)))) hx hb hK hP 54 53 (WR_get 53 (by decide)) (TR_get 53 (by decide)) (vp_in_nI (show fN < 4300 by omega) (by omega)) dX12_workPair_15 ?_
  refine lv_topi (fun y4 hy4 => ?_)
  obtain rfl : ((upd (vF 53) ((nI fN)).toNatClampNeg (nI (sN + 1))) fN) = y4 := (hy4.trans (by rw [nI_clamp (by omega)])).symm
  refine lv_topi (fun y5 hy5 => ?_)
  obtain rfl : (nI (sN + 1)) = y5 := (hy5.trans ((by rw [upd_at (by omega), if_pos rfl]))).symm
  refine lv_iconst (v := 1) hx hb dX12_workPair_16 (by decide) ?_
  refine lv_icmp_ne (tgt := 33) hx hb dX12_workPair_17 (by decide) (fun c_17 => ?_) (fun c_17 => ?_)
  · have t_17 : (((sN + 1) : Nat) : Int) ≠ 1 := toI_ne c_17 (nI_toInt (by omega)) (by decide)
    refine lv_aload_n hx hb dX12_workPair_33 rfl (lv_at hl 0 rfl) ?_
    refine va_get (D := (dC, dI)) (ci := 12) (v := .ref (a 53)) (C := RX12) (T := TX12) (N := 163) (fs := fM (vS a vi vj)) hx hb hts iwsRX12_workPair_in12 hown hK hP 0 rfl rfl 86 (by decide) (hts _ hm_r_X12_workPair_0) (fun _ h9 => h9) rfl dX12_workPair_34 ?_
    refine lv_iload_n hx hb dX12_workPair_37 rfl (lv_at hl 1 rfl) ?_
    refine va_iald (cA := k 53) (n := 4300) (f := (upd (vF 53) ((nI fN)).toNatClampNeg (nI (sN + 1)))) hx hb hK hP 54 53 (WR_get 53 (by decide)) (TR_get 53 (by decide)) (vp_in_nI (show fN < 4300 by omega) (by omega)) dX12_workPair_38 ?_
    refine lv_topi (fun y6 hy6 => ?_)
    obtain rfl : ((upd (vF 53) ((nI fN)).toNatClampNeg (nI (sN + 1))) fN) = y6 := (hy6.trans (by rw [nI_clamp (by omega)])).symm
    refine lv_topi (fun y7 hy7 => ?_)
    obtain rfl : (nI (sN + 1)) = y7 := (hy7.trans ((by rw [upd_at (by omega), if_pos rfl]))).symm
    refine lv_iconst (v := 2) hx hb dX12_workPair_39 (by decide) ?_
    refine lv_icmp_ne (tgt := 60) hx hb dX12_workPair_40 (by decide) (fun c_40 => ?_) (fun c_40 => ?_)
    · have t_40 : (((sN + 1) : Nat) : Int) ≠ 2 := toI_ne c_40 (nI_toInt (by omega)) (by decide)
      refine lv_aload_n hx hb dX12_workPair_60 rfl (lv_at hl 0 rfl) ?_
      refine va_get (D := (dC, dI)) (ci := 12) (v := .int (vi 81)) (C := RX12) (T := TX12) (N := 163) (fs := fM (vS a vi vj)) hx hb hts iwsRX12_workPair_in12 hown hK hP 0 rfl rfl 81 (by decide) (hts _ hm_r_X12_workPair_1) (fun _ h9 => h9) rfl dX12_workPair_61 ?_
      refine lv_topi (fun y8 hy8 => ?_)
      obtain rfl : (nI pN) = y8 := (hy8.trans (hpl)).symm
      refine lv_iconst (v := 2) hx hb dX12_workPair_64 (by decide) ?_
      refine lv_isub hx hb dX12_workPair_65 ?_
      refine lv_topi (fun y9 hy9 => ?_)
      obtain rfl : (nI (pN - 2)) = y9 := (hy9.trans (pk_sub (a := pN) (b := 2) (by omega))).symm
      refine lv_istore_n hx hb dX12_workPair_66 rfl hl (by decide) rfl (fun ls (hl : lv_has ls _ ([(3, .int (nI (pN - 2))), (0, .ref h0), (1, .int (nI fN)), (2, .int (nI nN))])) => ?_)
      refine lv_aload_n hx hb dX12_workPair_67 rfl (lv_at hl 1 rfl) ?_
      refine va_get (D := (dC, dI)) (ci := 12) (v := .int (vi 81)) (C := RX12) (T := TX12) (N := 163) (fs := fM (vS a vi vj)) hx hb hts iwsRX12_workPair_in12 hown hK hP 0 rfl rfl 81 (by decide) (hts _ hm_r_X12_workPair_1) (fun _ h9 => h9) rfl dX12_workPair_68 ?_
      refine lv_topi (fun y10 hy10 => ?_)
      obtain rfl : (nI pN) = y10 := (hy10.trans (hpl)).symm
      refine lv_iconst (v := 1) hx hb dX12_workPair_71 (by decide) ?_
      refine lv_isub hx hb dX12_workPair_72 ?_
      refine lv_topi (fun y11 hy11 => ?_)
      obtain rfl : (nI (pN - 1)) = y11 := (hy11.trans (pk_sub (a := pN) (b := 1) (by omega))).symm
      refine lv_istore hx hb dX12_workPair_73 hl (by decide) rfl (fun ls (hl : lv_has ls _ ([(4, .int (nI (pN - 1))), (3, .int (nI (pN - 2))), (0, .ref h0), (1, .int (nI fN)), (2, .int (nI nN))])) => ?_)
      refine lv_aload_n hx hb dX12_workPair_75 rfl (lv_at hl 2 rfl) ?_
      refine va_get (D := (dC, dI)) (ci := 12) (v := .ref (a 29)) (C := RX12) (T := TX12) (N := 163) (fs := fM (vS a vi vj)) hx hb hts iwsRX12_workPair_in12 hown hK hP 0 rfl rfl 53 (by decide) (hts _ hm_r_X12_workPair_2) (fun _ h9 => h9) rfl dX12_workPair_76 ?_
      refine lv_iload_n hx hb dX12_workPair_79 rfl (lv_at hl 4 rfl) ?_
      refine va_iald (cA := k 29) (n := 4200) (f := (vF 29)) hx hb hK hP 30 29 (WR_get 29 (by decide)) (TR_get 29 (by decide)) (vp_in_nI (show nN < 4200 by omega) (by omega)) dX12_workPair_80 ?_
      refine lv_topi (fun y12 hy12 => ?_)
      obtain rfl : ((vF 29) nN) = y12 := (hy12.trans (by rw [nI_clamp (by omega)])).symm
      refine lv_topi (fun y13 hy13 => ?_)
      obtain rfl : (nI kN) = y13 := (hy13.trans (hkN)).symm
      refine lv_iconst (v := 5) hx hb dX12_workPair_81 (by decide) ?_
      refine lv_icmp_eq (tgt := 96) hx hb dX12_workPair_82 (by decide) (fun c_82 => ?_) (fun c_82 => ?_)
      · have t_82 : ((kN : Nat) : Int) = 5 := toI_eq c_82 (nI_toInt (by omega)) (by decide)
        refine lv_aload_n hx hb dX12_workPair_96 rfl (lv_at hl 2 rfl) ?_
        refine lv_iload_n hx hb dX12_workPair_97 rfl (lv_at hl 1 rfl) ?_
        refine lv_iload hx hb dX12_workPair_98 (lv_at hl 0 rfl) ?_
        refine lv_aload_n hx hb dX12_workPair_100 rfl (lv_at hl 2 rfl) ?_
        refine va_get (D := (dC, dI)) (ci := 12) (v := .ref (a 29)) (C := RX12) (T := TX12) (N := 163) (fs := fM (vS a vi vj)) hx hb hts iwsRX12_workPair_in12 hown hK hP 0 rfl rfl 53 (by decide) (hts _ hm_r_X12_workPair_2) (fun _ h9 => h9) rfl dX12_workPair_101 ?_
        refine lv_iload_n hx hb dX12_workPair_104 rfl (lv_at hl 4 rfl) ?_
        refine va_iald (cA := k 29) (n := 4200) (f := (vF 29)) hx hb hK hP 30 29 (WR_get 29 (by decide)) (TR_get 29 (by decide)) (vp_in_nI (show nN < 4200 by omega) (by omega)) dX12_workPair_105 ?_
        refine lv_topi (fun y14 hy14 => ?_)
        obtain rfl : ((vF 29) nN) = y14 := (hy14.trans (by rw [nI_clamp (by omega)])).symm
        refine lv_topi (fun y15 hy15 => ?_)
        obtain rfl : (nI kN) = y15 := (hy15.trans (hkN)).symm
        refine lv_iconst (v := 5) hx hb dX12_workPair_106 (by decide) ?_
        refine W.cut (pc := 115) (fun H locs ls stk => ∃ (hwv : Int32), ((hwv).toInt = 1 ∨ (hwv).toInt = -1) ∧  stk = [.int hwv, .int (nI (pN - 1)), .int (nI (pN - 2)), .ref h0] ∧ va_P (dC, dI) vwCl (WR a k h0 vi vj (fT vF 53 (upd (vF 53) ((nI fN)).toNatClampNeg (nI (sN + 1)))) vG) H ∧ va_D A (WR a k h0 vi vj (fT vF 53 (upd (vF 53) ((nI fN)).toNatClampNeg (nI (sN + 1)))) vG) ∧ va_S A s.heap H locs ∧ lv_has ls 5 [(4, .int (nI (pN - 1))), (3, .int (nI (pN - 2))), (0, .ref h0), (1, .int (nI fN)), (2, .int (nI nN))]) (fun join1 => ?_) ?_
        · refine lv_icmp_ne (tgt := 114) hx hb dX12_workPair_107 (by decide) (fun c_107 => ?_) (fun c_107 => ?_)
          · have t_107 : ((kN : Nat) : Int) ≠ 5 := toI_ne c_107 (nI_toInt (by omega)) (by decide)
            refine lv_iconst (v := (-1)) hx hb dX12_workPair_114 (by decide) ?_
            have hl : lv_has _ _ ([(4, .int (nI (pN - 1))), (3, .int (nI (pN - 2))), (0, .ref h0), (1, .int (nI fN)), (2, .int (nI nN))]) := lv_sub hl [0, 1, 2, 3, 4] rfl
            exact join1 _ _ _ _ ⟨(-1), by decide, rfl, hP, hD, hS, hl⟩
          · have t_107 : ((kN : Nat) : Int) = 5 := toI_nne c_107 (nI_toInt (by omega)) (by decide)
            refine lv_iconst (v := 1) hx hb dX12_workPair_110 (by decide) ?_
            refine lv_goto (tgt := 115) hx hb dX12_workPair_111 (by decide) ?_
            have hl : lv_has _ _ ([(4, .int (nI (pN - 1))), (3, .int (nI (pN - 2))), (0, .ref h0), (1, .int (nI fN)), (2, .int (nI nN))]) := lv_sub hl [0, 1, 2, 3, 4] rfl
            exact join1 _ _ _ _ ⟨1, by decide, rfl, hP, hD, hS, hl⟩
        · rintro H locs ls stk ⟨hwv, hhw, rfl, hP, hD, hS, hl⟩
          refine lv_aload_n hx hb dX12_workPair_115 rfl (lv_at hl 2 rfl) ?_
          refine va_get (D := (dC, dI)) (ci := 12) (v := .ref (a 33)) (C := RX12) (T := TX12) (N := 163) (fs := fM (vS a vi vj)) hx hb hts iwsRX12_workPair_in12 hown hK hP 0 rfl rfl 57 (by decide) (hts _ hm_r_X12_workPair_3) (fun _ h9 => h9) rfl dX12_workPair_116 ?_
          refine lv_iload_n hx hb dX12_workPair_119 rfl (lv_at hl 4 rfl) ?_
          refine va_iald (cA := k 33) (n := 4200) (f := (vF 33)) hx hb hK hP 34 33 (WR_get 33 (by decide)) (TR_get 33 (by decide)) (vp_in_nI (show nN < 4200 by omega) (by omega)) dX12_workPair_120 ?_
          refine lv_topi (fun y16 hy16 => ?_)
          obtain rfl : ((vF 33) nN) = y16 := (hy16.trans (by rw [nI_clamp (by omega)])).symm
          have hFc := allFree hD hS hA
          refine va_callv (va_runV (As := [.int (nI (pN - 2)), .int (nI (pN - 1)), .int hwv, .int ((vF 33) nN)]) (rest := []) ⟨hx, hb, hml, hown, hts⟩ (r_X12_join l dC dI a k h0 vi vj (fT vF 53 (upd (vF 53) ((nI fN)).toNatClampNeg (nI (sN + 1)))) vG (pN - 2) (pN - 1) hwv ((hwv).toInt) ((vF 33) nN) (by first | with_reducible assumption | decide | omega | rfl | assumption) (by first | with_reducible assumption | decide | omega | rfl | assumption) (rfl) (hhw) (hRw _ (by omega)) (hRw _ (by omega)) H.size) (cwV 4 hts gwsRX12_workPair_0 rfl rfl rfl hd_yX12_join_RX12 (by decide +kernel)) (fz_pre (va_recv hK hP (ci := 12) (q0 := 0) rfl rfl) hP hK hD) rfl rfl hl.1 rfl (lv_room (Nat.le_of_ble_eq_true rfl)) dX12_workPair_121 (by decide +kernel)) hS (fun q _ h => hFc q h) hFc (fun u t9_ H locs ht hvm hw9 hB9 hz1 hk1 hS => ?_)
          revert u hw9 hB9
          refine fz_p4 ?_
          intro s2121 p2121 f49121 f50121 hw9 hB9
          try dsimp only at hw9 hB9
          have hP : va_P (dC, dI) vwCl (WR a k h0 (fT (fT vi 21 s2121) 22 p2121) vj (fT (fT (fT vF 53 (upd (vF 53) ((nI fN)).toNatClampNeg (nI (sN + 1)))) 49 f49121) 50 f50121) vG) H := fz_P ht hB9.1
          have hD := fz_sd hP (hB9.2.weaken (fun _ q _ h => hFc q.1 h)) rfl
          revert hw9
          refine fz_a4 ?_
          intro f121_0 f121_1 f121_2 f121_3
          have f121_0 : ∀ v9, v9 < 100 → RowU (vF 49) (vF 50) v9 → RowU f49121 f50121 v9 := f121_0
          have f121_1 : ∀ q, (q < 9 * (pN - 2) ∨ 9 * (pN - 2) + 9 ≤ q) → f49121 q = (vF 49) q := f121_1
          have f121_2 : ∀ q, (q < 9 * (pN - 2) ∨ 9 * (pN - 2) + 9 ≤ q) → f50121 q = (vF 50) q := f121_2
          have f121_3 : s2121 = (vi 21) ∨ 0 < (s2121).toInt := f121_3
          refine lv_goto (tgt := 156) hx hb dX12_workPair_124 (by decide) ?_
          refine lv_aload_n hx hb dX12_workPair_156 rfl (lv_at hl 2 rfl) ?_
          refine lv_dup hx hb dX12_workPair_157 rfl ?_
          refine va_get (D := (dC, dI)) (ci := 12) (v := .int (vi 81)) (C := RX12) (T := TX12) (N := 163) (fs := fM (vS a (fT (fT vi 21 s2121) 22 p2121) vj)) hx hb hts iwsRX12_workPair_in12 hown hK hP 0 rfl rfl 81 (by decide) (hts _ hm_r_X12_workPair_1) (fun _ h9 => h9) rfl dX12_workPair_158 ?_
          refine lv_topi (fun y17 hy17 => ?_)
          obtain rfl : (nI pN) = y17 := (hy17.trans (hpl)).symm
          refine lv_iconst (v := 1) hx hb dX12_workPair_161 (by decide) ?_
          refine lv_isub hx hb dX12_workPair_162 ?_
          refine lv_topi (fun y18 hy18 => ?_)
          obtain rfl : (nI (pN - 1)) = y18 := (hy18.trans (pk_sub (a := pN) (b := 1) (by omega))).symm
          refine va_put (D := (dC, dI)) (ci := 12) (v := .int (nI (pN - 1))) (ty := .int) (C := RX12) (T := TX12) (N := 163) (fs := fM (vS a (fT (fT vi 21 s2121) 22 p2121) vj)) hx hb hts iwsRX12_workPair_in12 tyX12 tyX12_ok nmX12 hown hK hP hD hS 0 rfl rfl 81 (by decide) (hts _ hm_r_X12_workPair_1) (fun _ h9 => h9) rfl (by decide +kernel) rfl rfl (Nat.le_of_ble_eq_true rfl) dX12_workPair_163 (fun H locs hP hD hS => ?_)
          have hP : va_P (dC, dI) vwCl (WR a k h0 (fT (fT (fT vi 21 s2121) 22 p2121) 81 (nI (pN - 1))) vj (fT (fT (fT vF 53 (upd (vF 53) ((nI fN)).toNatClampNeg (nI (sN + 1)))) 49 f49121) 50 f50121) vG) H := fz_w (WR_i 81 _ rfl) hP
          have hD : va_D A (WR a k h0 (fT (fT (fT vi 21 s2121) 22 p2121) 81 (nI (pN - 1))) vj (fT (fT (fT vF 53 (upd (vF 53) ((nI fN)).toNatClampNeg (nI (sN + 1)))) 49 f49121) 50 f50121) vG) := fz_wD (WR_i 81 _ rfl) hD
          refine lv_aload_n hx hb dX12_workPair_166 rfl (lv_at hl 2 rfl) ?_
          refine lv_dup hx hb dX12_workPair_167 rfl ?_
          refine va_get (D := (dC, dI)) (ci := 12) (v := .int (vi 89)) (C := RX12) (T := TX12) (N := 163) (fs := fM (vS a (fT (fT (fT vi 21 s2121) 22 p2121) 81 (nI (pN - 1))) vj)) hx hb hts iwsRX12_workPair_in12 hown hK hP 0 rfl rfl 89 (by decide) (hts _ hm_r_X12_workPair_4) (fun _ h9 => h9) rfl dX12_workPair_168 ?_
          refine lv_topi (fun y19 hy19 => ?_)
          obtain rfl : (nI fr) = y19 := (hy19.trans (hfr9)).symm
          refine lv_iconst (v := 1) hx hb dX12_workPair_171 (by decide) ?_
          refine lv_isub hx hb dX12_workPair_172 ?_
          refine lv_topi (fun y20 hy20 => ?_)
          obtain rfl : (nI (fr - 1)) = y20 := (hy20.trans (pk_sub (a := fr) (b := 1) (by omega))).symm
          refine va_put (D := (dC, dI)) (ci := 12) (v := .int (nI (fr - 1))) (ty := .int) (C := RX12) (T := TX12) (N := 163) (fs := fM (vS a (fT (fT (fT vi 21 s2121) 22 p2121) 81 (nI (pN - 1))) vj)) hx hb hts iwsRX12_workPair_in12 tyX12 tyX12_ok nmX12 hown hK hP hD hS 0 rfl rfl 89 (by decide) (hts _ hm_r_X12_workPair_4) (fun _ h9 => h9) rfl (by decide +kernel) rfl rfl (Nat.le_of_ble_eq_true rfl) dX12_workPair_173 (fun H locs hP hD hS => ?_)
          have hP : va_P (dC, dI) vwCl (WR a k h0 (fT (fT (fT (fT vi 21 s2121) 22 p2121) 81 (nI (pN - 1))) 89 (nI (fr - 1))) vj (fT (fT (fT vF 53 (upd (vF 53) ((nI fN)).toNatClampNeg (nI (sN + 1)))) 49 f49121) 50 f50121) vG) H := fz_w (WR_i 89 _ rfl) hP
          have hD : va_D A (WR a k h0 (fT (fT (fT (fT vi 21 s2121) 22 p2121) 81 (nI (pN - 1))) 89 (nI (fr - 1))) vj (fT (fT (fT vF 53 (upd (vF 53) ((nI fN)).toNatClampNeg (nI (sN + 1)))) 49 f49121) 50 f50121) vG) := fz_wD (WR_i 89 _ rfl) hD
          refine W.widen (k := 0) (n := 0) (by decide +kernel) (by decide +kernel) ?_
          have e9 : fT (fT (fT (fT (fT vi 21 s2121) 22 p2121) 81 (nI (pN - 1))) 89 (nI (fr - 1))) 82 (vi 82) = fT (fT (fT (fT vi 21 s2121) 22 p2121) 81 (nI (pN - 1))) 89 (nI (fr - 1)) := fT_id _ _ ((fT_ne _ _ (Nat.ne_of_beq_eq_false rfl)).trans ((fT_ne _ _ (Nat.ne_of_beq_eq_false rfl)).trans ((fT_ne _ _ (Nat.ne_of_beq_eq_false rfl)).trans (fT_ne _ _ (Nat.ne_of_beq_eq_false rfl)))))
          have hP := wr_Pi e9 hP
          have hD := wr_Di e9 hD
          clear e9
          have e9 : fT (fT (fT (fT vF 53 (upd (vF 53) ((nI fN)).toNatClampNeg (nI (sN + 1)))) 49 f49121) 50 f50121) 52 (vF 52) = fT (fT (fT vF 53 (upd (vF 53) ((nI fN)).toNatClampNeg (nI (sN + 1)))) 49 f49121) 50 f50121 := fT_id _ _ ((fT_ne _ _ (Nat.ne_of_beq_eq_false rfl)).trans ((fT_ne _ _ (Nat.ne_of_beq_eq_false rfl)).trans (fT_ne _ _ (Nat.ne_of_beq_eq_false rfl))))
          have hP := wr_PF e9 hP
          have hD := wr_DF e9 hD
          clear e9
          exact W.vret hx hb hr (fun t9_ ht hW => ⟨⟨(f49121, f50121, (vF 52), (upd (vF 53) ((nI fN)).toNatClampNeg (nI (sN + 1))), (fr - 1), (pN - 1), s2121, p2121, (vi 82)), rfl, by (try dsimp only); exact ⟨fun v9 h9 => f121_0 v9 (by omega) (hRw v9 (by omega)), by (rcases f121_3 with h9 | h9); (rw [h9]; exact hst0); omega, f121_3, StpO.pop hfN hfr1 (fun _ _ => rfl) (by rw [if_pos (by omega)]; omega)⟩, by rw [ht]; exact hP, hD⟩, hS.F ht⟩) hS.2.2 dX12_workPair_176
      · have t_82 : ¬ ((kN : Nat) : Int) = 5 := toI_neq c_82 (nI_toInt (by omega)) (by decide)
        refine lv_aload_n hx hb dX12_workPair_85 rfl (lv_at hl 2 rfl) ?_
        refine va_get (D := (dC, dI)) (ci := 12) (v := .ref (a 29)) (C := RX12) (T := TX12) (N := 163) (fs := fM (vS a vi vj)) hx hb hts iwsRX12_workPair_in12 hown hK hP 0 rfl rfl 53 (by decide) (hts _ hm_r_X12_workPair_2) (fun _ h9 => h9) rfl dX12_workPair_86 ?_
        refine lv_iload_n hx hb dX12_workPair_89 rfl (lv_at hl 4 rfl) ?_
        refine va_iald (cA := k 29) (n := 4200) (f := (vF 29)) hx hb hK hP 30 29 (WR_get 29 (by decide)) (TR_get 29 (by decide)) (vp_in_nI (show nN < 4200 by omega) (by omega)) dX12_workPair_90 ?_
        refine lv_topi (fun y21 hy21 => ?_)
        obtain rfl : ((vF 29) nN) = y21 := (hy21.trans (by rw [nI_clamp (by omega)])).symm
        refine lv_topi (fun y22 hy22 => ?_)
        obtain rfl : (nI kN) = y22 := (hy22.trans (hkN)).symm
        refine lv_bipush (v := 6) hx hb dX12_workPair_91 (by decide) ?_
        refine lv_icmp_ne (tgt := 127) hx hb dX12_workPair_93 (by decide) (fun c_93 => ?_) (fun c_93 => ?_)
        · have t_93 : ((kN : Nat) : Int) ≠ 6 := toI_ne c_93 (nI_toInt (by omega)) (by decide)
          refine lv_aload_n hx hb dX12_workPair_127 rfl (lv_at hl 2 rfl) ?_
          refine lv_iload_n hx hb dX12_workPair_128 rfl (lv_at hl 1 rfl) ?_
          refine lv_iload hx hb dX12_workPair_129 (lv_at hl 0 rfl) ?_
          refine lv_aload_n hx hb dX12_workPair_131 rfl (lv_at hl 2 rfl) ?_
          refine va_get (D := (dC, dI)) (ci := 12) (v := .ref (a 29)) (C := RX12) (T := TX12) (N := 163) (fs := fM (vS a vi vj)) hx hb hts iwsRX12_workPair_in12 hown hK hP 0 rfl rfl 53 (by decide) (hts _ hm_r_X12_workPair_2) (fun _ h9 => h9) rfl dX12_workPair_132 ?_
          refine lv_iload_n hx hb dX12_workPair_135 rfl (lv_at hl 4 rfl) ?_
          refine va_iald (cA := k 29) (n := 4200) (f := (vF 29)) hx hb hK hP 30 29 (WR_get 29 (by decide)) (TR_get 29 (by decide)) (vp_in_nI (show nN < 4200 by omega) (by omega)) dX12_workPair_136 ?_
          refine lv_topi (fun y23 hy23 => ?_)
          obtain rfl : ((vF 29) nN) = y23 := (hy23.trans (by rw [nI_clamp (by omega)])).symm
          refine lv_topi (fun y24 hy24 => ?_)
          obtain rfl : (nI kN) = y24 := (hy24.trans (hkN)).symm
          refine lv_bipush (v := 8) hx hb dX12_workPair_137 (by decide) ?_
          refine W.cut (pc := 147) (fun H locs ls stk => ∃ (hwv : Int32),  stk = [.int hwv, .int (nI (pN - 1)), .int (nI (pN - 2)), .ref h0] ∧ va_P (dC, dI) vwCl (WR a k h0 vi vj (fT vF 53 (upd (vF 53) ((nI fN)).toNatClampNeg (nI (sN + 1)))) vG) H ∧ va_D A (WR a k h0 vi vj (fT vF 53 (upd (vF 53) ((nI fN)).toNatClampNeg (nI (sN + 1)))) vG) ∧ va_S A s.heap H locs ∧ lv_has ls 5 [(4, .int (nI (pN - 1))), (3, .int (nI (pN - 2))), (0, .ref h0), (1, .int (nI fN)), (2, .int (nI nN))]) (fun join2 => ?_) ?_
          · refine lv_icmp_ne (tgt := 146) hx hb dX12_workPair_139 (by decide) (fun c_139 => ?_) (fun c_139 => ?_)
            · have t_139 : ((kN : Nat) : Int) ≠ 8 := toI_ne c_139 (nI_toInt (by omega)) (by decide)
              refine lv_iconst (v := 0) hx hb dX12_workPair_146 (by decide) ?_
              have hl : lv_has _ _ ([(4, .int (nI (pN - 1))), (3, .int (nI (pN - 2))), (0, .ref h0), (1, .int (nI fN)), (2, .int (nI nN))]) := lv_sub hl [0, 1, 2, 3, 4] rfl
              exact join2 _ _ _ _ ⟨0, rfl, hP, hD, hS, hl⟩
            · have t_139 : ((kN : Nat) : Int) = 8 := toI_nne c_139 (nI_toInt (by omega)) (by decide)
              refine lv_iconst (v := 1) hx hb dX12_workPair_142 (by decide) ?_
              refine lv_goto (tgt := 147) hx hb dX12_workPair_143 (by decide) ?_
              have hl : lv_has _ _ ([(4, .int (nI (pN - 1))), (3, .int (nI (pN - 2))), (0, .ref h0), (1, .int (nI fN)), (2, .int (nI nN))]) := lv_sub hl [0, 1, 2, 3, 4] rfl
              exact join2 _ _ _ _ ⟨1, rfl, hP, hD, hS, hl⟩
          · rintro H locs ls stk ⟨hwv, rfl, hP, hD, hS, hl⟩
            refine lv_aload_n hx hb dX12_workPair_147 rfl (lv_at hl 2 rfl) ?_
            refine va_get (D := (dC, dI)) (ci := 12) (v := .ref (a 33)) (C := RX12) (T := TX12) (N := 163) (fs := fM (vS a vi vj)) hx hb hts iwsRX12_workPair_in12 hown hK hP 0 rfl rfl 57 (by decide) (hts _ hm_r_X12_workPair_3) (fun _ h9 => h9) rfl dX12_workPair_148 ?_
            refine lv_iload_n hx hb dX12_workPair_151 rfl (lv_at hl 4 rfl) ?_
            refine va_iald (cA := k 33) (n := 4200) (f := (vF 33)) hx hb hK hP 34 33 (WR_get 33 (by decide)) (TR_get 33 (by decide)) (vp_in_nI (show nN < 4200 by omega) (by omega)) dX12_workPair_152 ?_
            refine lv_topi (fun y25 hy25 => ?_)
            obtain rfl : ((vF 33) nN) = y25 := (hy25.trans (by rw [nI_clamp (by omega)])).symm
            have hFc := allFree hD hS hA
            refine va_callv (va_runV (As := [.int (nI (pN - 2)), .int (nI (pN - 1)), .int hwv, .int ((vF 33) nN)]) (rest := []) ⟨hx, hb, hml, hown, hts⟩ (r_X12_scale l dC dI a k h0 vi vj (fT vF 53 (upd (vF 53) ((nI fN)).toNatClampNeg (nI (sN + 1)))) vG (pN - 2) (pN - 1) hwv ((vF 33) nN) (by first | with_reducible assumption | decide | omega | rfl | assumption) (by first | with_reducible assumption | decide | omega | rfl | assumption) (hRw _ (by omega)) (hRw _ (by omega)) H.size) (cwV 4 hts gwsRX12_workPair_1 rfl rfl rfl hd_yX12_scale_RX12 (by decide +kernel)) (fz_pre (va_recv hK hP (ci := 12) (q0 := 0) rfl rfl) hP hK hD) rfl rfl hl.1 rfl (lv_room (Nat.le_of_ble_eq_true rfl)) dX12_workPair_153 (by decide +kernel)) hS (fun q _ h => hFc q h) hFc (fun u t9_ H locs ht hvm hw9 hB9 hz1 hk1 hS => ?_)
            revert u hw9 hB9
            refine fz_p4 ?_
            intro s2153 p2153 f49153 f50153 hw9 hB9
            try dsimp only at hw9 hB9
            have hP : va_P (dC, dI) vwCl (WR a k h0 (fT (fT vi 21 s2153) 22 p2153) vj (fT (fT (fT vF 53 (upd (vF 53) ((nI fN)).toNatClampNeg (nI (sN + 1)))) 49 f49153) 50 f50153) vG) H := fz_P ht hB9.1
            have hD := fz_sd hP (hB9.2.weaken (fun _ q _ h => hFc q.1 h)) rfl
            revert hw9
            refine fz_a4 ?_
            intro f153_0 f153_1 f153_2 f153_3
            have f153_0 : ∀ v9, v9 < 100 → RowU (vF 49) (vF 50) v9 → RowU f49153 f50153 v9 := f153_0
            have f153_1 : ∀ q, (q < 9 * (pN - 2) ∨ 9 * (pN - 2) + 9 ≤ q) → f49153 q = (vF 49) q := f153_1
            have f153_2 : ∀ q, (q < 9 * (pN - 2) ∨ 9 * (pN - 2) + 9 ≤ q) → f50153 q = (vF 50) q := f153_2
            have f153_3 : s2153 = (vi 21) ∨ 0 < (s2153).toInt := f153_3
            refine lv_aload_n hx hb dX12_workPair_156 rfl (lv_at hl 2 rfl) ?_
            refine lv_dup hx hb dX12_workPair_157 rfl ?_
            refine va_get (D := (dC, dI)) (ci := 12) (v := .int (vi 81)) (C := RX12) (T := TX12) (N := 163) (fs := fM (vS a (fT (fT vi 21 s2153) 22 p2153) vj)) hx hb hts iwsRX12_workPair_in12 hown hK hP 0 rfl rfl 81 (by decide) (hts _ hm_r_X12_workPair_1) (fun _ h9 => h9) rfl dX12_workPair_158 ?_
            refine lv_topi (fun y26 hy26 => ?_)
            obtain rfl : (nI pN) = y26 := (hy26.trans (hpl)).symm
            refine lv_iconst (v := 1) hx hb dX12_workPair_161 (by decide) ?_
            refine lv_isub hx hb dX12_workPair_162 ?_
            refine lv_topi (fun y27 hy27 => ?_)
            obtain rfl : (nI (pN - 1)) = y27 := (hy27.trans (pk_sub (a := pN) (b := 1) (by omega))).symm
            refine va_put (D := (dC, dI)) (ci := 12) (v := .int (nI (pN - 1))) (ty := .int) (C := RX12) (T := TX12) (N := 163) (fs := fM (vS a (fT (fT vi 21 s2153) 22 p2153) vj)) hx hb hts iwsRX12_workPair_in12 tyX12 tyX12_ok nmX12 hown hK hP hD hS 0 rfl rfl 81 (by decide) (hts _ hm_r_X12_workPair_1) (fun _ h9 => h9) rfl (by decide +kernel) rfl rfl (Nat.le_of_ble_eq_true rfl) dX12_workPair_163 (fun H locs hP hD hS => ?_)
            have hP : va_P (dC, dI) vwCl (WR a k h0 (fT (fT (fT vi 21 s2153) 22 p2153) 81 (nI (pN - 1))) vj (fT (fT (fT vF 53 (upd (vF 53) ((nI fN)).toNatClampNeg (nI (sN + 1)))) 49 f49153) 50 f50153) vG) H := fz_w (WR_i 81 _ rfl) hP
            have hD : va_D A (WR a k h0 (fT (fT (fT vi 21 s2153) 22 p2153) 81 (nI (pN - 1))) vj (fT (fT (fT vF 53 (upd (vF 53) ((nI fN)).toNatClampNeg (nI (sN + 1)))) 49 f49153) 50 f50153) vG) := fz_wD (WR_i 81 _ rfl) hD
            refine lv_aload_n hx hb dX12_workPair_166 rfl (lv_at hl 2 rfl) ?_
            refine lv_dup hx hb dX12_workPair_167 rfl ?_
            refine va_get (D := (dC, dI)) (ci := 12) (v := .int (vi 89)) (C := RX12) (T := TX12) (N := 163) (fs := fM (vS a (fT (fT (fT vi 21 s2153) 22 p2153) 81 (nI (pN - 1))) vj)) hx hb hts iwsRX12_workPair_in12 hown hK hP 0 rfl rfl 89 (by decide) (hts _ hm_r_X12_workPair_4) (fun _ h9 => h9) rfl dX12_workPair_168 ?_
            refine lv_topi (fun y28 hy28 => ?_)
            obtain rfl : (nI fr) = y28 := (hy28.trans (hfr9)).symm
            refine lv_iconst (v := 1) hx hb dX12_workPair_171 (by decide) ?_
            refine lv_isub hx hb dX12_workPair_172 ?_
            refine lv_topi (fun y29 hy29 => ?_)
            obtain rfl : (nI (fr - 1)) = y29 := (hy29.trans (pk_sub (a := fr) (b := 1) (by omega))).symm
            refine va_put (D := (dC, dI)) (ci := 12) (v := .int (nI (fr - 1))) (ty := .int) (C := RX12) (T := TX12) (N := 163) (fs := fM (vS a (fT (fT (fT vi 21 s2153) 22 p2153) 81 (nI (pN - 1))) vj)) hx hb hts iwsRX12_workPair_in12 tyX12 tyX12_ok nmX12 hown hK hP hD hS 0 rfl rfl 89 (by decide) (hts _ hm_r_X12_workPair_4) (fun _ h9 => h9) rfl (by decide +kernel) rfl rfl (Nat.le_of_ble_eq_true rfl) dX12_workPair_173 (fun H locs hP hD hS => ?_)
            have hP : va_P (dC, dI) vwCl (WR a k h0 (fT (fT (fT (fT vi 21 s2153) 22 p2153) 81 (nI (pN - 1))) 89 (nI (fr - 1))) vj (fT (fT (fT vF 53 (upd (vF 53) ((nI fN)).toNatClampNeg (nI (sN + 1)))) 49 f49153) 50 f50153) vG) H := fz_w (WR_i 89 _ rfl) hP
            have hD : va_D A (WR a k h0 (fT (fT (fT (fT vi 21 s2153) 22 p2153) 81 (nI (pN - 1))) 89 (nI (fr - 1))) vj (fT (fT (fT vF 53 (upd (vF 53) ((nI fN)).toNatClampNeg (nI (sN + 1)))) 49 f49153) 50 f50153) vG) := fz_wD (WR_i 89 _ rfl) hD
            refine W.widen (k := 0) (n := 0) (by decide +kernel) (by decide +kernel) ?_
            have e9 : fT (fT (fT (fT (fT vi 21 s2153) 22 p2153) 81 (nI (pN - 1))) 89 (nI (fr - 1))) 82 (vi 82) = fT (fT (fT (fT vi 21 s2153) 22 p2153) 81 (nI (pN - 1))) 89 (nI (fr - 1)) := fT_id _ _ ((fT_ne _ _ (Nat.ne_of_beq_eq_false rfl)).trans ((fT_ne _ _ (Nat.ne_of_beq_eq_false rfl)).trans ((fT_ne _ _ (Nat.ne_of_beq_eq_false rfl)).trans (fT_ne _ _ (Nat.ne_of_beq_eq_false rfl)))))
            have hP := wr_Pi e9 hP
            have hD := wr_Di e9 hD
            clear e9
            have e9 : fT (fT (fT (fT vF 53 (upd (vF 53) ((nI fN)).toNatClampNeg (nI (sN + 1)))) 49 f49153) 50 f50153) 52 (vF 52) = fT (fT (fT vF 53 (upd (vF 53) ((nI fN)).toNatClampNeg (nI (sN + 1)))) 49 f49153) 50 f50153 := fT_id _ _ ((fT_ne _ _ (Nat.ne_of_beq_eq_false rfl)).trans ((fT_ne _ _ (Nat.ne_of_beq_eq_false rfl)).trans (fT_ne _ _ (Nat.ne_of_beq_eq_false rfl))))
            have hP := wr_PF e9 hP
            have hD := wr_DF e9 hD
            clear e9
            exact W.vret hx hb hr (fun t9_ ht hW => ⟨⟨(f49153, f50153, (vF 52), (upd (vF 53) ((nI fN)).toNatClampNeg (nI (sN + 1))), (fr - 1), (pN - 1), s2153, p2153, (vi 82)), rfl, by (try dsimp only); exact ⟨fun v9 h9 => f153_0 v9 (by omega) (hRw v9 (by omega)), by (rcases f153_3 with h9 | h9); (rw [h9]; exact hst0); omega, f153_3, StpO.pop hfN hfr1 (fun _ _ => rfl) (by rw [if_pos (by omega)]; omega)⟩, by rw [ht]; exact hP, hD⟩, hS.F ht⟩) hS.2.2 dX12_workPair_176
        · have t_93 : ((kN : Nat) : Int) = 6 := toI_nne c_93 (nI_toInt (by omega)) (by decide)
          refine lv_aload_n hx hb dX12_workPair_96 rfl (lv_at hl 2 rfl) ?_
          refine lv_iload_n hx hb dX12_workPair_97 rfl (lv_at hl 1 rfl) ?_
          refine lv_iload hx hb dX12_workPair_98 (lv_at hl 0 rfl) ?_
          refine lv_aload_n hx hb dX12_workPair_100 rfl (lv_at hl 2 rfl) ?_
          refine va_get (D := (dC, dI)) (ci := 12) (v := .ref (a 29)) (C := RX12) (T := TX12) (N := 163) (fs := fM (vS a vi vj)) hx hb hts iwsRX12_workPair_in12 hown hK hP 0 rfl rfl 53 (by decide) (hts _ hm_r_X12_workPair_2) (fun _ h9 => h9) rfl dX12_workPair_101 ?_
          refine lv_iload_n hx hb dX12_workPair_104 rfl (lv_at hl 4 rfl) ?_
          refine va_iald (cA := k 29) (n := 4200) (f := (vF 29)) hx hb hK hP 30 29 (WR_get 29 (by decide)) (TR_get 29 (by decide)) (vp_in_nI (show nN < 4200 by omega) (by omega)) dX12_workPair_105 ?_
          refine lv_topi (fun y30 hy30 => ?_)
          obtain rfl : ((vF 29) nN) = y30 := (hy30.trans (by rw [nI_clamp (by omega)])).symm
          refine lv_topi (fun y31 hy31 => ?_)
          obtain rfl : (nI kN) = y31 := (hy31.trans (hkN)).symm
          refine lv_iconst (v := 5) hx hb dX12_workPair_106 (by decide) ?_
          refine W.cut (pc := 115) (fun H locs ls stk => ∃ (hwv : Int32), ((hwv).toInt = 1 ∨ (hwv).toInt = -1) ∧  stk = [.int hwv, .int (nI (pN - 1)), .int (nI (pN - 2)), .ref h0] ∧ va_P (dC, dI) vwCl (WR a k h0 vi vj (fT vF 53 (upd (vF 53) ((nI fN)).toNatClampNeg (nI (sN + 1)))) vG) H ∧ va_D A (WR a k h0 vi vj (fT vF 53 (upd (vF 53) ((nI fN)).toNatClampNeg (nI (sN + 1)))) vG) ∧ va_S A s.heap H locs ∧ lv_has ls 5 [(4, .int (nI (pN - 1))), (3, .int (nI (pN - 2))), (0, .ref h0), (1, .int (nI fN)), (2, .int (nI nN))]) (fun join3 => ?_) ?_
          · refine lv_icmp_ne (tgt := 114) hx hb dX12_workPair_107 (by decide) (fun c_107 => ?_) (fun c_107 => ?_)
            · have t_107 : ((kN : Nat) : Int) ≠ 5 := toI_ne c_107 (nI_toInt (by omega)) (by decide)
              refine lv_iconst (v := (-1)) hx hb dX12_workPair_114 (by decide) ?_
              have hl : lv_has _ _ ([(4, .int (nI (pN - 1))), (3, .int (nI (pN - 2))), (0, .ref h0), (1, .int (nI fN)), (2, .int (nI nN))]) := lv_sub hl [0, 1, 2, 3, 4] rfl
              exact join3 _ _ _ _ ⟨(-1), by decide, rfl, hP, hD, hS, hl⟩
            · have t_107 : ((kN : Nat) : Int) = 5 := toI_nne c_107 (nI_toInt (by omega)) (by decide)
              refine lv_iconst (v := 1) hx hb dX12_workPair_110 (by decide) ?_
              refine lv_goto (tgt := 115) hx hb dX12_workPair_111 (by decide) ?_
              have hl : lv_has _ _ ([(4, .int (nI (pN - 1))), (3, .int (nI (pN - 2))), (0, .ref h0), (1, .int (nI fN)), (2, .int (nI nN))]) := lv_sub hl [0, 1, 2, 3, 4] rfl
              exact join3 _ _ _ _ ⟨1, by decide, rfl, hP, hD, hS, hl⟩
          · rintro H locs ls stk ⟨hwv, hhw, rfl, hP, hD, hS, hl⟩
            refine lv_aload_n hx hb dX12_workPair_115 rfl (lv_at hl 2 rfl) ?_
            refine va_get (D := (dC, dI)) (ci := 12) (v := .ref (a 33)) (C := RX12) (T := TX12) (N := 163) (fs := fM (vS a vi vj)) hx hb hts iwsRX12_workPair_in12 hown hK hP 0 rfl rfl 57 (by decide) (hts _ hm_r_X12_workPair_3) (fun _ h9 => h9) rfl dX12_workPair_116 ?_
            refine lv_iload_n hx hb dX12_workPair_119 rfl (lv_at hl 4 rfl) ?_
            refine va_iald (cA := k 33) (n := 4200) (f := (vF 33)) hx hb hK hP 34 33 (WR_get 33 (by decide)) (TR_get 33 (by decide)) (vp_in_nI (show nN < 4200 by omega) (by omega)) dX12_workPair_120 ?_
            refine lv_topi (fun y32 hy32 => ?_)
            obtain rfl : ((vF 33) nN) = y32 := (hy32.trans (by rw [nI_clamp (by omega)])).symm
            have hFc := allFree hD hS hA
            refine va_callv (va_runV (As := [.int (nI (pN - 2)), .int (nI (pN - 1)), .int hwv, .int ((vF 33) nN)]) (rest := []) ⟨hx, hb, hml, hown, hts⟩ (r_X12_join l dC dI a k h0 vi vj (fT vF 53 (upd (vF 53) ((nI fN)).toNatClampNeg (nI (sN + 1)))) vG (pN - 2) (pN - 1) hwv ((hwv).toInt) ((vF 33) nN) (by first | with_reducible assumption | decide | omega | rfl | assumption) (by first | with_reducible assumption | decide | omega | rfl | assumption) (rfl) (hhw) (hRw _ (by omega)) (hRw _ (by omega)) H.size) (cwV 4 hts gwsRX12_workPair_0 rfl rfl rfl hd_yX12_join_RX12 (by decide +kernel)) (fz_pre (va_recv hK hP (ci := 12) (q0 := 0) rfl rfl) hP hK hD) rfl rfl hl.1 rfl (lv_room (Nat.le_of_ble_eq_true rfl)) dX12_workPair_121 (by decide +kernel)) hS (fun q _ h => hFc q h) hFc (fun u t9_ H locs ht hvm hw9 hB9 hz1 hk1 hS => ?_)
            revert u hw9 hB9
            refine fz_p4 ?_
            intro s2121_1 p2121_1 f49121_1 f50121_1 hw9 hB9
            try dsimp only at hw9 hB9
            have hP : va_P (dC, dI) vwCl (WR a k h0 (fT (fT vi 21 s2121_1) 22 p2121_1) vj (fT (fT (fT vF 53 (upd (vF 53) ((nI fN)).toNatClampNeg (nI (sN + 1)))) 49 f49121_1) 50 f50121_1) vG) H := fz_P ht hB9.1
            have hD := fz_sd hP (hB9.2.weaken (fun _ q _ h => hFc q.1 h)) rfl
            revert hw9
            refine fz_a4 ?_
            intro f121_1_0 f121_1_1 f121_1_2 f121_1_3
            have f121_1_0 : ∀ v9, v9 < 100 → RowU (vF 49) (vF 50) v9 → RowU f49121_1 f50121_1 v9 := f121_1_0
            have f121_1_1 : ∀ q, (q < 9 * (pN - 2) ∨ 9 * (pN - 2) + 9 ≤ q) → f49121_1 q = (vF 49) q := f121_1_1
            have f121_1_2 : ∀ q, (q < 9 * (pN - 2) ∨ 9 * (pN - 2) + 9 ≤ q) → f50121_1 q = (vF 50) q := f121_1_2
            have f121_1_3 : s2121_1 = (vi 21) ∨ 0 < (s2121_1).toInt := f121_1_3
            refine lv_goto (tgt := 156) hx hb dX12_workPair_124 (by decide) ?_
            refine lv_aload_n hx hb dX12_workPair_156 rfl (lv_at hl 2 rfl) ?_
            refine lv_dup hx hb dX12_workPair_157 rfl ?_
            refine va_get (D := (dC, dI)) (ci := 12) (v := .int (vi 81)) (C := RX12) (T := TX12) (N := 163) (fs := fM (vS a (fT (fT vi 21 s2121_1) 22 p2121_1) vj)) hx hb hts iwsRX12_workPair_in12 hown hK hP 0 rfl rfl 81 (by decide) (hts _ hm_r_X12_workPair_1) (fun _ h9 => h9) rfl dX12_workPair_158 ?_
            refine lv_topi (fun y33 hy33 => ?_)
            obtain rfl : (nI pN) = y33 := (hy33.trans (hpl)).symm
            refine lv_iconst (v := 1) hx hb dX12_workPair_161 (by decide) ?_
            refine lv_isub hx hb dX12_workPair_162 ?_
            refine lv_topi (fun y34 hy34 => ?_)
            obtain rfl : (nI (pN - 1)) = y34 := (hy34.trans (pk_sub (a := pN) (b := 1) (by omega))).symm
            refine va_put (D := (dC, dI)) (ci := 12) (v := .int (nI (pN - 1))) (ty := .int) (C := RX12) (T := TX12) (N := 163) (fs := fM (vS a (fT (fT vi 21 s2121_1) 22 p2121_1) vj)) hx hb hts iwsRX12_workPair_in12 tyX12 tyX12_ok nmX12 hown hK hP hD hS 0 rfl rfl 81 (by decide) (hts _ hm_r_X12_workPair_1) (fun _ h9 => h9) rfl (by decide +kernel) rfl rfl (Nat.le_of_ble_eq_true rfl) dX12_workPair_163 (fun H locs hP hD hS => ?_)
            have hP : va_P (dC, dI) vwCl (WR a k h0 (fT (fT (fT vi 21 s2121_1) 22 p2121_1) 81 (nI (pN - 1))) vj (fT (fT (fT vF 53 (upd (vF 53) ((nI fN)).toNatClampNeg (nI (sN + 1)))) 49 f49121_1) 50 f50121_1) vG) H := fz_w (WR_i 81 _ rfl) hP
            have hD : va_D A (WR a k h0 (fT (fT (fT vi 21 s2121_1) 22 p2121_1) 81 (nI (pN - 1))) vj (fT (fT (fT vF 53 (upd (vF 53) ((nI fN)).toNatClampNeg (nI (sN + 1)))) 49 f49121_1) 50 f50121_1) vG) := fz_wD (WR_i 81 _ rfl) hD
            refine lv_aload_n hx hb dX12_workPair_166 rfl (lv_at hl 2 rfl) ?_
            refine lv_dup hx hb dX12_workPair_167 rfl ?_
            refine va_get (D := (dC, dI)) (ci := 12) (v := .int (vi 89)) (C := RX12) (T := TX12) (N := 163) (fs := fM (vS a (fT (fT (fT vi 21 s2121_1) 22 p2121_1) 81 (nI (pN - 1))) vj)) hx hb hts iwsRX12_workPair_in12 hown hK hP 0 rfl rfl 89 (by decide) (hts _ hm_r_X12_workPair_4) (fun _ h9 => h9) rfl dX12_workPair_168 ?_
            refine lv_topi (fun y35 hy35 => ?_)
            obtain rfl : (nI fr) = y35 := (hy35.trans (hfr9)).symm
            refine lv_iconst (v := 1) hx hb dX12_workPair_171 (by decide) ?_
            refine lv_isub hx hb dX12_workPair_172 ?_
            refine lv_topi (fun y36 hy36 => ?_)
            obtain rfl : (nI (fr - 1)) = y36 := (hy36.trans (pk_sub (a := fr) (b := 1) (by omega))).symm
            refine va_put (D := (dC, dI)) (ci := 12) (v := .int (nI (fr - 1))) (ty := .int) (C := RX12) (T := TX12) (N := 163) (fs := fM (vS a (fT (fT (fT vi 21 s2121_1) 22 p2121_1) 81 (nI (pN - 1))) vj)) hx hb hts iwsRX12_workPair_in12 tyX12 tyX12_ok nmX12 hown hK hP hD hS 0 rfl rfl 89 (by decide) (hts _ hm_r_X12_workPair_4) (fun _ h9 => h9) rfl (by decide +kernel) rfl rfl (Nat.le_of_ble_eq_true rfl) dX12_workPair_173 (fun H locs hP hD hS => ?_)
            have hP : va_P (dC, dI) vwCl (WR a k h0 (fT (fT (fT (fT vi 21 s2121_1) 22 p2121_1) 81 (nI (pN - 1))) 89 (nI (fr - 1))) vj (fT (fT (fT vF 53 (upd (vF 53) ((nI fN)).toNatClampNeg (nI (sN + 1)))) 49 f49121_1) 50 f50121_1) vG) H := fz_w (WR_i 89 _ rfl) hP
            have hD : va_D A (WR a k h0 (fT (fT (fT (fT vi 21 s2121_1) 22 p2121_1) 81 (nI (pN - 1))) 89 (nI (fr - 1))) vj (fT (fT (fT vF 53 (upd (vF 53) ((nI fN)).toNatClampNeg (nI (sN + 1)))) 49 f49121_1) 50 f50121_1) vG) := fz_wD (WR_i 89 _ rfl) hD
            refine W.widen (k := 0) (n := 0) (by decide +kernel) (by decide +kernel) ?_
            have e9 : fT (fT (fT (fT (fT vi 21 s2121_1) 22 p2121_1) 81 (nI (pN - 1))) 89 (nI (fr - 1))) 82 (vi 82) = fT (fT (fT (fT vi 21 s2121_1) 22 p2121_1) 81 (nI (pN - 1))) 89 (nI (fr - 1)) := fT_id _ _ ((fT_ne _ _ (Nat.ne_of_beq_eq_false rfl)).trans ((fT_ne _ _ (Nat.ne_of_beq_eq_false rfl)).trans ((fT_ne _ _ (Nat.ne_of_beq_eq_false rfl)).trans (fT_ne _ _ (Nat.ne_of_beq_eq_false rfl)))))
            have hP := wr_Pi e9 hP
            have hD := wr_Di e9 hD
            clear e9
            have e9 : fT (fT (fT (fT vF 53 (upd (vF 53) ((nI fN)).toNatClampNeg (nI (sN + 1)))) 49 f49121_1) 50 f50121_1) 52 (vF 52) = fT (fT (fT vF 53 (upd (vF 53) ((nI fN)).toNatClampNeg (nI (sN + 1)))) 49 f49121_1) 50 f50121_1 := fT_id _ _ ((fT_ne _ _ (Nat.ne_of_beq_eq_false rfl)).trans ((fT_ne _ _ (Nat.ne_of_beq_eq_false rfl)).trans (fT_ne _ _ (Nat.ne_of_beq_eq_false rfl))))
            have hP := wr_PF e9 hP
            have hD := wr_DF e9 hD
            clear e9
            exact W.vret hx hb hr (fun t9_ ht hW => ⟨⟨(f49121_1, f50121_1, (vF 52), (upd (vF 53) ((nI fN)).toNatClampNeg (nI (sN + 1))), (fr - 1), (pN - 1), s2121_1, p2121_1, (vi 82)), rfl, by (try dsimp only); exact ⟨fun v9 h9 => f121_1_0 v9 (by omega) (hRw v9 (by omega)), by (rcases f121_1_3 with h9 | h9); (rw [h9]; exact hst0); omega, f121_1_3, StpO.pop hfN hfr1 (fun _ _ => rfl) (by rw [if_pos (by omega)]; omega)⟩, by rw [ht]; exact hP, hD⟩, hS.F ht⟩) hS.2.2 dX12_workPair_176
    · have t_40 : (((sN + 1) : Nat) : Int) = 2 := toI_nne c_40 (nI_toInt (by omega)) (by decide)
      refine lv_aload_n hx hb dX12_workPair_43 rfl (lv_at hl 0 rfl) ?_
      have hFc := allFree hD hS hA
      refine va_callv (va_runV (As := []) (rest := []) ⟨hx, hb, hml, hown, hts⟩ (r_X12_stepOne l dC dI a k h0 vi vj (fT vF 53 (upd (vF 53) ((nI fN)).toNatClampNeg (nI (sN + 1)))) vG (by first | with_reducible assumption | decide | omega | rfl | assumption) H.size) (cwV 0 hts gwsRX12_workPair_2 rfl rfl rfl hd_yX12_stepOne_RX12 (by decide +kernel)) (fz_pre (va_recv hK hP (ci := 12) (q0 := 0) rfl rfl) hP hK hD) rfl rfl hl.1 rfl (lv_room (Nat.le_of_ble_eq_true rfl)) dX12_workPair_44 (by decide +kernel)) hS (fun q _ h => hFc q h) hFc (fun u t9_ H locs ht hvm hw9 hB9 hz1 hk1 hS => ?_)
      revert u hw9 hB9
      refine fz_p3 ?_
      intro s244 p244 sp244 hw9 hB9
      try dsimp only at hw9 hB9
      have hP : va_P (dC, dI) vwCl (WR a k h0 (fT (fT (fT vi 21 s244) 22 p244) 82 sp244) vj (fT vF 53 (upd (vF 53) ((nI fN)).toNatClampNeg (nI (sN + 1)))) vG) H := fz_P ht hB9.1
      have hD := fz_sd hP (hB9.2.weaken (fun _ q _ h => hFc q.1 h)) rfl
      revert hw9
      refine fz_a2 ?_
      intro f44_0 f44_1
      have f44_1 : s244 = (vi 21) ∨ 0 < (s244).toInt := f44_1
      refine lv_aload_n hx hb dX12_workPair_47 rfl (lv_at hl 0 rfl) ?_
      refine lv_aload_n hx hb dX12_workPair_48 rfl (lv_at hl 0 rfl) ?_
      refine va_get (D := (dC, dI)) (ci := 12) (v := .ref (a 31)) (C := RX12) (T := TX12) (N := 163) (fs := fM (vS a (fT (fT (fT vi 21 s244) 22 p244) 82 sp244) vj)) hx hb hts iwsRX12_workPair_in12 hown hK hP 0 rfl rfl 55 (by decide) (hts (.fieldLink RX12 116 "OptimaWorksModel" "partB" "[I") (by decide +kernel)) (fun _ h9 => h9) rfl dX12_workPair_49 ?_
      refine lv_iload_n hx hb dX12_workPair_52 rfl (lv_at hl 2 rfl) ?_
      refine va_iald (cA := k 31) (n := 4200) (f := (vF 31)) hx hb hK hP 32 31 (WR_get 31 (by decide)) (TR_get 31 (by decide)) (vp_in_nI (show nN < 4200 by omega) (by omega)) dX12_workPair_53 ?_
      refine lv_topi (fun y37 hy37 => ?_)
      obtain rfl : ((vF 31) nN) = y37 := (hy37.trans (by rw [nI_clamp (by omega)])).symm
      refine lv_topi (fun y38 hy38 => ?_)
      obtain rfl : (nI dN) = y38 := (hy38.trans (hdN)).symm
      have hFc := allFree hD hS hA
      refine va_callv (va_runV (As := [.int (nI dN)]) (rest := []) ⟨hx, hb, hml, hown, hts⟩ (r_X12_call l dC dI a k h0 (fT (fT (fT vi 21 s244) 22 p244) 82 sp244) vj (fT vF 53 (upd (vF 53) ((nI fN)).toNatClampNeg (nI (sN + 1)))) vG (nI dN) fr hfr9 (by first | with_reducible assumption | decide | omega | rfl | assumption) H.size) (cwV 1 hts gwsRX12_workPair_3 rfl rfl rfl hd_yX12_call_RX12 (by decide +kernel)) (fz_pre (va_recv hK hP (ci := 12) (q0 := 0) rfl rfl) hP hK hD) rfl rfl hl.1 rfl (lv_room (Nat.le_of_ble_eq_true rfl)) dX12_workPair_54 (by decide +kernel)) hS (fun q _ h => hFc q h) hFc (fun u t9_ H locs ht hvm hw9 hB9 hz1 hk1 hS => ?_)
      have e9F : fT (fT vF 53 (upd (upd (vF 53) ((nI fN)).toNatClampNeg (nI (sN + 1))) (nI fr).toNatClampNeg 0)) 52 (upd (vF 52) (nI fr).toNatClampNeg (nI dN)) = fT (fT (fT vF 53 (upd (vF 53) ((nI fN)).toNatClampNeg (nI (sN + 1)))) 52 (upd (vF 52) (nI fr).toNatClampNeg (nI dN))) 53 (upd (upd (vF 53) ((nI fN)).toNatClampNeg (nI (sN + 1))) (nI fr).toNatClampNeg 0) := ((fT_sw _ _ _ (Nat.ne_of_beq_eq_false rfl)).trans (congrArg (fun g9 => fT g9 52 (upd (vF 52) (nI fr).toNatClampNeg (nI dN))) (fT_sm _ _ _ _))).symm
      have hP := wr_PF e9F (fz_P ht hB9.1)
      have hD := wr_DF e9F (hB9.2.weaken (fun _ q _ h => hFc q.1 h))
      clear e9F
      refine lv_goto (tgt := 176) hx hb dX12_workPair_57 (by decide) ?_
      refine W.widen (k := 0) (n := 0) (by decide +kernel) (by decide +kernel) ?_
      have e9 : fT (fT (fT (fT (fT vi 21 s244) 22 p244) 81 (nI pN)) 89 (nI (fr + 1))) 82 sp244 = fT (fT (fT (fT vi 21 s244) 22 p244) 82 sp244) 89 (nI (fr + 1)) := Eq.trans (mv_2 rfl) (Eq.trans (congrArg (fT _ 81) (show nI pN = vi 81 from (by first | with_reducible rfl | with_reducible assumption | (symm; with_reducible assumption) | rfl | assumption | (symm; assumption) | (subst_vars; rfl)))) (Eq.trans (id_4 rfl) (mv_1 rfl)))
      have hP := wr_Pi e9 hP
      have hD := wr_Di e9 hD
      clear e9
      have e9 : fT (fT (fT (fT vF 53 (upd (upd (vF 53) ((nI fN)).toNatClampNeg (nI (sN + 1))) (nI fr).toNatClampNeg 0)) 49 (vF 49)) 50 (vF 50)) 52 (upd (vF 52) (nI fr).toNatClampNeg (nI dN)) = fT (fT vF 53 (upd (upd (vF 53) ((nI fN)).toNatClampNeg (nI (sN + 1))) (nI fr).toNatClampNeg 0)) 52 (upd (vF 52) (nI fr).toNatClampNeg (nI dN)) := Eq.trans (mv_2 rfl) (Eq.trans (id_3 rfl) (Eq.trans (mv_1 rfl) (id_2 rfl)))
      have hP := wr_PF e9 hP
      have hD := wr_DF e9 hD
      clear e9
      exact W.vret hx hb hr (fun t9_ ht hW => ⟨⟨((vF 49), (vF 50), (upd (vF 52) (nI fr).toNatClampNeg (nI dN)), (upd (upd (vF 53) ((nI fN)).toNatClampNeg (nI (sN + 1))) (nI fr).toNatClampNeg 0), (fr + 1), pN, s244, p244, sp244), rfl, by (try dsimp only); exact ⟨fun v9 h9 => hRw v9 h9, f44_0, f44_1, by (obtain rfl : sN = 1 := by omega); (obtain rfl : pN = hN + 1 := by omega); exact StpO.push 2 la 1 hfN hfr1 (fun _ _ => rfl) (fun h9 => absurd h9 (by omega)) hdT.2.1 hdT.2.2.1 (by omega) (WtO.p2 hkk hdT.2.2.2.2 (Nat.le_refl _)) (by omega)⟩, by rw [ht]; exact hP, hD⟩, hS.F ht⟩) hS.2.2 dX12_workPair_176
  · have t_17 : (((sN + 1) : Nat) : Int) = 1 := toI_nne c_17 (nI_toInt (by omega)) (by decide)
    refine lv_aload_n hx hb dX12_workPair_20 rfl (lv_at hl 0 rfl) ?_
    refine lv_aload_n hx hb dX12_workPair_21 rfl (lv_at hl 0 rfl) ?_
    refine va_get (D := (dC, dI)) (ci := 12) (v := .ref (a 30)) (C := RX12) (T := TX12) (N := 163) (fs := fM (vS a vi vj)) hx hb hts iwsRX12_workPair_in12 hown hK hP 0 rfl rfl 54 (by decide) (hts (.fieldLink RX12 113 "OptimaWorksModel" "partA" "[I") (by decide +kernel)) (fun _ h9 => h9) rfl dX12_workPair_22 ?_
    refine lv_iload_n hx hb dX12_workPair_25 rfl (lv_at hl 2 rfl) ?_
    refine va_iald (cA := k 30) (n := 4200) (f := (vF 30)) hx hb hK hP 31 30 (WR_get 30 (by decide)) (TR_get 30 (by decide)) (vp_in_nI (show nN < 4200 by omega) (by omega)) dX12_workPair_26 ?_
    refine lv_topi (fun y39 hy39 => ?_)
    obtain rfl : ((vF 30) nN) = y39 := (hy39.trans (by rw [nI_clamp (by omega)])).symm
    refine lv_topi (fun y40 hy40 => ?_)
    obtain rfl : (nI cN) = y40 := (hy40.trans (hcN)).symm
    have hFc := allFree hD hS hA
    refine va_callv (va_runV (As := [.int (nI cN)]) (rest := []) ⟨hx, hb, hml, hown, hts⟩ (r_X12_call l dC dI a k h0 vi vj (fT vF 53 (upd (vF 53) ((nI fN)).toNatClampNeg (nI (sN + 1)))) vG (nI cN) fr hfr9 (by first | with_reducible assumption | decide | omega | rfl | assumption) H.size) (cwV 1 hts gwsRX12_workPair_3 rfl rfl rfl hd_yX12_call_RX12 (by decide +kernel)) (fz_pre (va_recv hK hP (ci := 12) (q0 := 0) rfl rfl) hP hK hD) rfl rfl hl.1 rfl (lv_room (Nat.le_of_ble_eq_true rfl)) dX12_workPair_27 (by decide +kernel)) hS (fun q _ h => hFc q h) hFc (fun u t9_ H locs ht hvm hw9 hB9 hz1 hk1 hS => ?_)
    have e9F : fT (fT vF 53 (upd (upd (vF 53) ((nI fN)).toNatClampNeg (nI (sN + 1))) (nI fr).toNatClampNeg 0)) 52 (upd (vF 52) (nI fr).toNatClampNeg (nI cN)) = fT (fT (fT vF 53 (upd (vF 53) ((nI fN)).toNatClampNeg (nI (sN + 1)))) 52 (upd (vF 52) (nI fr).toNatClampNeg (nI cN))) 53 (upd (upd (vF 53) ((nI fN)).toNatClampNeg (nI (sN + 1))) (nI fr).toNatClampNeg 0) := ((fT_sw _ _ _ (Nat.ne_of_beq_eq_false rfl)).trans (congrArg (fun g9 => fT g9 52 (upd (vF 52) (nI fr).toNatClampNeg (nI cN))) (fT_sm _ _ _ _))).symm
    have hP := wr_PF e9F (fz_P ht hB9.1)
    have hD := wr_DF e9F (hB9.2.weaken (fun _ q _ h => hFc q.1 h))
    clear e9F
    refine lv_goto (tgt := 176) hx hb dX12_workPair_30 (by decide) ?_
    refine W.widen (k := 0) (n := 0) (by decide +kernel) (by decide +kernel) ?_
    have e9 : fT (fT (fT (fT (fT vi 21 (vi 21)) 22 (vi 22)) 81 (nI pN)) 89 (nI (fr + 1))) 82 (vi 82) = fT vi 89 (nI (fr + 1)) := Eq.trans (mv_4 rfl) (Eq.trans (id_4 rfl) (Eq.trans (mv_3 rfl) (Eq.trans (id_3 rfl) (Eq.trans (mv_2 rfl) (Eq.trans (congrArg (fT _ 81) (show nI pN = vi 81 from (by first | with_reducible rfl | with_reducible assumption | (symm; with_reducible assumption) | rfl | assumption | (symm; assumption) | (subst_vars; rfl)))) (Eq.trans (id_2 rfl) (id_1 rfl)))))))
    have hP := wr_Pi e9 hP
    have hD := wr_Di e9 hD
    clear e9
    have e9 : fT (fT (fT (fT vF 53 (upd (upd (vF 53) ((nI fN)).toNatClampNeg (nI (sN + 1))) (nI fr).toNatClampNeg 0)) 49 (vF 49)) 50 (vF 50)) 52 (upd (vF 52) (nI fr).toNatClampNeg (nI cN)) = fT (fT vF 53 (upd (upd (vF 53) ((nI fN)).toNatClampNeg (nI (sN + 1))) (nI fr).toNatClampNeg 0)) 52 (upd (vF 52) (nI fr).toNatClampNeg (nI cN)) := Eq.trans (mv_2 rfl) (Eq.trans (id_3 rfl) (Eq.trans (mv_1 rfl) (id_2 rfl)))
    have hP := wr_PF e9 hP
    have hD := wr_DF e9 hD
    clear e9
    exact W.vret hx hb hr (fun t9_ ht hW => ⟨⟨((vF 49), (vF 50), (upd (vF 52) (nI fr).toNatClampNeg (nI cN)), (upd (upd (vF 53) ((nI fN)).toNatClampNeg (nI (sN + 1))) (nI fr).toNatClampNeg 0), (fr + 1), pN, (vi 21), (vi 22), (vi 82)), rfl, by (try dsimp only); exact ⟨fun v9 h9 => hRw v9 h9, hst0, Or.inl rfl, by (obtain rfl : sN = 0 := by omega); (obtain rfl : pN = hN := by omega); exact StpO.push 1 la (wt dN + 2) hfN hfr1 (fun _ _ => rfl) (fun h9 => absurd h9 (by omega)) hcT.2.1 hcT.2.2.1 (by omega) (WtO.p1 hkk hcT.2.2.2.2 hdT (Nat.le_refl _)) (by omega)⟩, by rw [ht]; exact hP, hD⟩, hS.F ht⟩) hS.2.2 dX12_workPair_176
end
section
theorem dX12_workCompare_0 : decode cX12_workCompare 0 = .ok (.aload_n 0, 1) := dk_42 (by decide +kernel)
theorem dX12_workCompare_1 : decode cX12_workCompare 1 = .ok (.getfield 182, 3) := dk_180 (by decide +kernel)
theorem dX12_workCompare_4 : decode cX12_workCompare 4 = .ok (.iload_n 1, 1) := dk_27 (by decide +kernel)
theorem dX12_workCompare_5 : decode cX12_workCompare 5 = .ok (.dup2, 1) := dk_92 (by decide +kernel)
theorem dX12_workCompare_6 : decode cX12_workCompare 6 = .ok (.iaload, 1) := dk_46 (by decide +kernel)
theorem dX12_workCompare_7 : decode cX12_workCompare 7 = .ok (.iconst 1, 1) := dk_4 (by decide +kernel)
theorem dX12_workCompare_8 : decode cX12_workCompare 8 = .ok (.iadd, 1) := dk_96 (by decide +kernel)
theorem dX12_workCompare_9 : decode cX12_workCompare 9 = .ok (.iastore, 1) := dk_79 (by decide +kernel)
theorem dX12_workCompare_10 : decode cX12_workCompare 10 = .ok (.aload_n 0, 1) := dk_42 (by decide +kernel)
theorem dX12_workCompare_11 : decode cX12_workCompare 11 = .ok (.getfield 182, 3) := dk_180 (by decide +kernel)
theorem dX12_workCompare_14 : decode cX12_workCompare 14 = .ok (.iload_n 1, 1) := dk_27 (by decide +kernel)
theorem dX12_workCompare_15 : decode cX12_workCompare 15 = .ok (.iaload, 1) := dk_46 (by decide +kernel)
theorem dX12_workCompare_16 : decode cX12_workCompare 16 = .ok (.iconst 1, 1) := dk_4 (by decide +kernel)
theorem dX12_workCompare_17 : decode cX12_workCompare 17 = .ok (.if_icmp .ne 16, 3) := dk_160 (by decide +kernel)
theorem dX12_workCompare_20 : decode cX12_workCompare 20 = .ok (.aload_n 0, 1) := dk_42 (by decide +kernel)
theorem dX12_workCompare_21 : decode cX12_workCompare 21 = .ok (.aload_n 0, 1) := dk_42 (by decide +kernel)
theorem dX12_workCompare_22 : decode cX12_workCompare 22 = .ok (.getfield 113, 3) := dk_180 (by decide +kernel)
theorem dX12_workCompare_25 : decode cX12_workCompare 25 = .ok (.iload_n 2, 1) := dk_28 (by decide +kernel)
theorem dX12_workCompare_26 : decode cX12_workCompare 26 = .ok (.iaload, 1) := dk_46 (by decide +kernel)
theorem dX12_workCompare_27 : decode cX12_workCompare 27 = .ok (.invokevirtual 650, 3) := dk_182 (by decide +kernel)
theorem dX12_workCompare_30 : decode cX12_workCompare 30 = .ok (.goto 297, 3) := dk_167 (by decide +kernel)
theorem dX12_workCompare_33 : decode cX12_workCompare 33 = .ok (.aload_n 0, 1) := dk_42 (by decide +kernel)
theorem dX12_workCompare_34 : decode cX12_workCompare 34 = .ok (.getfield 182, 3) := dk_180 (by decide +kernel)
theorem dX12_workCompare_37 : decode cX12_workCompare 37 = .ok (.iload_n 1, 1) := dk_27 (by decide +kernel)
theorem dX12_workCompare_38 : decode cX12_workCompare 38 = .ok (.iaload, 1) := dk_46 (by decide +kernel)
theorem dX12_workCompare_39 : decode cX12_workCompare 39 = .ok (.iconst 2, 1) := dk_5 (by decide +kernel)
theorem dX12_workCompare_40 : decode cX12_workCompare 40 = .ok (.if_icmp .ne 44, 3) := dk_160 (by decide +kernel)
theorem dX12_workCompare_43 : decode cX12_workCompare 43 = .ok (.aload_n 0, 1) := dk_42 (by decide +kernel)
theorem dX12_workCompare_44 : decode cX12_workCompare 44 = .ok (.aload_n 0, 1) := dk_42 (by decide +kernel)
theorem dX12_workCompare_45 : decode cX12_workCompare 45 = .ok (.getfield 659, 3) := dk_180 (by decide +kernel)
theorem dX12_workCompare_48 : decode cX12_workCompare 48 = .ok (.iconst 1, 1) := dk_4 (by decide +kernel)
theorem dX12_workCompare_49 : decode cX12_workCompare 49 = .ok (.isub, 1) := dk_100 (by decide +kernel)
theorem dX12_workCompare_50 : decode cX12_workCompare 50 = .ok (.invokevirtual 638, 3) := dk_182 (by decide +kernel)
theorem dX12_workCompare_53 : decode cX12_workCompare 53 = .ok (.ifCond .eq 18, 3) := dk_153 (by decide +kernel)
theorem dX12_workCompare_56 : decode cX12_workCompare 56 = .ok (.aload_n 0, 1) := dk_42 (by decide +kernel)
theorem dX12_workCompare_57 : decode cX12_workCompare 57 = .ok (.bipush 7, 2) := dk_16 (by decide +kernel)
theorem dX12_workCompare_59 : decode cX12_workCompare 59 = .ok (.aload_n 0, 1) := dk_42 (by decide +kernel)
theorem dX12_workCompare_60 : decode cX12_workCompare 60 = .ok (.getfield 125, 3) := dk_180 (by decide +kernel)
theorem dX12_workCompare_63 : decode cX12_workCompare 63 = .ok (.iload_n 2, 1) := dk_28 (by decide +kernel)
theorem dX12_workCompare_64 : decode cX12_workCompare 64 = .ok (.iaload, 1) := dk_46 (by decide +kernel)
theorem dX12_workCompare_65 : decode cX12_workCompare 65 = .ok (.invokevirtual 518, 3) := dk_182 (by decide +kernel)
theorem dX12_workCompare_68 : decode cX12_workCompare 68 = .ok (.goto 259, 3) := dk_167 (by decide +kernel)
theorem dX12_workCompare_71 : decode cX12_workCompare 71 = .ok (.aload_n 0, 1) := dk_42 (by decide +kernel)
theorem dX12_workCompare_72 : decode cX12_workCompare 72 = .ok (.aload_n 0, 1) := dk_42 (by decide +kernel)
theorem dX12_workCompare_73 : decode cX12_workCompare 73 = .ok (.getfield 116, 3) := dk_180 (by decide +kernel)
theorem dX12_workCompare_76 : decode cX12_workCompare 76 = .ok (.iload_n 2, 1) := dk_28 (by decide +kernel)
theorem dX12_workCompare_77 : decode cX12_workCompare 77 = .ok (.iaload, 1) := dk_46 (by decide +kernel)
theorem dX12_workCompare_78 : decode cX12_workCompare 78 = .ok (.invokevirtual 650, 3) := dk_182 (by decide +kernel)
theorem dX12_workCompare_81 : decode cX12_workCompare 81 = .ok (.goto 246, 3) := dk_167 (by decide +kernel)
theorem dX12_workCompare_84 : decode cX12_workCompare 84 = .ok (.aload_n 0, 1) := dk_42 (by decide +kernel)
theorem dX12_workCompare_85 : decode cX12_workCompare 85 = .ok (.getfield 659, 3) := dk_180 (by decide +kernel)
theorem dX12_workCompare_88 : decode cX12_workCompare 88 = .ok (.iconst 1, 1) := dk_4 (by decide +kernel)
theorem dX12_workCompare_89 : decode cX12_workCompare 89 = .ok (.isub, 1) := dk_100 (by decide +kernel)
theorem dX12_workCompare_90 : decode cX12_workCompare 90 = .ok (.istore_n 3, 1) := dk_62 (by decide +kernel)
theorem dX12_workCompare_91 : decode cX12_workCompare 91 = .ok (.aload_n 0, 1) := dk_42 (by decide +kernel)
theorem dX12_workCompare_92 : decode cX12_workCompare 92 = .ok (.getfield 659, 3) := dk_180 (by decide +kernel)
theorem dX12_workCompare_95 : decode cX12_workCompare 95 = .ok (.iconst 2, 1) := dk_5 (by decide +kernel)
theorem dX12_workCompare_96 : decode cX12_workCompare 96 = .ok (.isub, 1) := dk_100 (by decide +kernel)
theorem dX12_workCompare_97 : decode cX12_workCompare 97 = .ok (.istore 4, 2) := dk_54 (by decide +kernel)
theorem dX12_workCompare_99 : decode cX12_workCompare 99 = .ok (.aload_n 0, 1) := dk_42 (by decide +kernel)
theorem dX12_workCompare_100 : decode cX12_workCompare 100 = .ok (.iload_n 3, 1) := dk_29 (by decide +kernel)
theorem dX12_workCompare_101 : decode cX12_workCompare 101 = .ok (.invokevirtual 638, 3) := dk_182 (by decide +kernel)
theorem dX12_workCompare_104 : decode cX12_workCompare 104 = .ok (.ifCond .eq 15, 3) := dk_153 (by decide +kernel)
theorem dX12_workCompare_107 : decode cX12_workCompare 107 = .ok (.aload_n 0, 1) := dk_42 (by decide +kernel)
theorem dX12_workCompare_108 : decode cX12_workCompare 108 = .ok (.bipush 7, 2) := dk_16 (by decide +kernel)
theorem dX12_workCompare_110 : decode cX12_workCompare 110 = .ok (.aload_n 0, 1) := dk_42 (by decide +kernel)
theorem dX12_workCompare_111 : decode cX12_workCompare 111 = .ok (.getfield 128, 3) := dk_180 (by decide +kernel)
theorem dX12_workCompare_114 : decode cX12_workCompare 114 = .ok (.iload_n 2, 1) := dk_28 (by decide +kernel)
theorem dX12_workCompare_115 : decode cX12_workCompare 115 = .ok (.iaload, 1) := dk_46 (by decide +kernel)
theorem dX12_workCompare_116 : decode cX12_workCompare 116 = .ok (.invokevirtual 518, 3) := dk_182 (by decide +kernel)
theorem dX12_workCompare_119 : decode cX12_workCompare 119 = .ok (.aload_n 0, 1) := dk_42 (by decide +kernel)
theorem dX12_workCompare_120 : decode cX12_workCompare 120 = .ok (.getfield 170, 3) := dk_180 (by decide +kernel)
theorem dX12_workCompare_123 : decode cX12_workCompare 123 = .ok (.bipush 9, 2) := dk_16 (by decide +kernel)
theorem dX12_workCompare_125 : decode cX12_workCompare 125 = .ok (.iload 4, 2) := dk_21 (by decide +kernel)
theorem dX12_workCompare_127 : decode cX12_workCompare 127 = .ok (.imul, 1) := dk_104 (by decide +kernel)
theorem dX12_workCompare_128 : decode cX12_workCompare 128 = .ok (.iaload, 1) := dk_46 (by decide +kernel)
theorem dX12_workCompare_129 : decode cX12_workCompare 129 = .ok (.i2l, 1) := dk_133 (by decide +kernel)
theorem dX12_workCompare_130 : decode cX12_workCompare 130 = .ok (.aload_n 0, 1) := dk_42 (by decide +kernel)
theorem dX12_workCompare_131 : decode cX12_workCompare 131 = .ok (.getfield 173, 3) := dk_180 (by decide +kernel)
theorem dX12_workCompare_134 : decode cX12_workCompare 134 = .ok (.bipush 9, 2) := dk_16 (by decide +kernel)
theorem dX12_workCompare_136 : decode cX12_workCompare 136 = .ok (.iload_n 3, 1) := dk_29 (by decide +kernel)
theorem dX12_workCompare_137 : decode cX12_workCompare 137 = .ok (.imul, 1) := dk_104 (by decide +kernel)
theorem dX12_workCompare_138 : decode cX12_workCompare 138 = .ok (.iaload, 1) := dk_46 (by decide +kernel)
theorem dX12_workCompare_139 : decode cX12_workCompare 139 = .ok (.i2l, 1) := dk_133 (by decide +kernel)
theorem dX12_workCompare_140 : decode cX12_workCompare 140 = .ok (.lmul, 1) := dk_105 (by decide +kernel)
theorem dX12_workCompare_141 : decode cX12_workCompare 141 = .ok (.lstore 5, 2) := dk_55 (by decide +kernel)
theorem dX12_workCompare_143 : decode cX12_workCompare 143 = .ok (.aload_n 0, 1) := dk_42 (by decide +kernel)
theorem dX12_workCompare_144 : decode cX12_workCompare 144 = .ok (.getfield 170, 3) := dk_180 (by decide +kernel)
theorem dX12_workCompare_147 : decode cX12_workCompare 147 = .ok (.bipush 9, 2) := dk_16 (by decide +kernel)
theorem dX12_workCompare_149 : decode cX12_workCompare 149 = .ok (.iload_n 3, 1) := dk_29 (by decide +kernel)
theorem dX12_workCompare_150 : decode cX12_workCompare 150 = .ok (.imul, 1) := dk_104 (by decide +kernel)
theorem dX12_workCompare_151 : decode cX12_workCompare 151 = .ok (.iaload, 1) := dk_46 (by decide +kernel)
theorem dX12_workCompare_152 : decode cX12_workCompare 152 = .ok (.i2l, 1) := dk_133 (by decide +kernel)
theorem dX12_workCompare_153 : decode cX12_workCompare 153 = .ok (.aload_n 0, 1) := dk_42 (by decide +kernel)
theorem dX12_workCompare_154 : decode cX12_workCompare 154 = .ok (.getfield 173, 3) := dk_180 (by decide +kernel)
theorem dX12_workCompare_157 : decode cX12_workCompare 157 = .ok (.bipush 9, 2) := dk_16 (by decide +kernel)
theorem dX12_workCompare_159 : decode cX12_workCompare 159 = .ok (.iload 4, 2) := dk_21 (by decide +kernel)
theorem dX12_workCompare_161 : decode cX12_workCompare 161 = .ok (.imul, 1) := dk_104 (by decide +kernel)
theorem dX12_workCompare_162 : decode cX12_workCompare 162 = .ok (.iaload, 1) := dk_46 (by decide +kernel)
theorem dX12_workCompare_163 : decode cX12_workCompare 163 = .ok (.i2l, 1) := dk_133 (by decide +kernel)
theorem dX12_workCompare_164 : decode cX12_workCompare 164 = .ok (.lmul, 1) := dk_105 (by decide +kernel)
theorem dX12_workCompare_165 : decode cX12_workCompare 165 = .ok (.lstore 7, 2) := dk_55 (by decide +kernel)
theorem dX12_workCompare_167 : decode cX12_workCompare 167 = .ok (.aload_n 0, 1) := dk_42 (by decide +kernel)
theorem dX12_workCompare_168 : decode cX12_workCompare 168 = .ok (.getfield 119, 3) := dk_180 (by decide +kernel)
theorem dX12_workCompare_171 : decode cX12_workCompare 171 = .ok (.iload_n 2, 1) := dk_28 (by decide +kernel)
theorem dX12_workCompare_172 : decode cX12_workCompare 172 = .ok (.iaload, 1) := dk_46 (by decide +kernel)
theorem dX12_workCompare_173 : decode cX12_workCompare 173 = .ok (.istore 9, 2) := dk_54 (by decide +kernel)
theorem dX12_workCompare_175 : decode cX12_workCompare 175 = .ok (.aload_n 0, 1) := dk_42 (by decide +kernel)
theorem dX12_workCompare_176 : decode cX12_workCompare 176 = .ok (.iload 9, 2) := dk_21 (by decide +kernel)
theorem dX12_workCompare_178 : decode cX12_workCompare 178 = .ok (.bipush 76, 2) := dk_16 (by decide +kernel)
theorem dX12_workCompare_180 : decode cX12_workCompare 180 = .ok (.if_icmp .ne 19, 3) := dk_160 (by decide +kernel)
theorem dX12_workCompare_183 : decode cX12_workCompare 183 = .ok (.lload 5, 2) := dk_22 (by decide +kernel)
theorem dX12_workCompare_185 : decode cX12_workCompare 185 = .ok (.lload 7, 2) := dk_22 (by decide +kernel)
theorem dX12_workCompare_187 : decode cX12_workCompare 187 = .ok (.lcmp, 1) := dk_148 (by decide +kernel)
theorem dX12_workCompare_188 : decode cX12_workCompare 188 = .ok (.ifCond .gt 7, 3) := dk_157 (by decide +kernel)
theorem dX12_workCompare_191 : decode cX12_workCompare 191 = .ok (.iconst 1, 1) := dk_4 (by decide +kernel)
theorem dX12_workCompare_192 : decode cX12_workCompare 192 = .ok (.goto 112, 3) := dk_167 (by decide +kernel)
theorem dX12_workCompare_195 : decode cX12_workCompare 195 = .ok (.iconst 0, 1) := dk_3 (by decide +kernel)
theorem dX12_workCompare_196 : decode cX12_workCompare 196 = .ok (.goto 108, 3) := dk_167 (by decide +kernel)
theorem dX12_workCompare_199 : decode cX12_workCompare 199 = .ok (.iload 9, 2) := dk_21 (by decide +kernel)
theorem dX12_workCompare_201 : decode cX12_workCompare 201 = .ok (.bipush 71, 2) := dk_16 (by decide +kernel)
theorem dX12_workCompare_203 : decode cX12_workCompare 203 = .ok (.if_icmp .ne 19, 3) := dk_160 (by decide +kernel)
theorem dX12_workCompare_206 : decode cX12_workCompare 206 = .ok (.lload 5, 2) := dk_22 (by decide +kernel)
theorem dX12_workCompare_208 : decode cX12_workCompare 208 = .ok (.lload 7, 2) := dk_22 (by decide +kernel)
theorem dX12_workCompare_210 : decode cX12_workCompare 210 = .ok (.lcmp, 1) := dk_148 (by decide +kernel)
theorem dX12_workCompare_211 : decode cX12_workCompare 211 = .ok (.ifCond .lt 7, 3) := dk_155 (by decide +kernel)
theorem dX12_workCompare_214 : decode cX12_workCompare 214 = .ok (.iconst 1, 1) := dk_4 (by decide +kernel)
theorem dX12_workCompare_215 : decode cX12_workCompare 215 = .ok (.goto 89, 3) := dk_167 (by decide +kernel)
theorem dX12_workCompare_218 : decode cX12_workCompare 218 = .ok (.iconst 0, 1) := dk_3 (by decide +kernel)
theorem dX12_workCompare_219 : decode cX12_workCompare 219 = .ok (.goto 85, 3) := dk_167 (by decide +kernel)
theorem dX12_workCompare_222 : decode cX12_workCompare 222 = .ok (.iload 9, 2) := dk_21 (by decide +kernel)
theorem dX12_workCompare_224 : decode cX12_workCompare 224 = .ok (.bipush 60, 2) := dk_16 (by decide +kernel)
theorem dX12_workCompare_226 : decode cX12_workCompare 226 = .ok (.if_icmp .ne 19, 3) := dk_160 (by decide +kernel)
theorem dX12_workCompare_229 : decode cX12_workCompare 229 = .ok (.lload 5, 2) := dk_22 (by decide +kernel)
theorem dX12_workCompare_231 : decode cX12_workCompare 231 = .ok (.lload 7, 2) := dk_22 (by decide +kernel)
theorem dX12_workCompare_233 : decode cX12_workCompare 233 = .ok (.lcmp, 1) := dk_148 (by decide +kernel)
theorem dX12_workCompare_234 : decode cX12_workCompare 234 = .ok (.ifCond .ge 7, 3) := dk_156 (by decide +kernel)
theorem dX12_workCompare_237 : decode cX12_workCompare 237 = .ok (.iconst 1, 1) := dk_4 (by decide +kernel)
theorem dX12_workCompare_238 : decode cX12_workCompare 238 = .ok (.goto 66, 3) := dk_167 (by decide +kernel)
theorem dX12_workCompare_241 : decode cX12_workCompare 241 = .ok (.iconst 0, 1) := dk_3 (by decide +kernel)
theorem dX12_workCompare_242 : decode cX12_workCompare 242 = .ok (.goto 62, 3) := dk_167 (by decide +kernel)
theorem dX12_workCompare_245 : decode cX12_workCompare 245 = .ok (.iload 9, 2) := dk_21 (by decide +kernel)
theorem dX12_workCompare_247 : decode cX12_workCompare 247 = .ok (.bipush 62, 2) := dk_16 (by decide +kernel)
theorem dX12_workCompare_249 : decode cX12_workCompare 249 = .ok (.if_icmp .ne 19, 3) := dk_160 (by decide +kernel)
theorem dX12_workCompare_252 : decode cX12_workCompare 252 = .ok (.lload 5, 2) := dk_22 (by decide +kernel)
theorem dX12_workCompare_254 : decode cX12_workCompare 254 = .ok (.lload 7, 2) := dk_22 (by decide +kernel)
theorem dX12_workCompare_256 : decode cX12_workCompare 256 = .ok (.lcmp, 1) := dk_148 (by decide +kernel)
theorem dX12_workCompare_257 : decode cX12_workCompare 257 = .ok (.ifCond .le 7, 3) := dk_158 (by decide +kernel)
theorem dX12_workCompare_260 : decode cX12_workCompare 260 = .ok (.iconst 1, 1) := dk_4 (by decide +kernel)
theorem dX12_workCompare_261 : decode cX12_workCompare 261 = .ok (.goto 43, 3) := dk_167 (by decide +kernel)
theorem dX12_workCompare_264 : decode cX12_workCompare 264 = .ok (.iconst 0, 1) := dk_3 (by decide +kernel)
theorem dX12_workCompare_265 : decode cX12_workCompare 265 = .ok (.goto 39, 3) := dk_167 (by decide +kernel)
theorem dX12_workCompare_268 : decode cX12_workCompare 268 = .ok (.iload 9, 2) := dk_21 (by decide +kernel)
theorem dX12_workCompare_270 : decode cX12_workCompare 270 = .ok (.bipush 61, 2) := dk_16 (by decide +kernel)
theorem dX12_workCompare_272 : decode cX12_workCompare 272 = .ok (.if_icmp .ne 19, 3) := dk_160 (by decide +kernel)
theorem dX12_workCompare_275 : decode cX12_workCompare 275 = .ok (.lload 5, 2) := dk_22 (by decide +kernel)
theorem dX12_workCompare_277 : decode cX12_workCompare 277 = .ok (.lload 7, 2) := dk_22 (by decide +kernel)
theorem dX12_workCompare_279 : decode cX12_workCompare 279 = .ok (.lcmp, 1) := dk_148 (by decide +kernel)
theorem dX12_workCompare_280 : decode cX12_workCompare 280 = .ok (.ifCond .ne 7, 3) := dk_154 (by decide +kernel)
theorem dX12_workCompare_283 : decode cX12_workCompare 283 = .ok (.iconst 1, 1) := dk_4 (by decide +kernel)
theorem dX12_workCompare_284 : decode cX12_workCompare 284 = .ok (.goto 20, 3) := dk_167 (by decide +kernel)
theorem dX12_workCompare_287 : decode cX12_workCompare 287 = .ok (.iconst 0, 1) := dk_3 (by decide +kernel)
theorem dX12_workCompare_288 : decode cX12_workCompare 288 = .ok (.goto 16, 3) := dk_167 (by decide +kernel)
theorem dX12_workCompare_291 : decode cX12_workCompare 291 = .ok (.lload 5, 2) := dk_22 (by decide +kernel)
theorem dX12_workCompare_293 : decode cX12_workCompare 293 = .ok (.lload 7, 2) := dk_22 (by decide +kernel)
theorem dX12_workCompare_295 : decode cX12_workCompare 295 = .ok (.lcmp, 1) := dk_148 (by decide +kernel)
theorem dX12_workCompare_296 : decode cX12_workCompare 296 = .ok (.ifCond .eq 7, 3) := dk_153 (by decide +kernel)
theorem dX12_workCompare_299 : decode cX12_workCompare 299 = .ok (.iconst 1, 1) := dk_4 (by decide +kernel)
theorem dX12_workCompare_300 : decode cX12_workCompare 300 = .ok (.goto 4, 3) := dk_167 (by decide +kernel)
theorem dX12_workCompare_303 : decode cX12_workCompare 303 = .ok (.iconst 0, 1) := dk_3 (by decide +kernel)
theorem dX12_workCompare_304 : decode cX12_workCompare 304 = .ok (.putfield 674, 3) := dk_181 (by decide +kernel)
theorem dX12_workCompare_307 : decode cX12_workCompare 307 = .ok (.aload_n 0, 1) := dk_42 (by decide +kernel)
theorem dX12_workCompare_308 : decode cX12_workCompare 308 = .ok (.dup, 1) := dk_89 (by decide +kernel)
theorem dX12_workCompare_309 : decode cX12_workCompare 309 = .ok (.getfield 659, 3) := dk_180 (by decide +kernel)
theorem dX12_workCompare_312 : decode cX12_workCompare 312 = .ok (.iconst 2, 1) := dk_5 (by decide +kernel)
theorem dX12_workCompare_313 : decode cX12_workCompare 313 = .ok (.isub, 1) := dk_100 (by decide +kernel)
theorem dX12_workCompare_314 : decode cX12_workCompare 314 = .ok (.putfield 659, 3) := dk_181 (by decide +kernel)
theorem dX12_workCompare_317 : decode cX12_workCompare 317 = .ok (.aload_n 0, 1) := dk_42 (by decide +kernel)
theorem dX12_workCompare_318 : decode cX12_workCompare 318 = .ok (.dup, 1) := dk_89 (by decide +kernel)
theorem dX12_workCompare_319 : decode cX12_workCompare 319 = .ok (.getfield 647, 3) := dk_180 (by decide +kernel)
theorem dX12_workCompare_322 : decode cX12_workCompare 322 = .ok (.iconst 1, 1) := dk_4 (by decide +kernel)
theorem dX12_workCompare_323 : decode cX12_workCompare 323 = .ok (.isub, 1) := dk_100 (by decide +kernel)
theorem dX12_workCompare_324 : decode cX12_workCompare 324 = .ok (.putfield 647, 3) := dk_181 (by decide +kernel)
theorem dX12_workCompare_327 : decode cX12_workCompare 327 = .ok (.return_, 1) := dk_177 (by decide +kernel)
def wsRX12_workCompare : List Cond := .code yX12_workCompare cX12_workCompare 10 none :: ([.fieldLink RX12 182 "OptimaWorksModel" "stage" "[I", .fieldLink RX12 659 "OptimaWorksModel" "piled" "I", .fieldLink RX12 170 "OptimaWorksModel" "top" "[I", .fieldLink RX12 173 "OptimaWorksModel" "under" "[I", .fieldLink RX12 119 "OptimaWorksModel" "partC" "[I", .fieldLink RX12 674 "OptimaWorksModel" "truth" "Z", .fieldLink RX12 647 "OptimaWorksModel" "framed" "I", .fieldLink RX12 128 "OptimaWorksModel" "firstB" "[I", .fieldLink RX12 116 "OptimaWorksModel" "partB" "[I", .fieldLink RX12 125 "OptimaWorksModel" "firstA" "[I", .fieldLink RX12 113 "OptimaWorksModel" "partA" "[I"] ++ wsX120 ++ (wsV RX12 638 RX12 yX12_hasVariables wsRX12_hasVariables) ++ (wsV RX12 518 RX12 yX12_faultAt wsRX12_faultAt) ++ (wsV RX12 650 RX12 yX12_call wsRX12_call))
theorem iwsRX12_workCompare_in12 : ∀ w ∈ wsX120, w ∈ wsRX12_workCompare := fun _ h => List.mem_cons_of_mem _ (List.mem_append_left _ (List.mem_append_left _ (List.mem_append_left _ (List.mem_append_right _ h))))
theorem gwsRX12_workCompare_0 : GoodIn wsRX12_workCompare (wsV RX12 638 RX12 yX12_hasVariables wsRX12_hasVariables) := goodIn_sub (fun _ h => List.mem_cons_of_mem _ (List.mem_append_left _ (List.mem_append_left _ (List.mem_append_right _ h)))) (gdV (by decide +kernel) gdwsRX12_hasVariables)
theorem gwsRX12_workCompare_1 : GoodIn wsRX12_workCompare (wsV RX12 518 RX12 yX12_faultAt wsRX12_faultAt) := goodIn_sub (fun _ h => List.mem_cons_of_mem _ (List.mem_append_left _ (List.mem_append_right _ h))) (gdV (by decide +kernel) gdwsRX12_faultAt)
theorem gwsRX12_workCompare_2 : GoodIn wsRX12_workCompare (wsV RX12 650 RX12 yX12_call wsRX12_call) := goodIn_sub (fun _ h => List.mem_cons_of_mem _ (List.mem_append_right _ h)) (gdV (by decide +kernel) gdwsRX12_call)
theorem gdwsRX12_workCompare : wsRX12_workCompare.all goodWord = true := gdC rfl (gdA (gdA (gdA (gdA (by decide +kernel : ([.fieldLink RX12 182 "OptimaWorksModel" "stage" "[I", .fieldLink RX12 659 "OptimaWorksModel" "piled" "I", .fieldLink RX12 170 "OptimaWorksModel" "top" "[I", .fieldLink RX12 173 "OptimaWorksModel" "under" "[I", .fieldLink RX12 119 "OptimaWorksModel" "partC" "[I", .fieldLink RX12 674 "OptimaWorksModel" "truth" "Z", .fieldLink RX12 647 "OptimaWorksModel" "framed" "I", .fieldLink RX12 128 "OptimaWorksModel" "firstB" "[I", .fieldLink RX12 116 "OptimaWorksModel" "partB" "[I", .fieldLink RX12 125 "OptimaWorksModel" "firstA" "[I", .fieldLink RX12 113 "OptimaWorksModel" "partA" "[I"] : List Cond).all goodWord = true) gdwsX120) (gdV (by decide +kernel) gdwsRX12_hasVariables)) (gdV (by decide +kernel) gdwsRX12_faultAt)) (gdV (by decide +kernel) gdwsRX12_call))
theorem hm_r_X12_workCompare_0 : (.fieldLink RX12 182 "OptimaWorksModel" "stage" "[I" : Cond) ∈ wsRX12_workCompare := by decide +kernel
theorem hm_r_X12_workCompare_1 : (.fieldLink RX12 659 "OptimaWorksModel" "piled" "I" : Cond) ∈ wsRX12_workCompare := by decide +kernel
theorem hm_r_X12_workCompare_2 : (.fieldLink RX12 170 "OptimaWorksModel" "top" "[I" : Cond) ∈ wsRX12_workCompare := by decide +kernel
theorem hm_r_X12_workCompare_3 : (.fieldLink RX12 173 "OptimaWorksModel" "under" "[I" : Cond) ∈ wsRX12_workCompare := by decide +kernel
theorem hm_r_X12_workCompare_4 : (.fieldLink RX12 119 "OptimaWorksModel" "partC" "[I" : Cond) ∈ wsRX12_workCompare := by decide +kernel
theorem hm_r_X12_workCompare_5 : (.fieldLink RX12 674 "OptimaWorksModel" "truth" "Z" : Cond) ∈ wsRX12_workCompare := by decide +kernel
theorem hm_r_X12_workCompare_6 : (.fieldLink RX12 647 "OptimaWorksModel" "framed" "I" : Cond) ∈ wsRX12_workCompare := by decide +kernel
set_option maxHeartbeats 4000000 in
set_option maxRecDepth 100000 in
/-- workCompare(f, n) -/
theorem r_X12_workCompare (l : Launch) (dC : Nat → ClassId) (dI : Nat → Nat → Nat) (a : Nat → Nat) (k : Nat → ClassId) (h0 : Nat) (vi : Nat → Int32) (vj : Nat → Int64) (vF : Nat → Nat → Int32) (vG : Nat → Nat → Int64) (nF : Nat → Nat → Int32) (V : Nat → Prop) (wt : Nat → Nat) (dp : Nat → Nat) (pd : Nat → Nat) (nN : Nat) (kN : Nat) (sN : Nat) (la : Nat) (hN : Nat) (pN : Nat) (rN : Nat) (fN : Nat) (fr : Nat) (cN : Nat) (dN : Nat) (hnN : nN < 4000) (hfN : fN < 4299) (hkN : vF 29 nN = nI kN) (hsN : vF 53 fN = nI sN) (hfr9 : vi 89 = nI fr) (hfr1 : fr = fN + 1) (hTo : TopO nF V wt dp pd nN kN sN la hN pN rN) (hcN : vF 30 nN = nI cN) (hdN : vF 31 nN = nI dN) (hcT : KidL nF V dp pd nN 30 0 cN) (hdT : KidL nF V dp pd nN 31 1 dN) (hwN : wt cN + wt dN + 3 ≤ wt nN) (hkk : (5 ≤ kN ∧ kN ≤ 8) ∨ kN = 13) (hk8 : kN = 13) (hpl : vi 81 = nI pN) (hRw : ∀ v9, v9 < pN → RowU (vF 49) (vF 50) v9) (hpp : hN + pd nN ≤ 100) (hpd : 2 ≤ pd nN) (hst0 : 0 ≤ (vi 21).toInt) (sz : Nat) : Met l yX12_workCompare wsRX12_workCompare ({ frames := 1, cells := 0, slots := 0, locals := 23 }) (va_Pc [.ref h0, .int (nI fN), .int (nI nN)] (fun U => U.heap.size = sz ∧ va_P (dC, dI) vwCl (WR a k h0 vi vj vF vG) U.heap ∧ va_K (dC, dI) vwCl (tX12 k) U ∧ va_D (fun _ => True) (WR a k h0 vi vj vF vG))) (va_Qv (fun (u : (Nat → Int32) × (Nat → Int32) × (Nat) × (Nat) × (Int32) × (Int32) × (Int32)) => (0 ≤ ((u.2.2.2.2.1)).toInt) ∧ ((u.2.2.2.2.1) = vi 21 ∨ 0 < ((u.2.2.2.2.1)).toInt) ∧ (0 < ((u.2.2.2.2.1)).toInt ∨ StpO nF V wt dp pd nN kN fN hN rN (vF 52) (vF 53) (vF 54) (u.1) (u.2.1) (vF 54) (u.2.2.1) (u.2.2.2.1)) ∧ ((u.2.2.2.1) ≤ pN) ∧ ((u.2.2.1) ≤ fr + 1)) (fun (u : (Nat → Int32) × (Nat → Int32) × (Nat) × (Nat) × (Int32) × (Int32) × (Int32)) t => va_P (dC, dI) vwCl (WR a k h0 (fT (fT (fT (fT (fT vi 21 (u.2.2.2.2.1)) 22 (u.2.2.2.2.2.1)) 84 (u.2.2.2.2.2.2)) 81 (nI (u.2.2.2.1))) 89 (nI (u.2.2.1))) vj (fT (fT vF 53 (u.2.1)) 52 (u.1)) vG) t.heap ∧ va_D (va_A (WR a k h0 vi vj vF vG) sz) (WR a k h0 (fT (fT (fT (fT (fT vi 21 (u.2.2.2.2.1)) 22 (u.2.2.2.2.2.1)) 84 (u.2.2.2.2.2.2)) 81 (nI (u.2.2.2.1))) 89 (nI (u.2.2.1))) vj (fT (fT vF 53 (u.2.1)) 52 (u.1)) vG)) (va_A (WR a k h0 vi vj vF vG) sz)) 0 0 (va_A (WR a k h0 vi vj vF vG) sz) := by
  refine Met.ofW (cc := cX12_workCompare) (maxL := 10) (ret := none) (by decide) rfl ?_
  intro p e s m args below meth c s₁ B hml hv
  obtain ⟨rfl, hsz, hP, hK, hD0⟩ := hv
  have hx := B.exec
  have hb := B.bytes
  have hr := B.returns
  have hts := atoms_spec (ws := wsRX12_workCompare) B.pre
  have hown : s.vm.findClass RX12 = some m.cls := findClass_of_methodNamed B.named
  have hlocks := B.notSynchronized
  subst hsz
  have hD := hD0.self (sz := s.heap.size)
  generalize hAe : va_A (WR a k h0 vi vj vF vG) s.heap.size = A at hD ⊢
  have hA : ∀ q : Nat, s.heap.size ≤ q → A q := fun q h => by rw [← hAe]; exact Or.inr h
  have hS : va_S A s.heap s.heap [] := va_S.rf
  have hl := lv_entry ([.ref h0, .int (nI fN), .int (nI nN)]) (n := 10) (Nat.le_of_ble_eq_true rfl)
  rw [lg_entry_eq]
  generalize (lg_sl ([.ref h0, .int (nI fN), .int (nI nN)]) ++ List.replicate (10 - (lg_sl ([.ref h0, .int (nI fN), .int (nI nN)])).length) Slot.unset).toArray = ls at hl ⊢
  have hl : lv_has ls 10 [(0, .ref h0), (1, .int (nI fN)), (2, .int (nI nN))] := hl
  have hsd := hTo.pair hkk hdT
  have hq1 := hcT.2.2.2.1
  have hq2 := hdT.2.2.2.1
  refine lv_aload_n hx hb dX12_workCompare_0 rfl (lv_at hl 0 rfl) ?_
  refine va_get (D := (dC, dI)) (ci := 12) (v := .ref (a 53)) (C := RX12) (T := TX12) (N := 163) (fs := fM (vS a vi vj)) hx hb hts iwsRX12_workCompare_in12 hown hK hP 0 rfl rfl 86 (by decide) (hts _ hm_r_X12_workCompare_0) (fun _ h9 => h9) rfl dX12_workCompare_1 ?_
  refine lv_iload_n hx hb dX12_workCompare_4 rfl (lv_at hl 1 rfl) ?_
  refine lv_dup2_11 hx hb dX12_workCompare_5 rfl rfl ?_
  refine va_iald (cA := k 53) (n := 4300) (f := (vF 53)) hx hb hK hP 54 53 (WR_get 53 (by decide)) (TR_get 53 (by decide)) (vp_in_nI (show fN < 4300 by omega) (by omega)) dX12_workCompare_6 ?_
  refine lv_topi (fun y1 hy1 => ?_)
  obtain rfl : ((vF 53) fN) = y1 := (hy1.trans (by rw [nI_clamp (by omega)])).symm
  refine lv_topi (fun y2 hy2 => ?_)
  obtain rfl : (nI sN) = y2 := (hy2.trans (hsN)).symm
  refine lv_iconst (v := 1) hx hb dX12_workCompare_7 (by decide) ?_
  refine lv_iadd hx hb dX12_workCompare_8 ?_
  refine lv_topi (fun y3 hy3 => ?_)
  obtain rfl : (nI (sN + 1)) = y3 := (hy3.trans (nI_add sN 1)).symm
  refine va_iast (cA := k 53) (n := 4300) (f := (vF 53)) hx hb hK hP hD hS 54 53 (WR_get 53 (by decide)) (TR_get 53 (by decide)) (vp_in_nI (show fN < 4300 by omega) (by omega)) dX12_workCompare_9 (fun H locs hP hD hS => ?_)
  have hP : va_P (dC, dI) vwCl (WR a k h0 vi vj (fT vF 53 (upd (vF 53) ((nI fN)).toNatClampNeg (nI (sN + 1)))) vG) H := fz_w (WR_F 53 (by decide) _ rfl) hP
  have hD : va_D A (WR a k h0 vi vj (fT vF 53 (upd (vF 53) ((nI fN)).toNatClampNeg (nI (sN + 1)))) vG) := fz_wD (WR_F 53 (by decide) _ rfl) hD
  refine lv_aload_n hx hb dX12_workCompare_10 rfl (lv_at hl 0 rfl) ?_
  refine va_get (D := (dC, dI)) (ci := 12) (v := .ref (a 53)) (C := RX12) (T := TX12) (N := 163) (fs := fM (vS a vi vj)) hx hb hts iwsRX12_workCompare_in12 hown hK hP 0 rfl rfl 86 (by decide) (hts _ hm_r_X12_workCompare_0) (fun _ h9 => h9) rfl dX12_workCompare_11 ?_
  refine lv_iload_n hx hb dX12_workCompare_14 rfl (lv_at hl 1 rfl) ?_
  refine va_iald (cA := k 53) (n := 4300) (f := (upd (vF 53) ((nI fN)).toNatClampNeg (nI (sN + 1)))) hx hb hK hP 54 53 (WR_get 53 (by decide)) (TR_get 53 (by decide)) (vp_in_nI (show fN < 4300 by omega) (by omega)) dX12_workCompare_15 ?_
  refine lv_topi (fun y4 hy4 => ?_)
  obtain rfl : ((upd (vF 53) ((nI fN)).toNatClampNeg (nI (sN + 1))) fN) = y4 := (hy4.trans (by rw [nI_clamp (by omega)])).symm
  refine lv_topi (fun y5 hy5 => ?_)
  obtain rfl : (nI (sN + 1)) = y5 := (hy5.trans ((by rw [upd_at (by omega), if_pos rfl]))).symm
  refine lv_iconst (v := 1) hx hb dX12_workCompare_16 (by decide) ?_
  refine lv_icmp_ne (tgt := 33) hx hb dX12_workCompare_17 (by decide) (fun c_17 => ?_) (fun c_17 => ?_)
  · have t_17 : (((sN + 1) : Nat) : Int) ≠ 1 := toI_ne c_17 (nI_toInt (by omega)) (by decide)
    refine lv_aload_n hx hb dX12_workCompare_33 rfl (lv_at hl 0 rfl) ?_
    refine va_get (D := (dC, dI)) (ci := 12) (v := .ref (a 53)) (C := RX12) (T := TX12) (N := 163) (fs := fM (vS a vi vj)) hx hb hts iwsRX12_workCompare_in12 hown hK hP 0 rfl rfl 86 (by decide) (hts _ hm_r_X12_workCompare_0) (fun _ h9 => h9) rfl dX12_workCompare_34 ?_
    refine lv_iload_n hx hb dX12_workCompare_37 rfl (lv_at hl 1 rfl) ?_
    refine va_iald (cA := k 53) (n := 4300) (f := (upd (vF 53) ((nI fN)).toNatClampNeg (nI (sN + 1)))) hx hb hK hP 54 53 (WR_get 53 (by decide)) (TR_get 53 (by decide)) (vp_in_nI (show fN < 4300 by omega) (by omega)) dX12_workCompare_38 ?_
    refine lv_topi (fun y6 hy6 => ?_)
    obtain rfl : ((upd (vF 53) ((nI fN)).toNatClampNeg (nI (sN + 1))) fN) = y6 := (hy6.trans (by rw [nI_clamp (by omega)])).symm
    refine lv_topi (fun y7 hy7 => ?_)
    obtain rfl : (nI (sN + 1)) = y7 := (hy7.trans ((by rw [upd_at (by omega), if_pos rfl]))).symm
    refine lv_iconst (v := 2) hx hb dX12_workCompare_39 (by decide) ?_
    refine lv_icmp_ne (tgt := 84) hx hb dX12_workCompare_40 (by decide) (fun c_40 => ?_) (fun c_40 => ?_)
    · have t_40 : (((sN + 1) : Nat) : Int) ≠ 2 := toI_ne c_40 (nI_toInt (by omega)) (by decide)
      refine lv_aload_n hx hb dX12_workCompare_84 rfl (lv_at hl 0 rfl) ?_
      refine va_get (D := (dC, dI)) (ci := 12) (v := .int (vi 81)) (C := RX12) (T := TX12) (N := 163) (fs := fM (vS a vi vj)) hx hb hts iwsRX12_workCompare_in12 hown hK hP 0 rfl rfl 81 (by decide) (hts _ hm_r_X12_workCompare_1) (fun _ h9 => h9) rfl dX12_workCompare_85 ?_
      refine lv_topi (fun y8 hy8 => ?_)
      obtain rfl : (nI pN) = y8 := (hy8.trans (hpl)).symm
      refine lv_iconst (v := 1) hx hb dX12_workCompare_88 (by decide) ?_
      refine lv_isub hx hb dX12_workCompare_89 ?_
      refine lv_topi (fun y9 hy9 => ?_)
      obtain rfl : (nI (pN - 1)) = y9 := (hy9.trans (pk_sub (a := pN) (b := 1) (by omega))).symm
      refine lv_istore_n hx hb dX12_workCompare_90 rfl hl (by decide) rfl (fun ls (hl : lv_has ls _ ([(3, .int (nI (pN - 1))), (0, .ref h0), (1, .int (nI fN)), (2, .int (nI nN))])) => ?_)
      refine lv_aload_n hx hb dX12_workCompare_91 rfl (lv_at hl 1 rfl) ?_
      refine va_get (D := (dC, dI)) (ci := 12) (v := .int (vi 81)) (C := RX12) (T := TX12) (N := 163) (fs := fM (vS a vi vj)) hx hb hts iwsRX12_workCompare_in12 hown hK hP 0 rfl rfl 81 (by decide) (hts _ hm_r_X12_workCompare_1) (fun _ h9 => h9) rfl dX12_workCompare_92 ?_
      refine lv_topi (fun y10 hy10 => ?_)
      obtain rfl : (nI pN) = y10 := (hy10.trans (hpl)).symm
      refine lv_iconst (v := 2) hx hb dX12_workCompare_95 (by decide) ?_
      refine lv_isub hx hb dX12_workCompare_96 ?_
      refine lv_topi (fun y11 hy11 => ?_)
      obtain rfl : (nI (pN - 2)) = y11 := (hy11.trans (pk_sub (a := pN) (b := 2) (by omega))).symm
      refine lv_istore hx hb dX12_workCompare_97 hl (by decide) rfl (fun ls (hl : lv_has ls _ ([(4, .int (nI (pN - 2))), (3, .int (nI (pN - 1))), (0, .ref h0), (1, .int (nI fN)), (2, .int (nI nN))])) => ?_)
      refine lv_aload_n hx hb dX12_workCompare_99 rfl (lv_at hl 2 rfl) ?_
      refine lv_iload_n hx hb dX12_workCompare_100 rfl (lv_at hl 1 rfl) ?_
      have hFc := allFree hD hS hA
      refine va_calli (va_runV (As := [.int (nI (pN - 1))]) (rest := []) ⟨hx, hb, hml, hown, hts⟩ (r_X12_hasVariables l dC dI a k h0 vi vj (fT vF 53 (upd (vF 53) ((nI fN)).toNatClampNeg (nI (sN + 1)))) vG (pN - 1) (by first | with_reducible assumption | decide | omega | rfl | assumption) H.size) (cwV 1 hts gwsRX12_workCompare_0 rfl rfl rfl hd_yX12_hasVariables_RX12 (by decide +kernel)) (fz_pre (va_recv hK hP (ci := 12) (q0 := 0) rfl rfl) hP hK hD) rfl rfl hl.1 rfl (lv_room (Nat.le_of_ble_eq_true rfl)) dX12_workCompare_101 (by decide +kernel)) hS (fun q _ h => hFc q h) hFc (fun r101 u t9_ H locs ht hvm hw9 hB9 hz1 hk1 hS => ?_)
      have hP : va_P (dC, dI) vwCl (WR a k h0 vi vj (fT vF 53 (upd (vF 53) ((nI fN)).toNatClampNeg (nI (sN + 1)))) vG) H := fz_P ht hB9.1
      have hD := fz_sd hP (hB9.2.weaken (fun _ q _ h => hFc q.1 h)) rfl
      have f101_0 := hw9
      try dsimp only at f101_0
      have f101_0 : ((r101) = 0 ∧ ∀ q, 1 ≤ q → q < 9 → (vF 49) (9 * (pN - 1) + q) = 0) ∨ ((r101) = 1 ∧ ∃ q, 1 ≤ q ∧ q < 9 ∧ (vF 49) (9 * (pN - 1) + q) ≠ 0) := f101_0
      refine lv_if_eq (tgt := 119) hx hb dX12_workCompare_104 (by decide) (fun c_104 => ?_) (fun c_104 => ?_)
      · have t_104 : (r101).toInt = 0 := toI_eq c_104 rfl (by decide)
        refine lv_aload_n hx hb dX12_workCompare_119 rfl (lv_at hl 2 rfl) ?_
        refine va_get (D := (dC, dI)) (ci := 12) (v := .ref (a 49)) (C := RX12) (T := TX12) (N := 163) (fs := fM (vS a vi vj)) hx hb hts iwsRX12_workCompare_in12 hown hK hP 0 rfl rfl 78 (by decide) (hts _ hm_r_X12_workCompare_2) (fun _ h9 => h9) rfl dX12_workCompare_120 ?_
        refine lv_bipush (v := 9) hx hb dX12_workCompare_123 (by decide) ?_
        refine lv_iload hx hb dX12_workCompare_125 (lv_at hl 0 rfl) ?_
        refine lv_imul hx hb dX12_workCompare_127 ?_
        refine lv_topi (fun y12 hy12 => ?_)
        obtain rfl : (nI (9 * (pN - 2))) = y12 := (hy12.trans (pk_mul 9 (pN - 2))).symm
        refine va_iald (cA := k 49) (n := 900) (f := (vF 49)) hx hb hK hP 50 49 (WR_get 49 (by decide)) (TR_get 49 (by decide)) (vp_in_nI (show (9 * (pN - 2)) < 900 by omega) (by omega)) dX12_workCompare_128 ?_
        refine lv_topi (fun y13 hy13 => ?_)
        obtain rfl : ((vF 49) (9 * (pN - 2))) = y13 := (hy13.trans (by rw [nI_clamp (by omega)])).symm
        refine lv_i2l hx hb dX12_workCompare_129 rfl ?_
        refine lv_aload_n hx hb dX12_workCompare_130 rfl (lv_at hl 2 rfl) ?_
        refine va_get (D := (dC, dI)) (ci := 12) (v := .ref (a 50)) (C := RX12) (T := TX12) (N := 163) (fs := fM (vS a vi vj)) hx hb hts iwsRX12_workCompare_in12 hown hK hP 0 rfl rfl 79 (by decide) (hts _ hm_r_X12_workCompare_3) (fun _ h9 => h9) rfl dX12_workCompare_131 ?_
        refine lv_bipush (v := 9) hx hb dX12_workCompare_134 (by decide) ?_
        refine lv_iload_n hx hb dX12_workCompare_136 rfl (lv_at hl 1 rfl) ?_
        refine lv_imul hx hb dX12_workCompare_137 ?_
        refine lv_topi (fun y14 hy14 => ?_)
        obtain rfl : (nI (9 * (pN - 1))) = y14 := (hy14.trans (pk_mul 9 (pN - 1))).symm
        refine va_iald (cA := k 50) (n := 900) (f := (vF 50)) hx hb hK hP 51 50 (WR_get 50 (by decide)) (TR_get 50 (by decide)) (vp_in_nI (show (9 * (pN - 1)) < 900 by omega) (by omega)) dX12_workCompare_138 ?_
        refine lv_topi (fun y15 hy15 => ?_)
        obtain rfl : ((vF 50) (9 * (pN - 1))) = y15 := (hy15.trans (by rw [nI_clamp (by omega)])).symm
        refine lv_i2l hx hb dX12_workCompare_139 rfl ?_
        refine lv_lmul hx hb dX12_workCompare_140 ?_
        refine lv_lstore hx hb dX12_workCompare_141 hl (by decide) rfl (fun ls (hl : lv_has ls _ ([(5, .long ((((vF 49) (9 * (pN - 2)))).toInt64 * (((vF 50) (9 * (pN - 1)))).toInt64)), (4, .int (nI (pN - 2))), (3, .int (nI (pN - 1))), (0, .ref h0), (1, .int (nI fN)), (2, .int (nI nN))])) => ?_)
        refine lv_aload_n hx hb dX12_workCompare_143 rfl (lv_at hl 3 rfl) ?_
        refine va_get (D := (dC, dI)) (ci := 12) (v := .ref (a 49)) (C := RX12) (T := TX12) (N := 163) (fs := fM (vS a vi vj)) hx hb hts iwsRX12_workCompare_in12 hown hK hP 0 rfl rfl 78 (by decide) (hts _ hm_r_X12_workCompare_2) (fun _ h9 => h9) rfl dX12_workCompare_144 ?_
        refine lv_bipush (v := 9) hx hb dX12_workCompare_147 (by decide) ?_
        refine lv_iload_n hx hb dX12_workCompare_149 rfl (lv_at hl 2 rfl) ?_
        refine lv_imul hx hb dX12_workCompare_150 ?_
        refine lv_topi (fun y16 hy16 => ?_)
        obtain rfl : (nI (9 * (pN - 1))) = y16 := (hy16.trans (pk_mul 9 (pN - 1))).symm
        refine va_iald (cA := k 49) (n := 900) (f := (vF 49)) hx hb hK hP 50 49 (WR_get 49 (by decide)) (TR_get 49 (by decide)) (vp_in_nI (show (9 * (pN - 1)) < 900 by omega) (by omega)) dX12_workCompare_151 ?_
        refine lv_topi (fun y17 hy17 => ?_)
        obtain rfl : ((vF 49) (9 * (pN - 1))) = y17 := (hy17.trans (by rw [nI_clamp (by omega)])).symm
        refine lv_i2l hx hb dX12_workCompare_152 rfl ?_
        refine lv_aload_n hx hb dX12_workCompare_153 rfl (lv_at hl 3 rfl) ?_
        refine va_get (D := (dC, dI)) (ci := 12) (v := .ref (a 50)) (C := RX12) (T := TX12) (N := 163) (fs := fM (vS a vi vj)) hx hb hts iwsRX12_workCompare_in12 hown hK hP 0 rfl rfl 79 (by decide) (hts _ hm_r_X12_workCompare_3) (fun _ h9 => h9) rfl dX12_workCompare_154 ?_
        refine lv_bipush (v := 9) hx hb dX12_workCompare_157 (by decide) ?_
        refine lv_iload hx hb dX12_workCompare_159 (lv_at hl 1 rfl) ?_
        refine lv_imul hx hb dX12_workCompare_161 ?_
        refine lv_topi (fun y18 hy18 => ?_)
        obtain rfl : (nI (9 * (pN - 2))) = y18 := (hy18.trans (pk_mul 9 (pN - 2))).symm
        refine va_iald (cA := k 50) (n := 900) (f := (vF 50)) hx hb hK hP 51 50 (WR_get 50 (by decide)) (TR_get 50 (by decide)) (vp_in_nI (show (9 * (pN - 2)) < 900 by omega) (by omega)) dX12_workCompare_162 ?_
        refine lv_topi (fun y19 hy19 => ?_)
        obtain rfl : ((vF 50) (9 * (pN - 2))) = y19 := (hy19.trans (by rw [nI_clamp (by omega)])).symm
        refine lv_i2l hx hb dX12_workCompare_163 rfl ?_
        refine lv_lmul hx hb dX12_workCompare_164 ?_
        refine lv_lstore hx hb dX12_workCompare_165 hl (by decide) rfl (fun ls (hl : lv_has ls _ ([(7, .long ((((vF 49) (9 * (pN - 1)))).toInt64 * (((vF 50) (9 * (pN - 2)))).toInt64)), (5, .long ((((vF 49) (9 * (pN - 2)))).toInt64 * (((vF 50) (9 * (pN - 1)))).toInt64)), (4, .int (nI (pN - 2))), (3, .int (nI (pN - 1))), (0, .ref h0), (1, .int (nI fN)), (2, .int (nI nN))])) => ?_)
        refine lv_aload_n hx hb dX12_workCompare_167 rfl (lv_at hl 4 rfl) ?_
        refine va_get (D := (dC, dI)) (ci := 12) (v := .ref (a 32)) (C := RX12) (T := TX12) (N := 163) (fs := fM (vS a vi vj)) hx hb hts iwsRX12_workCompare_in12 hown hK hP 0 rfl rfl 56 (by decide) (hts _ hm_r_X12_workCompare_4) (fun _ h9 => h9) rfl dX12_workCompare_168 ?_
        refine lv_iload_n hx hb dX12_workCompare_171 rfl (lv_at hl 6 rfl) ?_
        refine va_iald (cA := k 32) (n := 4200) (f := (vF 32)) hx hb hK hP 33 32 (WR_get 32 (by decide)) (TR_get 32 (by decide)) (vp_in_nI (show nN < 4200 by omega) (by omega)) dX12_workCompare_172 ?_
        refine lv_topi (fun y20 hy20 => ?_)
        obtain rfl : ((vF 32) nN) = y20 := (hy20.trans (by rw [nI_clamp (by omega)])).symm
        refine lv_istore hx hb dX12_workCompare_173 hl (by decide) rfl (fun ls (hl : lv_has ls _ ([(9, .int ((vF 32) nN)), (7, .long ((((vF 49) (9 * (pN - 1)))).toInt64 * (((vF 50) (9 * (pN - 2)))).toInt64)), (5, .long ((((vF 49) (9 * (pN - 2)))).toInt64 * (((vF 50) (9 * (pN - 1)))).toInt64)), (4, .int (nI (pN - 2))), (3, .int (nI (pN - 1))), (0, .ref h0), (1, .int (nI fN)), (2, .int (nI nN))])) => ?_)
        refine lv_aload_n hx hb dX12_workCompare_175 rfl (lv_at hl 5 rfl) ?_
        refine lv_iload hx hb dX12_workCompare_176 (lv_at hl 0 rfl) ?_
        refine lv_bipush (v := 76) hx hb dX12_workCompare_178 (by decide) ?_
        refine W.cut (pc := 304) (fun H locs ls stk => ∃ (tv : Int32), (tv = 0 ∨ tv = 1) ∧  stk = [.int tv, .ref h0] ∧ va_P (dC, dI) vwCl (WR a k h0 vi vj (fT vF 53 (upd (vF 53) ((nI fN)).toNatClampNeg (nI (sN + 1)))) vG) H ∧ va_D A (WR a k h0 vi vj (fT vF 53 (upd (vF 53) ((nI fN)).toNatClampNeg (nI (sN + 1)))) vG) ∧ va_S A s.heap H locs ∧ lv_has ls 10 [(9, .int ((vF 32) nN)), (7, .long ((((vF 49) (9 * (pN - 1)))).toInt64 * (((vF 50) (9 * (pN - 2)))).toInt64)), (5, .long ((((vF 49) (9 * (pN - 2)))).toInt64 * (((vF 50) (9 * (pN - 1)))).toInt64)), (4, .int (nI (pN - 2))), (3, .int (nI (pN - 1))), (0, .ref h0), (1, .int (nI fN)), (2, .int (nI nN))]) (fun join1 => ?_) ?_
        · refine lv_icmp_ne (tgt := 199) hx hb dX12_workCompare_180 (by decide) (fun c_180 => ?_) (fun c_180 => ?_)
          · have t_180 : (((vF 32) nN)).toInt ≠ 76 := toI_ne c_180 rfl (by decide)
            refine lv_iload hx hb dX12_workCompare_199 (lv_at hl 0 rfl) ?_
            refine lv_bipush (v := 71) hx hb dX12_workCompare_201 (by decide) ?_
            refine lv_icmp_ne (tgt := 222) hx hb dX12_workCompare_203 (by decide) (fun c_203 => ?_) (fun c_203 => ?_)
            · have t_203 : (((vF 32) nN)).toInt ≠ 71 := toI_ne c_203 rfl (by decide)
              refine lv_iload hx hb dX12_workCompare_222 (lv_at hl 0 rfl) ?_
              refine lv_bipush (v := 60) hx hb dX12_workCompare_224 (by decide) ?_
              refine lv_icmp_ne (tgt := 245) hx hb dX12_workCompare_226 (by decide) (fun c_226 => ?_) (fun c_226 => ?_)
              · have t_226 : (((vF 32) nN)).toInt ≠ 60 := toI_ne c_226 rfl (by decide)
                refine lv_iload hx hb dX12_workCompare_245 (lv_at hl 0 rfl) ?_
                refine lv_bipush (v := 62) hx hb dX12_workCompare_247 (by decide) ?_
                refine lv_icmp_ne (tgt := 268) hx hb dX12_workCompare_249 (by decide) (fun c_249 => ?_) (fun c_249 => ?_)
                · have t_249 : (((vF 32) nN)).toInt ≠ 62 := toI_ne c_249 rfl (by decide)
                  refine lv_iload hx hb dX12_workCompare_268 (lv_at hl 0 rfl) ?_
                  refine lv_bipush (v := 61) hx hb dX12_workCompare_270 (by decide) ?_
                  refine lv_icmp_ne (tgt := 291) hx hb dX12_workCompare_272 (by decide) (fun c_272 => ?_) (fun c_272 => ?_)
                  · have t_272 : (((vF 32) nN)).toInt ≠ 61 := toI_ne c_272 rfl (by decide)
                    refine lv_lload hx hb dX12_workCompare_291 (lv_at hl 2 rfl) ?_
                    refine lv_lload hx hb dX12_workCompare_293 (lv_at hl 1 rfl) ?_
                    refine W.lcmp hx hb dX12_workCompare_295 ?_
                    refine lv_if_eq (tgt := 303) hx hb dX12_workCompare_296 (by decide) (fun c_296 => ?_) (fun c_296 => ?_)
                    · have t_296 : (((((vF 49) (9 * (pN - 2)))).toInt64 * (((vF 50) (9 * (pN - 1)))).toInt64)).toInt = (((((vF 49) (9 * (pN - 1)))).toInt64 * (((vF 50) (9 * (pN - 2)))).toInt64)).toInt := toL_eq c_296 rfl rfl
                      refine lv_iconst (v := 0) hx hb dX12_workCompare_303 (by decide) ?_
                      have hl : lv_has _ _ ([(9, .int ((vF 32) nN)), (7, .long ((((vF 49) (9 * (pN - 1)))).toInt64 * (((vF 50) (9 * (pN - 2)))).toInt64)), (5, .long ((((vF 49) (9 * (pN - 2)))).toInt64 * (((vF 50) (9 * (pN - 1)))).toInt64)), (4, .int (nI (pN - 2))), (3, .int (nI (pN - 1))), (0, .ref h0), (1, .int (nI fN)), (2, .int (nI nN))]) := lv_sub hl [0, 1, 2, 3, 4, 5, 6, 7] rfl
                      exact join1 _ _ _ _ ⟨0, by decide, rfl, hP, hD, hS, hl⟩
                    · have t_296 : ¬ (((((vF 49) (9 * (pN - 2)))).toInt64 * (((vF 50) (9 * (pN - 1)))).toInt64)).toInt = (((((vF 49) (9 * (pN - 1)))).toInt64 * (((vF 50) (9 * (pN - 2)))).toInt64)).toInt := toL_neq c_296 rfl rfl
                      refine lv_iconst (v := 1) hx hb dX12_workCompare_299 (by decide) ?_
                      refine lv_goto (tgt := 304) hx hb dX12_workCompare_300 (by decide) ?_
                      have hl : lv_has _ _ ([(9, .int ((vF 32) nN)), (7, .long ((((vF 49) (9 * (pN - 1)))).toInt64 * (((vF 50) (9 * (pN - 2)))).toInt64)), (5, .long ((((vF 49) (9 * (pN - 2)))).toInt64 * (((vF 50) (9 * (pN - 1)))).toInt64)), (4, .int (nI (pN - 2))), (3, .int (nI (pN - 1))), (0, .ref h0), (1, .int (nI fN)), (2, .int (nI nN))]) := lv_sub hl [0, 1, 2, 3, 4, 5, 6, 7] rfl
                      exact join1 _ _ _ _ ⟨1, by decide, rfl, hP, hD, hS, hl⟩
                  · have t_272 : (((vF 32) nN)).toInt = 61 := toI_nne c_272 rfl (by decide)
                    refine lv_lload hx hb dX12_workCompare_275 (lv_at hl 2 rfl) ?_
                    refine lv_lload hx hb dX12_workCompare_277 (lv_at hl 1 rfl) ?_
                    refine W.lcmp hx hb dX12_workCompare_279 ?_
                    refine lv_if_ne (tgt := 287) hx hb dX12_workCompare_280 (by decide) (fun c_280 => ?_) (fun c_280 => ?_)
                    · have t_280 : (((((vF 49) (9 * (pN - 2)))).toInt64 * (((vF 50) (9 * (pN - 1)))).toInt64)).toInt ≠ (((((vF 49) (9 * (pN - 1)))).toInt64 * (((vF 50) (9 * (pN - 2)))).toInt64)).toInt := toL_ne c_280 rfl rfl
                      refine lv_iconst (v := 0) hx hb dX12_workCompare_287 (by decide) ?_
                      refine lv_goto (tgt := 304) hx hb dX12_workCompare_288 (by decide) ?_
                      have hl : lv_has _ _ ([(9, .int ((vF 32) nN)), (7, .long ((((vF 49) (9 * (pN - 1)))).toInt64 * (((vF 50) (9 * (pN - 2)))).toInt64)), (5, .long ((((vF 49) (9 * (pN - 2)))).toInt64 * (((vF 50) (9 * (pN - 1)))).toInt64)), (4, .int (nI (pN - 2))), (3, .int (nI (pN - 1))), (0, .ref h0), (1, .int (nI fN)), (2, .int (nI nN))]) := lv_sub hl [0, 1, 2, 3, 4, 5, 6, 7] rfl
                      exact join1 _ _ _ _ ⟨0, by decide, rfl, hP, hD, hS, hl⟩
                    · have t_280 : (((((vF 49) (9 * (pN - 2)))).toInt64 * (((vF 50) (9 * (pN - 1)))).toInt64)).toInt = (((((vF 49) (9 * (pN - 1)))).toInt64 * (((vF 50) (9 * (pN - 2)))).toInt64)).toInt := toL_nne c_280 rfl rfl
                      refine lv_iconst (v := 1) hx hb dX12_workCompare_283 (by decide) ?_
                      refine lv_goto (tgt := 304) hx hb dX12_workCompare_284 (by decide) ?_
                      have hl : lv_has _ _ ([(9, .int ((vF 32) nN)), (7, .long ((((vF 49) (9 * (pN - 1)))).toInt64 * (((vF 50) (9 * (pN - 2)))).toInt64)), (5, .long ((((vF 49) (9 * (pN - 2)))).toInt64 * (((vF 50) (9 * (pN - 1)))).toInt64)), (4, .int (nI (pN - 2))), (3, .int (nI (pN - 1))), (0, .ref h0), (1, .int (nI fN)), (2, .int (nI nN))]) := lv_sub hl [0, 1, 2, 3, 4, 5, 6, 7] rfl
                      exact join1 _ _ _ _ ⟨1, by decide, rfl, hP, hD, hS, hl⟩
                · have t_249 : (((vF 32) nN)).toInt = 62 := toI_nne c_249 rfl (by decide)
                  refine lv_lload hx hb dX12_workCompare_252 (lv_at hl 2 rfl) ?_
                  refine lv_lload hx hb dX12_workCompare_254 (lv_at hl 1 rfl) ?_
                  refine W.lcmp hx hb dX12_workCompare_256 ?_
                  refine lv_if_le (tgt := 264) hx hb dX12_workCompare_257 (by decide) (fun c_257 => ?_) (fun c_257 => ?_)
                  · have t_257 : (((((vF 49) (9 * (pN - 2)))).toInt64 * (((vF 50) (9 * (pN - 1)))).toInt64)).toInt ≤ (((((vF 49) (9 * (pN - 1)))).toInt64 * (((vF 50) (9 * (pN - 2)))).toInt64)).toInt := toL_le c_257 rfl rfl
                    refine lv_iconst (v := 0) hx hb dX12_workCompare_264 (by decide) ?_
                    refine lv_goto (tgt := 304) hx hb dX12_workCompare_265 (by decide) ?_
                    have hl : lv_has _ _ ([(9, .int ((vF 32) nN)), (7, .long ((((vF 49) (9 * (pN - 1)))).toInt64 * (((vF 50) (9 * (pN - 2)))).toInt64)), (5, .long ((((vF 49) (9 * (pN - 2)))).toInt64 * (((vF 50) (9 * (pN - 1)))).toInt64)), (4, .int (nI (pN - 2))), (3, .int (nI (pN - 1))), (0, .ref h0), (1, .int (nI fN)), (2, .int (nI nN))]) := lv_sub hl [0, 1, 2, 3, 4, 5, 6, 7] rfl
                    exact join1 _ _ _ _ ⟨0, by decide, rfl, hP, hD, hS, hl⟩
                  · have t_257 : ¬ (((((vF 49) (9 * (pN - 2)))).toInt64 * (((vF 50) (9 * (pN - 1)))).toInt64)).toInt ≤ (((((vF 49) (9 * (pN - 1)))).toInt64 * (((vF 50) (9 * (pN - 2)))).toInt64)).toInt := toL_nle c_257 rfl rfl
                    refine lv_iconst (v := 1) hx hb dX12_workCompare_260 (by decide) ?_
                    refine lv_goto (tgt := 304) hx hb dX12_workCompare_261 (by decide) ?_
                    have hl : lv_has _ _ ([(9, .int ((vF 32) nN)), (7, .long ((((vF 49) (9 * (pN - 1)))).toInt64 * (((vF 50) (9 * (pN - 2)))).toInt64)), (5, .long ((((vF 49) (9 * (pN - 2)))).toInt64 * (((vF 50) (9 * (pN - 1)))).toInt64)), (4, .int (nI (pN - 2))), (3, .int (nI (pN - 1))), (0, .ref h0), (1, .int (nI fN)), (2, .int (nI nN))]) := lv_sub hl [0, 1, 2, 3, 4, 5, 6, 7] rfl
                    exact join1 _ _ _ _ ⟨1, by decide, rfl, hP, hD, hS, hl⟩
              · have t_226 : (((vF 32) nN)).toInt = 60 := toI_nne c_226 rfl (by decide)
                refine lv_lload hx hb dX12_workCompare_229 (lv_at hl 2 rfl) ?_
                refine lv_lload hx hb dX12_workCompare_231 (lv_at hl 1 rfl) ?_
                refine W.lcmp hx hb dX12_workCompare_233 ?_
                refine lv_if_ge (tgt := 241) hx hb dX12_workCompare_234 (by decide) (fun c_234 => ?_) (fun c_234 => ?_)
                · have t_234 : (((((vF 49) (9 * (pN - 2)))).toInt64 * (((vF 50) (9 * (pN - 1)))).toInt64)).toInt ≥ (((((vF 49) (9 * (pN - 1)))).toInt64 * (((vF 50) (9 * (pN - 2)))).toInt64)).toInt := toL_ge c_234 rfl rfl
                  refine lv_iconst (v := 0) hx hb dX12_workCompare_241 (by decide) ?_
                  refine lv_goto (tgt := 304) hx hb dX12_workCompare_242 (by decide) ?_
                  have hl : lv_has _ _ ([(9, .int ((vF 32) nN)), (7, .long ((((vF 49) (9 * (pN - 1)))).toInt64 * (((vF 50) (9 * (pN - 2)))).toInt64)), (5, .long ((((vF 49) (9 * (pN - 2)))).toInt64 * (((vF 50) (9 * (pN - 1)))).toInt64)), (4, .int (nI (pN - 2))), (3, .int (nI (pN - 1))), (0, .ref h0), (1, .int (nI fN)), (2, .int (nI nN))]) := lv_sub hl [0, 1, 2, 3, 4, 5, 6, 7] rfl
                  exact join1 _ _ _ _ ⟨0, by decide, rfl, hP, hD, hS, hl⟩
                · have t_234 : ¬ (((((vF 49) (9 * (pN - 2)))).toInt64 * (((vF 50) (9 * (pN - 1)))).toInt64)).toInt ≥ (((((vF 49) (9 * (pN - 1)))).toInt64 * (((vF 50) (9 * (pN - 2)))).toInt64)).toInt := toL_nge c_234 rfl rfl
                  refine lv_iconst (v := 1) hx hb dX12_workCompare_237 (by decide) ?_
                  refine lv_goto (tgt := 304) hx hb dX12_workCompare_238 (by decide) ?_
                  have hl : lv_has _ _ ([(9, .int ((vF 32) nN)), (7, .long ((((vF 49) (9 * (pN - 1)))).toInt64 * (((vF 50) (9 * (pN - 2)))).toInt64)), (5, .long ((((vF 49) (9 * (pN - 2)))).toInt64 * (((vF 50) (9 * (pN - 1)))).toInt64)), (4, .int (nI (pN - 2))), (3, .int (nI (pN - 1))), (0, .ref h0), (1, .int (nI fN)), (2, .int (nI nN))]) := lv_sub hl [0, 1, 2, 3, 4, 5, 6, 7] rfl
                  exact join1 _ _ _ _ ⟨1, by decide, rfl, hP, hD, hS, hl⟩
            · have t_203 : (((vF 32) nN)).toInt = 71 := toI_nne c_203 rfl (by decide)
              refine lv_lload hx hb dX12_workCompare_206 (lv_at hl 2 rfl) ?_
              refine lv_lload hx hb dX12_workCompare_208 (lv_at hl 1 rfl) ?_
              refine W.lcmp hx hb dX12_workCompare_210 ?_
              refine lv_if_lt (tgt := 218) hx hb dX12_workCompare_211 (by decide) (fun c_211 => ?_) (fun c_211 => ?_)
              · have t_211 : (((((vF 49) (9 * (pN - 2)))).toInt64 * (((vF 50) (9 * (pN - 1)))).toInt64)).toInt < (((((vF 49) (9 * (pN - 1)))).toInt64 * (((vF 50) (9 * (pN - 2)))).toInt64)).toInt := toL_lt c_211 rfl rfl
                refine lv_iconst (v := 0) hx hb dX12_workCompare_218 (by decide) ?_
                refine lv_goto (tgt := 304) hx hb dX12_workCompare_219 (by decide) ?_
                have hl : lv_has _ _ ([(9, .int ((vF 32) nN)), (7, .long ((((vF 49) (9 * (pN - 1)))).toInt64 * (((vF 50) (9 * (pN - 2)))).toInt64)), (5, .long ((((vF 49) (9 * (pN - 2)))).toInt64 * (((vF 50) (9 * (pN - 1)))).toInt64)), (4, .int (nI (pN - 2))), (3, .int (nI (pN - 1))), (0, .ref h0), (1, .int (nI fN)), (2, .int (nI nN))]) := lv_sub hl [0, 1, 2, 3, 4, 5, 6, 7] rfl
                exact join1 _ _ _ _ ⟨0, by decide, rfl, hP, hD, hS, hl⟩
              · have t_211 : ¬ (((((vF 49) (9 * (pN - 2)))).toInt64 * (((vF 50) (9 * (pN - 1)))).toInt64)).toInt < (((((vF 49) (9 * (pN - 1)))).toInt64 * (((vF 50) (9 * (pN - 2)))).toInt64)).toInt := toL_nlt c_211 rfl rfl
                refine lv_iconst (v := 1) hx hb dX12_workCompare_214 (by decide) ?_
                refine lv_goto (tgt := 304) hx hb dX12_workCompare_215 (by decide) ?_
                have hl : lv_has _ _ ([(9, .int ((vF 32) nN)), (7, .long ((((vF 49) (9 * (pN - 1)))).toInt64 * (((vF 50) (9 * (pN - 2)))).toInt64)), (5, .long ((((vF 49) (9 * (pN - 2)))).toInt64 * (((vF 50) (9 * (pN - 1)))).toInt64)), (4, .int (nI (pN - 2))), (3, .int (nI (pN - 1))), (0, .ref h0), (1, .int (nI fN)), (2, .int (nI nN))]) := lv_sub hl [0, 1, 2, 3, 4, 5, 6, 7] rfl
                exact join1 _ _ _ _ ⟨1, by decide, rfl, hP, hD, hS, hl⟩
          · have t_180 : (((vF 32) nN)).toInt = 76 := toI_nne c_180 rfl (by decide)
            refine lv_lload hx hb dX12_workCompare_183 (lv_at hl 2 rfl) ?_
            refine lv_lload hx hb dX12_workCompare_185 (lv_at hl 1 rfl) ?_
            refine W.lcmp hx hb dX12_workCompare_187 ?_
            refine lv_if_gt (tgt := 195) hx hb dX12_workCompare_188 (by decide) (fun c_188 => ?_) (fun c_188 => ?_)
            · have t_188 : (((((vF 49) (9 * (pN - 2)))).toInt64 * (((vF 50) (9 * (pN - 1)))).toInt64)).toInt > (((((vF 49) (9 * (pN - 1)))).toInt64 * (((vF 50) (9 * (pN - 2)))).toInt64)).toInt := toL_gt c_188 rfl rfl
              refine lv_iconst (v := 0) hx hb dX12_workCompare_195 (by decide) ?_
              refine lv_goto (tgt := 304) hx hb dX12_workCompare_196 (by decide) ?_
              have hl : lv_has _ _ ([(9, .int ((vF 32) nN)), (7, .long ((((vF 49) (9 * (pN - 1)))).toInt64 * (((vF 50) (9 * (pN - 2)))).toInt64)), (5, .long ((((vF 49) (9 * (pN - 2)))).toInt64 * (((vF 50) (9 * (pN - 1)))).toInt64)), (4, .int (nI (pN - 2))), (3, .int (nI (pN - 1))), (0, .ref h0), (1, .int (nI fN)), (2, .int (nI nN))]) := lv_sub hl [0, 1, 2, 3, 4, 5, 6, 7] rfl
              exact join1 _ _ _ _ ⟨0, by decide, rfl, hP, hD, hS, hl⟩
            · have t_188 : ¬ (((((vF 49) (9 * (pN - 2)))).toInt64 * (((vF 50) (9 * (pN - 1)))).toInt64)).toInt > (((((vF 49) (9 * (pN - 1)))).toInt64 * (((vF 50) (9 * (pN - 2)))).toInt64)).toInt := toL_ngt c_188 rfl rfl
              refine lv_iconst (v := 1) hx hb dX12_workCompare_191 (by decide) ?_
              refine lv_goto (tgt := 304) hx hb dX12_workCompare_192 (by decide) ?_
              have hl : lv_has _ _ ([(9, .int ((vF 32) nN)), (7, .long ((((vF 49) (9 * (pN - 1)))).toInt64 * (((vF 50) (9 * (pN - 2)))).toInt64)), (5, .long ((((vF 49) (9 * (pN - 2)))).toInt64 * (((vF 50) (9 * (pN - 1)))).toInt64)), (4, .int (nI (pN - 2))), (3, .int (nI (pN - 1))), (0, .ref h0), (1, .int (nI fN)), (2, .int (nI nN))]) := lv_sub hl [0, 1, 2, 3, 4, 5, 6, 7] rfl
              exact join1 _ _ _ _ ⟨1, by decide, rfl, hP, hD, hS, hl⟩
        · rintro H locs ls stk ⟨tv, htv, rfl, hP, hD, hS, hl⟩
          refine va_put (D := (dC, dI)) (ci := 12) (v := .int tv) (ty := .boolean) (C := RX12) (T := TX12) (N := 163) (fs := fM (vS a vi vj)) hx hb hts iwsRX12_workCompare_in12 tyX12 tyX12_ok nmX12 hown hK hP hD hS 0 rfl rfl 84 (by decide) (hts _ hm_r_X12_workCompare_5) (fun _ h9 => h9) rfl (by decide +kernel) (by rcases htv with h9 | h9 <;> (rw [h9]; rfl)) (by rcases htv with h9 | h9 <;> (rw [h9]; rfl)) (Nat.le_of_ble_eq_true rfl) dX12_workCompare_304 (fun H locs hP hD hS => ?_)
          have hP : va_P (dC, dI) vwCl (WR a k h0 (fT vi 84 tv) vj (fT vF 53 (upd (vF 53) ((nI fN)).toNatClampNeg (nI (sN + 1)))) vG) H := fz_w (WR_i 84 _ rfl) hP
          have hD : va_D A (WR a k h0 (fT vi 84 tv) vj (fT vF 53 (upd (vF 53) ((nI fN)).toNatClampNeg (nI (sN + 1)))) vG) := fz_wD (WR_i 84 _ rfl) hD
          refine lv_aload_n hx hb dX12_workCompare_307 rfl (lv_at hl 5 rfl) ?_
          refine lv_dup hx hb dX12_workCompare_308 rfl ?_
          refine va_get (D := (dC, dI)) (ci := 12) (v := .int (vi 81)) (C := RX12) (T := TX12) (N := 163) (fs := fM (vS a (fT vi 84 tv) vj)) hx hb hts iwsRX12_workCompare_in12 hown hK hP 0 rfl rfl 81 (by decide) (hts _ hm_r_X12_workCompare_1) (fun _ h9 => h9) rfl dX12_workCompare_309 ?_
          refine lv_topi (fun y21 hy21 => ?_)
          obtain rfl : (nI pN) = y21 := (hy21.trans (hpl)).symm
          refine lv_iconst (v := 2) hx hb dX12_workCompare_312 (by decide) ?_
          refine lv_isub hx hb dX12_workCompare_313 ?_
          refine lv_topi (fun y22 hy22 => ?_)
          obtain rfl : (nI (pN - 2)) = y22 := (hy22.trans (pk_sub (a := pN) (b := 2) (by omega))).symm
          refine va_put (D := (dC, dI)) (ci := 12) (v := .int (nI (pN - 2))) (ty := .int) (C := RX12) (T := TX12) (N := 163) (fs := fM (vS a (fT vi 84 tv) vj)) hx hb hts iwsRX12_workCompare_in12 tyX12 tyX12_ok nmX12 hown hK hP hD hS 0 rfl rfl 81 (by decide) (hts _ hm_r_X12_workCompare_1) (fun _ h9 => h9) rfl (by decide +kernel) rfl rfl (Nat.le_of_ble_eq_true rfl) dX12_workCompare_314 (fun H locs hP hD hS => ?_)
          have hP : va_P (dC, dI) vwCl (WR a k h0 (fT (fT vi 84 tv) 81 (nI (pN - 2))) vj (fT vF 53 (upd (vF 53) ((nI fN)).toNatClampNeg (nI (sN + 1)))) vG) H := fz_w (WR_i 81 _ rfl) hP
          have hD : va_D A (WR a k h0 (fT (fT vi 84 tv) 81 (nI (pN - 2))) vj (fT vF 53 (upd (vF 53) ((nI fN)).toNatClampNeg (nI (sN + 1)))) vG) := fz_wD (WR_i 81 _ rfl) hD
          refine lv_aload_n hx hb dX12_workCompare_317 rfl (lv_at hl 5 rfl) ?_
          refine lv_dup hx hb dX12_workCompare_318 rfl ?_
          refine va_get (D := (dC, dI)) (ci := 12) (v := .int (vi 89)) (C := RX12) (T := TX12) (N := 163) (fs := fM (vS a (fT (fT vi 84 tv) 81 (nI (pN - 2))) vj)) hx hb hts iwsRX12_workCompare_in12 hown hK hP 0 rfl rfl 89 (by decide) (hts _ hm_r_X12_workCompare_6) (fun _ h9 => h9) rfl dX12_workCompare_319 ?_
          refine lv_topi (fun y23 hy23 => ?_)
          obtain rfl : (nI fr) = y23 := (hy23.trans (hfr9)).symm
          refine lv_iconst (v := 1) hx hb dX12_workCompare_322 (by decide) ?_
          refine lv_isub hx hb dX12_workCompare_323 ?_
          refine lv_topi (fun y24 hy24 => ?_)
          obtain rfl : (nI (fr - 1)) = y24 := (hy24.trans (pk_sub (a := fr) (b := 1) (by omega))).symm
          refine va_put (D := (dC, dI)) (ci := 12) (v := .int (nI (fr - 1))) (ty := .int) (C := RX12) (T := TX12) (N := 163) (fs := fM (vS a (fT (fT vi 84 tv) 81 (nI (pN - 2))) vj)) hx hb hts iwsRX12_workCompare_in12 tyX12 tyX12_ok nmX12 hown hK hP hD hS 0 rfl rfl 89 (by decide) (hts _ hm_r_X12_workCompare_6) (fun _ h9 => h9) rfl (by decide +kernel) rfl rfl (Nat.le_of_ble_eq_true rfl) dX12_workCompare_324 (fun H locs hP hD hS => ?_)
          have hP : va_P (dC, dI) vwCl (WR a k h0 (fT (fT (fT vi 84 tv) 81 (nI (pN - 2))) 89 (nI (fr - 1))) vj (fT vF 53 (upd (vF 53) ((nI fN)).toNatClampNeg (nI (sN + 1)))) vG) H := fz_w (WR_i 89 _ rfl) hP
          have hD : va_D A (WR a k h0 (fT (fT (fT vi 84 tv) 81 (nI (pN - 2))) 89 (nI (fr - 1))) vj (fT vF 53 (upd (vF 53) ((nI fN)).toNatClampNeg (nI (sN + 1)))) vG) := fz_wD (WR_i 89 _ rfl) hD
          refine W.widen (k := 0) (n := 0) (by decide +kernel) (by decide +kernel) ?_
          have e9 : fT (fT (fT (fT (fT vi 21 (vi 21)) 22 (vi 22)) 84 tv) 81 (nI (pN - 2))) 89 (nI (fr - 1)) = fT (fT (fT vi 84 tv) 81 (nI (pN - 2))) 89 (nI (fr - 1)) := Eq.trans (mv_4 rfl) (Eq.trans (id_4 rfl) (Eq.trans (mv_3 rfl) (id_3 rfl)))
          have hP := wr_Pi e9 hP
          have hD := wr_Di e9 hD
          clear e9
          have e9 : fT (fT vF 53 (upd (vF 53) ((nI fN)).toNatClampNeg (nI (sN + 1)))) 52 (vF 52) = fT vF 53 (upd (vF 53) ((nI fN)).toNatClampNeg (nI (sN + 1))) := fT_id _ _ (fT_ne _ _ (Nat.ne_of_beq_eq_false rfl))
          have hP := wr_PF e9 hP
          have hD := wr_DF e9 hD
          clear e9
          exact W.vret hx hb hr (fun t9_ ht hW => ⟨⟨((vF 52), (upd (vF 53) ((nI fN)).toNatClampNeg (nI (sN + 1))), (fr - 1), (pN - 2), (vi 21), (vi 22), tv), rfl, by (try dsimp only); exact ⟨hst0, Or.inl rfl, Or.inr (StpO.pop hfN hfr1 (fun _ _ => rfl) (by rw [if_neg (by omega)]; omega)), by omega, by omega⟩, by rw [ht]; exact hP, hD⟩, hS.F ht⟩) hS.2.2 dX12_workCompare_327
      · have t_104 : ¬ (r101).toInt = 0 := toI_neq c_104 rfl (by decide)
        refine lv_aload_n hx hb dX12_workCompare_107 rfl (lv_at hl 2 rfl) ?_
        refine lv_bipush (v := 7) hx hb dX12_workCompare_108 (by decide) ?_
        refine lv_aload_n hx hb dX12_workCompare_110 rfl (lv_at hl 2 rfl) ?_
        refine va_get (D := (dC, dI)) (ci := 12) (v := .ref (a 35)) (C := RX12) (T := TX12) (N := 163) (fs := fM (vS a vi vj)) hx hb hts iwsRX12_workCompare_in12 hown hK hP 0 rfl rfl 59 (by decide) (hts (.fieldLink RX12 128 "OptimaWorksModel" "firstB" "[I") (by decide +kernel)) (fun _ h9 => h9) rfl dX12_workCompare_111 ?_
        refine lv_iload_n hx hb dX12_workCompare_114 rfl (lv_at hl 4 rfl) ?_
        refine va_iald (cA := k 35) (n := 4200) (f := (vF 35)) hx hb hK hP 36 35 (WR_get 35 (by decide)) (TR_get 35 (by decide)) (vp_in_nI (show nN < 4200 by omega) (by omega)) dX12_workCompare_115 ?_
        refine lv_topi (fun y25 hy25 => ?_)
        obtain rfl : ((vF 35) nN) = y25 := (hy25.trans (by rw [nI_clamp (by omega)])).symm
        have hFc := allFree hD hS hA
        refine va_callv (va_runV (As := [.int 7, .int ((vF 35) nN)]) (rest := []) ⟨hx, hb, hml, hown, hts⟩ (r_X12_faultAt l dC dI a k h0 vi vj (fT vF 53 (upd (vF 53) ((nI fN)).toNatClampNeg (nI (sN + 1)))) vG 7 ((vF 35) nN) (by first | with_reducible assumption | decide | omega | rfl | assumption) H.size) (cwV 2 hts gwsRX12_workCompare_1 rfl rfl rfl hd_yX12_faultAt_RX12 (by decide +kernel)) (fz_pre (va_recv hK hP (ci := 12) (q0 := 0) rfl rfl) hP hK hD) rfl rfl hl.1 rfl (lv_room (Nat.le_of_ble_eq_true rfl)) dX12_workCompare_116 (by decide +kernel)) hS (fun q _ h => hFc q h) hFc (fun u t9_ H locs ht hvm hw9 hB9 hz1 hk1 hS => ?_)
        revert u hw9 hB9
        refine fz_p2 ?_
        intro s2116 p2116 hw9 hB9
        try dsimp only at hw9 hB9
        have hP : va_P (dC, dI) vwCl (WR a k h0 (fT (fT vi 21 s2116) 22 p2116) vj (fT vF 53 (upd (vF 53) ((nI fN)).toNatClampNeg (nI (sN + 1)))) vG) H := fz_P ht hB9.1
        have hD := fz_sd hP (hB9.2.weaken (fun _ q _ h => hFc q.1 h)) rfl
        revert hw9
        refine fz_a2 ?_
        intro f116_0 f116_1
        have f116_0 : (0 < (vi 21).toInt ∧ s2116 = (vi 21) ∧ p2116 = (vi 22)) ∨ (¬ 0 < (vi 21).toInt ∧ s2116 = 7 ∧ p2116 = ((vF 35) nN)) := f116_0
        refine lv_aload_n hx hb dX12_workCompare_119 rfl (lv_at hl 2 rfl) ?_
        refine va_get (D := (dC, dI)) (ci := 12) (v := .ref (a 49)) (C := RX12) (T := TX12) (N := 163) (fs := fM (vS a (fT (fT vi 21 s2116) 22 p2116) vj)) hx hb hts iwsRX12_workCompare_in12 hown hK hP 0 rfl rfl 78 (by decide) (hts _ hm_r_X12_workCompare_2) (fun _ h9 => h9) rfl dX12_workCompare_120 ?_
        refine lv_bipush (v := 9) hx hb dX12_workCompare_123 (by decide) ?_
        refine lv_iload hx hb dX12_workCompare_125 (lv_at hl 0 rfl) ?_
        refine lv_imul hx hb dX12_workCompare_127 ?_
        refine lv_topi (fun y26 hy26 => ?_)
        obtain rfl : (nI (9 * (pN - 2))) = y26 := (hy26.trans (pk_mul 9 (pN - 2))).symm
        refine va_iald (cA := k 49) (n := 900) (f := (vF 49)) hx hb hK hP 50 49 (WR_get 49 (by decide)) (TR_get 49 (by decide)) (vp_in_nI (show (9 * (pN - 2)) < 900 by omega) (by omega)) dX12_workCompare_128 ?_
        refine lv_topi (fun y27 hy27 => ?_)
        obtain rfl : ((vF 49) (9 * (pN - 2))) = y27 := (hy27.trans (by rw [nI_clamp (by omega)])).symm
        refine lv_i2l hx hb dX12_workCompare_129 rfl ?_
        refine lv_aload_n hx hb dX12_workCompare_130 rfl (lv_at hl 2 rfl) ?_
        refine va_get (D := (dC, dI)) (ci := 12) (v := .ref (a 50)) (C := RX12) (T := TX12) (N := 163) (fs := fM (vS a (fT (fT vi 21 s2116) 22 p2116) vj)) hx hb hts iwsRX12_workCompare_in12 hown hK hP 0 rfl rfl 79 (by decide) (hts _ hm_r_X12_workCompare_3) (fun _ h9 => h9) rfl dX12_workCompare_131 ?_
        refine lv_bipush (v := 9) hx hb dX12_workCompare_134 (by decide) ?_
        refine lv_iload_n hx hb dX12_workCompare_136 rfl (lv_at hl 1 rfl) ?_
        refine lv_imul hx hb dX12_workCompare_137 ?_
        refine lv_topi (fun y28 hy28 => ?_)
        obtain rfl : (nI (9 * (pN - 1))) = y28 := (hy28.trans (pk_mul 9 (pN - 1))).symm
        refine va_iald (cA := k 50) (n := 900) (f := (vF 50)) hx hb hK hP 51 50 (WR_get 50 (by decide)) (TR_get 50 (by decide)) (vp_in_nI (show (9 * (pN - 1)) < 900 by omega) (by omega)) dX12_workCompare_138 ?_
        refine lv_topi (fun y29 hy29 => ?_)
        obtain rfl : ((vF 50) (9 * (pN - 1))) = y29 := (hy29.trans (by rw [nI_clamp (by omega)])).symm
        refine lv_i2l hx hb dX12_workCompare_139 rfl ?_
        refine lv_lmul hx hb dX12_workCompare_140 ?_
        refine lv_lstore hx hb dX12_workCompare_141 hl (by decide) rfl (fun ls (hl : lv_has ls _ ([(5, .long ((((vF 49) (9 * (pN - 2)))).toInt64 * (((vF 50) (9 * (pN - 1)))).toInt64)), (4, .int (nI (pN - 2))), (3, .int (nI (pN - 1))), (0, .ref h0), (1, .int (nI fN)), (2, .int (nI nN))])) => ?_)
        refine lv_aload_n hx hb dX12_workCompare_143 rfl (lv_at hl 3 rfl) ?_
        refine va_get (D := (dC, dI)) (ci := 12) (v := .ref (a 49)) (C := RX12) (T := TX12) (N := 163) (fs := fM (vS a (fT (fT vi 21 s2116) 22 p2116) vj)) hx hb hts iwsRX12_workCompare_in12 hown hK hP 0 rfl rfl 78 (by decide) (hts _ hm_r_X12_workCompare_2) (fun _ h9 => h9) rfl dX12_workCompare_144 ?_
        refine lv_bipush (v := 9) hx hb dX12_workCompare_147 (by decide) ?_
        refine lv_iload_n hx hb dX12_workCompare_149 rfl (lv_at hl 2 rfl) ?_
        refine lv_imul hx hb dX12_workCompare_150 ?_
        refine lv_topi (fun y30 hy30 => ?_)
        obtain rfl : (nI (9 * (pN - 1))) = y30 := (hy30.trans (pk_mul 9 (pN - 1))).symm
        refine va_iald (cA := k 49) (n := 900) (f := (vF 49)) hx hb hK hP 50 49 (WR_get 49 (by decide)) (TR_get 49 (by decide)) (vp_in_nI (show (9 * (pN - 1)) < 900 by omega) (by omega)) dX12_workCompare_151 ?_
        refine lv_topi (fun y31 hy31 => ?_)
        obtain rfl : ((vF 49) (9 * (pN - 1))) = y31 := (hy31.trans (by rw [nI_clamp (by omega)])).symm
        refine lv_i2l hx hb dX12_workCompare_152 rfl ?_
        refine lv_aload_n hx hb dX12_workCompare_153 rfl (lv_at hl 3 rfl) ?_
        refine va_get (D := (dC, dI)) (ci := 12) (v := .ref (a 50)) (C := RX12) (T := TX12) (N := 163) (fs := fM (vS a (fT (fT vi 21 s2116) 22 p2116) vj)) hx hb hts iwsRX12_workCompare_in12 hown hK hP 0 rfl rfl 79 (by decide) (hts _ hm_r_X12_workCompare_3) (fun _ h9 => h9) rfl dX12_workCompare_154 ?_
        refine lv_bipush (v := 9) hx hb dX12_workCompare_157 (by decide) ?_
        refine lv_iload hx hb dX12_workCompare_159 (lv_at hl 1 rfl) ?_
        refine lv_imul hx hb dX12_workCompare_161 ?_
        refine lv_topi (fun y32 hy32 => ?_)
        obtain rfl : (nI (9 * (pN - 2))) = y32 := (hy32.trans (pk_mul 9 (pN - 2))).symm
        refine va_iald (cA := k 50) (n := 900) (f := (vF 50)) hx hb hK hP 51 50 (WR_get 50 (by decide)) (TR_get 50 (by decide)) (vp_in_nI (show (9 * (pN - 2)) < 900 by omega) (by omega)) dX12_workCompare_162 ?_
        refine lv_topi (fun y33 hy33 => ?_)
        obtain rfl : ((vF 50) (9 * (pN - 2))) = y33 := (hy33.trans (by rw [nI_clamp (by omega)])).symm
        refine lv_i2l hx hb dX12_workCompare_163 rfl ?_
        refine lv_lmul hx hb dX12_workCompare_164 ?_
        refine lv_lstore hx hb dX12_workCompare_165 hl (by decide) rfl (fun ls (hl : lv_has ls _ ([(7, .long ((((vF 49) (9 * (pN - 1)))).toInt64 * (((vF 50) (9 * (pN - 2)))).toInt64)), (5, .long ((((vF 49) (9 * (pN - 2)))).toInt64 * (((vF 50) (9 * (pN - 1)))).toInt64)), (4, .int (nI (pN - 2))), (3, .int (nI (pN - 1))), (0, .ref h0), (1, .int (nI fN)), (2, .int (nI nN))])) => ?_)
        refine lv_aload_n hx hb dX12_workCompare_167 rfl (lv_at hl 4 rfl) ?_
        refine va_get (D := (dC, dI)) (ci := 12) (v := .ref (a 32)) (C := RX12) (T := TX12) (N := 163) (fs := fM (vS a (fT (fT vi 21 s2116) 22 p2116) vj)) hx hb hts iwsRX12_workCompare_in12 hown hK hP 0 rfl rfl 56 (by decide) (hts _ hm_r_X12_workCompare_4) (fun _ h9 => h9) rfl dX12_workCompare_168 ?_
        refine lv_iload_n hx hb dX12_workCompare_171 rfl (lv_at hl 6 rfl) ?_
        refine va_iald (cA := k 32) (n := 4200) (f := (vF 32)) hx hb hK hP 33 32 (WR_get 32 (by decide)) (TR_get 32 (by decide)) (vp_in_nI (show nN < 4200 by omega) (by omega)) dX12_workCompare_172 ?_
        refine lv_topi (fun y34 hy34 => ?_)
        obtain rfl : ((vF 32) nN) = y34 := (hy34.trans (by rw [nI_clamp (by omega)])).symm
        refine lv_istore hx hb dX12_workCompare_173 hl (by decide) rfl (fun ls (hl : lv_has ls _ ([(9, .int ((vF 32) nN)), (7, .long ((((vF 49) (9 * (pN - 1)))).toInt64 * (((vF 50) (9 * (pN - 2)))).toInt64)), (5, .long ((((vF 49) (9 * (pN - 2)))).toInt64 * (((vF 50) (9 * (pN - 1)))).toInt64)), (4, .int (nI (pN - 2))), (3, .int (nI (pN - 1))), (0, .ref h0), (1, .int (nI fN)), (2, .int (nI nN))])) => ?_)
        refine lv_aload_n hx hb dX12_workCompare_175 rfl (lv_at hl 5 rfl) ?_
        refine lv_iload hx hb dX12_workCompare_176 (lv_at hl 0 rfl) ?_
        refine lv_bipush (v := 76) hx hb dX12_workCompare_178 (by decide) ?_
        refine W.cut (pc := 304) (fun H locs ls stk => ∃ (tv : Int32), (tv = 0 ∨ tv = 1) ∧  stk = [.int tv, .ref h0] ∧ va_P (dC, dI) vwCl (WR a k h0 (fT (fT vi 21 s2116) 22 p2116) vj (fT vF 53 (upd (vF 53) ((nI fN)).toNatClampNeg (nI (sN + 1)))) vG) H ∧ va_D A (WR a k h0 (fT (fT vi 21 s2116) 22 p2116) vj (fT vF 53 (upd (vF 53) ((nI fN)).toNatClampNeg (nI (sN + 1)))) vG) ∧ va_S A s.heap H locs ∧ lv_has ls 10 [(9, .int ((vF 32) nN)), (7, .long ((((vF 49) (9 * (pN - 1)))).toInt64 * (((vF 50) (9 * (pN - 2)))).toInt64)), (5, .long ((((vF 49) (9 * (pN - 2)))).toInt64 * (((vF 50) (9 * (pN - 1)))).toInt64)), (4, .int (nI (pN - 2))), (3, .int (nI (pN - 1))), (0, .ref h0), (1, .int (nI fN)), (2, .int (nI nN))]) (fun join2 => ?_) ?_
        · refine lv_icmp_ne (tgt := 199) hx hb dX12_workCompare_180 (by decide) (fun c_180 => ?_) (fun c_180 => ?_)
          · have t_180 : (((vF 32) nN)).toInt ≠ 76 := toI_ne c_180 rfl (by decide)
            refine lv_iload hx hb dX12_workCompare_199 (lv_at hl 0 rfl) ?_
            refine lv_bipush (v := 71) hx hb dX12_workCompare_201 (by decide) ?_
            refine lv_icmp_ne (tgt := 222) hx hb dX12_workCompare_203 (by decide) (fun c_203 => ?_) (fun c_203 => ?_)
            · have t_203 : (((vF 32) nN)).toInt ≠ 71 := toI_ne c_203 rfl (by decide)
              refine lv_iload hx hb dX12_workCompare_222 (lv_at hl 0 rfl) ?_
              refine lv_bipush (v := 60) hx hb dX12_workCompare_224 (by decide) ?_
              refine lv_icmp_ne (tgt := 245) hx hb dX12_workCompare_226 (by decide) (fun c_226 => ?_) (fun c_226 => ?_)
              · have t_226 : (((vF 32) nN)).toInt ≠ 60 := toI_ne c_226 rfl (by decide)
                refine lv_iload hx hb dX12_workCompare_245 (lv_at hl 0 rfl) ?_
                refine lv_bipush (v := 62) hx hb dX12_workCompare_247 (by decide) ?_
                refine lv_icmp_ne (tgt := 268) hx hb dX12_workCompare_249 (by decide) (fun c_249 => ?_) (fun c_249 => ?_)
                · have t_249 : (((vF 32) nN)).toInt ≠ 62 := toI_ne c_249 rfl (by decide)
                  refine lv_iload hx hb dX12_workCompare_268 (lv_at hl 0 rfl) ?_
                  refine lv_bipush (v := 61) hx hb dX12_workCompare_270 (by decide) ?_
                  refine lv_icmp_ne (tgt := 291) hx hb dX12_workCompare_272 (by decide) (fun c_272 => ?_) (fun c_272 => ?_)
                  · have t_272 : (((vF 32) nN)).toInt ≠ 61 := toI_ne c_272 rfl (by decide)
                    refine lv_lload hx hb dX12_workCompare_291 (lv_at hl 2 rfl) ?_
                    refine lv_lload hx hb dX12_workCompare_293 (lv_at hl 1 rfl) ?_
                    refine W.lcmp hx hb dX12_workCompare_295 ?_
                    refine lv_if_eq (tgt := 303) hx hb dX12_workCompare_296 (by decide) (fun c_296 => ?_) (fun c_296 => ?_)
                    · have t_296 : (((((vF 49) (9 * (pN - 2)))).toInt64 * (((vF 50) (9 * (pN - 1)))).toInt64)).toInt = (((((vF 49) (9 * (pN - 1)))).toInt64 * (((vF 50) (9 * (pN - 2)))).toInt64)).toInt := toL_eq c_296 rfl rfl
                      refine lv_iconst (v := 0) hx hb dX12_workCompare_303 (by decide) ?_
                      have hl : lv_has _ _ ([(9, .int ((vF 32) nN)), (7, .long ((((vF 49) (9 * (pN - 1)))).toInt64 * (((vF 50) (9 * (pN - 2)))).toInt64)), (5, .long ((((vF 49) (9 * (pN - 2)))).toInt64 * (((vF 50) (9 * (pN - 1)))).toInt64)), (4, .int (nI (pN - 2))), (3, .int (nI (pN - 1))), (0, .ref h0), (1, .int (nI fN)), (2, .int (nI nN))]) := lv_sub hl [0, 1, 2, 3, 4, 5, 6, 7] rfl
                      exact join2 _ _ _ _ ⟨0, by decide, rfl, hP, hD, hS, hl⟩
                    · have t_296 : ¬ (((((vF 49) (9 * (pN - 2)))).toInt64 * (((vF 50) (9 * (pN - 1)))).toInt64)).toInt = (((((vF 49) (9 * (pN - 1)))).toInt64 * (((vF 50) (9 * (pN - 2)))).toInt64)).toInt := toL_neq c_296 rfl rfl
                      refine lv_iconst (v := 1) hx hb dX12_workCompare_299 (by decide) ?_
                      refine lv_goto (tgt := 304) hx hb dX12_workCompare_300 (by decide) ?_
                      have hl : lv_has _ _ ([(9, .int ((vF 32) nN)), (7, .long ((((vF 49) (9 * (pN - 1)))).toInt64 * (((vF 50) (9 * (pN - 2)))).toInt64)), (5, .long ((((vF 49) (9 * (pN - 2)))).toInt64 * (((vF 50) (9 * (pN - 1)))).toInt64)), (4, .int (nI (pN - 2))), (3, .int (nI (pN - 1))), (0, .ref h0), (1, .int (nI fN)), (2, .int (nI nN))]) := lv_sub hl [0, 1, 2, 3, 4, 5, 6, 7] rfl
                      exact join2 _ _ _ _ ⟨1, by decide, rfl, hP, hD, hS, hl⟩
                  · have t_272 : (((vF 32) nN)).toInt = 61 := toI_nne c_272 rfl (by decide)
                    refine lv_lload hx hb dX12_workCompare_275 (lv_at hl 2 rfl) ?_
                    refine lv_lload hx hb dX12_workCompare_277 (lv_at hl 1 rfl) ?_
                    refine W.lcmp hx hb dX12_workCompare_279 ?_
                    refine lv_if_ne (tgt := 287) hx hb dX12_workCompare_280 (by decide) (fun c_280 => ?_) (fun c_280 => ?_)
                    · have t_280 : (((((vF 49) (9 * (pN - 2)))).toInt64 * (((vF 50) (9 * (pN - 1)))).toInt64)).toInt ≠ (((((vF 49) (9 * (pN - 1)))).toInt64 * (((vF 50) (9 * (pN - 2)))).toInt64)).toInt := toL_ne c_280 rfl rfl
                      refine lv_iconst (v := 0) hx hb dX12_workCompare_287 (by decide) ?_
                      refine lv_goto (tgt := 304) hx hb dX12_workCompare_288 (by decide) ?_
                      have hl : lv_has _ _ ([(9, .int ((vF 32) nN)), (7, .long ((((vF 49) (9 * (pN - 1)))).toInt64 * (((vF 50) (9 * (pN - 2)))).toInt64)), (5, .long ((((vF 49) (9 * (pN - 2)))).toInt64 * (((vF 50) (9 * (pN - 1)))).toInt64)), (4, .int (nI (pN - 2))), (3, .int (nI (pN - 1))), (0, .ref h0), (1, .int (nI fN)), (2, .int (nI nN))]) := lv_sub hl [0, 1, 2, 3, 4, 5, 6, 7] rfl
                      exact join2 _ _ _ _ ⟨0, by decide, rfl, hP, hD, hS, hl⟩
                    · have t_280 : (((((vF 49) (9 * (pN - 2)))).toInt64 * (((vF 50) (9 * (pN - 1)))).toInt64)).toInt = (((((vF 49) (9 * (pN - 1)))).toInt64 * (((vF 50) (9 * (pN - 2)))).toInt64)).toInt := toL_nne c_280 rfl rfl
                      refine lv_iconst (v := 1) hx hb dX12_workCompare_283 (by decide) ?_
                      refine lv_goto (tgt := 304) hx hb dX12_workCompare_284 (by decide) ?_
                      have hl : lv_has _ _ ([(9, .int ((vF 32) nN)), (7, .long ((((vF 49) (9 * (pN - 1)))).toInt64 * (((vF 50) (9 * (pN - 2)))).toInt64)), (5, .long ((((vF 49) (9 * (pN - 2)))).toInt64 * (((vF 50) (9 * (pN - 1)))).toInt64)), (4, .int (nI (pN - 2))), (3, .int (nI (pN - 1))), (0, .ref h0), (1, .int (nI fN)), (2, .int (nI nN))]) := lv_sub hl [0, 1, 2, 3, 4, 5, 6, 7] rfl
                      exact join2 _ _ _ _ ⟨1, by decide, rfl, hP, hD, hS, hl⟩
                · have t_249 : (((vF 32) nN)).toInt = 62 := toI_nne c_249 rfl (by decide)
                  refine lv_lload hx hb dX12_workCompare_252 (lv_at hl 2 rfl) ?_
                  refine lv_lload hx hb dX12_workCompare_254 (lv_at hl 1 rfl) ?_
                  refine W.lcmp hx hb dX12_workCompare_256 ?_
                  refine lv_if_le (tgt := 264) hx hb dX12_workCompare_257 (by decide) (fun c_257 => ?_) (fun c_257 => ?_)
                  · have t_257 : (((((vF 49) (9 * (pN - 2)))).toInt64 * (((vF 50) (9 * (pN - 1)))).toInt64)).toInt ≤ (((((vF 49) (9 * (pN - 1)))).toInt64 * (((vF 50) (9 * (pN - 2)))).toInt64)).toInt := toL_le c_257 rfl rfl
                    refine lv_iconst (v := 0) hx hb dX12_workCompare_264 (by decide) ?_
                    refine lv_goto (tgt := 304) hx hb dX12_workCompare_265 (by decide) ?_
                    have hl : lv_has _ _ ([(9, .int ((vF 32) nN)), (7, .long ((((vF 49) (9 * (pN - 1)))).toInt64 * (((vF 50) (9 * (pN - 2)))).toInt64)), (5, .long ((((vF 49) (9 * (pN - 2)))).toInt64 * (((vF 50) (9 * (pN - 1)))).toInt64)), (4, .int (nI (pN - 2))), (3, .int (nI (pN - 1))), (0, .ref h0), (1, .int (nI fN)), (2, .int (nI nN))]) := lv_sub hl [0, 1, 2, 3, 4, 5, 6, 7] rfl
                    exact join2 _ _ _ _ ⟨0, by decide, rfl, hP, hD, hS, hl⟩
                  · have t_257 : ¬ (((((vF 49) (9 * (pN - 2)))).toInt64 * (((vF 50) (9 * (pN - 1)))).toInt64)).toInt ≤ (((((vF 49) (9 * (pN - 1)))).toInt64 * (((vF 50) (9 * (pN - 2)))).toInt64)).toInt := toL_nle c_257 rfl rfl
                    refine lv_iconst (v := 1) hx hb dX12_workCompare_260 (by decide) ?_
                    refine lv_goto (tgt := 304) hx hb dX12_workCompare_261 (by decide) ?_
                    have hl : lv_has _ _ ([(9, .int ((vF 32) nN)), (7, .long ((((vF 49) (9 * (pN - 1)))).toInt64 * (((vF 50) (9 * (pN - 2)))).toInt64)), (5, .long ((((vF 49) (9 * (pN - 2)))).toInt64 * (((vF 50) (9 * (pN - 1)))).toInt64)), (4, .int (nI (pN - 2))), (3, .int (nI (pN - 1))), (0, .ref h0), (1, .int (nI fN)), (2, .int (nI nN))]) := lv_sub hl [0, 1, 2, 3, 4, 5, 6, 7] rfl
                    exact join2 _ _ _ _ ⟨1, by decide, rfl, hP, hD, hS, hl⟩
              · have t_226 : (((vF 32) nN)).toInt = 60 := toI_nne c_226 rfl (by decide)
                refine lv_lload hx hb dX12_workCompare_229 (lv_at hl 2 rfl) ?_
                refine lv_lload hx hb dX12_workCompare_231 (lv_at hl 1 rfl) ?_
                refine W.lcmp hx hb dX12_workCompare_233 ?_
                refine lv_if_ge (tgt := 241) hx hb dX12_workCompare_234 (by decide) (fun c_234 => ?_) (fun c_234 => ?_)
                · have t_234 : (((((vF 49) (9 * (pN - 2)))).toInt64 * (((vF 50) (9 * (pN - 1)))).toInt64)).toInt ≥ (((((vF 49) (9 * (pN - 1)))).toInt64 * (((vF 50) (9 * (pN - 2)))).toInt64)).toInt := toL_ge c_234 rfl rfl
                  refine lv_iconst (v := 0) hx hb dX12_workCompare_241 (by decide) ?_
                  refine lv_goto (tgt := 304) hx hb dX12_workCompare_242 (by decide) ?_
                  have hl : lv_has _ _ ([(9, .int ((vF 32) nN)), (7, .long ((((vF 49) (9 * (pN - 1)))).toInt64 * (((vF 50) (9 * (pN - 2)))).toInt64)), (5, .long ((((vF 49) (9 * (pN - 2)))).toInt64 * (((vF 50) (9 * (pN - 1)))).toInt64)), (4, .int (nI (pN - 2))), (3, .int (nI (pN - 1))), (0, .ref h0), (1, .int (nI fN)), (2, .int (nI nN))]) := lv_sub hl [0, 1, 2, 3, 4, 5, 6, 7] rfl
                  exact join2 _ _ _ _ ⟨0, by decide, rfl, hP, hD, hS, hl⟩
                · have t_234 : ¬ (((((vF 49) (9 * (pN - 2)))).toInt64 * (((vF 50) (9 * (pN - 1)))).toInt64)).toInt ≥ (((((vF 49) (9 * (pN - 1)))).toInt64 * (((vF 50) (9 * (pN - 2)))).toInt64)).toInt := toL_nge c_234 rfl rfl
                  refine lv_iconst (v := 1) hx hb dX12_workCompare_237 (by decide) ?_
                  refine lv_goto (tgt := 304) hx hb dX12_workCompare_238 (by decide) ?_
                  have hl : lv_has _ _ ([(9, .int ((vF 32) nN)), (7, .long ((((vF 49) (9 * (pN - 1)))).toInt64 * (((vF 50) (9 * (pN - 2)))).toInt64)), (5, .long ((((vF 49) (9 * (pN - 2)))).toInt64 * (((vF 50) (9 * (pN - 1)))).toInt64)), (4, .int (nI (pN - 2))), (3, .int (nI (pN - 1))), (0, .ref h0), (1, .int (nI fN)), (2, .int (nI nN))]) := lv_sub hl [0, 1, 2, 3, 4, 5, 6, 7] rfl
                  exact join2 _ _ _ _ ⟨1, by decide, rfl, hP, hD, hS, hl⟩
            · have t_203 : (((vF 32) nN)).toInt = 71 := toI_nne c_203 rfl (by decide)
              refine lv_lload hx hb dX12_workCompare_206 (lv_at hl 2 rfl) ?_
              refine lv_lload hx hb dX12_workCompare_208 (lv_at hl 1 rfl) ?_
              refine W.lcmp hx hb dX12_workCompare_210 ?_
              refine lv_if_lt (tgt := 218) hx hb dX12_workCompare_211 (by decide) (fun c_211 => ?_) (fun c_211 => ?_)
              · have t_211 : (((((vF 49) (9 * (pN - 2)))).toInt64 * (((vF 50) (9 * (pN - 1)))).toInt64)).toInt < (((((vF 49) (9 * (pN - 1)))).toInt64 * (((vF 50) (9 * (pN - 2)))).toInt64)).toInt := toL_lt c_211 rfl rfl
                refine lv_iconst (v := 0) hx hb dX12_workCompare_218 (by decide) ?_
                refine lv_goto (tgt := 304) hx hb dX12_workCompare_219 (by decide) ?_
                have hl : lv_has _ _ ([(9, .int ((vF 32) nN)), (7, .long ((((vF 49) (9 * (pN - 1)))).toInt64 * (((vF 50) (9 * (pN - 2)))).toInt64)), (5, .long ((((vF 49) (9 * (pN - 2)))).toInt64 * (((vF 50) (9 * (pN - 1)))).toInt64)), (4, .int (nI (pN - 2))), (3, .int (nI (pN - 1))), (0, .ref h0), (1, .int (nI fN)), (2, .int (nI nN))]) := lv_sub hl [0, 1, 2, 3, 4, 5, 6, 7] rfl
                exact join2 _ _ _ _ ⟨0, by decide, rfl, hP, hD, hS, hl⟩
              · have t_211 : ¬ (((((vF 49) (9 * (pN - 2)))).toInt64 * (((vF 50) (9 * (pN - 1)))).toInt64)).toInt < (((((vF 49) (9 * (pN - 1)))).toInt64 * (((vF 50) (9 * (pN - 2)))).toInt64)).toInt := toL_nlt c_211 rfl rfl
                refine lv_iconst (v := 1) hx hb dX12_workCompare_214 (by decide) ?_
                refine lv_goto (tgt := 304) hx hb dX12_workCompare_215 (by decide) ?_
                have hl : lv_has _ _ ([(9, .int ((vF 32) nN)), (7, .long ((((vF 49) (9 * (pN - 1)))).toInt64 * (((vF 50) (9 * (pN - 2)))).toInt64)), (5, .long ((((vF 49) (9 * (pN - 2)))).toInt64 * (((vF 50) (9 * (pN - 1)))).toInt64)), (4, .int (nI (pN - 2))), (3, .int (nI (pN - 1))), (0, .ref h0), (1, .int (nI fN)), (2, .int (nI nN))]) := lv_sub hl [0, 1, 2, 3, 4, 5, 6, 7] rfl
                exact join2 _ _ _ _ ⟨1, by decide, rfl, hP, hD, hS, hl⟩
          · have t_180 : (((vF 32) nN)).toInt = 76 := toI_nne c_180 rfl (by decide)
            refine lv_lload hx hb dX12_workCompare_183 (lv_at hl 2 rfl) ?_
            refine lv_lload hx hb dX12_workCompare_185 (lv_at hl 1 rfl) ?_
            refine W.lcmp hx hb dX12_workCompare_187 ?_
            refine lv_if_gt (tgt := 195) hx hb dX12_workCompare_188 (by decide) (fun c_188 => ?_) (fun c_188 => ?_)
            · have t_188 : (((((vF 49) (9 * (pN - 2)))).toInt64 * (((vF 50) (9 * (pN - 1)))).toInt64)).toInt > (((((vF 49) (9 * (pN - 1)))).toInt64 * (((vF 50) (9 * (pN - 2)))).toInt64)).toInt := toL_gt c_188 rfl rfl
              refine lv_iconst (v := 0) hx hb dX12_workCompare_195 (by decide) ?_
              refine lv_goto (tgt := 304) hx hb dX12_workCompare_196 (by decide) ?_
              have hl : lv_has _ _ ([(9, .int ((vF 32) nN)), (7, .long ((((vF 49) (9 * (pN - 1)))).toInt64 * (((vF 50) (9 * (pN - 2)))).toInt64)), (5, .long ((((vF 49) (9 * (pN - 2)))).toInt64 * (((vF 50) (9 * (pN - 1)))).toInt64)), (4, .int (nI (pN - 2))), (3, .int (nI (pN - 1))), (0, .ref h0), (1, .int (nI fN)), (2, .int (nI nN))]) := lv_sub hl [0, 1, 2, 3, 4, 5, 6, 7] rfl
              exact join2 _ _ _ _ ⟨0, by decide, rfl, hP, hD, hS, hl⟩
            · have t_188 : ¬ (((((vF 49) (9 * (pN - 2)))).toInt64 * (((vF 50) (9 * (pN - 1)))).toInt64)).toInt > (((((vF 49) (9 * (pN - 1)))).toInt64 * (((vF 50) (9 * (pN - 2)))).toInt64)).toInt := toL_ngt c_188 rfl rfl
              refine lv_iconst (v := 1) hx hb dX12_workCompare_191 (by decide) ?_
              refine lv_goto (tgt := 304) hx hb dX12_workCompare_192 (by decide) ?_
              have hl : lv_has _ _ ([(9, .int ((vF 32) nN)), (7, .long ((((vF 49) (9 * (pN - 1)))).toInt64 * (((vF 50) (9 * (pN - 2)))).toInt64)), (5, .long ((((vF 49) (9 * (pN - 2)))).toInt64 * (((vF 50) (9 * (pN - 1)))).toInt64)), (4, .int (nI (pN - 2))), (3, .int (nI (pN - 1))), (0, .ref h0), (1, .int (nI fN)), (2, .int (nI nN))]) := lv_sub hl [0, 1, 2, 3, 4, 5, 6, 7] rfl
              exact join2 _ _ _ _ ⟨1, by decide, rfl, hP, hD, hS, hl⟩
        · rintro H locs ls stk ⟨tv, htv, rfl, hP, hD, hS, hl⟩
          refine va_put (D := (dC, dI)) (ci := 12) (v := .int tv) (ty := .boolean) (C := RX12) (T := TX12) (N := 163) (fs := fM (vS a (fT (fT vi 21 s2116) 22 p2116) vj)) hx hb hts iwsRX12_workCompare_in12 tyX12 tyX12_ok nmX12 hown hK hP hD hS 0 rfl rfl 84 (by decide) (hts _ hm_r_X12_workCompare_5) (fun _ h9 => h9) rfl (by decide +kernel) (by rcases htv with h9 | h9 <;> (rw [h9]; rfl)) (by rcases htv with h9 | h9 <;> (rw [h9]; rfl)) (Nat.le_of_ble_eq_true rfl) dX12_workCompare_304 (fun H locs hP hD hS => ?_)
          have hP : va_P (dC, dI) vwCl (WR a k h0 (fT (fT (fT vi 21 s2116) 22 p2116) 84 tv) vj (fT vF 53 (upd (vF 53) ((nI fN)).toNatClampNeg (nI (sN + 1)))) vG) H := fz_w (WR_i 84 _ rfl) hP
          have hD : va_D A (WR a k h0 (fT (fT (fT vi 21 s2116) 22 p2116) 84 tv) vj (fT vF 53 (upd (vF 53) ((nI fN)).toNatClampNeg (nI (sN + 1)))) vG) := fz_wD (WR_i 84 _ rfl) hD
          refine lv_aload_n hx hb dX12_workCompare_307 rfl (lv_at hl 5 rfl) ?_
          refine lv_dup hx hb dX12_workCompare_308 rfl ?_
          refine va_get (D := (dC, dI)) (ci := 12) (v := .int (vi 81)) (C := RX12) (T := TX12) (N := 163) (fs := fM (vS a (fT (fT (fT vi 21 s2116) 22 p2116) 84 tv) vj)) hx hb hts iwsRX12_workCompare_in12 hown hK hP 0 rfl rfl 81 (by decide) (hts _ hm_r_X12_workCompare_1) (fun _ h9 => h9) rfl dX12_workCompare_309 ?_
          refine lv_topi (fun y35 hy35 => ?_)
          obtain rfl : (nI pN) = y35 := (hy35.trans (hpl)).symm
          refine lv_iconst (v := 2) hx hb dX12_workCompare_312 (by decide) ?_
          refine lv_isub hx hb dX12_workCompare_313 ?_
          refine lv_topi (fun y36 hy36 => ?_)
          obtain rfl : (nI (pN - 2)) = y36 := (hy36.trans (pk_sub (a := pN) (b := 2) (by omega))).symm
          refine va_put (D := (dC, dI)) (ci := 12) (v := .int (nI (pN - 2))) (ty := .int) (C := RX12) (T := TX12) (N := 163) (fs := fM (vS a (fT (fT (fT vi 21 s2116) 22 p2116) 84 tv) vj)) hx hb hts iwsRX12_workCompare_in12 tyX12 tyX12_ok nmX12 hown hK hP hD hS 0 rfl rfl 81 (by decide) (hts _ hm_r_X12_workCompare_1) (fun _ h9 => h9) rfl (by decide +kernel) rfl rfl (Nat.le_of_ble_eq_true rfl) dX12_workCompare_314 (fun H locs hP hD hS => ?_)
          have hP : va_P (dC, dI) vwCl (WR a k h0 (fT (fT (fT (fT vi 21 s2116) 22 p2116) 84 tv) 81 (nI (pN - 2))) vj (fT vF 53 (upd (vF 53) ((nI fN)).toNatClampNeg (nI (sN + 1)))) vG) H := fz_w (WR_i 81 _ rfl) hP
          have hD : va_D A (WR a k h0 (fT (fT (fT (fT vi 21 s2116) 22 p2116) 84 tv) 81 (nI (pN - 2))) vj (fT vF 53 (upd (vF 53) ((nI fN)).toNatClampNeg (nI (sN + 1)))) vG) := fz_wD (WR_i 81 _ rfl) hD
          refine lv_aload_n hx hb dX12_workCompare_317 rfl (lv_at hl 5 rfl) ?_
          refine lv_dup hx hb dX12_workCompare_318 rfl ?_
          refine va_get (D := (dC, dI)) (ci := 12) (v := .int (vi 89)) (C := RX12) (T := TX12) (N := 163) (fs := fM (vS a (fT (fT (fT (fT vi 21 s2116) 22 p2116) 84 tv) 81 (nI (pN - 2))) vj)) hx hb hts iwsRX12_workCompare_in12 hown hK hP 0 rfl rfl 89 (by decide) (hts _ hm_r_X12_workCompare_6) (fun _ h9 => h9) rfl dX12_workCompare_319 ?_
          refine lv_topi (fun y37 hy37 => ?_)
          obtain rfl : (nI fr) = y37 := (hy37.trans (hfr9)).symm
          refine lv_iconst (v := 1) hx hb dX12_workCompare_322 (by decide) ?_
          refine lv_isub hx hb dX12_workCompare_323 ?_
          refine lv_topi (fun y38 hy38 => ?_)
          obtain rfl : (nI (fr - 1)) = y38 := (hy38.trans (pk_sub (a := fr) (b := 1) (by omega))).symm
          refine va_put (D := (dC, dI)) (ci := 12) (v := .int (nI (fr - 1))) (ty := .int) (C := RX12) (T := TX12) (N := 163) (fs := fM (vS a (fT (fT (fT (fT vi 21 s2116) 22 p2116) 84 tv) 81 (nI (pN - 2))) vj)) hx hb hts iwsRX12_workCompare_in12 tyX12 tyX12_ok nmX12 hown hK hP hD hS 0 rfl rfl 89 (by decide) (hts _ hm_r_X12_workCompare_6) (fun _ h9 => h9) rfl (by decide +kernel) rfl rfl (Nat.le_of_ble_eq_true rfl) dX12_workCompare_324 (fun H locs hP hD hS => ?_)
          have hP : va_P (dC, dI) vwCl (WR a k h0 (fT (fT (fT (fT (fT vi 21 s2116) 22 p2116) 84 tv) 81 (nI (pN - 2))) 89 (nI (fr - 1))) vj (fT vF 53 (upd (vF 53) ((nI fN)).toNatClampNeg (nI (sN + 1)))) vG) H := fz_w (WR_i 89 _ rfl) hP
          have hD : va_D A (WR a k h0 (fT (fT (fT (fT (fT vi 21 s2116) 22 p2116) 84 tv) 81 (nI (pN - 2))) 89 (nI (fr - 1))) vj (fT vF 53 (upd (vF 53) ((nI fN)).toNatClampNeg (nI (sN + 1)))) vG) := fz_wD (WR_i 89 _ rfl) hD
          refine W.widen (k := 0) (n := 0) (by decide +kernel) (by decide +kernel) ?_
          have e9 : fT (fT vF 53 (upd (vF 53) ((nI fN)).toNatClampNeg (nI (sN + 1)))) 52 (vF 52) = fT vF 53 (upd (vF 53) ((nI fN)).toNatClampNeg (nI (sN + 1))) := fT_id _ _ (fT_ne _ _ (Nat.ne_of_beq_eq_false rfl))
          have hP := wr_PF e9 hP
          have hD := wr_DF e9 hD
          clear e9
          exact W.vret hx hb hr (fun t9_ ht hW => ⟨⟨((vF 52), (upd (vF 53) ((nI fN)).toNatClampNeg (nI (sN + 1))), (fr - 1), (pN - 2), s2116, p2116, tv), rfl, by (try dsimp only); exact ⟨by (have h9 := f116_1); omega, Or.inr f116_1, Or.inr (StpO.pop hfN hfr1 (fun _ _ => rfl) (by rw [if_neg (by omega)]; omega)), by omega, by omega⟩, by rw [ht]; exact hP, hD⟩, hS.F ht⟩) hS.2.2 dX12_workCompare_327
    · have t_40 : (((sN + 1) : Nat) : Int) = 2 := toI_nne c_40 (nI_toInt (by omega)) (by decide)
      refine lv_aload_n hx hb dX12_workCompare_43 rfl (lv_at hl 0 rfl) ?_
      refine lv_aload_n hx hb dX12_workCompare_44 rfl (lv_at hl 0 rfl) ?_
      refine va_get (D := (dC, dI)) (ci := 12) (v := .int (vi 81)) (C := RX12) (T := TX12) (N := 163) (fs := fM (vS a vi vj)) hx hb hts iwsRX12_workCompare_in12 hown hK hP 0 rfl rfl 81 (by decide) (hts _ hm_r_X12_workCompare_1) (fun _ h9 => h9) rfl dX12_workCompare_45 ?_
      refine lv_topi (fun y39 hy39 => ?_)
      obtain rfl : (nI pN) = y39 := (hy39.trans (hpl)).symm
      refine lv_iconst (v := 1) hx hb dX12_workCompare_48 (by decide) ?_
      refine lv_isub hx hb dX12_workCompare_49 ?_
      refine lv_topi (fun y40 hy40 => ?_)
      obtain rfl : (nI (pN - 1)) = y40 := (hy40.trans (pk_sub (a := pN) (b := 1) (by omega))).symm
      have hFc := allFree hD hS hA
      refine va_calli (va_runV (As := [.int (nI (pN - 1))]) (rest := []) ⟨hx, hb, hml, hown, hts⟩ (r_X12_hasVariables l dC dI a k h0 vi vj (fT vF 53 (upd (vF 53) ((nI fN)).toNatClampNeg (nI (sN + 1)))) vG (pN - 1) (by first | with_reducible assumption | decide | omega | rfl | assumption) H.size) (cwV 1 hts gwsRX12_workCompare_0 rfl rfl rfl hd_yX12_hasVariables_RX12 (by decide +kernel)) (fz_pre (va_recv hK hP (ci := 12) (q0 := 0) rfl rfl) hP hK hD) rfl rfl hl.1 rfl (lv_room (Nat.le_of_ble_eq_true rfl)) dX12_workCompare_50 (by decide +kernel)) hS (fun q _ h => hFc q h) hFc (fun r50 u t9_ H locs ht hvm hw9 hB9 hz1 hk1 hS => ?_)
      have hP : va_P (dC, dI) vwCl (WR a k h0 vi vj (fT vF 53 (upd (vF 53) ((nI fN)).toNatClampNeg (nI (sN + 1)))) vG) H := fz_P ht hB9.1
      have hD := fz_sd hP (hB9.2.weaken (fun _ q _ h => hFc q.1 h)) rfl
      have f50_0 := hw9
      try dsimp only at f50_0
      have f50_0 : ((r50) = 0 ∧ ∀ q, 1 ≤ q → q < 9 → (vF 49) (9 * (pN - 1) + q) = 0) ∨ ((r50) = 1 ∧ ∃ q, 1 ≤ q ∧ q < 9 ∧ (vF 49) (9 * (pN - 1) + q) ≠ 0) := f50_0
      refine lv_if_eq (tgt := 71) hx hb dX12_workCompare_53 (by decide) (fun c_53 => ?_) (fun c_53 => ?_)
      · have t_53 : (r50).toInt = 0 := toI_eq c_53 rfl (by decide)
        refine lv_aload_n hx hb dX12_workCompare_71 rfl (lv_at hl 0 rfl) ?_
        refine lv_aload_n hx hb dX12_workCompare_72 rfl (lv_at hl 0 rfl) ?_
        refine va_get (D := (dC, dI)) (ci := 12) (v := .ref (a 31)) (C := RX12) (T := TX12) (N := 163) (fs := fM (vS a vi vj)) hx hb hts iwsRX12_workCompare_in12 hown hK hP 0 rfl rfl 55 (by decide) (hts (.fieldLink RX12 116 "OptimaWorksModel" "partB" "[I") (by decide +kernel)) (fun _ h9 => h9) rfl dX12_workCompare_73 ?_
        refine lv_iload_n hx hb dX12_workCompare_76 rfl (lv_at hl 2 rfl) ?_
        refine va_iald (cA := k 31) (n := 4200) (f := (vF 31)) hx hb hK hP 32 31 (WR_get 31 (by decide)) (TR_get 31 (by decide)) (vp_in_nI (show nN < 4200 by omega) (by omega)) dX12_workCompare_77 ?_
        refine lv_topi (fun y41 hy41 => ?_)
        obtain rfl : ((vF 31) nN) = y41 := (hy41.trans (by rw [nI_clamp (by omega)])).symm
        refine lv_topi (fun y42 hy42 => ?_)
        obtain rfl : (nI dN) = y42 := (hy42.trans (hdN)).symm
        have hFc := allFree hD hS hA
        refine va_callv (va_runV (As := [.int (nI dN)]) (rest := []) ⟨hx, hb, hml, hown, hts⟩ (r_X12_call l dC dI a k h0 vi vj (fT vF 53 (upd (vF 53) ((nI fN)).toNatClampNeg (nI (sN + 1)))) vG (nI dN) fr hfr9 (by first | with_reducible assumption | decide | omega | rfl | assumption) H.size) (cwV 1 hts gwsRX12_workCompare_2 rfl rfl rfl hd_yX12_call_RX12 (by decide +kernel)) (fz_pre (va_recv hK hP (ci := 12) (q0 := 0) rfl rfl) hP hK hD) rfl rfl hl.1 rfl (lv_room (Nat.le_of_ble_eq_true rfl)) dX12_workCompare_78 (by decide +kernel)) hS (fun q _ h => hFc q h) hFc (fun u t9_ H locs ht hvm hw9 hB9 hz1 hk1 hS => ?_)
        have e9F : fT (fT vF 53 (upd (upd (vF 53) ((nI fN)).toNatClampNeg (nI (sN + 1))) (nI fr).toNatClampNeg 0)) 52 (upd (vF 52) (nI fr).toNatClampNeg (nI dN)) = fT (fT (fT vF 53 (upd (vF 53) ((nI fN)).toNatClampNeg (nI (sN + 1)))) 52 (upd (vF 52) (nI fr).toNatClampNeg (nI dN))) 53 (upd (upd (vF 53) ((nI fN)).toNatClampNeg (nI (sN + 1))) (nI fr).toNatClampNeg 0) := ((fT_sw _ _ _ (Nat.ne_of_beq_eq_false rfl)).trans (congrArg (fun g9 => fT g9 52 (upd (vF 52) (nI fr).toNatClampNeg (nI dN))) (fT_sm _ _ _ _))).symm
        have hP := wr_PF e9F (fz_P ht hB9.1)
        have hD := wr_DF e9F (hB9.2.weaken (fun _ q _ h => hFc q.1 h))
        clear e9F
        refine lv_goto (tgt := 327) hx hb dX12_workCompare_81 (by decide) ?_
        refine W.widen (k := 0) (n := 0) (by decide +kernel) (by decide +kernel) ?_
        have e9 : fT (fT (fT (fT (fT vi 21 (vi 21)) 22 (vi 22)) 84 (vi 84)) 81 (nI pN)) 89 (nI (fr + 1)) = fT vi 89 (nI (fr + 1)) := Eq.trans (mv_4 rfl) (Eq.trans (id_4 rfl) (Eq.trans (mv_3 rfl) (Eq.trans (id_3 rfl) (Eq.trans (mv_2 rfl) (Eq.trans (id_2 rfl) (Eq.trans (mv_1 rfl) (Eq.trans (congrArg (fT _ 81) (show nI pN = vi 81 from (by first | with_reducible rfl | with_reducible assumption | (symm; with_reducible assumption) | rfl | assumption | (symm; assumption) | (subst_vars; rfl)))) (id_1 rfl))))))))
        have hP := wr_Pi e9 hP
        have hD := wr_Di e9 hD
        clear e9
        exact W.vret hx hb hr (fun t9_ ht hW => ⟨⟨((upd (vF 52) (nI fr).toNatClampNeg (nI dN)), (upd (upd (vF 53) ((nI fN)).toNatClampNeg (nI (sN + 1))) (nI fr).toNatClampNeg 0), (fr + 1), pN, (vi 21), (vi 22), (vi 84)), rfl, by (try dsimp only); exact ⟨hst0, Or.inl rfl, Or.inr (by (obtain rfl : sN = 1 := by omega); (obtain rfl : pN = hN + 1 := by omega); exact StpO.push 2 la 1 hfN hfr1 (fun _ _ => rfl) (fun h9 => absurd h9 (by omega)) hdT.2.1 hdT.2.2.1 (by omega) (WtO.p2 hkk hdT.2.2.2.2 (Nat.le_refl _)) (by omega)), Nat.le_refl _, by omega⟩, by rw [ht]; exact hP, hD⟩, hS.F ht⟩) hS.2.2 dX12_workCompare_327
      · have t_53 : ¬ (r50).toInt = 0 := toI_neq c_53 rfl (by decide)
        refine lv_aload_n hx hb dX12_workCompare_56 rfl (lv_at hl 0 rfl) ?_
        refine lv_bipush (v := 7) hx hb dX12_workCompare_57 (by decide) ?_
        refine lv_aload_n hx hb dX12_workCompare_59 rfl (lv_at hl 0 rfl) ?_
        refine va_get (D := (dC, dI)) (ci := 12) (v := .ref (a 34)) (C := RX12) (T := TX12) (N := 163) (fs := fM (vS a vi vj)) hx hb hts iwsRX12_workCompare_in12 hown hK hP 0 rfl rfl 58 (by decide) (hts (.fieldLink RX12 125 "OptimaWorksModel" "firstA" "[I") (by decide +kernel)) (fun _ h9 => h9) rfl dX12_workCompare_60 ?_
        refine lv_iload_n hx hb dX12_workCompare_63 rfl (lv_at hl 2 rfl) ?_
        refine va_iald (cA := k 34) (n := 4200) (f := (vF 34)) hx hb hK hP 35 34 (WR_get 34 (by decide)) (TR_get 34 (by decide)) (vp_in_nI (show nN < 4200 by omega) (by omega)) dX12_workCompare_64 ?_
        refine lv_topi (fun y43 hy43 => ?_)
        obtain rfl : ((vF 34) nN) = y43 := (hy43.trans (by rw [nI_clamp (by omega)])).symm
        have hFc := allFree hD hS hA
        refine va_callv (va_runV (As := [.int 7, .int ((vF 34) nN)]) (rest := []) ⟨hx, hb, hml, hown, hts⟩ (r_X12_faultAt l dC dI a k h0 vi vj (fT vF 53 (upd (vF 53) ((nI fN)).toNatClampNeg (nI (sN + 1)))) vG 7 ((vF 34) nN) (by first | with_reducible assumption | decide | omega | rfl | assumption) H.size) (cwV 2 hts gwsRX12_workCompare_1 rfl rfl rfl hd_yX12_faultAt_RX12 (by decide +kernel)) (fz_pre (va_recv hK hP (ci := 12) (q0 := 0) rfl rfl) hP hK hD) rfl rfl hl.1 rfl (lv_room (Nat.le_of_ble_eq_true rfl)) dX12_workCompare_65 (by decide +kernel)) hS (fun q _ h => hFc q h) hFc (fun u t9_ H locs ht hvm hw9 hB9 hz1 hk1 hS => ?_)
        revert u hw9 hB9
        refine fz_p2 ?_
        intro s265 p265 hw9 hB9
        try dsimp only at hw9 hB9
        have hP : va_P (dC, dI) vwCl (WR a k h0 (fT (fT vi 21 s265) 22 p265) vj (fT vF 53 (upd (vF 53) ((nI fN)).toNatClampNeg (nI (sN + 1)))) vG) H := fz_P ht hB9.1
        have hD := fz_sd hP (hB9.2.weaken (fun _ q _ h => hFc q.1 h)) rfl
        revert hw9
        refine fz_a2 ?_
        intro f65_0 f65_1
        have f65_0 : (0 < (vi 21).toInt ∧ s265 = (vi 21) ∧ p265 = (vi 22)) ∨ (¬ 0 < (vi 21).toInt ∧ s265 = 7 ∧ p265 = ((vF 34) nN)) := f65_0
        refine lv_goto (tgt := 327) hx hb dX12_workCompare_68 (by decide) ?_
        refine W.widen (k := 0) (n := 0) (by decide +kernel) (by decide +kernel) ?_
        have e9 : fT (fT (fT (fT (fT vi 21 s265) 22 p265) 84 (vi 84)) 81 (nI pN)) 89 (nI fr) = fT (fT vi 21 s265) 22 p265 := Eq.trans (mv_2 rfl) (Eq.trans (id_4 rfl) (Eq.trans (mv_1 rfl) (Eq.trans (congrArg (fT _ 81) (show nI pN = vi 81 from (by first | with_reducible rfl | with_reducible assumption | (symm; with_reducible assumption) | rfl | assumption | (symm; assumption) | (subst_vars; rfl)))) (Eq.trans (id_3 rfl) (Eq.trans (congrArg (fT _ 89) (show nI fr = vi 89 from (by first | with_reducible rfl | with_reducible assumption | (symm; with_reducible assumption) | rfl | assumption | (symm; assumption) | (subst_vars; rfl)))) (id_2 rfl))))))
        have hP := wr_Pi e9 hP
        have hD := wr_Di e9 hD
        clear e9
        have e9 : fT (fT vF 53 (upd (vF 53) ((nI fN)).toNatClampNeg (nI (sN + 1)))) 52 (vF 52) = fT vF 53 (upd (vF 53) ((nI fN)).toNatClampNeg (nI (sN + 1))) := fT_id _ _ (fT_ne _ _ (Nat.ne_of_beq_eq_false rfl))
        have hP := wr_PF e9 hP
        have hD := wr_DF e9 hD
        clear e9
        exact W.vret hx hb hr (fun t9_ ht hW => ⟨⟨((vF 52), (upd (vF 53) ((nI fN)).toNatClampNeg (nI (sN + 1))), fr, pN, s265, p265, (vi 84)), rfl, by (try dsimp only); exact ⟨by (have h9 := f65_1); omega, Or.inr f65_1, Or.inl f65_1, Nat.le_refl _, by omega⟩, by rw [ht]; exact hP, hD⟩, hS.F ht⟩) hS.2.2 dX12_workCompare_327
  · have t_17 : (((sN + 1) : Nat) : Int) = 1 := toI_nne c_17 (nI_toInt (by omega)) (by decide)
    refine lv_aload_n hx hb dX12_workCompare_20 rfl (lv_at hl 0 rfl) ?_
    refine lv_aload_n hx hb dX12_workCompare_21 rfl (lv_at hl 0 rfl) ?_
    refine va_get (D := (dC, dI)) (ci := 12) (v := .ref (a 30)) (C := RX12) (T := TX12) (N := 163) (fs := fM (vS a vi vj)) hx hb hts iwsRX12_workCompare_in12 hown hK hP 0 rfl rfl 54 (by decide) (hts (.fieldLink RX12 113 "OptimaWorksModel" "partA" "[I") (by decide +kernel)) (fun _ h9 => h9) rfl dX12_workCompare_22 ?_
    refine lv_iload_n hx hb dX12_workCompare_25 rfl (lv_at hl 2 rfl) ?_
    refine va_iald (cA := k 30) (n := 4200) (f := (vF 30)) hx hb hK hP 31 30 (WR_get 30 (by decide)) (TR_get 30 (by decide)) (vp_in_nI (show nN < 4200 by omega) (by omega)) dX12_workCompare_26 ?_
    refine lv_topi (fun y44 hy44 => ?_)
    obtain rfl : ((vF 30) nN) = y44 := (hy44.trans (by rw [nI_clamp (by omega)])).symm
    refine lv_topi (fun y45 hy45 => ?_)
    obtain rfl : (nI cN) = y45 := (hy45.trans (hcN)).symm
    have hFc := allFree hD hS hA
    refine va_callv (va_runV (As := [.int (nI cN)]) (rest := []) ⟨hx, hb, hml, hown, hts⟩ (r_X12_call l dC dI a k h0 vi vj (fT vF 53 (upd (vF 53) ((nI fN)).toNatClampNeg (nI (sN + 1)))) vG (nI cN) fr hfr9 (by first | with_reducible assumption | decide | omega | rfl | assumption) H.size) (cwV 1 hts gwsRX12_workCompare_2 rfl rfl rfl hd_yX12_call_RX12 (by decide +kernel)) (fz_pre (va_recv hK hP (ci := 12) (q0 := 0) rfl rfl) hP hK hD) rfl rfl hl.1 rfl (lv_room (Nat.le_of_ble_eq_true rfl)) dX12_workCompare_27 (by decide +kernel)) hS (fun q _ h => hFc q h) hFc (fun u t9_ H locs ht hvm hw9 hB9 hz1 hk1 hS => ?_)
    have e9F : fT (fT vF 53 (upd (upd (vF 53) ((nI fN)).toNatClampNeg (nI (sN + 1))) (nI fr).toNatClampNeg 0)) 52 (upd (vF 52) (nI fr).toNatClampNeg (nI cN)) = fT (fT (fT vF 53 (upd (vF 53) ((nI fN)).toNatClampNeg (nI (sN + 1)))) 52 (upd (vF 52) (nI fr).toNatClampNeg (nI cN))) 53 (upd (upd (vF 53) ((nI fN)).toNatClampNeg (nI (sN + 1))) (nI fr).toNatClampNeg 0) := ((fT_sw _ _ _ (Nat.ne_of_beq_eq_false rfl)).trans (congrArg (fun g9 => fT g9 52 (upd (vF 52) (nI fr).toNatClampNeg (nI cN))) (fT_sm _ _ _ _))).symm
    have hP := wr_PF e9F (fz_P ht hB9.1)
    have hD := wr_DF e9F (hB9.2.weaken (fun _ q _ h => hFc q.1 h))
    clear e9F
    refine lv_goto (tgt := 327) hx hb dX12_workCompare_30 (by decide) ?_
    refine W.widen (k := 0) (n := 0) (by decide +kernel) (by decide +kernel) ?_
    have e9 : fT (fT (fT (fT (fT vi 21 (vi 21)) 22 (vi 22)) 84 (vi 84)) 81 (nI pN)) 89 (nI (fr + 1)) = fT vi 89 (nI (fr + 1)) := Eq.trans (mv_4 rfl) (Eq.trans (id_4 rfl) (Eq.trans (mv_3 rfl) (Eq.trans (id_3 rfl) (Eq.trans (mv_2 rfl) (Eq.trans (id_2 rfl) (Eq.trans (mv_1 rfl) (Eq.trans (congrArg (fT _ 81) (show nI pN = vi 81 from (by first | with_reducible rfl | with_reducible assumption | (symm; with_reducible assumption) | rfl | assumption | (symm; assumption) | (subst_vars; rfl)))) (id_1 rfl))))))))
    have hP := wr_Pi e9 hP
    have hD := wr_Di e9 hD
    clear e9
    exact W.vret hx hb hr (fun t9_ ht hW => ⟨⟨((upd (vF 52) (nI fr).toNatClampNeg (nI cN)), (upd (upd (vF 53) ((nI fN)).toNatClampNeg (nI (sN + 1))) (nI fr).toNatClampNeg 0), (fr + 1), pN, (vi 21), (vi 22), (vi 84)), rfl, by (try dsimp only); exact ⟨hst0, Or.inl rfl, Or.inr (by (obtain rfl : sN = 0 := by omega); (obtain rfl : pN = hN := by omega); exact StpO.push 1 la (wt dN + 2) hfN hfr1 (fun _ _ => rfl) (fun h9 => absurd h9 (by omega)) hcT.2.1 hcT.2.2.1 (by omega) (WtO.p1 hkk hcT.2.2.2.2 hdT (Nat.le_refl _)) (by omega)), Nat.le_refl _, by omega⟩, by rw [ht]; exact hP, hD⟩, hS.F ht⟩) hS.2.2 dX12_workCompare_327
end
section
theorem WtO.n1 {F : Nat → Nat → Int32} {V : Nat → Prop} {wt dp pd : Nat → Nat} {n k la h r d : Nat} {lin : Prop} (hk : k = 2 ∨ k = 3) (hl : lin) (hr : 1 ≤ r) (hd : KidL F V dp pd n 31 0 d) (hc : ∀ c, KidL F V dp pd n 32 0 c → wt c + 2 ≤ r) : WtO F V wt dp pd n k 1 la h h r lin :=
  Or.inr (Or.inr (Or.inr (Or.inl ⟨hk, rfl, rfl, hl, hr, ⟨d, hd⟩, hc⟩)))
theorem WtO.n2 {F : Nat → Nat → Int32} {V : Nat → Prop} {wt dp pd : Nat → Nat} {n k la h r c : Nat} {lin : Prop} (hk : k = 2 ∨ k = 3) (hl : lin) (hr : 1 ≤ r) (hla : LaB F n k la) (hc : KidL F V dp pd n 32 0 c) : WtO F V wt dp pd n k 2 la h h r lin :=
  Or.inr (Or.inr (Or.inr (Or.inr (Or.inl ⟨hk, rfl, rfl, hl, hr, hla, c, hc⟩))))
/-- a name: what is known of it by its stages -/
theorem TopO.name {F : Nat → Nat → Int32} {V : Nat → Prop} {wt dp pd : Nat → Nat} {n k s la h p r pl : Nat} (t : TopO F V wt dp pd n k s la h p r) (hk : k = 2 ∨ k = 3) (h31 : ∀ c, KidL F V dp pd n 31 0 c → 1 ≤ pl) (h32 : ∀ c, KidL F V dp pd n 32 0 c → pl = 2) : (s = 0 ∧ p = h ∧ wt n ≤ r) ∨ (s = 1 ∧ p = h + 1 ∧ 1 ≤ pl) ∨ (s = 2 ∧ p = h + 1 ∧ pl = 2 ∧ la < 12) := by
  rcases t with ⟨h1, h2, h3⟩ | ⟨h1, _⟩ | ⟨hn, h1, h2⟩ | h1
  · exact Or.inl ⟨h1, h2, h3⟩
  · omega
  · rcases h1 with h1 | h1 | h1 | h1 | h1 | h1 | h1 | h1 | h1 | h1 | h1 | h1
    · omega
    · omega
    · omega
    · obtain ⟨_, a1, a2, _, _, ⟨d, hd⟩, _⟩ := h1
      exact Or.inr (Or.inl ⟨a1, by omega, h31 d hd⟩)
    · obtain ⟨_, a1, a2, _, _, a3, d, hd⟩ := h1
      exact Or.inr (Or.inr ⟨a1, by omega, h32 d hd, a3.1⟩)
    · omega
    · omega
    · omega
    · omega
    · omega
    · omega
    · omega
  · exfalso
    rcases h1 with h1 | h1 | h1 | h1 | h1 | h1 | h1 | h1 | h1 | h1 | h1 | h1
    · omega
    · omega
    · omega
    · exact h1.2.2.2.1
    · exact h1.2.2.2.1
    · omega
    · omega
    · omega
    · omega
    · omega
    · omega
    · omega
theorem TopO.nameB {F : Nat → Nat → Int32} {V : Nat → Prop} {wt dp pd : Nat → Nat} {n k s la h p r : Nat} (t : TopO F V wt dp pd n k s la h p r) (hk : k = 2 ∨ k = 3) (hs : s = 2) : LaB F n k la := by
  rcases t with ⟨h1, h2, h3⟩ | ⟨h1, _⟩ | ⟨hn, h1, h2⟩ | h1
  · omega
  · omega
  · rcases h1 with h1 | h1 | h1 | h1 | h1 | h1 | h1 | h1 | h1 | h1 | h1 | h1
    · omega
    · omega
    · omega
    · omega
    · exact h1.2.2.2.2.2.1
    · omega
    · omega
    · omega
    · omega
    · omega
    · omega
    · omega
  · exfalso
    rcases h1 with h1 | h1 | h1 | h1 | h1 | h1 | h1 | h1 | h1 | h1 | h1 | h1
    · omega
    · omega
    · omega
    · exact h1.2.2.2.1
    · exact h1.2.2.2.1
    · omega
    · omega
    · omega
    · omega
    · omega
    · omega
    · omega
theorem TopO.name1 {F : Nat → Nat → Int32} {V : Nat → Prop} {wt dp pd : Nat → Nat} {n k la h p r c : Nat} (t : TopO F V wt dp pd n k 1 la h p r) (hk : k = 2 ∨ k = 3) (hc : KidL F V dp pd n 32 0 c) : wt c + 2 ≤ r := by
  rcases t with ⟨h1, h2, h3⟩ | ⟨h1, _⟩ | ⟨hn, h1, h2⟩ | h1
  · omega
  · omega
  · rcases h1 with h1 | h1 | h1 | h1 | h1 | h1 | h1 | h1 | h1 | h1 | h1 | h1
    · omega
    · omega
    · omega
    · exact h1.2.2.2.2.2.2 c hc
    · omega
    · omega
    · omega
    · omega
    · omega
    · omega
    · omega
    · omega
  · rcases h1 with h1 | h1 | h1 | h1 | h1 | h1 | h1 | h1 | h1 | h1 | h1 | h1
    · omega
    · omega
    · omega
    · exact h1.2.2.2.2.2.2 c hc
    · omega
    · omega
    · omega
    · omega
    · omega
    · omega
    · omega
    · omega
/-- the table of numbers -/
def PtO (f22 f23 : Nat → Int32) (n : Nat) : Prop := ∀ q, q < n → -2000000 ≤ (f22 q).toInt ∧ (f22 q).toInt ≤ 2000000 ∧ 1 ≤ (f23 q).toInt ∧ (f23 q).toInt ≤ 2000000
theorem RowU.top {f g : Nat → Int32} {u i : Nat} {x : Int32} (hi : i < 2 ^ 31) (h : RowU f g u) (hx : -2000000 ≤ (x).toInt ∧ (x).toInt ≤ 2000000) : RowU (upd f (nI i).toNatClampNeg x) g u := fun q hq => by
  have h9 := h q hq
  rw [upd_at hi]
  split
  · exact ⟨hx.1, hx.2, h9.2.2⟩
  · exact h9
theorem RowU.under {f g : Nat → Int32} {u i : Nat} {x : Int32} (hi : i < 2 ^ 31) (h : RowU f g u) (hx : 1 ≤ (x).toInt ∧ (x).toInt ≤ 2000000) : RowU f (upd g (nI i).toNatClampNeg x) u := fun q hq => by
  have h9 := h q hq
  rw [upd_at hi]
  split
  · exact ⟨h9.1, h9.2.1, hx.1, hx.2⟩
  · exact h9
theorem RowU.nought {f g f2 g2 : Nat → Int32} {v u : Nat} (h0 : ∀ q, q < 9 → f2 (9 * v + q) = 0) (h1 : ∀ q, q < 9 → g2 (9 * v + q) = 1) (hf : ∀ q, q < 9 * v → f2 q = f q) (hg : ∀ q, q < 9 * v → g2 q = g q) (h : ∀ w, w < v → RowU f g w) (hu : u ≤ v) : RowU f2 g2 u := fun q hq => by
  by_cases e : u = v
  · subst e
    rw [h0 q hq, h1 q hq]
    decide
  · have h9 := h u (by omega) q hq
    rw [hf _ (by omega), hg _ (by omega)]
    exact h9
/-- facts that the number work need not split: the places of a name, where its values lie, the weight of its parts -/
def PlK (se pl o1 o2 : Nat) : Prop := (1 ≤ pl → o1 < se) ∧ (pl = 2 → o2 < se)
def WnK (F : Nat → Nat → Int32) (V : Nat → Prop) (wt dp pd : Nat → Nat) (n pl d : Nat) : Prop := pl = 0 ∨ (wt d + 4 ≤ wt n ∧ ∀ c, KidL F V dp pd n 32 0 c → wt c + wt d + 4 ≤ wt n)
def Kd23 (k : Nat) : Prop := k = 2 ∨ k = 3
/-- how many numbers are kept -/
def nuF (F : Nat → Nat → Int32) : Nat := (F 3 0).toInt.toNat
def MmK (F : Nat → Nat → Int32) (k pl o1 o2 aT : Nat) : Prop := k = 2 → aT + memN (F 17) pl o1 o2 ≤ nuF F
def LmK (F : Nat → Nat → Int32) (k pl o1 o2 l : Nat) : Prop := k = 2 → l < memN (F 17) pl o1 o2
theorem LmK.l0 {F : Nat → Nat → Int32} {k pl o1 o2 : Nat} (h : pl = 0) : LmK F k pl o1 o2 0 := fun _ => by
  have e : 1 = memN (F 17) pl o1 o2 := MemP.m0 h
  omega
theorem LmK.l1 {F : Nat → Nat → Int32} {f17 : Nat → Int32} {k pl o1 o2 m l : Nat} (e17 : F 17 = f17) (h : pl = 1) (e : f17 o1 = nI m) (hm : m ≤ 12) (hl : l < m) : LmK F k pl o1 o2 l := fun _ => by
  have e9 : m = memN (F 17) pl o1 o2 := MemP.m1 h (by rw [e17]; exact e) hm
  omega
theorem LmK.l2 {F : Nat → Nat → Int32} {f17 : Nat → Int32} {k pl o1 o2 m n la l : Nat} (e17 : F 17 = f17) (h : pl = 2) (e : f17 o1 = nI m) (hm : m ≤ 12) (e2 : f17 o2 = nI n) (hn : n ≤ 12) (hla : k = 2 → la < m) (hl : l < n) : LmK F k pl o1 o2 (la * n + l) := fun hk => by
  have e9 : m * n = memN (F 17) pl o1 o2 := MemP.m2 h (by rw [e17]; exact e) hm (by rw [e17]; exact e2) hn
  have h9 : (la + 1) * n ≤ m * n := Nat.mul_le_mul_right n (hla hk)
  rw [Nat.succ_mul] at h9
  omega
theorem PtO.mono {f g : Nat → Int32} {n k : Nat} (h : PtO f g n) (hk : k ≤ n) : PtO f g k := fun q hq => h q (Nat.lt_of_lt_of_le hq hk)
theorem PtO.z {f g : Nat → Int32} : PtO f g 0 := fun q hq => absurd hq (Nat.not_lt_zero q)
theorem PtO.nu {f g : Nat → Int32} {F : Nat → Nat → Int32} {n k : Nat} (h : PtO f g n) (e : F 3 0 = nI k) (hk : k ≤ n) (h6 : k ≤ 6400) : PtO f g (nuF F) := h.mono (by unfold nuF; rw [e, nI_tn (by omega)]; exact hk)
theorem PtO.name {f g : Nat → Int32} {F : Nat → Nat → Int32} {k pl o1 o2 aT l : Nat} (h : PtO f g (nuF F)) (hm : MmK F k pl o1 o2 aT) (hl : LmK F k pl o1 o2 l) (hk : k = 2) : -2000000 ≤ (f (aT + l)).toInt ∧ (f (aT + l)).toInt ≤ 2000000 ∧ 1 ≤ (g (aT + l)).toInt ∧ (g (aT + l)).toInt ≤ 2000000 := h _ (Nat.lt_of_lt_of_le (Nat.add_lt_add_left (hl hk) aT) (hm hk))
end
section
theorem hd_yX12_placesOf_RX12 : yX12_placesOf.cls = RX12 ∧ yX12_placesOf.cls ≠ "java/lang/invoke/MethodHandle" ∧ yX12_placesOf.cls ≠ "java/lang/invoke/VarHandle" ∧ (parseMethodDescriptor yX12_placesOf.desc).map (fun d => d.parameters.length) = some 1 := by decide +kernel
theorem hd_yX12_member_RX12 : yX12_member.cls = RX12 ∧ yX12_member.cls ≠ "java/lang/invoke/MethodHandle" ∧ yX12_member.cls ≠ "java/lang/invoke/VarHandle" ∧ (parseMethodDescriptor yX12_member.desc).map (fun d => d.parameters.length) = some 2 := by decide +kernel
theorem hd_yX12_nought_RX12 : yX12_nought.cls = RX12 ∧ yX12_nought.cls ≠ "java/lang/invoke/MethodHandle" ∧ yX12_nought.cls ≠ "java/lang/invoke/VarHandle" ∧ (parseMethodDescriptor yX12_nought.desc).map (fun d => d.parameters.length) = some 1 := by decide +kernel
theorem dX12_placesOf_0 : decode cX12_placesOf 0 = .ok (.aload_n 0, 1) := dk_42 (by decide +kernel)
theorem dX12_placesOf_1 : decode cX12_placesOf 1 = .ok (.getfield 110, 3) := dk_180 (by decide +kernel)
theorem dX12_placesOf_4 : decode cX12_placesOf 4 = .ok (.iload_n 1, 1) := dk_27 (by decide +kernel)
theorem dX12_placesOf_5 : decode cX12_placesOf 5 = .ok (.iaload, 1) := dk_46 (by decide +kernel)
theorem dX12_placesOf_6 : decode cX12_placesOf 6 = .ok (.iconst 2, 1) := dk_5 (by decide +kernel)
theorem dX12_placesOf_7 : decode cX12_placesOf 7 = .ok (.if_icmp .ne 17, 3) := dk_160 (by decide +kernel)
theorem dX12_placesOf_10 : decode cX12_placesOf 10 = .ok (.aload_n 0, 1) := dk_42 (by decide +kernel)
theorem dX12_placesOf_11 : decode cX12_placesOf 11 = .ok (.getfield 77, 3) := dk_180 (by decide +kernel)
theorem dX12_placesOf_14 : decode cX12_placesOf 14 = .ok (.aload_n 0, 1) := dk_42 (by decide +kernel)
theorem dX12_placesOf_15 : decode cX12_placesOf 15 = .ok (.getfield 113, 3) := dk_180 (by decide +kernel)
theorem dX12_placesOf_18 : decode cX12_placesOf 18 = .ok (.iload_n 1, 1) := dk_27 (by decide +kernel)
theorem dX12_placesOf_19 : decode cX12_placesOf 19 = .ok (.iaload, 1) := dk_46 (by decide +kernel)
theorem dX12_placesOf_20 : decode cX12_placesOf 20 = .ok (.iaload, 1) := dk_46 (by decide +kernel)
theorem dX12_placesOf_21 : decode cX12_placesOf 21 = .ok (.goto 14, 3) := dk_167 (by decide +kernel)
theorem dX12_placesOf_24 : decode cX12_placesOf 24 = .ok (.aload_n 0, 1) := dk_42 (by decide +kernel)
theorem dX12_placesOf_25 : decode cX12_placesOf 25 = .ok (.getfield 95, 3) := dk_180 (by decide +kernel)
theorem dX12_placesOf_28 : decode cX12_placesOf 28 = .ok (.aload_n 0, 1) := dk_42 (by decide +kernel)
theorem dX12_placesOf_29 : decode cX12_placesOf 29 = .ok (.getfield 113, 3) := dk_180 (by decide +kernel)
theorem dX12_placesOf_32 : decode cX12_placesOf 32 = .ok (.iload_n 1, 1) := dk_27 (by decide +kernel)
theorem dX12_placesOf_33 : decode cX12_placesOf 33 = .ok (.iaload, 1) := dk_46 (by decide +kernel)
theorem dX12_placesOf_34 : decode cX12_placesOf 34 = .ok (.iaload, 1) := dk_46 (by decide +kernel)
theorem dX12_placesOf_35 : decode cX12_placesOf 35 = .ok (.ireturn, 1) := dk_172 (by decide +kernel)
def wsRX12_placesOf : List Cond := .code yX12_placesOf cX12_placesOf 2 (some .int) :: ([.fieldLink RX12 110 "OptimaWorksModel" "kind" "[I", .fieldLink RX12 95 "OptimaWorksModel" "varPlaces" "[I", .fieldLink RX12 113 "OptimaWorksModel" "partA" "[I", .fieldLink RX12 77 "OptimaWorksModel" "paramPlaces" "[I"] ++ wsX120)
theorem iwsRX12_placesOf_in12 : ∀ w ∈ wsX120, w ∈ wsRX12_placesOf := fun _ h => List.mem_cons_of_mem _ (List.mem_append_right _ h)
theorem gdwsRX12_placesOf : wsRX12_placesOf.all goodWord = true := gdC rfl (gdA (by decide +kernel : ([.fieldLink RX12 110 "OptimaWorksModel" "kind" "[I", .fieldLink RX12 95 "OptimaWorksModel" "varPlaces" "[I", .fieldLink RX12 113 "OptimaWorksModel" "partA" "[I", .fieldLink RX12 77 "OptimaWorksModel" "paramPlaces" "[I"] : List Cond).all goodWord = true) gdwsX120)
theorem hm_r_X12_placesOf_0 : (.fieldLink RX12 113 "OptimaWorksModel" "partA" "[I" : Cond) ∈ wsRX12_placesOf := by decide +kernel
set_option maxHeartbeats 4000000 in
set_option maxRecDepth 100000 in
/-- placesOf(n) -/
theorem r_X12_placesOf (l : Launch) (dC : Nat → ClassId) (dI : Nat → Nat → Nat) (a : Nat → Nat) (k : Nat → ClassId) (h0 : Nat) (vi : Nat → Int32) (vj : Nat → Int64) (vF : Nat → Nat → Int32) (vG : Nat → Nat → Int64) (nN : Nat) (kN : Nat) (aN : Nat) (plN : Nat) (hnN : nN < 4000) (hkN : vF 29 nN = nI kN) (haN : vF 30 nN = nI aN) (haN4 : aN < 44) (hkk : Kd23 kN) (hk23 : 2 ≤ kN ∧ kN ≤ 3) (hP2 : kN = 2 → vF 18 aN = nI plN) (hP3 : kN = 3 → vF 24 aN = nI plN) (sz : Nat) : Met l yX12_placesOf wsRX12_placesOf ({ frames := 0, cells := 0, slots := 0, locals := 0 }) (va_Pc [.ref h0, .int (nI nN)] (fun U => U.heap.size = sz ∧ va_P (dC, dI) vwCl (WR a k h0 vi vj vF vG) U.heap ∧ va_K (dC, dI) vwCl (tX12 k) U ∧ va_D (fun _ => True) (WR a k h0 vi vj vF vG))) (va_Qi (fun (r : Int32) (u : Unit) => r = (nI plN)) (fun (u : Unit) t => va_P (dC, dI) vwCl (WR a k h0 vi vj vF vG) t.heap ∧ va_D (va_A (WR a k h0 vi vj vF vG) sz) (WR a k h0 vi vj vF vG)) (va_A (WR a k h0 vi vj vF vG) sz)) 0 0 (va_A (WR a k h0 vi vj vF vG) sz) := by
  refine Met.ofW (cc := cX12_placesOf) (maxL := 2) (ret := (some .int)) (by decide) rfl ?_
  intro p e s m args below meth c s₁ B hml hv
  obtain ⟨rfl, hsz, hP, hK, hD0⟩ := hv
  have hx := B.exec
  have hb := B.bytes
  have hr := B.returns
  have hts := atoms_spec (ws := wsRX12_placesOf) B.pre
  have hown : s.vm.findClass RX12 = some m.cls := findClass_of_methodNamed B.named
  have hlocks := B.notSynchronized
  subst hsz
  have hD := hD0.self (sz := s.heap.size)
  generalize hAe : va_A (WR a k h0 vi vj vF vG) s.heap.size = A at hD ⊢
  have hA : ∀ q : Nat, s.heap.size ≤ q → A q := fun q h => by rw [← hAe]; exact Or.inr h
  have hS : va_S A s.heap s.heap [] := va_S.rf
  have hl := lv_entry ([.ref h0, .int (nI nN)]) (n := 2) (Nat.le_of_ble_eq_true rfl)
  rw [lg_entry_eq]
  generalize (lg_sl ([.ref h0, .int (nI nN)]) ++ List.replicate (2 - (lg_sl ([.ref h0, .int (nI nN)])).length) Slot.unset).toArray = ls at hl ⊢
  have hl : lv_has ls 2 [(0, .ref h0), (1, .int (nI nN))] := hl
  refine lv_aload_n hx hb dX12_placesOf_0 rfl (lv_at hl 0 rfl) ?_
  refine va_get (D := (dC, dI)) (ci := 12) (v := .ref (a 29)) (C := RX12) (T := TX12) (N := 163) (fs := fM (vS a vi vj)) hx hb hts iwsRX12_placesOf_in12 hown hK hP 0 rfl rfl 53 (by decide) (hts (.fieldLink RX12 110 "OptimaWorksModel" "kind" "[I") (by decide +kernel)) (fun _ h9 => h9) rfl dX12_placesOf_1 ?_
  refine lv_iload_n hx hb dX12_placesOf_4 rfl (lv_at hl 1 rfl) ?_
  refine va_iald (cA := k 29) (n := 4200) (f := (vF 29)) hx hb hK hP 30 29 (WR_get 29 (by decide)) (TR_get 29 (by decide)) (vp_in_nI (show nN < 4200 by omega) (by omega)) dX12_placesOf_5 ?_
  refine lv_topi (fun y1 hy1 => ?_)
  obtain rfl : ((vF 29) nN) = y1 := (hy1.trans (by rw [nI_clamp (by omega)])).symm
  refine lv_topi (fun y2 hy2 => ?_)
  obtain rfl : (nI kN) = y2 := (hy2.trans (hkN)).symm
  refine lv_iconst (v := 2) hx hb dX12_placesOf_6 (by decide) ?_
  refine lv_icmp_ne (tgt := 24) hx hb dX12_placesOf_7 (by decide) (fun c_7 => ?_) (fun c_7 => ?_)
  · have t_7 : ((kN : Nat) : Int) ≠ 2 := toI_ne c_7 (nI_toInt (by omega)) (by decide)
    refine lv_aload_n hx hb dX12_placesOf_24 rfl (lv_at hl 0 rfl) ?_
    refine va_get (D := (dC, dI)) (ci := 12) (v := .ref (a 24)) (C := RX12) (T := TX12) (N := 163) (fs := fM (vS a vi vj)) hx hb hts iwsRX12_placesOf_in12 hown hK hP 0 rfl rfl 47 (by decide) (hts (.fieldLink RX12 95 "OptimaWorksModel" "varPlaces" "[I") (by decide +kernel)) (fun _ h9 => h9) rfl dX12_placesOf_25 ?_
    refine lv_aload_n hx hb dX12_placesOf_28 rfl (lv_at hl 0 rfl) ?_
    refine va_get (D := (dC, dI)) (ci := 12) (v := .ref (a 30)) (C := RX12) (T := TX12) (N := 163) (fs := fM (vS a vi vj)) hx hb hts iwsRX12_placesOf_in12 hown hK hP 0 rfl rfl 54 (by decide) (hts _ hm_r_X12_placesOf_0) (fun _ h9 => h9) rfl dX12_placesOf_29 ?_
    refine lv_iload_n hx hb dX12_placesOf_32 rfl (lv_at hl 1 rfl) ?_
    refine va_iald (cA := k 30) (n := 4200) (f := (vF 30)) hx hb hK hP 31 30 (WR_get 30 (by decide)) (TR_get 30 (by decide)) (vp_in_nI (show nN < 4200 by omega) (by omega)) dX12_placesOf_33 ?_
    refine lv_topi (fun y3 hy3 => ?_)
    obtain rfl : ((vF 30) nN) = y3 := (hy3.trans (by rw [nI_clamp (by omega)])).symm
    refine lv_topi (fun y4 hy4 => ?_)
    obtain rfl : (nI aN) = y4 := (hy4.trans (haN)).symm
    refine va_iald (cA := k 24) (n := 44) (f := (vF 24)) hx hb hK hP 25 24 (WR_get 24 (by decide)) (TR_get 24 (by decide)) (vp_in_nI (show aN < 44 by omega) (by omega)) dX12_placesOf_34 ?_
    refine lv_topi (fun y5 hy5 => ?_)
    obtain rfl : ((vF 24) aN) = y5 := (hy5.trans (by rw [nI_clamp (by omega)])).symm
    refine lv_topi (fun y6 hy6 => ?_)
    obtain rfl : (nI plN) = y6 := (hy6.trans (hP3 (by omega))).symm
    refine W.widen (k := 0) (n := 0) (by decide +kernel) (by decide +kernel) ?_
    exact W.iret (v := (nI plN)) hx hb hr (fun t9_ ht hW => ⟨⟨(nI plN), (), rfl, by (first | rfl | assumption | trivial | omega | (simp [c_7]; done) | (simp; omega)), by rw [ht]; exact hP, hD⟩, hS.F ht⟩) hS.2.2 dX12_placesOf_35
  · have t_7 : ((kN : Nat) : Int) = 2 := toI_nne c_7 (nI_toInt (by omega)) (by decide)
    refine lv_aload_n hx hb dX12_placesOf_10 rfl (lv_at hl 0 rfl) ?_
    refine va_get (D := (dC, dI)) (ci := 12) (v := .ref (a 18)) (C := RX12) (T := TX12) (N := 163) (fs := fM (vS a vi vj)) hx hb hts iwsRX12_placesOf_in12 hown hK hP 0 rfl rfl 41 (by decide) (hts (.fieldLink RX12 77 "OptimaWorksModel" "paramPlaces" "[I") (by decide +kernel)) (fun _ h9 => h9) rfl dX12_placesOf_11 ?_
    refine lv_aload_n hx hb dX12_placesOf_14 rfl (lv_at hl 0 rfl) ?_
    refine va_get (D := (dC, dI)) (ci := 12) (v := .ref (a 30)) (C := RX12) (T := TX12) (N := 163) (fs := fM (vS a vi vj)) hx hb hts iwsRX12_placesOf_in12 hown hK hP 0 rfl rfl 54 (by decide) (hts _ hm_r_X12_placesOf_0) (fun _ h9 => h9) rfl dX12_placesOf_15 ?_
    refine lv_iload_n hx hb dX12_placesOf_18 rfl (lv_at hl 1 rfl) ?_
    refine va_iald (cA := k 30) (n := 4200) (f := (vF 30)) hx hb hK hP 31 30 (WR_get 30 (by decide)) (TR_get 30 (by decide)) (vp_in_nI (show nN < 4200 by omega) (by omega)) dX12_placesOf_19 ?_
    refine lv_topi (fun y7 hy7 => ?_)
    obtain rfl : ((vF 30) nN) = y7 := (hy7.trans (by rw [nI_clamp (by omega)])).symm
    refine lv_topi (fun y8 hy8 => ?_)
    obtain rfl : (nI aN) = y8 := (hy8.trans (haN)).symm
    refine va_iald (cA := k 18) (n := 44) (f := (vF 18)) hx hb hK hP 19 18 (WR_get 18 (by decide)) (TR_get 18 (by decide)) (vp_in_nI (show aN < 44 by omega) (by omega)) dX12_placesOf_20 ?_
    refine lv_topi (fun y9 hy9 => ?_)
    obtain rfl : ((vF 18) aN) = y9 := (hy9.trans (by rw [nI_clamp (by omega)])).symm
    refine lv_topi (fun y10 hy10 => ?_)
    obtain rfl : (nI plN) = y10 := (hy10.trans (hP2 (by omega))).symm
    refine lv_goto (tgt := 35) hx hb dX12_placesOf_21 (by decide) ?_
    refine W.widen (k := 0) (n := 0) (by decide +kernel) (by decide +kernel) ?_
    exact W.iret (v := (nI plN)) hx hb hr (fun t9_ ht hW => ⟨⟨(nI plN), (), rfl, by (first | rfl | assumption | trivial | omega | (simp [c_7]; done) | (simp; omega)), by rw [ht]; exact hP, hD⟩, hS.F ht⟩) hS.2.2 dX12_placesOf_35
theorem dX12_workName_0 : decode cX12_workName 0 = .ok (.aload_n 0, 1) := dk_42 (by decide +kernel)
theorem dX12_workName_1 : decode cX12_workName 1 = .ok (.getfield 110, 3) := dk_180 (by decide +kernel)
theorem dX12_workName_4 : decode cX12_workName 4 = .ok (.iload_n 2, 1) := dk_28 (by decide +kernel)
theorem dX12_workName_5 : decode cX12_workName 5 = .ok (.iaload, 1) := dk_46 (by decide +kernel)
theorem dX12_workName_6 : decode cX12_workName 6 = .ok (.iconst 2, 1) := dk_5 (by decide +kernel)
theorem dX12_workName_7 : decode cX12_workName 7 = .ok (.if_icmp .ne 7, 3) := dk_160 (by decide +kernel)
theorem dX12_workName_10 : decode cX12_workName 10 = .ok (.iconst 1, 1) := dk_4 (by decide +kernel)
theorem dX12_workName_11 : decode cX12_workName 11 = .ok (.goto 4, 3) := dk_167 (by decide +kernel)
theorem dX12_workName_14 : decode cX12_workName 14 = .ok (.iconst 0, 1) := dk_3 (by decide +kernel)
theorem dX12_workName_15 : decode cX12_workName 15 = .ok (.istore_n 3, 1) := dk_62 (by decide +kernel)
theorem dX12_workName_16 : decode cX12_workName 16 = .ok (.aload_n 0, 1) := dk_42 (by decide +kernel)
theorem dX12_workName_17 : decode cX12_workName 17 = .ok (.getfield 113, 3) := dk_180 (by decide +kernel)
theorem dX12_workName_20 : decode cX12_workName 20 = .ok (.iload_n 2, 1) := dk_28 (by decide +kernel)
theorem dX12_workName_21 : decode cX12_workName 21 = .ok (.iaload, 1) := dk_46 (by decide +kernel)
theorem dX12_workName_22 : decode cX12_workName 22 = .ok (.istore 4, 2) := dk_54 (by decide +kernel)
theorem dX12_workName_24 : decode cX12_workName 24 = .ok (.aload_n 0, 1) := dk_42 (by decide +kernel)
theorem dX12_workName_25 : decode cX12_workName 25 = .ok (.iload_n 2, 1) := dk_28 (by decide +kernel)
theorem dX12_workName_26 : decode cX12_workName 26 = .ok (.invokevirtual 614, 3) := dk_182 (by decide +kernel)
theorem dX12_workName_29 : decode cX12_workName 29 = .ok (.istore 5, 2) := dk_54 (by decide +kernel)
theorem dX12_workName_31 : decode cX12_workName 31 = .ok (.iload_n 3, 1) := dk_29 (by decide +kernel)
theorem dX12_workName_32 : decode cX12_workName 32 = .ok (.ifCond .eq 13, 3) := dk_153 (by decide +kernel)
theorem dX12_workName_35 : decode cX12_workName 35 = .ok (.aload_n 0, 1) := dk_42 (by decide +kernel)
theorem dX12_workName_36 : decode cX12_workName 36 = .ok (.getfield 80, 3) := dk_180 (by decide +kernel)
theorem dX12_workName_39 : decode cX12_workName 39 = .ok (.iload 4, 2) := dk_21 (by decide +kernel)
theorem dX12_workName_41 : decode cX12_workName 41 = .ok (.iaload, 1) := dk_46 (by decide +kernel)
theorem dX12_workName_42 : decode cX12_workName 42 = .ok (.goto 10, 3) := dk_167 (by decide +kernel)
theorem dX12_workName_45 : decode cX12_workName 45 = .ok (.aload_n 0, 1) := dk_42 (by decide +kernel)
theorem dX12_workName_46 : decode cX12_workName 46 = .ok (.getfield 98, 3) := dk_180 (by decide +kernel)
theorem dX12_workName_49 : decode cX12_workName 49 = .ok (.iload 4, 2) := dk_21 (by decide +kernel)
theorem dX12_workName_51 : decode cX12_workName 51 = .ok (.iaload, 1) := dk_46 (by decide +kernel)
theorem dX12_workName_52 : decode cX12_workName 52 = .ok (.istore 6, 2) := dk_54 (by decide +kernel)
theorem dX12_workName_54 : decode cX12_workName 54 = .ok (.iload_n 3, 1) := dk_29 (by decide +kernel)
theorem dX12_workName_55 : decode cX12_workName 55 = .ok (.ifCond .eq 13, 3) := dk_153 (by decide +kernel)
theorem dX12_workName_58 : decode cX12_workName 58 = .ok (.aload_n 0, 1) := dk_42 (by decide +kernel)
theorem dX12_workName_59 : decode cX12_workName 59 = .ok (.getfield 83, 3) := dk_180 (by decide +kernel)
theorem dX12_workName_62 : decode cX12_workName 62 = .ok (.iload 4, 2) := dk_21 (by decide +kernel)
theorem dX12_workName_64 : decode cX12_workName 64 = .ok (.iaload, 1) := dk_46 (by decide +kernel)
theorem dX12_workName_65 : decode cX12_workName 65 = .ok (.goto 10, 3) := dk_167 (by decide +kernel)
theorem dX12_workName_68 : decode cX12_workName 68 = .ok (.aload_n 0, 1) := dk_42 (by decide +kernel)
theorem dX12_workName_69 : decode cX12_workName 69 = .ok (.getfield 101, 3) := dk_180 (by decide +kernel)
theorem dX12_workName_72 : decode cX12_workName 72 = .ok (.iload 4, 2) := dk_21 (by decide +kernel)
theorem dX12_workName_74 : decode cX12_workName 74 = .ok (.iaload, 1) := dk_46 (by decide +kernel)
theorem dX12_workName_75 : decode cX12_workName 75 = .ok (.istore 7, 2) := dk_54 (by decide +kernel)
theorem dX12_workName_77 : decode cX12_workName 77 = .ok (.aload_n 0, 1) := dk_42 (by decide +kernel)
theorem dX12_workName_78 : decode cX12_workName 78 = .ok (.getfield 182, 3) := dk_180 (by decide +kernel)
theorem dX12_workName_81 : decode cX12_workName 81 = .ok (.iload_n 1, 1) := dk_27 (by decide +kernel)
theorem dX12_workName_82 : decode cX12_workName 82 = .ok (.dup2, 1) := dk_92 (by decide +kernel)
theorem dX12_workName_83 : decode cX12_workName 83 = .ok (.iaload, 1) := dk_46 (by decide +kernel)
theorem dX12_workName_84 : decode cX12_workName 84 = .ok (.iconst 1, 1) := dk_4 (by decide +kernel)
theorem dX12_workName_85 : decode cX12_workName 85 = .ok (.iadd, 1) := dk_96 (by decide +kernel)
theorem dX12_workName_86 : decode cX12_workName 86 = .ok (.iastore, 1) := dk_79 (by decide +kernel)
theorem dX12_workName_87 : decode cX12_workName 87 = .ok (.aload_n 0, 1) := dk_42 (by decide +kernel)
theorem dX12_workName_88 : decode cX12_workName 88 = .ok (.getfield 182, 3) := dk_180 (by decide +kernel)
theorem dX12_workName_91 : decode cX12_workName 91 = .ok (.iload_n 1, 1) := dk_27 (by decide +kernel)
theorem dX12_workName_92 : decode cX12_workName 92 = .ok (.iaload, 1) := dk_46 (by decide +kernel)
theorem dX12_workName_93 : decode cX12_workName 93 = .ok (.iconst 1, 1) := dk_4 (by decide +kernel)
theorem dX12_workName_94 : decode cX12_workName 94 = .ok (.if_icmp .ne 30, 3) := dk_160 (by decide +kernel)
theorem dX12_workName_97 : decode cX12_workName 97 = .ok (.aload_n 0, 1) := dk_42 (by decide +kernel)
theorem dX12_workName_98 : decode cX12_workName 98 = .ok (.invokevirtual 656, 3) := dk_182 (by decide +kernel)
theorem dX12_workName_101 : decode cX12_workName 101 = .ok (.aload_n 0, 1) := dk_42 (by decide +kernel)
theorem dX12_workName_102 : decode cX12_workName 102 = .ok (.getfield 185, 3) := dk_180 (by decide +kernel)
theorem dX12_workName_105 : decode cX12_workName 105 = .ok (.iload_n 1, 1) := dk_27 (by decide +kernel)
theorem dX12_workName_106 : decode cX12_workName 106 = .ok (.iconst 0, 1) := dk_3 (by decide +kernel)
theorem dX12_workName_107 : decode cX12_workName 107 = .ok (.iastore, 1) := dk_79 (by decide +kernel)
theorem dX12_workName_108 : decode cX12_workName 108 = .ok (.iload 5, 2) := dk_21 (by decide +kernel)
theorem dX12_workName_110 : decode cX12_workName 110 = .ok (.ifCond .le 14, 3) := dk_158 (by decide +kernel)
theorem dX12_workName_113 : decode cX12_workName 113 = .ok (.aload_n 0, 1) := dk_42 (by decide +kernel)
theorem dX12_workName_114 : decode cX12_workName 114 = .ok (.aload_n 0, 1) := dk_42 (by decide +kernel)
theorem dX12_workName_115 : decode cX12_workName 115 = .ok (.getfield 116, 3) := dk_180 (by decide +kernel)
theorem dX12_workName_118 : decode cX12_workName 118 = .ok (.iload_n 2, 1) := dk_28 (by decide +kernel)
theorem dX12_workName_119 : decode cX12_workName 119 = .ok (.iaload, 1) := dk_46 (by decide +kernel)
theorem dX12_workName_120 : decode cX12_workName 120 = .ok (.invokevirtual 650, 3) := dk_182 (by decide +kernel)
theorem dX12_workName_123 : decode cX12_workName 123 = .ok (.return_, 1) := dk_177 (by decide +kernel)
theorem dX12_workName_124 : decode cX12_workName 124 = .ok (.aload_n 0, 1) := dk_42 (by decide +kernel)
theorem dX12_workName_125 : decode cX12_workName 125 = .ok (.getfield 182, 3) := dk_180 (by decide +kernel)
theorem dX12_workName_128 : decode cX12_workName 128 = .ok (.iload_n 1, 1) := dk_27 (by decide +kernel)
theorem dX12_workName_129 : decode cX12_workName 129 = .ok (.iaload, 1) := dk_46 (by decide +kernel)
theorem dX12_workName_130 : decode cX12_workName 130 = .ok (.iconst 2, 1) := dk_5 (by decide +kernel)
theorem dX12_workName_131 : decode cX12_workName 131 = .ok (.if_icmp .ne 38, 3) := dk_160 (by decide +kernel)
theorem dX12_workName_134 : decode cX12_workName 134 = .ok (.aload_n 0, 1) := dk_42 (by decide +kernel)
theorem dX12_workName_135 : decode cX12_workName 135 = .ok (.getfield 185, 3) := dk_180 (by decide +kernel)
theorem dX12_workName_138 : decode cX12_workName 138 = .ok (.iload_n 1, 1) := dk_27 (by decide +kernel)
theorem dX12_workName_139 : decode cX12_workName 139 = .ok (.aload_n 0, 1) := dk_42 (by decide +kernel)
theorem dX12_workName_140 : decode cX12_workName 140 = .ok (.iload 6, 2) := dk_21 (by decide +kernel)
theorem dX12_workName_142 : decode cX12_workName 142 = .ok (.aload_n 0, 1) := dk_42 (by decide +kernel)
theorem dX12_workName_143 : decode cX12_workName 143 = .ok (.getfield 125, 3) := dk_180 (by decide +kernel)
theorem dX12_workName_146 : decode cX12_workName 146 = .ok (.iload_n 2, 1) := dk_28 (by decide +kernel)
theorem dX12_workName_147 : decode cX12_workName 147 = .ok (.iaload, 1) := dk_46 (by decide +kernel)
theorem dX12_workName_148 : decode cX12_workName 148 = .ok (.invokevirtual 690, 3) := dk_182 (by decide +kernel)
theorem dX12_workName_151 : decode cX12_workName 151 = .ok (.iastore, 1) := dk_79 (by decide +kernel)
theorem dX12_workName_152 : decode cX12_workName 152 = .ok (.iload 5, 2) := dk_21 (by decide +kernel)
theorem dX12_workName_154 : decode cX12_workName 154 = .ok (.iconst 1, 1) := dk_4 (by decide +kernel)
theorem dX12_workName_155 : decode cX12_workName 155 = .ok (.if_icmp .le 14, 3) := dk_164 (by decide +kernel)
theorem dX12_workName_158 : decode cX12_workName 158 = .ok (.aload_n 0, 1) := dk_42 (by decide +kernel)
theorem dX12_workName_159 : decode cX12_workName 159 = .ok (.aload_n 0, 1) := dk_42 (by decide +kernel)
theorem dX12_workName_160 : decode cX12_workName 160 = .ok (.getfield 119, 3) := dk_180 (by decide +kernel)
theorem dX12_workName_163 : decode cX12_workName 163 = .ok (.iload_n 2, 1) := dk_28 (by decide +kernel)
theorem dX12_workName_164 : decode cX12_workName 164 = .ok (.iaload, 1) := dk_46 (by decide +kernel)
theorem dX12_workName_165 : decode cX12_workName 165 = .ok (.invokevirtual 650, 3) := dk_182 (by decide +kernel)
theorem dX12_workName_168 : decode cX12_workName 168 = .ok (.return_, 1) := dk_177 (by decide +kernel)
theorem dX12_workName_169 : decode cX12_workName 169 = .ok (.aload_n 0, 1) := dk_42 (by decide +kernel)
theorem dX12_workName_170 : decode cX12_workName 170 = .ok (.getfield 182, 3) := dk_180 (by decide +kernel)
theorem dX12_workName_173 : decode cX12_workName 173 = .ok (.iload_n 1, 1) := dk_27 (by decide +kernel)
theorem dX12_workName_174 : decode cX12_workName 174 = .ok (.iaload, 1) := dk_46 (by decide +kernel)
theorem dX12_workName_175 : decode cX12_workName 175 = .ok (.iconst 3, 1) := dk_6 (by decide +kernel)
theorem dX12_workName_176 : decode cX12_workName 176 = .ok (.if_icmp .ne 36, 3) := dk_160 (by decide +kernel)
theorem dX12_workName_179 : decode cX12_workName 179 = .ok (.aload_n 0, 1) := dk_42 (by decide +kernel)
theorem dX12_workName_180 : decode cX12_workName 180 = .ok (.getfield 185, 3) := dk_180 (by decide +kernel)
theorem dX12_workName_183 : decode cX12_workName 183 = .ok (.iload_n 1, 1) := dk_27 (by decide +kernel)
theorem dX12_workName_184 : decode cX12_workName 184 = .ok (.aload_n 0, 1) := dk_42 (by decide +kernel)
theorem dX12_workName_185 : decode cX12_workName 185 = .ok (.getfield 185, 3) := dk_180 (by decide +kernel)
theorem dX12_workName_188 : decode cX12_workName 188 = .ok (.iload_n 1, 1) := dk_27 (by decide +kernel)
theorem dX12_workName_189 : decode cX12_workName 189 = .ok (.iaload, 1) := dk_46 (by decide +kernel)
theorem dX12_workName_190 : decode cX12_workName 190 = .ok (.aload_n 0, 1) := dk_42 (by decide +kernel)
theorem dX12_workName_191 : decode cX12_workName 191 = .ok (.getfield 74, 3) := dk_180 (by decide +kernel)
theorem dX12_workName_194 : decode cX12_workName 194 = .ok (.iload 7, 2) := dk_21 (by decide +kernel)
theorem dX12_workName_196 : decode cX12_workName 196 = .ok (.iaload, 1) := dk_46 (by decide +kernel)
theorem dX12_workName_197 : decode cX12_workName 197 = .ok (.imul, 1) := dk_104 (by decide +kernel)
theorem dX12_workName_198 : decode cX12_workName 198 = .ok (.aload_n 0, 1) := dk_42 (by decide +kernel)
theorem dX12_workName_199 : decode cX12_workName 199 = .ok (.iload 7, 2) := dk_21 (by decide +kernel)
theorem dX12_workName_201 : decode cX12_workName 201 = .ok (.aload_n 0, 1) := dk_42 (by decide +kernel)
theorem dX12_workName_202 : decode cX12_workName 202 = .ok (.getfield 128, 3) := dk_180 (by decide +kernel)
theorem dX12_workName_205 : decode cX12_workName 205 = .ok (.iload_n 2, 1) := dk_28 (by decide +kernel)
theorem dX12_workName_206 : decode cX12_workName 206 = .ok (.iaload, 1) := dk_46 (by decide +kernel)
theorem dX12_workName_207 : decode cX12_workName 207 = .ok (.invokevirtual 690, 3) := dk_182 (by decide +kernel)
theorem dX12_workName_210 : decode cX12_workName 210 = .ok (.iadd, 1) := dk_96 (by decide +kernel)
theorem dX12_workName_211 : decode cX12_workName 211 = .ok (.iastore, 1) := dk_79 (by decide +kernel)
theorem dX12_workName_212 : decode cX12_workName 212 = .ok (.aload_n 0, 1) := dk_42 (by decide +kernel)
theorem dX12_workName_213 : decode cX12_workName 213 = .ok (.getfield 515, 3) := dk_180 (by decide +kernel)
theorem dX12_workName_216 : decode cX12_workName 216 = .ok (.ifCond .le 4, 3) := dk_158 (by decide +kernel)
theorem dX12_workName_219 : decode cX12_workName 219 = .ok (.return_, 1) := dk_177 (by decide +kernel)
theorem dX12_workName_220 : decode cX12_workName 220 = .ok (.aload_n 0, 1) := dk_42 (by decide +kernel)
theorem dX12_workName_221 : decode cX12_workName 221 = .ok (.aload_n 0, 1) := dk_42 (by decide +kernel)
theorem dX12_workName_222 : decode cX12_workName 222 = .ok (.getfield 659, 3) := dk_180 (by decide +kernel)
theorem dX12_workName_225 : decode cX12_workName 225 = .ok (.invokevirtual 662, 3) := dk_182 (by decide +kernel)
theorem dX12_workName_228 : decode cX12_workName 228 = .ok (.iload_n 3, 1) := dk_29 (by decide +kernel)
theorem dX12_workName_229 : decode cX12_workName 229 = .ok (.ifCond .eq 68, 3) := dk_153 (by decide +kernel)
theorem dX12_workName_232 : decode cX12_workName 232 = .ok (.aload_n 0, 1) := dk_42 (by decide +kernel)
theorem dX12_workName_233 : decode cX12_workName 233 = .ok (.getfield 170, 3) := dk_180 (by decide +kernel)
theorem dX12_workName_236 : decode cX12_workName 236 = .ok (.bipush 9, 2) := dk_16 (by decide +kernel)
theorem dX12_workName_238 : decode cX12_workName 238 = .ok (.aload_n 0, 1) := dk_42 (by decide +kernel)
theorem dX12_workName_239 : decode cX12_workName 239 = .ok (.getfield 659, 3) := dk_180 (by decide +kernel)
theorem dX12_workName_242 : decode cX12_workName 242 = .ok (.imul, 1) := dk_104 (by decide +kernel)
theorem dX12_workName_243 : decode cX12_workName 243 = .ok (.aload_n 0, 1) := dk_42 (by decide +kernel)
theorem dX12_workName_244 : decode cX12_workName 244 = .ok (.getfield 89, 3) := dk_180 (by decide +kernel)
theorem dX12_workName_247 : decode cX12_workName 247 = .ok (.aload_n 0, 1) := dk_42 (by decide +kernel)
theorem dX12_workName_248 : decode cX12_workName 248 = .ok (.getfield 86, 3) := dk_180 (by decide +kernel)
theorem dX12_workName_251 : decode cX12_workName 251 = .ok (.iload 4, 2) := dk_21 (by decide +kernel)
theorem dX12_workName_253 : decode cX12_workName 253 = .ok (.iaload, 1) := dk_46 (by decide +kernel)
theorem dX12_workName_254 : decode cX12_workName 254 = .ok (.aload_n 0, 1) := dk_42 (by decide +kernel)
theorem dX12_workName_255 : decode cX12_workName 255 = .ok (.getfield 185, 3) := dk_180 (by decide +kernel)
theorem dX12_workName_258 : decode cX12_workName 258 = .ok (.iload_n 1, 1) := dk_27 (by decide +kernel)
theorem dX12_workName_259 : decode cX12_workName 259 = .ok (.iaload, 1) := dk_46 (by decide +kernel)
theorem dX12_workName_260 : decode cX12_workName 260 = .ok (.iadd, 1) := dk_96 (by decide +kernel)
theorem dX12_workName_261 : decode cX12_workName 261 = .ok (.iaload, 1) := dk_46 (by decide +kernel)
theorem dX12_workName_262 : decode cX12_workName 262 = .ok (.iastore, 1) := dk_79 (by decide +kernel)
theorem dX12_workName_263 : decode cX12_workName 263 = .ok (.aload_n 0, 1) := dk_42 (by decide +kernel)
theorem dX12_workName_264 : decode cX12_workName 264 = .ok (.getfield 173, 3) := dk_180 (by decide +kernel)
theorem dX12_workName_267 : decode cX12_workName 267 = .ok (.bipush 9, 2) := dk_16 (by decide +kernel)
theorem dX12_workName_269 : decode cX12_workName 269 = .ok (.aload_n 0, 1) := dk_42 (by decide +kernel)
theorem dX12_workName_270 : decode cX12_workName 270 = .ok (.getfield 659, 3) := dk_180 (by decide +kernel)
theorem dX12_workName_273 : decode cX12_workName 273 = .ok (.imul, 1) := dk_104 (by decide +kernel)
theorem dX12_workName_274 : decode cX12_workName 274 = .ok (.aload_n 0, 1) := dk_42 (by decide +kernel)
theorem dX12_workName_275 : decode cX12_workName 275 = .ok (.getfield 92, 3) := dk_180 (by decide +kernel)
theorem dX12_workName_278 : decode cX12_workName 278 = .ok (.aload_n 0, 1) := dk_42 (by decide +kernel)
theorem dX12_workName_279 : decode cX12_workName 279 = .ok (.getfield 86, 3) := dk_180 (by decide +kernel)
theorem dX12_workName_282 : decode cX12_workName 282 = .ok (.iload 4, 2) := dk_21 (by decide +kernel)
theorem dX12_workName_284 : decode cX12_workName 284 = .ok (.iaload, 1) := dk_46 (by decide +kernel)
theorem dX12_workName_285 : decode cX12_workName 285 = .ok (.aload_n 0, 1) := dk_42 (by decide +kernel)
theorem dX12_workName_286 : decode cX12_workName 286 = .ok (.getfield 185, 3) := dk_180 (by decide +kernel)
theorem dX12_workName_289 : decode cX12_workName 289 = .ok (.iload_n 1, 1) := dk_27 (by decide +kernel)
theorem dX12_workName_290 : decode cX12_workName 290 = .ok (.iaload, 1) := dk_46 (by decide +kernel)
theorem dX12_workName_291 : decode cX12_workName 291 = .ok (.iadd, 1) := dk_96 (by decide +kernel)
theorem dX12_workName_292 : decode cX12_workName 292 = .ok (.iaload, 1) := dk_46 (by decide +kernel)
theorem dX12_workName_293 : decode cX12_workName 293 = .ok (.iastore, 1) := dk_79 (by decide +kernel)
theorem dX12_workName_294 : decode cX12_workName 294 = .ok (.goto 33, 3) := dk_167 (by decide +kernel)
theorem dX12_workName_297 : decode cX12_workName 297 = .ok (.aload_n 0, 1) := dk_42 (by decide +kernel)
theorem dX12_workName_298 : decode cX12_workName 298 = .ok (.getfield 170, 3) := dk_180 (by decide +kernel)
theorem dX12_workName_301 : decode cX12_workName 301 = .ok (.bipush 9, 2) := dk_16 (by decide +kernel)
theorem dX12_workName_303 : decode cX12_workName 303 = .ok (.aload_n 0, 1) := dk_42 (by decide +kernel)
theorem dX12_workName_304 : decode cX12_workName 304 = .ok (.getfield 659, 3) := dk_180 (by decide +kernel)
theorem dX12_workName_307 : decode cX12_workName 307 = .ok (.imul, 1) := dk_104 (by decide +kernel)
theorem dX12_workName_308 : decode cX12_workName 308 = .ok (.iconst 1, 1) := dk_4 (by decide +kernel)
theorem dX12_workName_309 : decode cX12_workName 309 = .ok (.iadd, 1) := dk_96 (by decide +kernel)
theorem dX12_workName_310 : decode cX12_workName 310 = .ok (.aload_n 0, 1) := dk_42 (by decide +kernel)
theorem dX12_workName_311 : decode cX12_workName 311 = .ok (.getfield 104, 3) := dk_180 (by decide +kernel)
theorem dX12_workName_314 : decode cX12_workName 314 = .ok (.iload 4, 2) := dk_21 (by decide +kernel)
theorem dX12_workName_316 : decode cX12_workName 316 = .ok (.iaload, 1) := dk_46 (by decide +kernel)
theorem dX12_workName_317 : decode cX12_workName 317 = .ok (.iadd, 1) := dk_96 (by decide +kernel)
theorem dX12_workName_318 : decode cX12_workName 318 = .ok (.aload_n 0, 1) := dk_42 (by decide +kernel)
theorem dX12_workName_319 : decode cX12_workName 319 = .ok (.getfield 185, 3) := dk_180 (by decide +kernel)
theorem dX12_workName_322 : decode cX12_workName 322 = .ok (.iload_n 1, 1) := dk_27 (by decide +kernel)
theorem dX12_workName_323 : decode cX12_workName 323 = .ok (.iaload, 1) := dk_46 (by decide +kernel)
theorem dX12_workName_324 : decode cX12_workName 324 = .ok (.iadd, 1) := dk_96 (by decide +kernel)
theorem dX12_workName_325 : decode cX12_workName 325 = .ok (.iconst 1, 1) := dk_4 (by decide +kernel)
theorem dX12_workName_326 : decode cX12_workName 326 = .ok (.iastore, 1) := dk_79 (by decide +kernel)
theorem dX12_workName_327 : decode cX12_workName 327 = .ok (.aload_n 0, 1) := dk_42 (by decide +kernel)
theorem dX12_workName_328 : decode cX12_workName 328 = .ok (.dup, 1) := dk_89 (by decide +kernel)
theorem dX12_workName_329 : decode cX12_workName 329 = .ok (.getfield 659, 3) := dk_180 (by decide +kernel)
theorem dX12_workName_332 : decode cX12_workName 332 = .ok (.iconst 1, 1) := dk_4 (by decide +kernel)
theorem dX12_workName_333 : decode cX12_workName 333 = .ok (.iadd, 1) := dk_96 (by decide +kernel)
theorem dX12_workName_334 : decode cX12_workName 334 = .ok (.putfield 659, 3) := dk_181 (by decide +kernel)
theorem dX12_workName_337 : decode cX12_workName 337 = .ok (.aload_n 0, 1) := dk_42 (by decide +kernel)
theorem dX12_workName_338 : decode cX12_workName 338 = .ok (.dup, 1) := dk_89 (by decide +kernel)
theorem dX12_workName_339 : decode cX12_workName 339 = .ok (.getfield 647, 3) := dk_180 (by decide +kernel)
theorem dX12_workName_342 : decode cX12_workName 342 = .ok (.iconst 1, 1) := dk_4 (by decide +kernel)
theorem dX12_workName_343 : decode cX12_workName 343 = .ok (.isub, 1) := dk_100 (by decide +kernel)
theorem dX12_workName_344 : decode cX12_workName 344 = .ok (.putfield 647, 3) := dk_181 (by decide +kernel)
theorem dX12_workName_347 : decode cX12_workName 347 = .ok (.return_, 1) := dk_177 (by decide +kernel)
def wsRX12_workName : List Cond := .code yX12_workName cX12_workName 8 none :: ([.fieldLink RX12 110 "OptimaWorksModel" "kind" "[I", .fieldLink RX12 113 "OptimaWorksModel" "partA" "[I", .fieldLink RX12 98 "OptimaWorksModel" "varOne" "[I", .fieldLink RX12 80 "OptimaWorksModel" "paramOne" "[I", .fieldLink RX12 101 "OptimaWorksModel" "varTwo" "[I", .fieldLink RX12 83 "OptimaWorksModel" "paramTwo" "[I", .fieldLink RX12 182 "OptimaWorksModel" "stage" "[I", .fieldLink RX12 185 "OptimaWorksModel" "loopA" "[I", .fieldLink RX12 74 "OptimaWorksModel" "setMany" "[I", .fieldLink RX12 128 "OptimaWorksModel" "firstB" "[I", .fieldLink RX12 125 "OptimaWorksModel" "firstA" "[I", .fieldLink RX12 119 "OptimaWorksModel" "partC" "[I", .fieldLink RX12 116 "OptimaWorksModel" "partB" "[I", .fieldLink RX12 515 "OptimaWorksModel" "stop" "I", .fieldLink RX12 659 "OptimaWorksModel" "piled" "I", .fieldLink RX12 170 "OptimaWorksModel" "top" "[I", .fieldLink RX12 104 "OptimaWorksModel" "varAt" "[I", .fieldLink RX12 647 "OptimaWorksModel" "framed" "I", .fieldLink RX12 89 "OptimaWorksModel" "paramTop" "[I", .fieldLink RX12 86 "OptimaWorksModel" "paramAt" "[I", .fieldLink RX12 173 "OptimaWorksModel" "under" "[I", .fieldLink RX12 92 "OptimaWorksModel" "paramUnder" "[I"] ++ wsX120 ++ (wsV RX12 614 RX12 yX12_placesOf wsRX12_placesOf) ++ (wsV RX12 690 RX12 yX12_member wsRX12_member) ++ (wsV RX12 650 RX12 yX12_call wsRX12_call) ++ (wsV RX12 656 RX12 yX12_stepOne wsRX12_stepOne) ++ (wsV RX12 662 RX12 yX12_nought wsRX12_nought))
theorem iwsRX12_workName_in12 : ∀ w ∈ wsX120, w ∈ wsRX12_workName := fun _ h => List.mem_cons_of_mem _ (List.mem_append_left _ (List.mem_append_left _ (List.mem_append_left _ (List.mem_append_left _ (List.mem_append_left _ (List.mem_append_right _ h))))))
theorem gwsRX12_workName_0 : GoodIn wsRX12_workName (wsV RX12 614 RX12 yX12_placesOf wsRX12_placesOf) := goodIn_sub (fun _ h => List.mem_cons_of_mem _ (List.mem_append_left _ (List.mem_append_left _ (List.mem_append_left _ (List.mem_append_left _ (List.mem_append_right _ h)))))) (gdV (by decide +kernel) gdwsRX12_placesOf)
theorem gwsRX12_workName_1 : GoodIn wsRX12_workName (wsV RX12 690 RX12 yX12_member wsRX12_member) := goodIn_sub (fun _ h => List.mem_cons_of_mem _ (List.mem_append_left _ (List.mem_append_left _ (List.mem_append_left _ (List.mem_append_right _ h))))) (gdV (by decide +kernel) gdwsRX12_member)
theorem gwsRX12_workName_2 : GoodIn wsRX12_workName (wsV RX12 650 RX12 yX12_call wsRX12_call) := goodIn_sub (fun _ h => List.mem_cons_of_mem _ (List.mem_append_left _ (List.mem_append_left _ (List.mem_append_right _ h)))) (gdV (by decide +kernel) gdwsRX12_call)
theorem gwsRX12_workName_3 : GoodIn wsRX12_workName (wsV RX12 656 RX12 yX12_stepOne wsRX12_stepOne) := goodIn_sub (fun _ h => List.mem_cons_of_mem _ (List.mem_append_left _ (List.mem_append_right _ h))) (gdV (by decide +kernel) gdwsRX12_stepOne)
theorem gwsRX12_workName_4 : GoodIn wsRX12_workName (wsV RX12 662 RX12 yX12_nought wsRX12_nought) := goodIn_sub (fun _ h => List.mem_cons_of_mem _ (List.mem_append_right _ h)) (gdV (by decide +kernel) gdwsRX12_nought)
theorem gdwsRX12_workName : wsRX12_workName.all goodWord = true := gdC rfl (gdA (gdA (gdA (gdA (gdA (gdA (by decide +kernel : ([.fieldLink RX12 110 "OptimaWorksModel" "kind" "[I", .fieldLink RX12 113 "OptimaWorksModel" "partA" "[I", .fieldLink RX12 98 "OptimaWorksModel" "varOne" "[I", .fieldLink RX12 80 "OptimaWorksModel" "paramOne" "[I", .fieldLink RX12 101 "OptimaWorksModel" "varTwo" "[I", .fieldLink RX12 83 "OptimaWorksModel" "paramTwo" "[I", .fieldLink RX12 182 "OptimaWorksModel" "stage" "[I", .fieldLink RX12 185 "OptimaWorksModel" "loopA" "[I", .fieldLink RX12 74 "OptimaWorksModel" "setMany" "[I", .fieldLink RX12 128 "OptimaWorksModel" "firstB" "[I", .fieldLink RX12 125 "OptimaWorksModel" "firstA" "[I", .fieldLink RX12 119 "OptimaWorksModel" "partC" "[I", .fieldLink RX12 116 "OptimaWorksModel" "partB" "[I", .fieldLink RX12 515 "OptimaWorksModel" "stop" "I", .fieldLink RX12 659 "OptimaWorksModel" "piled" "I", .fieldLink RX12 170 "OptimaWorksModel" "top" "[I", .fieldLink RX12 104 "OptimaWorksModel" "varAt" "[I", .fieldLink RX12 647 "OptimaWorksModel" "framed" "I", .fieldLink RX12 89 "OptimaWorksModel" "paramTop" "[I", .fieldLink RX12 86 "OptimaWorksModel" "paramAt" "[I", .fieldLink RX12 173 "OptimaWorksModel" "under" "[I", .fieldLink RX12 92 "OptimaWorksModel" "paramUnder" "[I"] : List Cond).all goodWord = true) gdwsX120) (gdV (by decide +kernel) gdwsRX12_placesOf)) (gdV (by decide +kernel) gdwsRX12_member)) (gdV (by decide +kernel) gdwsRX12_call)) (gdV (by decide +kernel) gdwsRX12_stepOne)) (gdV (by decide +kernel) gdwsRX12_nought))
theorem hm_r_X12_workName_0 : (.fieldLink RX12 182 "OptimaWorksModel" "stage" "[I" : Cond) ∈ wsRX12_workName := by decide +kernel
theorem hm_r_X12_workName_1 : (.fieldLink RX12 185 "OptimaWorksModel" "loopA" "[I" : Cond) ∈ wsRX12_workName := by decide +kernel
theorem hm_r_X12_workName_2 : (.fieldLink RX12 659 "OptimaWorksModel" "piled" "I" : Cond) ∈ wsRX12_workName := by decide +kernel
theorem hm_r_X12_workName_3 : (.fieldLink RX12 170 "OptimaWorksModel" "top" "[I" : Cond) ∈ wsRX12_workName := by decide +kernel
theorem hm_r_X12_workName_4 : (.fieldLink RX12 647 "OptimaWorksModel" "framed" "I" : Cond) ∈ wsRX12_workName := by decide +kernel
theorem hm_r_X12_workName_5 : (.fieldLink RX12 86 "OptimaWorksModel" "paramAt" "[I" : Cond) ∈ wsRX12_workName := by decide +kernel
set_option maxHeartbeats 4000000 in
set_option maxRecDepth 100000 in
/-- workName(f, n) -/
theorem r_X12_workName (l : Launch) (dC : Nat → ClassId) (dI : Nat → Nat → Nat) (a : Nat → Nat) (k : Nat → ClassId) (h0 : Nat) (vi : Nat → Int32) (vj : Nat → Int64) (vF : Nat → Nat → Int32) (vG : Nat → Nat → Int64) (nF : Nat → Nat → Int32) (V : Nat → Prop) (wt : Nat → Nat) (dp : Nat → Nat) (pd : Nat → Nat) (nN : Nat) (kN : Nat) (sN : Nat) (la : Nat) (hN : Nat) (pN : Nat) (rN : Nat) (fN : Nat) (fr : Nat) (aN : Nat) (plN : Nat) (se : Nat) (o1 : Nat) (o2 : Nat) (atN : Nat) (dN : Nat) (eN : Nat) (hnN : nN < 4000) (hfN : fN < 4299) (hkN : vF 29 nN = nI kN) (hsN : vF 53 fN = nI sN) (hfr9 : vi 89 = nI fr) (hfr1 : fr = fN + 1) (hTo : TopO nF V wt dp pd nN kN sN la hN pN rN) (haN : vF 30 nN = nI aN) (haN4 : aN < 44) (hkk : Kd23 kN) (hk23 : 2 ≤ kN ∧ kN ≤ 3) (hP2 : kN = 2 → vF 18 aN = nI plN) (hP3 : kN = 3 → vF 24 aN = nI plN) (hse44 : se ≤ 44) (hSe : SeO (vF 16) (vF 17) se) (hQ2 : kN = 2 → vF 19 aN = nI o1) (hR2 : kN = 2 → vF 20 aN = nI o2) (hA2 : kN = 2 → vF 21 aN = nI atN) (hQ3 : kN = 3 → vF 25 aN = nI o1) (hR3 : kN = 3 → vF 26 aN = nI o2) (hA3 : kN = 3 → vF 27 aN = nI atN) (hat : atN ≤ 6000) (hat3 : atN + 6000 * kN ≤ 18008) (hplN : plN ≤ 2 ∧ o1 < 44 ∧ o2 < 44) (hPk : PlK se plN o1 o2) (hPt : PtO (vF 22) (vF 23) (nuF nF)) (hN30 : nF 30 nN = nI aN) (hN19 : kN = 2 → nF 19 aN = nI o1) (hN17 : nF 17 = vF 17) (hmem : MmK nF kN plN o1 o2 atN) (hdN : 1 ≤ plN → vF 31 nN = nI dN ∧ KidL nF V dp pd nN 31 0 dN) (heN : plN = 2 → vF 32 nN = nI eN ∧ KidL nF V dp pd nN 32 0 eN) (h31 : ∀ c, KidL nF V dp pd nN 31 0 c → 1 ≤ plN) (h32 : ∀ c, KidL nF V dp pd nN 32 0 c → plN = 2) (hwN : WnK nF V wt dp pd nN plN dN) (hla : 0 < sN → vF 54 fN = nI la) (hpl : vi 81 = nI pN) (hRw : ∀ v9, v9 < pN → RowU (vF 49) (vF 50) v9) (hpp : hN + pd nN ≤ 80) (hpd : 1 ≤ pd nN) (hst0 : 0 ≤ (vi 21).toInt) (hst1 : (vi 21).toInt ≤ 0) (sz : Nat) : Met l yX12_workName wsRX12_workName ({ frames := 2, cells := 0, slots := 0, locals := 46 }) (va_Pc [.ref h0, .int (nI fN), .int (nI nN)] (fun U => U.heap.size = sz ∧ va_P (dC, dI) vwCl (WR a k h0 vi vj vF vG) U.heap ∧ va_K (dC, dI) vwCl (tX12 k) U ∧ va_D (fun _ => True) (WR a k h0 vi vj vF vG))) (va_Qv (fun (u : (Nat → Int32) × (Nat → Int32) × (Nat → Int32) × (Nat → Int32) × (Nat → Int32) × (Nat) × (Nat) × (Int32) × (Int32) × (Int32)) => (∀ v9, v9 < (u.2.2.2.2.2.2.1) → RowU (u.1) (u.2.1) v9) ∧ (0 ≤ ((u.2.2.2.2.2.2.2.1)).toInt) ∧ ((u.2.2.2.2.2.2.2.1) = vi 21 ∨ 0 < ((u.2.2.2.2.2.2.2.1)).toInt) ∧ (0 < ((u.2.2.2.2.2.2.2.1)).toInt ∨ StpO nF V wt dp pd nN kN fN hN rN (vF 52) (vF 53) (vF 54) (u.2.2.1) (u.2.2.2.1) (u.2.2.2.2.1) (u.2.2.2.2.2.1) (u.2.2.2.2.2.2.1)) ∧ ((u.2.2.2.2.2.1) ≤ fr + 1)) (fun (u : (Nat → Int32) × (Nat → Int32) × (Nat → Int32) × (Nat → Int32) × (Nat → Int32) × (Nat) × (Nat) × (Int32) × (Int32) × (Int32)) t => va_P (dC, dI) vwCl (WR a k h0 (fT (fT (fT (fT (fT vi 21 (u.2.2.2.2.2.2.2.1)) 22 (u.2.2.2.2.2.2.2.2.1)) 82 (u.2.2.2.2.2.2.2.2.2)) 81 (nI (u.2.2.2.2.2.2.1))) 89 (nI (u.2.2.2.2.2.1))) vj (fT (fT (fT (fT (fT vF 53 (u.2.2.2.1)) 54 (u.2.2.2.2.1)) 49 (u.1)) 50 (u.2.1)) 52 (u.2.2.1)) vG) t.heap ∧ va_D (va_A (WR a k h0 vi vj vF vG) sz) (WR a k h0 (fT (fT (fT (fT (fT vi 21 (u.2.2.2.2.2.2.2.1)) 22 (u.2.2.2.2.2.2.2.2.1)) 82 (u.2.2.2.2.2.2.2.2.2)) 81 (nI (u.2.2.2.2.2.2.1))) 89 (nI (u.2.2.2.2.2.1))) vj (fT (fT (fT (fT (fT vF 53 (u.2.2.2.1)) 54 (u.2.2.2.2.1)) 49 (u.1)) 50 (u.2.1)) 52 (u.2.2.1)) vG)) (va_A (WR a k h0 vi vj vF vG) sz)) 0 0 (va_A (WR a k h0 vi vj vF vG) sz) := by
  refine Met.ofW (cc := cX12_workName) (maxL := 8) (ret := none) (by decide) rfl ?_
  intro p e s m args below meth c s₁ B hml hv
  obtain ⟨rfl, hsz, hP, hK, hD0⟩ := hv
  have hx := B.exec
  have hb := B.bytes
  have hr := B.returns
  have hts := atoms_spec (ws := wsRX12_workName) B.pre
  have hown : s.vm.findClass RX12 = some m.cls := findClass_of_methodNamed B.named
  have hlocks := B.notSynchronized
  subst hsz
  have hD := hD0.self (sz := s.heap.size)
  generalize hAe : va_A (WR a k h0 vi vj vF vG) s.heap.size = A at hD ⊢
  have hA : ∀ q : Nat, s.heap.size ≤ q → A q := fun q h => by rw [← hAe]; exact Or.inr h
  have hS : va_S A s.heap s.heap [] := va_S.rf
  have hl := lv_entry ([.ref h0, .int (nI fN), .int (nI nN)]) (n := 8) (Nat.le_of_ble_eq_true rfl)
  rw [lg_entry_eq]
  generalize (lg_sl ([.ref h0, .int (nI fN), .int (nI nN)]) ++ List.replicate (8 - (lg_sl ([.ref h0, .int (nI fN), .int (nI nN)])).length) Slot.unset).toArray = ls at hl ⊢
  have hl : lv_has ls 8 [(0, .ref h0), (1, .int (nI fN)), (2, .int (nI nN))] := hl
  have hsd := hTo.name hkk h31 h32
  refine lv_aload_n hx hb dX12_workName_0 rfl (lv_at hl 0 rfl) ?_
  refine va_get (D := (dC, dI)) (ci := 12) (v := .ref (a 29)) (C := RX12) (T := TX12) (N := 163) (fs := fM (vS a vi vj)) hx hb hts iwsRX12_workName_in12 hown hK hP 0 rfl rfl 53 (by decide) (hts (.fieldLink RX12 110 "OptimaWorksModel" "kind" "[I") (by decide +kernel)) (fun _ h9 => h9) rfl dX12_workName_1 ?_
  refine lv_iload_n hx hb dX12_workName_4 rfl (lv_at hl 2 rfl) ?_
  refine va_iald (cA := k 29) (n := 4200) (f := (vF 29)) hx hb hK hP 30 29 (WR_get 29 (by decide)) (TR_get 29 (by decide)) (vp_in_nI (show nN < 4200 by omega) (by omega)) dX12_workName_5 ?_
  refine lv_topi (fun y1 hy1 => ?_)
  obtain rfl : ((vF 29) nN) = y1 := (hy1.trans (by rw [nI_clamp (by omega)])).symm
  refine lv_topi (fun y2 hy2 => ?_)
  obtain rfl : (nI kN) = y2 := (hy2.trans (hkN)).symm
  refine lv_iconst (v := 2) hx hb dX12_workName_6 (by decide) ?_
  refine W.cut (pc := 15) (fun H locs ls stk => ∃ (zk : Int32), ((zk).toInt + (kN : Int) = 3) ∧  stk = [.int zk] ∧ va_P (dC, dI) vwCl (WR a k h0 vi vj vF vG) H ∧ va_D A (WR a k h0 vi vj vF vG) ∧ va_S A s.heap H locs ∧ lv_has ls 8 [(0, .ref h0), (1, .int (nI fN)), (2, .int (nI nN))]) (fun join1 => ?_) ?_
  · refine lv_icmp_ne (tgt := 14) hx hb dX12_workName_7 (by decide) (fun c_7 => ?_) (fun c_7 => ?_)
    · have t_7 : ((kN : Nat) : Int) ≠ 2 := toI_ne c_7 (nI_toInt (by omega)) (by decide)
      refine lv_iconst (v := 0) hx hb dX12_workName_14 (by decide) ?_
      have hl : lv_has _ _ ([(0, .ref h0), (1, .int (nI fN)), (2, .int (nI nN))]) := lv_sub hl [0, 1, 2] rfl
      exact join1 _ _ _ _ ⟨0, by (have h9 : (0 : Int32).toInt = 0 := by decide); omega, rfl, hP, hD, hS, hl⟩
    · have t_7 : ((kN : Nat) : Int) = 2 := toI_nne c_7 (nI_toInt (by omega)) (by decide)
      refine lv_iconst (v := 1) hx hb dX12_workName_10 (by decide) ?_
      refine lv_goto (tgt := 15) hx hb dX12_workName_11 (by decide) ?_
      have hl : lv_has _ _ ([(0, .ref h0), (1, .int (nI fN)), (2, .int (nI nN))]) := lv_sub hl [0, 1, 2] rfl
      exact join1 _ _ _ _ ⟨1, by (have h9 : (1 : Int32).toInt = 1 := by decide); omega, rfl, hP, hD, hS, hl⟩
  · rintro H locs ls stk ⟨zk, hzk, rfl, hP, hD, hS, hl⟩
    refine lv_istore_n hx hb dX12_workName_15 rfl hl (by decide) rfl (fun ls (hl : lv_has ls _ ([(3, .int zk), (0, .ref h0), (1, .int (nI fN)), (2, .int (nI nN))])) => ?_)
    refine lv_aload_n hx hb dX12_workName_16 rfl (lv_at hl 1 rfl) ?_
    refine va_get (D := (dC, dI)) (ci := 12) (v := .ref (a 30)) (C := RX12) (T := TX12) (N := 163) (fs := fM (vS a vi vj)) hx hb hts iwsRX12_workName_in12 hown hK hP 0 rfl rfl 54 (by decide) (hts (.fieldLink RX12 113 "OptimaWorksModel" "partA" "[I") (by decide +kernel)) (fun _ h9 => h9) rfl dX12_workName_17 ?_
    refine lv_iload_n hx hb dX12_workName_20 rfl (lv_at hl 3 rfl) ?_
    refine va_iald (cA := k 30) (n := 4200) (f := (vF 30)) hx hb hK hP 31 30 (WR_get 30 (by decide)) (TR_get 30 (by decide)) (vp_in_nI (show nN < 4200 by omega) (by omega)) dX12_workName_21 ?_
    refine lv_topi (fun y3 hy3 => ?_)
    obtain rfl : ((vF 30) nN) = y3 := (hy3.trans (by rw [nI_clamp (by omega)])).symm
    refine lv_topi (fun y4 hy4 => ?_)
    obtain rfl : (nI aN) = y4 := (hy4.trans (haN)).symm
    refine lv_istore hx hb dX12_workName_22 hl (by decide) rfl (fun ls (hl : lv_has ls _ ([(4, .int (nI aN)), (3, .int zk), (0, .ref h0), (1, .int (nI fN)), (2, .int (nI nN))])) => ?_)
    refine lv_aload_n hx hb dX12_workName_24 rfl (lv_at hl 2 rfl) ?_
    refine lv_iload_n hx hb dX12_workName_25 rfl (lv_at hl 4 rfl) ?_
    have hFc := allFree hD hS hA
    refine va_calli (va_runV (As := [.int (nI nN)]) (rest := []) ⟨hx, hb, hml, hown, hts⟩ (r_X12_placesOf l dC dI a k h0 vi vj vF vG nN kN aN plN (by first | with_reducible assumption | decide | omega | rfl | assumption) (by first | with_reducible assumption | decide | omega | rfl | assumption) (by first | with_reducible assumption | decide | omega | rfl | assumption) (by first | with_reducible assumption | decide | omega | rfl | assumption) (by first | with_reducible assumption | decide | omega | rfl | assumption) (by first | with_reducible assumption | decide | omega | rfl | assumption) (by first | with_reducible assumption | decide | omega | rfl | assumption) (by first | with_reducible assumption | decide | omega | rfl | assumption) H.size) (cwV 1 hts gwsRX12_workName_0 rfl rfl rfl hd_yX12_placesOf_RX12 (by decide +kernel)) (fz_pre (va_recv hK hP (ci := 12) (q0 := 0) rfl rfl) hP hK hD) rfl rfl hl.1 rfl (lv_room (Nat.le_of_ble_eq_true rfl)) dX12_workName_26 (by decide +kernel)) hS (fun q _ h => hFc q h) hFc (fun r26 u t9_ H locs ht hvm hw9 hB9 hz1 hk1 hS => ?_)
    have hP : va_P (dC, dI) vwCl (WR a k h0 vi vj vF vG) H := fz_P ht hB9.1
    have hD := fz_sd hP (hB9.2.weaken (fun _ q _ h => hFc q.1 h)) rfl
    obtain rfl := hw9
    refine lv_istore hx hb dX12_workName_29 hl (by decide) rfl (fun ls (hl : lv_has ls _ ([(5, .int (nI plN)), (4, .int (nI aN)), (3, .int zk), (0, .ref h0), (1, .int (nI fN)), (2, .int (nI nN))])) => ?_)
    refine lv_iload_n hx hb dX12_workName_31 rfl (lv_at hl 2 rfl) ?_
    refine W.cut (pc := 52) (fun H locs ls stk =>  stk = [.int (nI o1)] ∧ va_P (dC, dI) vwCl (WR a k h0 vi vj vF vG) H ∧ va_D A (WR a k h0 vi vj vF vG) ∧ va_S A s.heap H locs ∧ lv_has ls 8 [(5, .int (nI plN)), (4, .int (nI aN)), (3, .int zk), (0, .ref h0), (1, .int (nI fN)), (2, .int (nI nN))]) (fun join2 => ?_) ?_
    · refine lv_if_eq (tgt := 45) hx hb dX12_workName_32 (by decide) (fun c_32 => ?_) (fun c_32 => ?_)
      · have t_32 : (zk).toInt = 0 := toI_eq c_32 rfl (by decide)
        refine lv_aload_n hx hb dX12_workName_45 rfl (lv_at hl 3 rfl) ?_
        refine va_get (D := (dC, dI)) (ci := 12) (v := .ref (a 25)) (C := RX12) (T := TX12) (N := 163) (fs := fM (vS a vi vj)) hx hb hts iwsRX12_workName_in12 hown hK hP 0 rfl rfl 48 (by decide) (hts (.fieldLink RX12 98 "OptimaWorksModel" "varOne" "[I") (by decide +kernel)) (fun _ h9 => h9) rfl dX12_workName_46 ?_
        refine lv_iload hx hb dX12_workName_49 (lv_at hl 1 rfl) ?_
        refine va_iald (cA := k 25) (n := 44) (f := (vF 25)) hx hb hK hP 26 25 (WR_get 25 (by decide)) (TR_get 25 (by decide)) (vp_in_nI (show aN < 44 by omega) (by omega)) dX12_workName_51 ?_
        refine lv_topi (fun y5 hy5 => ?_)
        obtain rfl : ((vF 25) aN) = y5 := (hy5.trans (by rw [nI_clamp (by omega)])).symm
        refine lv_topi (fun y6 hy6 => ?_)
        obtain rfl : (nI o1) = y6 := (hy6.trans (hQ3 (by omega))).symm
        have hl : lv_has _ _ ([(5, .int (nI plN)), (4, .int (nI aN)), (3, .int zk), (0, .ref h0), (1, .int (nI fN)), (2, .int (nI nN))]) := lv_sub hl [0, 1, 2, 3, 4, 5] rfl
        exact join2 _ _ _ _ ⟨rfl, hP, hD, hS, hl⟩
      · have t_32 : ¬ (zk).toInt = 0 := toI_neq c_32 rfl (by decide)
        refine lv_aload_n hx hb dX12_workName_35 rfl (lv_at hl 3 rfl) ?_
        refine va_get (D := (dC, dI)) (ci := 12) (v := .ref (a 19)) (C := RX12) (T := TX12) (N := 163) (fs := fM (vS a vi vj)) hx hb hts iwsRX12_workName_in12 hown hK hP 0 rfl rfl 42 (by decide) (hts (.fieldLink RX12 80 "OptimaWorksModel" "paramOne" "[I") (by decide +kernel)) (fun _ h9 => h9) rfl dX12_workName_36 ?_
        refine lv_iload hx hb dX12_workName_39 (lv_at hl 1 rfl) ?_
        refine va_iald (cA := k 19) (n := 44) (f := (vF 19)) hx hb hK hP 20 19 (WR_get 19 (by decide)) (TR_get 19 (by decide)) (vp_in_nI (show aN < 44 by omega) (by omega)) dX12_workName_41 ?_
        refine lv_topi (fun y7 hy7 => ?_)
        obtain rfl : ((vF 19) aN) = y7 := (hy7.trans (by rw [nI_clamp (by omega)])).symm
        refine lv_topi (fun y8 hy8 => ?_)
        obtain rfl : (nI o1) = y8 := (hy8.trans (hQ2 (by omega))).symm
        refine lv_goto (tgt := 52) hx hb dX12_workName_42 (by decide) ?_
        have hl : lv_has _ _ ([(5, .int (nI plN)), (4, .int (nI aN)), (3, .int zk), (0, .ref h0), (1, .int (nI fN)), (2, .int (nI nN))]) := lv_sub hl [0, 1, 2, 3, 4, 5] rfl
        exact join2 _ _ _ _ ⟨rfl, hP, hD, hS, hl⟩
    · rintro H locs ls stk ⟨rfl, hP, hD, hS, hl⟩
      refine lv_istore hx hb dX12_workName_52 hl (by decide) rfl (fun ls (hl : lv_has ls _ ([(6, .int (nI o1)), (5, .int (nI plN)), (4, .int (nI aN)), (3, .int zk), (0, .ref h0), (1, .int (nI fN)), (2, .int (nI nN))])) => ?_)
      refine lv_iload_n hx hb dX12_workName_54 rfl (lv_at hl 3 rfl) ?_
      refine W.cut (pc := 75) (fun H locs ls stk =>  stk = [.int (nI o2)] ∧ va_P (dC, dI) vwCl (WR a k h0 vi vj vF vG) H ∧ va_D A (WR a k h0 vi vj vF vG) ∧ va_S A s.heap H locs ∧ lv_has ls 8 [(6, .int (nI o1)), (5, .int (nI plN)), (4, .int (nI aN)), (3, .int zk), (0, .ref h0), (1, .int (nI fN)), (2, .int (nI nN))]) (fun join3 => ?_) ?_
      · refine lv_if_eq (tgt := 68) hx hb dX12_workName_55 (by decide) (fun c_55 => ?_) (fun c_55 => ?_)
        · have t_55 : (zk).toInt = 0 := toI_eq c_55 rfl (by decide)
          refine lv_aload_n hx hb dX12_workName_68 rfl (lv_at hl 4 rfl) ?_
          refine va_get (D := (dC, dI)) (ci := 12) (v := .ref (a 26)) (C := RX12) (T := TX12) (N := 163) (fs := fM (vS a vi vj)) hx hb hts iwsRX12_workName_in12 hown hK hP 0 rfl rfl 49 (by decide) (hts (.fieldLink RX12 101 "OptimaWorksModel" "varTwo" "[I") (by decide +kernel)) (fun _ h9 => h9) rfl dX12_workName_69 ?_
          refine lv_iload hx hb dX12_workName_72 (lv_at hl 2 rfl) ?_
          refine va_iald (cA := k 26) (n := 44) (f := (vF 26)) hx hb hK hP 27 26 (WR_get 26 (by decide)) (TR_get 26 (by decide)) (vp_in_nI (show aN < 44 by omega) (by omega)) dX12_workName_74 ?_
          refine lv_topi (fun y9 hy9 => ?_)
          obtain rfl : ((vF 26) aN) = y9 := (hy9.trans (by rw [nI_clamp (by omega)])).symm
          refine lv_topi (fun y10 hy10 => ?_)
          obtain rfl : (nI o2) = y10 := (hy10.trans (hR3 (by omega))).symm
          have hl : lv_has _ _ ([(6, .int (nI o1)), (5, .int (nI plN)), (4, .int (nI aN)), (3, .int zk), (0, .ref h0), (1, .int (nI fN)), (2, .int (nI nN))]) := lv_sub hl [0, 1, 2, 3, 4, 5, 6] rfl
          exact join3 _ _ _ _ ⟨rfl, hP, hD, hS, hl⟩
        · have t_55 : ¬ (zk).toInt = 0 := toI_neq c_55 rfl (by decide)
          refine lv_aload_n hx hb dX12_workName_58 rfl (lv_at hl 4 rfl) ?_
          refine va_get (D := (dC, dI)) (ci := 12) (v := .ref (a 20)) (C := RX12) (T := TX12) (N := 163) (fs := fM (vS a vi vj)) hx hb hts iwsRX12_workName_in12 hown hK hP 0 rfl rfl 43 (by decide) (hts (.fieldLink RX12 83 "OptimaWorksModel" "paramTwo" "[I") (by decide +kernel)) (fun _ h9 => h9) rfl dX12_workName_59 ?_
          refine lv_iload hx hb dX12_workName_62 (lv_at hl 2 rfl) ?_
          refine va_iald (cA := k 20) (n := 44) (f := (vF 20)) hx hb hK hP 21 20 (WR_get 20 (by decide)) (TR_get 20 (by decide)) (vp_in_nI (show aN < 44 by omega) (by omega)) dX12_workName_64 ?_
          refine lv_topi (fun y11 hy11 => ?_)
          obtain rfl : ((vF 20) aN) = y11 := (hy11.trans (by rw [nI_clamp (by omega)])).symm
          refine lv_topi (fun y12 hy12 => ?_)
          obtain rfl : (nI o2) = y12 := (hy12.trans (hR2 (by omega))).symm
          refine lv_goto (tgt := 75) hx hb dX12_workName_65 (by decide) ?_
          have hl : lv_has _ _ ([(6, .int (nI o1)), (5, .int (nI plN)), (4, .int (nI aN)), (3, .int zk), (0, .ref h0), (1, .int (nI fN)), (2, .int (nI nN))]) := lv_sub hl [0, 1, 2, 3, 4, 5, 6] rfl
          exact join3 _ _ _ _ ⟨rfl, hP, hD, hS, hl⟩
      · rintro H locs ls stk ⟨rfl, hP, hD, hS, hl⟩
        refine lv_istore hx hb dX12_workName_75 hl (by decide) rfl (fun ls (hl : lv_has ls _ ([(7, .int (nI o2)), (6, .int (nI o1)), (5, .int (nI plN)), (4, .int (nI aN)), (3, .int zk), (0, .ref h0), (1, .int (nI fN)), (2, .int (nI nN))])) => ?_)
        refine lv_aload_n hx hb dX12_workName_77 rfl (lv_at hl 5 rfl) ?_
        refine va_get (D := (dC, dI)) (ci := 12) (v := .ref (a 53)) (C := RX12) (T := TX12) (N := 163) (fs := fM (vS a vi vj)) hx hb hts iwsRX12_workName_in12 hown hK hP 0 rfl rfl 86 (by decide) (hts _ hm_r_X12_workName_0) (fun _ h9 => h9) rfl dX12_workName_78 ?_
        refine lv_iload_n hx hb dX12_workName_81 rfl (lv_at hl 6 rfl) ?_
        refine lv_dup2_11 hx hb dX12_workName_82 rfl rfl ?_
        refine va_iald (cA := k 53) (n := 4300) (f := (vF 53)) hx hb hK hP 54 53 (WR_get 53 (by decide)) (TR_get 53 (by decide)) (vp_in_nI (show fN < 4300 by omega) (by omega)) dX12_workName_83 ?_
        refine lv_topi (fun y13 hy13 => ?_)
        obtain rfl : ((vF 53) fN) = y13 := (hy13.trans (by rw [nI_clamp (by omega)])).symm
        refine lv_topi (fun y14 hy14 => ?_)
        obtain rfl : (nI sN) = y14 := (hy14.trans (hsN)).symm
        refine lv_iconst (v := 1) hx hb dX12_workName_84 (by decide) ?_
        refine lv_iadd hx hb dX12_workName_85 ?_
        refine lv_topi (fun y15 hy15 => ?_)
        obtain rfl : (nI (sN + 1)) = y15 := (hy15.trans (nI_add sN 1)).symm
        refine va_iast (cA := k 53) (n := 4300) (f := (vF 53)) hx hb hK hP hD hS 54 53 (WR_get 53 (by decide)) (TR_get 53 (by decide)) (vp_in_nI (show fN < 4300 by omega) (by omega)) dX12_workName_86 (fun H locs hP hD hS => ?_)
        have hP : va_P (dC, dI) vwCl (WR a k h0 vi vj (fT vF 53 (upd (vF 53) ((nI fN)).toNatClampNeg (nI (sN + 1)))) vG) H := fz_w (WR_F 53 (by decide) _ rfl) hP
        have hD : va_D A (WR a k h0 vi vj (fT vF 53 (upd (vF 53) ((nI fN)).toNatClampNeg (nI (sN + 1)))) vG) := fz_wD (WR_F 53 (by decide) _ rfl) hD
        refine lv_aload_n hx hb dX12_workName_87 rfl (lv_at hl 5 rfl) ?_
        refine va_get (D := (dC, dI)) (ci := 12) (v := .ref (a 53)) (C := RX12) (T := TX12) (N := 163) (fs := fM (vS a vi vj)) hx hb hts iwsRX12_workName_in12 hown hK hP 0 rfl rfl 86 (by decide) (hts _ hm_r_X12_workName_0) (fun _ h9 => h9) rfl dX12_workName_88 ?_
        refine lv_iload_n hx hb dX12_workName_91 rfl (lv_at hl 6 rfl) ?_
        refine va_iald (cA := k 53) (n := 4300) (f := (upd (vF 53) ((nI fN)).toNatClampNeg (nI (sN + 1)))) hx hb hK hP 54 53 (WR_get 53 (by decide)) (TR_get 53 (by decide)) (vp_in_nI (show fN < 4300 by omega) (by omega)) dX12_workName_92 ?_
        refine lv_topi (fun y16 hy16 => ?_)
        obtain rfl : ((upd (vF 53) ((nI fN)).toNatClampNeg (nI (sN + 1))) fN) = y16 := (hy16.trans (by rw [nI_clamp (by omega)])).symm
        refine lv_topi (fun y17 hy17 => ?_)
        obtain rfl : (nI (sN + 1)) = y17 := (hy17.trans ((by rw [upd_at (by omega), if_pos rfl]))).symm
        refine lv_iconst (v := 1) hx hb dX12_workName_93 (by decide) ?_
        refine W.cut (pc := 212) (fun H locs ls stk => ∃ (s3 : Int32) (p3 : Int32) (sp3 : Int32) (pq : Nat) (f54x : Nat → Int32), (pq = hN) ∧ (0 ≤ (s3).toInt) ∧ (s3 = vi 21 ∨ 0 < (s3).toInt) ∧ (0 < (s3).toInt ∨ ∃ l4, l4 < 144 ∧ f54x fN = nI l4 ∧ LmK nF kN plN o1 o2 l4) ∧ (∀ q, q < fN → f54x q = vF 54 q) ∧  stk = [] ∧ va_P (dC, dI) vwCl (WR a k h0 (fT (fT (fT (fT vi 21 s3) 22 p3) 82 sp3) 81 (nI pq)) vj (fT (fT vF 53 (upd (vF 53) ((nI fN)).toNatClampNeg (nI (sN + 1)))) 54 f54x) vG) H ∧ va_D A (WR a k h0 (fT (fT (fT (fT vi 21 s3) 22 p3) 82 sp3) 81 (nI pq)) vj (fT (fT vF 53 (upd (vF 53) ((nI fN)).toNatClampNeg (nI (sN + 1)))) 54 f54x) vG) ∧ va_S A s.heap H locs ∧ lv_has ls 8 [(0, .ref h0), (1, .int (nI fN)), (2, .int (nI nN)), (3, .int zk), (4, .int (nI aN))]) (fun join4 => ?_) ?_
        · refine lv_icmp_ne (tgt := 124) hx hb dX12_workName_94 (by decide) (fun c_94 => ?_) (fun c_94 => ?_)
          · have t_94 : (((sN + 1) : Nat) : Int) ≠ 1 := toI_ne c_94 (nI_toInt (by omega)) (by decide)
            refine lv_aload_n hx hb dX12_workName_124 rfl (lv_at hl 5 rfl) ?_
            refine va_get (D := (dC, dI)) (ci := 12) (v := .ref (a 53)) (C := RX12) (T := TX12) (N := 163) (fs := fM (vS a vi vj)) hx hb hts iwsRX12_workName_in12 hown hK hP 0 rfl rfl 86 (by decide) (hts _ hm_r_X12_workName_0) (fun _ h9 => h9) rfl dX12_workName_125 ?_
            refine lv_iload_n hx hb dX12_workName_128 rfl (lv_at hl 6 rfl) ?_
            refine va_iald (cA := k 53) (n := 4300) (f := (upd (vF 53) ((nI fN)).toNatClampNeg (nI (sN + 1)))) hx hb hK hP 54 53 (WR_get 53 (by decide)) (TR_get 53 (by decide)) (vp_in_nI (show fN < 4300 by omega) (by omega)) dX12_workName_129 ?_
            refine lv_topi (fun y18 hy18 => ?_)
            obtain rfl : ((upd (vF 53) ((nI fN)).toNatClampNeg (nI (sN + 1))) fN) = y18 := (hy18.trans (by rw [nI_clamp (by omega)])).symm
            refine lv_topi (fun y19 hy19 => ?_)
            obtain rfl : (nI (sN + 1)) = y19 := (hy19.trans ((by rw [upd_at (by omega), if_pos rfl]))).symm
            refine lv_iconst (v := 2) hx hb dX12_workName_130 (by decide) ?_
            refine lv_icmp_ne (tgt := 169) hx hb dX12_workName_131 (by decide) (fun c_131 => ?_) (fun c_131 => ?_)
            · have t_131 : (((sN + 1) : Nat) : Int) ≠ 2 := toI_ne c_131 (nI_toInt (by omega)) (by decide)
              refine lv_aload_n hx hb dX12_workName_169 rfl (lv_at hl 5 rfl) ?_
              refine va_get (D := (dC, dI)) (ci := 12) (v := .ref (a 53)) (C := RX12) (T := TX12) (N := 163) (fs := fM (vS a vi vj)) hx hb hts iwsRX12_workName_in12 hown hK hP 0 rfl rfl 86 (by decide) (hts _ hm_r_X12_workName_0) (fun _ h9 => h9) rfl dX12_workName_170 ?_
              refine lv_iload_n hx hb dX12_workName_173 rfl (lv_at hl 6 rfl) ?_
              refine va_iald (cA := k 53) (n := 4300) (f := (upd (vF 53) ((nI fN)).toNatClampNeg (nI (sN + 1)))) hx hb hK hP 54 53 (WR_get 53 (by decide)) (TR_get 53 (by decide)) (vp_in_nI (show fN < 4300 by omega) (by omega)) dX12_workName_174 ?_
              refine lv_topi (fun y20 hy20 => ?_)
              obtain rfl : ((upd (vF 53) ((nI fN)).toNatClampNeg (nI (sN + 1))) fN) = y20 := (hy20.trans (by rw [nI_clamp (by omega)])).symm
              refine lv_topi (fun y21 hy21 => ?_)
              obtain rfl : (nI (sN + 1)) = y21 := (hy21.trans ((by rw [upd_at (by omega), if_pos rfl]))).symm
              refine lv_iconst (v := 3) hx hb dX12_workName_175 (by decide) ?_
              refine lv_icmp_ne (tgt := 212) hx hb dX12_workName_176 (by decide) (fun c9 => False.elim (by have t9 : (((sN + 1) : Nat) : Int) ≠ 3 := toI_ne c9 (nI_toInt (by omega)) (by decide); omega)) (fun c_176 => ?_)
              have t_176 : (((sN + 1) : Nat) : Int) = 3 := toI_nne c_176 (nI_toInt (by omega)) (by decide)
              have hoS1 : o1 < se := hPk.1 (by omega)
              obtain ⟨⟨m1, hm1a, hm1b, em1⟩, _⟩ := hSe o1 hoS1
              have hoS2 : o2 < se := hPk.2 (by omega)
              obtain ⟨⟨m2, hm2a, hm2b, em2⟩, _⟩ := hSe o2 hoS2
              have hlb := hTo.nameB hkk (by omega)
              have hlm : la * m2 ≤ 11 * 12 := Nat.mul_le_mul (by omega) hm2b
              refine lv_aload_n hx hb dX12_workName_179 rfl (lv_at hl 5 rfl) ?_
              refine va_get (D := (dC, dI)) (ci := 12) (v := .ref (a 54)) (C := RX12) (T := TX12) (N := 163) (fs := fM (vS a vi vj)) hx hb hts iwsRX12_workName_in12 hown hK hP 0 rfl rfl 87 (by decide) (hts _ hm_r_X12_workName_1) (fun _ h9 => h9) rfl dX12_workName_180 ?_
              refine lv_iload_n hx hb dX12_workName_183 rfl (lv_at hl 6 rfl) ?_
              refine lv_aload_n hx hb dX12_workName_184 rfl (lv_at hl 5 rfl) ?_
              refine va_get (D := (dC, dI)) (ci := 12) (v := .ref (a 54)) (C := RX12) (T := TX12) (N := 163) (fs := fM (vS a vi vj)) hx hb hts iwsRX12_workName_in12 hown hK hP 0 rfl rfl 87 (by decide) (hts _ hm_r_X12_workName_1) (fun _ h9 => h9) rfl dX12_workName_185 ?_
              refine lv_iload_n hx hb dX12_workName_188 rfl (lv_at hl 6 rfl) ?_
              refine va_iald (cA := k 54) (n := 4300) (f := (vF 54)) hx hb hK hP 55 54 (WR_get 54 (by decide)) (TR_get 54 (by decide)) (vp_in_nI (show fN < 4300 by omega) (by omega)) dX12_workName_189 ?_
              refine lv_topi (fun y22 hy22 => ?_)
              obtain rfl : ((vF 54) fN) = y22 := (hy22.trans (by rw [nI_clamp (by omega)])).symm
              refine lv_topi (fun y23 hy23 => ?_)
              obtain rfl : (nI la) = y23 := (hy23.trans (hla (by omega))).symm
              refine lv_aload_n hx hb dX12_workName_190 rfl (lv_at hl 5 rfl) ?_
              refine va_get (D := (dC, dI)) (ci := 12) (v := .ref (a 17)) (C := RX12) (T := TX12) (N := 163) (fs := fM (vS a vi vj)) hx hb hts iwsRX12_workName_in12 hown hK hP 0 rfl rfl 40 (by decide) (hts (.fieldLink RX12 74 "OptimaWorksModel" "setMany" "[I") (by decide +kernel)) (fun _ h9 => h9) rfl dX12_workName_191 ?_
              refine lv_iload hx hb dX12_workName_194 (lv_at hl 0 rfl) ?_
              refine va_iald (cA := k 17) (n := 44) (f := (vF 17)) hx hb hK hP 18 17 (WR_get 17 (by decide)) (TR_get 17 (by decide)) (vp_in_nI (show o2 < 44 by omega) (by omega)) dX12_workName_196 ?_
              refine lv_topi (fun y24 hy24 => ?_)
              obtain rfl : ((vF 17) o2) = y24 := (hy24.trans (by rw [nI_clamp (by omega)])).symm
              refine lv_topi (fun y25 hy25 => ?_)
              obtain rfl : (nI m2) = y25 := (hy25.trans (em2)).symm
              refine lv_imul hx hb dX12_workName_197 ?_
              refine lv_topi (fun y26 hy26 => ?_)
              obtain rfl : (nI (la * m2)) = y26 := (hy26.trans (pk_mul la m2)).symm
              refine lv_aload_n hx hb dX12_workName_198 rfl (lv_at hl 5 rfl) ?_
              refine lv_iload hx hb dX12_workName_199 (lv_at hl 0 rfl) ?_
              refine lv_aload_n hx hb dX12_workName_201 rfl (lv_at hl 5 rfl) ?_
              refine va_get (D := (dC, dI)) (ci := 12) (v := .ref (a 35)) (C := RX12) (T := TX12) (N := 163) (fs := fM (vS a vi vj)) hx hb hts iwsRX12_workName_in12 hown hK hP 0 rfl rfl 59 (by decide) (hts (.fieldLink RX12 128 "OptimaWorksModel" "firstB" "[I") (by decide +kernel)) (fun _ h9 => h9) rfl dX12_workName_202 ?_
              refine lv_iload_n hx hb dX12_workName_205 rfl (lv_at hl 7 rfl) ?_
              refine va_iald (cA := k 35) (n := 4200) (f := (vF 35)) hx hb hK hP 36 35 (WR_get 35 (by decide)) (TR_get 35 (by decide)) (vp_in_nI (show nN < 4200 by omega) (by omega)) dX12_workName_206 ?_
              refine lv_topi (fun y27 hy27 => ?_)
              obtain rfl : ((vF 35) nN) = y27 := (hy27.trans (by rw [nI_clamp (by omega)])).symm
              have hFc := allFree hD hS hA
              refine va_calli (va_runV (As := [.int (nI o2), .int ((vF 35) nN)]) (rest := [.int (nI (la * m2)), .int (nI fN), .ref (a 54)]) ⟨hx, hb, hml, hown, hts⟩ (r_X12_member l dC dI a k h0 vi vj (fT vF 53 (upd (vF 53) ((nI fN)).toNatClampNeg (nI (sN + 1)))) vG o2 ((vF 35) nN) se m2 hN (by first | with_reducible assumption | decide | omega | rfl | assumption) (by first | with_reducible assumption | decide | omega | rfl | assumption) (hoS2) (em2) (⟨hm2a, hm2b⟩) (hpl.trans (congrArg nI (show pN = hN + 1 by omega))) (by first | with_reducible assumption | decide | omega | rfl | assumption) (hRw hN (by omega)) (by first | with_reducible assumption | decide | omega | rfl | assumption) (by first | with_reducible assumption | decide | omega | rfl | assumption) H.size) (cwV 2 hts gwsRX12_workName_1 rfl rfl rfl hd_yX12_member_RX12 (by decide +kernel)) (fz_pre (va_recv hK hP (ci := 12) (q0 := 0) rfl rfl) hP hK hD) rfl rfl hl.1 rfl (lv_room (Nat.le_of_ble_eq_true rfl)) dX12_workName_207 (by decide +kernel)) hS (fun q _ h => hFc q h) hFc (fun r207 u t9_ H locs ht hvm hw9 hB9 hz1 hk1 hS => ?_)
              revert u hw9 hB9
              refine fz_p2 ?_
              intro s2207 p2207 hw9 hB9
              try dsimp only at hw9 hB9
              have hP : va_P (dC, dI) vwCl (WR a k h0 (fT (fT (fT vi 81 (nI hN)) 21 s2207) 22 p2207) vj (fT vF 53 (upd (vF 53) ((nI fN)).toNatClampNeg (nI (sN + 1)))) vG) H := fz_P ht hB9.1
              have hD := fz_sd hP (hB9.2.weaken (fun _ q _ h => hFc q.1 h)) rfl
              revert hw9
              refine fz_a2 ?_
              intro f207_0 f207_1
              have f207_1 : (0 < (s2207).toInt) ∨ (s2207 = (vi 21) ∧ ∃ k, k < 12 ∧ (r207) = nI k ∧ (vF 17) o2 = nI m2 ∧ k < m2) := f207_1
              refine lv_iadd hx hb dX12_workName_210 ?_
              refine va_iast (cA := k 54) (n := 4300) (f := (vF 54)) hx hb hK hP hD hS 55 54 (WR_get 54 (by decide)) (TR_get 54 (by decide)) (vp_in_nI (show fN < 4300 by omega) (by omega)) dX12_workName_211 (fun H locs hP hD hS => ?_)
              have hP : va_P (dC, dI) vwCl (WR a k h0 (fT (fT (fT vi 81 (nI hN)) 21 s2207) 22 p2207) vj (fT (fT vF 53 (upd (vF 53) ((nI fN)).toNatClampNeg (nI (sN + 1)))) 54 (upd (vF 54) ((nI fN)).toNatClampNeg ((nI (la * m2)) + r207))) vG) H := fz_w (WR_F 54 (by decide) _ rfl) hP
              have hD : va_D A (WR a k h0 (fT (fT (fT vi 81 (nI hN)) 21 s2207) 22 p2207) vj (fT (fT vF 53 (upd (vF 53) ((nI fN)).toNatClampNeg (nI (sN + 1)))) 54 (upd (vF 54) ((nI fN)).toNatClampNeg ((nI (la * m2)) + r207))) vG) := fz_wD (WR_F 54 (by decide) _ rfl) hD
              have e9 : fT (fT (fT (fT vi 21 s2207) 22 p2207) 82 (vi 82)) 81 (nI hN) = fT (fT (fT vi 81 (nI hN)) 21 s2207) 22 p2207 := Eq.trans (mv_1 rfl) (Eq.trans (id_3 rfl) (Eq.trans (mv_2 rfl) (mv_2 rfl)))
              have hP := wr_Pi e9 hP
              have hD := wr_Di e9 hD
              clear e9
              have hl : lv_has _ _ ([(0, .ref h0), (1, .int (nI fN)), (2, .int (nI nN)), (3, .int zk), (4, .int (nI aN))]) := lv_sub hl [5, 6, 7, 4, 3] rfl
              exact join4 _ _ _ _ ⟨s2207, p2207, (vi 82), hN, (upd (vF 54) ((nI fN)).toNatClampNeg ((nI (la * m2)) + r207)), by omega, f207_0, by (rcases f207_1 with h9 | ⟨h9, _⟩); (exact Or.inr h9); (exact Or.inl h9), by (rcases f207_1 with h9 | ⟨h9, k9, hk9, hr9, e17, hkm⟩); (exact Or.inl h9); (exact Or.inr ⟨la * m2 + k9, by omega, by rw [upd_at (by omega), if_pos rfl, hr9]; exact nI_add _ _, LmK.l2 hN17 (by omega) em1 hm1b em2 hm2b (fun h2 => hlb.use h2 hN30 haN4 hN19 hplN.2.1 ((congrFun hN17 o1).trans em1) hm1b) hkm⟩), fun q hq => by rw [upd_at (by omega), if_neg (by omega)], rfl, hP, hD, hS, hl⟩
            · have t_131 : (((sN + 1) : Nat) : Int) = 2 := toI_nne c_131 (nI_toInt (by omega)) (by decide)
              have hoS1 : o1 < se := hPk.1 (by omega)
              obtain ⟨⟨m1, hm1a, hm1b, em1⟩, _⟩ := hSe o1 hoS1
              refine lv_aload_n hx hb dX12_workName_134 rfl (lv_at hl 5 rfl) ?_
              refine va_get (D := (dC, dI)) (ci := 12) (v := .ref (a 54)) (C := RX12) (T := TX12) (N := 163) (fs := fM (vS a vi vj)) hx hb hts iwsRX12_workName_in12 hown hK hP 0 rfl rfl 87 (by decide) (hts _ hm_r_X12_workName_1) (fun _ h9 => h9) rfl dX12_workName_135 ?_
              refine lv_iload_n hx hb dX12_workName_138 rfl (lv_at hl 6 rfl) ?_
              refine lv_aload_n hx hb dX12_workName_139 rfl (lv_at hl 5 rfl) ?_
              refine lv_iload hx hb dX12_workName_140 (lv_at hl 1 rfl) ?_
              refine lv_aload_n hx hb dX12_workName_142 rfl (lv_at hl 5 rfl) ?_
              refine va_get (D := (dC, dI)) (ci := 12) (v := .ref (a 34)) (C := RX12) (T := TX12) (N := 163) (fs := fM (vS a vi vj)) hx hb hts iwsRX12_workName_in12 hown hK hP 0 rfl rfl 58 (by decide) (hts (.fieldLink RX12 125 "OptimaWorksModel" "firstA" "[I") (by decide +kernel)) (fun _ h9 => h9) rfl dX12_workName_143 ?_
              refine lv_iload_n hx hb dX12_workName_146 rfl (lv_at hl 7 rfl) ?_
              refine va_iald (cA := k 34) (n := 4200) (f := (vF 34)) hx hb hK hP 35 34 (WR_get 34 (by decide)) (TR_get 34 (by decide)) (vp_in_nI (show nN < 4200 by omega) (by omega)) dX12_workName_147 ?_
              refine lv_topi (fun y28 hy28 => ?_)
              obtain rfl : ((vF 34) nN) = y28 := (hy28.trans (by rw [nI_clamp (by omega)])).symm
              have hFc := allFree hD hS hA
              refine va_calli (va_runV (As := [.int (nI o1), .int ((vF 34) nN)]) (rest := [.int (nI fN), .ref (a 54)]) ⟨hx, hb, hml, hown, hts⟩ (r_X12_member l dC dI a k h0 vi vj (fT vF 53 (upd (vF 53) ((nI fN)).toNatClampNeg (nI (sN + 1)))) vG o1 ((vF 34) nN) se m1 hN (by first | with_reducible assumption | decide | omega | rfl | assumption) (by first | with_reducible assumption | decide | omega | rfl | assumption) (hoS1) (em1) (⟨hm1a, hm1b⟩) (hpl.trans (congrArg nI (show pN = hN + 1 by omega))) (by first | with_reducible assumption | decide | omega | rfl | assumption) (hRw hN (by omega)) (by first | with_reducible assumption | decide | omega | rfl | assumption) (by first | with_reducible assumption | decide | omega | rfl | assumption) H.size) (cwV 2 hts gwsRX12_workName_1 rfl rfl rfl hd_yX12_member_RX12 (by decide +kernel)) (fz_pre (va_recv hK hP (ci := 12) (q0 := 0) rfl rfl) hP hK hD) rfl rfl hl.1 rfl (lv_room (Nat.le_of_ble_eq_true rfl)) dX12_workName_148 (by decide +kernel)) hS (fun q _ h => hFc q h) hFc (fun r148 u t9_ H locs ht hvm hw9 hB9 hz1 hk1 hS => ?_)
              revert u hw9 hB9
              refine fz_p2 ?_
              intro s2148 p2148 hw9 hB9
              try dsimp only at hw9 hB9
              have hP : va_P (dC, dI) vwCl (WR a k h0 (fT (fT (fT vi 81 (nI hN)) 21 s2148) 22 p2148) vj (fT vF 53 (upd (vF 53) ((nI fN)).toNatClampNeg (nI (sN + 1)))) vG) H := fz_P ht hB9.1
              have hD := fz_sd hP (hB9.2.weaken (fun _ q _ h => hFc q.1 h)) rfl
              revert hw9
              refine fz_a2 ?_
              intro f148_0 f148_1
              have f148_1 : (0 < (s2148).toInt) ∨ (s2148 = (vi 21) ∧ ∃ k, k < 12 ∧ (r148) = nI k ∧ (vF 17) o1 = nI m1 ∧ k < m1) := f148_1
              refine va_iast (cA := k 54) (n := 4300) (f := (vF 54)) hx hb hK hP hD hS 55 54 (WR_get 54 (by decide)) (TR_get 54 (by decide)) (vp_in_nI (show fN < 4300 by omega) (by omega)) dX12_workName_151 (fun H locs hP hD hS => ?_)
              have hP : va_P (dC, dI) vwCl (WR a k h0 (fT (fT (fT vi 81 (nI hN)) 21 s2148) 22 p2148) vj (fT (fT vF 53 (upd (vF 53) ((nI fN)).toNatClampNeg (nI (sN + 1)))) 54 (upd (vF 54) ((nI fN)).toNatClampNeg r148)) vG) H := fz_w (WR_F 54 (by decide) _ rfl) hP
              have hD : va_D A (WR a k h0 (fT (fT (fT vi 81 (nI hN)) 21 s2148) 22 p2148) vj (fT (fT vF 53 (upd (vF 53) ((nI fN)).toNatClampNeg (nI (sN + 1)))) 54 (upd (vF 54) ((nI fN)).toNatClampNeg r148)) vG) := fz_wD (WR_F 54 (by decide) _ rfl) hD
              refine lv_iload hx hb dX12_workName_152 (lv_at hl 2 rfl) ?_
              refine lv_iconst (v := 1) hx hb dX12_workName_154 (by decide) ?_
              refine lv_icmp_le (tgt := 169) hx hb dX12_workName_155 (by decide) (fun c_155 => ?_) (fun c_155 => ?_)
              · have t_155 : ((plN : Nat) : Int) ≤ 1 := toI_le c_155 (nI_toInt (by omega)) (by decide)
                refine lv_aload_n hx hb dX12_workName_169 rfl (lv_at hl 5 rfl) ?_
                refine va_get (D := (dC, dI)) (ci := 12) (v := .ref (a 53)) (C := RX12) (T := TX12) (N := 163) (fs := fM (vS a (fT (fT (fT vi 81 (nI hN)) 21 s2148) 22 p2148) vj)) hx hb hts iwsRX12_workName_in12 hown hK hP 0 rfl rfl 86 (by decide) (hts _ hm_r_X12_workName_0) (fun _ h9 => h9) rfl dX12_workName_170 ?_
                refine lv_iload_n hx hb dX12_workName_173 rfl (lv_at hl 6 rfl) ?_
                refine va_iald (cA := k 53) (n := 4300) (f := (upd (vF 53) ((nI fN)).toNatClampNeg (nI (sN + 1)))) hx hb hK hP 54 53 (WR_get 53 (by decide)) (TR_get 53 (by decide)) (vp_in_nI (show fN < 4300 by omega) (by omega)) dX12_workName_174 ?_
                refine lv_topi (fun y29 hy29 => ?_)
                obtain rfl : ((upd (vF 53) ((nI fN)).toNatClampNeg (nI (sN + 1))) fN) = y29 := (hy29.trans (by rw [nI_clamp (by omega)])).symm
                refine lv_topi (fun y30 hy30 => ?_)
                obtain rfl : (nI (sN + 1)) = y30 := (hy30.trans ((by rw [upd_at (by omega), if_pos rfl]))).symm
                refine lv_iconst (v := 3) hx hb dX12_workName_175 (by decide) ?_
                refine lv_icmp_ne (tgt := 212) hx hb dX12_workName_176 (by decide) (fun c_176 => ?_) (fun c9 => False.elim (by have t9 : (((sN + 1) : Nat) : Int) = 3 := toI_nne c9 (nI_toInt (by omega)) (by decide); omega))
                have t_176 : (((sN + 1) : Nat) : Int) ≠ 3 := toI_ne c_176 (nI_toInt (by omega)) (by decide)
                have e9 : fT (fT (fT (fT vi 21 s2148) 22 p2148) 82 (vi 82)) 81 (nI hN) = fT (fT (fT vi 81 (nI hN)) 21 s2148) 22 p2148 := Eq.trans (mv_1 rfl) (Eq.trans (id_3 rfl) (Eq.trans (mv_2 rfl) (mv_2 rfl)))
                have hP := wr_Pi e9 hP
                have hD := wr_Di e9 hD
                clear e9
                have hl : lv_has _ _ ([(0, .ref h0), (1, .int (nI fN)), (2, .int (nI nN)), (3, .int zk), (4, .int (nI aN))]) := lv_sub hl [5, 6, 7, 4, 3] rfl
                exact join4 _ _ _ _ ⟨s2148, p2148, (vi 82), hN, (upd (vF 54) ((nI fN)).toNatClampNeg r148), by omega, f148_0, by (rcases f148_1 with h9 | ⟨h9, _⟩); (exact Or.inr h9); (exact Or.inl h9), by (rcases f148_1 with h9 | ⟨h9, k9, hk9, hr9, e17, hkm⟩); (exact Or.inl h9); (exact Or.inr ⟨k9, by omega, by rw [upd_at (by omega), if_pos rfl]; exact hr9, LmK.l1 hN17 (by omega) e17 hm1b hkm⟩), fun q hq => by rw [upd_at (by omega), if_neg (by omega)], rfl, hP, hD, hS, hl⟩
              · have t_155 : ¬ ((plN : Nat) : Int) ≤ 1 := toI_nle c_155 (nI_toInt (by omega)) (by decide)
                refine lv_aload_n hx hb dX12_workName_158 rfl (lv_at hl 5 rfl) ?_
                refine lv_aload_n hx hb dX12_workName_159 rfl (lv_at hl 5 rfl) ?_
                refine va_get (D := (dC, dI)) (ci := 12) (v := .ref (a 32)) (C := RX12) (T := TX12) (N := 163) (fs := fM (vS a (fT (fT (fT vi 81 (nI hN)) 21 s2148) 22 p2148) vj)) hx hb hts iwsRX12_workName_in12 hown hK hP 0 rfl rfl 56 (by decide) (hts (.fieldLink RX12 119 "OptimaWorksModel" "partC" "[I") (by decide +kernel)) (fun _ h9 => h9) rfl dX12_workName_160 ?_
                refine lv_iload_n hx hb dX12_workName_163 rfl (lv_at hl 7 rfl) ?_
                refine va_iald (cA := k 32) (n := 4200) (f := (vF 32)) hx hb hK hP 33 32 (WR_get 32 (by decide)) (TR_get 32 (by decide)) (vp_in_nI (show nN < 4200 by omega) (by omega)) dX12_workName_164 ?_
                refine lv_topi (fun y31 hy31 => ?_)
                obtain rfl : ((vF 32) nN) = y31 := (hy31.trans (by rw [nI_clamp (by omega)])).symm
                refine lv_topi (fun y32 hy32 => ?_)
                obtain rfl : (nI eN) = y32 := (hy32.trans ((heN (by omega)).1)).symm
                have hFc := allFree hD hS hA
                refine va_callv (va_runV (As := [.int (nI eN)]) (rest := []) ⟨hx, hb, hml, hown, hts⟩ (r_X12_call l dC dI a k h0 (fT (fT (fT vi 81 (nI hN)) 21 s2148) 22 p2148) vj (fT (fT vF 53 (upd (vF 53) ((nI fN)).toNatClampNeg (nI (sN + 1)))) 54 (upd (vF 54) ((nI fN)).toNatClampNeg r148)) vG (nI eN) fr hfr9 (by first | with_reducible assumption | decide | omega | rfl | assumption) H.size) (cwV 1 hts gwsRX12_workName_2 rfl rfl rfl hd_yX12_call_RX12 (by decide +kernel)) (fz_pre (va_recv hK hP (ci := 12) (q0 := 0) rfl rfl) hP hK hD) rfl rfl hl.1 rfl (lv_room (Nat.le_of_ble_eq_true rfl)) dX12_workName_165 (by decide +kernel)) hS (fun q _ h => hFc q h) hFc (fun u t9_ H locs ht hvm hw9 hB9 hz1 hk1 hS => ?_)
                have e9F : fT (fT (fT vF 53 (upd (upd (vF 53) ((nI fN)).toNatClampNeg (nI (sN + 1))) (nI fr).toNatClampNeg 0)) 54 (upd (vF 54) ((nI fN)).toNatClampNeg r148)) 52 (upd (vF 52) (nI fr).toNatClampNeg (nI eN)) = fT (fT (fT (fT vF 53 (upd (vF 53) ((nI fN)).toNatClampNeg (nI (sN + 1)))) 54 (upd (vF 54) ((nI fN)).toNatClampNeg r148)) 52 (upd (vF 52) (nI fr).toNatClampNeg (nI eN))) 53 (upd (upd (vF 53) ((nI fN)).toNatClampNeg (nI (sN + 1))) (nI fr).toNatClampNeg 0) := ((fT_sw _ _ _ (Nat.ne_of_beq_eq_false rfl)).trans (congrArg (fun g9 => fT g9 52 (upd (vF 52) (nI fr).toNatClampNeg (nI eN))) ((fT_sw _ _ _ (Nat.ne_of_beq_eq_false rfl)).trans (congrArg (fun g9 => fT g9 54 (upd (vF 54) ((nI fN)).toNatClampNeg r148)) (fT_sm _ _ _ _))))).symm
                have hP := wr_PF e9F (fz_P ht hB9.1)
                have hD := wr_DF e9F (hB9.2.weaken (fun _ q _ h => hFc q.1 h))
                clear e9F
                refine W.widen (k := 0) (n := 0) (by decide +kernel) (by decide +kernel) ?_
                have e9 : fT (fT (fT (fT (fT vi 21 s2148) 22 p2148) 82 (vi 82)) 81 (nI hN)) 89 (nI (fr + 1)) = fT (fT (fT (fT vi 81 (nI hN)) 21 s2148) 22 p2148) 89 (nI (fr + 1)) := Eq.trans (mv_2 rfl) (Eq.trans (id_4 rfl) (Eq.trans (mv_1 rfl) (Eq.trans (mv_3 rfl) (Eq.trans (mv_3 rfl) (mv_3 rfl)))))
                have hP := wr_Pi e9 hP
                have hD := wr_Di e9 hD
                clear e9
                have e9 : fT (fT (fT (fT (fT vF 53 (upd (upd (vF 53) ((nI fN)).toNatClampNeg (nI (sN + 1))) (nI fr).toNatClampNeg 0)) 54 (upd (vF 54) ((nI fN)).toNatClampNeg r148)) 49 (vF 49)) 50 (vF 50)) 52 (upd (vF 52) (nI fr).toNatClampNeg (nI eN)) = fT (fT (fT vF 53 (upd (upd (vF 53) ((nI fN)).toNatClampNeg (nI (sN + 1))) (nI fr).toNatClampNeg 0)) 54 (upd (vF 54) ((nI fN)).toNatClampNeg r148)) 52 (upd (vF 52) (nI fr).toNatClampNeg (nI eN)) := Eq.trans (mv_2 rfl) (Eq.trans (id_4 rfl) (Eq.trans (mv_1 rfl) (id_3 rfl)))
                have hP := wr_PF e9 hP
                have hD := wr_DF e9 hD
                clear e9
                exact W.vret hx hb hr (fun t9_ ht hW => ⟨⟨((vF 49), (vF 50), (upd (vF 52) (nI fr).toNatClampNeg (nI eN)), (upd (upd (vF 53) ((nI fN)).toNatClampNeg (nI (sN + 1))) (nI fr).toNatClampNeg 0), (upd (vF 54) ((nI fN)).toNatClampNeg r148), (fr + 1), hN, s2148, p2148, (vi 82)), rfl, by (try dsimp only); exact ⟨fun v9 h9 => hRw v9 (by clear f148_1; omega), f148_0, by (rcases f148_1 with h9 | ⟨h9, _⟩); (exact Or.inr h9); (exact Or.inl h9), by (rcases f148_1 with h9 | ⟨h9, k9, hk9, hr9, e17, hkm⟩); (exact Or.inl h9); (exact Or.inr (by (obtain rfl : sN = 1 := by omega); (obtain ⟨e32, heT⟩ := heN (by omega)); (have hq2 := heT.2.2.2.1); (have hq3 := hTo.name1 hkk heT); exact StpO.push 2 k9 1 hfN hfr1 (fun q hq => by rw [upd_at (by omega), if_neg (by omega)]) (fun _ => by rw [upd_at (by omega), if_pos rfl]; exact hr9) heT.2.1 heT.2.2.1 (by omega) (WtO.n2 hkk heT.2.2.2.2 (by omega) (LaB.mk hk9 hN30 haN4 hN19 hplN.2.1 ((congrFun hN17 o1).trans e17) hm1b hkm) heT) (by omega))), by clear f148_1; omega⟩, by rw [ht]; exact hP, hD⟩, hS.F ht⟩) hS.2.2 dX12_workName_168
          · have t_94 : (((sN + 1) : Nat) : Int) = 1 := toI_nne c_94 (nI_toInt (by omega)) (by decide)
            refine lv_aload_n hx hb dX12_workName_97 rfl (lv_at hl 5 rfl) ?_
            have hFc := allFree hD hS hA
            refine va_callv (va_runV (As := []) (rest := []) ⟨hx, hb, hml, hown, hts⟩ (r_X12_stepOne l dC dI a k h0 vi vj (fT vF 53 (upd (vF 53) ((nI fN)).toNatClampNeg (nI (sN + 1)))) vG (by first | with_reducible assumption | decide | omega | rfl | assumption) H.size) (cwV 0 hts gwsRX12_workName_3 rfl rfl rfl hd_yX12_stepOne_RX12 (by decide +kernel)) (fz_pre (va_recv hK hP (ci := 12) (q0 := 0) rfl rfl) hP hK hD) rfl rfl hl.1 rfl (lv_room (Nat.le_of_ble_eq_true rfl)) dX12_workName_98 (by decide +kernel)) hS (fun q _ h => hFc q h) hFc (fun u t9_ H locs ht hvm hw9 hB9 hz1 hk1 hS => ?_)
            revert u hw9 hB9
            refine fz_p3 ?_
            intro s298 p298 sp298 hw9 hB9
            try dsimp only at hw9 hB9
            have hP : va_P (dC, dI) vwCl (WR a k h0 (fT (fT (fT vi 21 s298) 22 p298) 82 sp298) vj (fT vF 53 (upd (vF 53) ((nI fN)).toNatClampNeg (nI (sN + 1)))) vG) H := fz_P ht hB9.1
            have hD := fz_sd hP (hB9.2.weaken (fun _ q _ h => hFc q.1 h)) rfl
            revert hw9
            refine fz_a2 ?_
            intro f98_0 f98_1
            have f98_1 : s298 = (vi 21) ∨ 0 < (s298).toInt := f98_1
            refine lv_aload_n hx hb dX12_workName_101 rfl (lv_at hl 5 rfl) ?_
            refine va_get (D := (dC, dI)) (ci := 12) (v := .ref (a 54)) (C := RX12) (T := TX12) (N := 163) (fs := fM (vS a (fT (fT (fT vi 21 s298) 22 p298) 82 sp298) vj)) hx hb hts iwsRX12_workName_in12 hown hK hP 0 rfl rfl 87 (by decide) (hts _ hm_r_X12_workName_1) (fun _ h9 => h9) rfl dX12_workName_102 ?_
            refine lv_iload_n hx hb dX12_workName_105 rfl (lv_at hl 6 rfl) ?_
            refine lv_iconst (v := 0) hx hb dX12_workName_106 (by decide) ?_
            refine va_iast (cA := k 54) (n := 4300) (f := (vF 54)) hx hb hK hP hD hS 55 54 (WR_get 54 (by decide)) (TR_get 54 (by decide)) (vp_in_nI (show fN < 4300 by omega) (by omega)) dX12_workName_107 (fun H locs hP hD hS => ?_)
            have hP : va_P (dC, dI) vwCl (WR a k h0 (fT (fT (fT vi 21 s298) 22 p298) 82 sp298) vj (fT (fT vF 53 (upd (vF 53) ((nI fN)).toNatClampNeg (nI (sN + 1)))) 54 (upd (vF 54) ((nI fN)).toNatClampNeg 0)) vG) H := fz_w (WR_F 54 (by decide) _ rfl) hP
            have hD : va_D A (WR a k h0 (fT (fT (fT vi 21 s298) 22 p298) 82 sp298) vj (fT (fT vF 53 (upd (vF 53) ((nI fN)).toNatClampNeg (nI (sN + 1)))) 54 (upd (vF 54) ((nI fN)).toNatClampNeg 0)) vG) := fz_wD (WR_F 54 (by decide) _ rfl) hD
            refine lv_iload hx hb dX12_workName_108 (lv_at hl 2 rfl) ?_
            refine lv_if_le (tgt := 124) hx hb dX12_workName_110 (by decide) (fun c_110 => ?_) (fun c_110 => ?_)
            · have t_110 : ((plN : Nat) : Int) ≤ 0 := toI_le c_110 (nI_toInt (by omega)) (by decide)
              refine lv_aload_n hx hb dX12_workName_124 rfl (lv_at hl 5 rfl) ?_
              refine va_get (D := (dC, dI)) (ci := 12) (v := .ref (a 53)) (C := RX12) (T := TX12) (N := 163) (fs := fM (vS a (fT (fT (fT vi 21 s298) 22 p298) 82 sp298) vj)) hx hb hts iwsRX12_workName_in12 hown hK hP 0 rfl rfl 86 (by decide) (hts _ hm_r_X12_workName_0) (fun _ h9 => h9) rfl dX12_workName_125 ?_
              refine lv_iload_n hx hb dX12_workName_128 rfl (lv_at hl 6 rfl) ?_
              refine va_iald (cA := k 53) (n := 4300) (f := (upd (vF 53) ((nI fN)).toNatClampNeg (nI (sN + 1)))) hx hb hK hP 54 53 (WR_get 53 (by decide)) (TR_get 53 (by decide)) (vp_in_nI (show fN < 4300 by omega) (by omega)) dX12_workName_129 ?_
              refine lv_topi (fun y33 hy33 => ?_)
              obtain rfl : ((upd (vF 53) ((nI fN)).toNatClampNeg (nI (sN + 1))) fN) = y33 := (hy33.trans (by rw [nI_clamp (by omega)])).symm
              refine lv_topi (fun y34 hy34 => ?_)
              obtain rfl : (nI (sN + 1)) = y34 := (hy34.trans ((by rw [upd_at (by omega), if_pos rfl]))).symm
              refine lv_iconst (v := 2) hx hb dX12_workName_130 (by decide) ?_
              refine lv_icmp_ne (tgt := 169) hx hb dX12_workName_131 (by decide) (fun c_131 => ?_) (fun c9 => False.elim (by have t9 : (((sN + 1) : Nat) : Int) = 2 := toI_nne c9 (nI_toInt (by omega)) (by decide); omega))
              have t_131 : (((sN + 1) : Nat) : Int) ≠ 2 := toI_ne c_131 (nI_toInt (by omega)) (by decide)
              refine lv_aload_n hx hb dX12_workName_169 rfl (lv_at hl 5 rfl) ?_
              refine va_get (D := (dC, dI)) (ci := 12) (v := .ref (a 53)) (C := RX12) (T := TX12) (N := 163) (fs := fM (vS a (fT (fT (fT vi 21 s298) 22 p298) 82 sp298) vj)) hx hb hts iwsRX12_workName_in12 hown hK hP 0 rfl rfl 86 (by decide) (hts _ hm_r_X12_workName_0) (fun _ h9 => h9) rfl dX12_workName_170 ?_
              refine lv_iload_n hx hb dX12_workName_173 rfl (lv_at hl 6 rfl) ?_
              refine va_iald (cA := k 53) (n := 4300) (f := (upd (vF 53) ((nI fN)).toNatClampNeg (nI (sN + 1)))) hx hb hK hP 54 53 (WR_get 53 (by decide)) (TR_get 53 (by decide)) (vp_in_nI (show fN < 4300 by omega) (by omega)) dX12_workName_174 ?_
              refine lv_topi (fun y35 hy35 => ?_)
              obtain rfl : ((upd (vF 53) ((nI fN)).toNatClampNeg (nI (sN + 1))) fN) = y35 := (hy35.trans (by rw [nI_clamp (by omega)])).symm
              refine lv_topi (fun y36 hy36 => ?_)
              obtain rfl : (nI (sN + 1)) = y36 := (hy36.trans ((by rw [upd_at (by omega), if_pos rfl]))).symm
              refine lv_iconst (v := 3) hx hb dX12_workName_175 (by decide) ?_
              refine lv_icmp_ne (tgt := 212) hx hb dX12_workName_176 (by decide) (fun c_176 => ?_) (fun c9 => False.elim (by have t9 : (((sN + 1) : Nat) : Int) = 3 := toI_nne c9 (nI_toInt (by omega)) (by decide); omega))
              have t_176 : (((sN + 1) : Nat) : Int) ≠ 3 := toI_ne c_176 (nI_toInt (by omega)) (by decide)
              have e9 : fT (fT (fT (fT vi 21 s298) 22 p298) 82 sp298) 81 (nI pN) = fT (fT (fT vi 21 s298) 22 p298) 82 sp298 := Eq.trans (congrArg (fT _ 81) (show nI pN = vi 81 from (by first | with_reducible rfl | with_reducible assumption | (symm; with_reducible assumption) | rfl | assumption | (symm; assumption) | (subst_vars; rfl)))) (id_3 rfl)
              have hP := wr_Pi e9 hP
              have hD := wr_Di e9 hD
              clear e9
              have hl : lv_has _ _ ([(0, .ref h0), (1, .int (nI fN)), (2, .int (nI nN)), (3, .int zk), (4, .int (nI aN))]) := lv_sub hl [5, 6, 7, 4, 3] rfl
              exact join4 _ _ _ _ ⟨s298, p298, sp298, pN, (upd (vF 54) ((nI fN)).toNatClampNeg 0), by omega, f98_0, f98_1, Or.inr ⟨0, by omega, by rw [upd_at (by omega), if_pos rfl]; exact nI_0.symm, LmK.l0 (by omega)⟩, fun q hq => by rw [upd_at (by omega), if_neg (by omega)], rfl, hP, hD, hS, hl⟩
            · have t_110 : ¬ ((plN : Nat) : Int) ≤ 0 := toI_nle c_110 (nI_toInt (by omega)) (by decide)
              refine lv_aload_n hx hb dX12_workName_113 rfl (lv_at hl 5 rfl) ?_
              refine lv_aload_n hx hb dX12_workName_114 rfl (lv_at hl 5 rfl) ?_
              refine va_get (D := (dC, dI)) (ci := 12) (v := .ref (a 31)) (C := RX12) (T := TX12) (N := 163) (fs := fM (vS a (fT (fT (fT vi 21 s298) 22 p298) 82 sp298) vj)) hx hb hts iwsRX12_workName_in12 hown hK hP 0 rfl rfl 55 (by decide) (hts (.fieldLink RX12 116 "OptimaWorksModel" "partB" "[I") (by decide +kernel)) (fun _ h9 => h9) rfl dX12_workName_115 ?_
              refine lv_iload_n hx hb dX12_workName_118 rfl (lv_at hl 7 rfl) ?_
              refine va_iald (cA := k 31) (n := 4200) (f := (vF 31)) hx hb hK hP 32 31 (WR_get 31 (by decide)) (TR_get 31 (by decide)) (vp_in_nI (show nN < 4200 by omega) (by omega)) dX12_workName_119 ?_
              refine lv_topi (fun y37 hy37 => ?_)
              obtain rfl : ((vF 31) nN) = y37 := (hy37.trans (by rw [nI_clamp (by omega)])).symm
              refine lv_topi (fun y38 hy38 => ?_)
              obtain rfl : (nI dN) = y38 := (hy38.trans ((hdN (by omega)).1)).symm
              have hFc := allFree hD hS hA
              refine va_callv (va_runV (As := [.int (nI dN)]) (rest := []) ⟨hx, hb, hml, hown, hts⟩ (r_X12_call l dC dI a k h0 (fT (fT (fT vi 21 s298) 22 p298) 82 sp298) vj (fT (fT vF 53 (upd (vF 53) ((nI fN)).toNatClampNeg (nI (sN + 1)))) 54 (upd (vF 54) ((nI fN)).toNatClampNeg 0)) vG (nI dN) fr hfr9 (by first | with_reducible assumption | decide | omega | rfl | assumption) H.size) (cwV 1 hts gwsRX12_workName_2 rfl rfl rfl hd_yX12_call_RX12 (by decide +kernel)) (fz_pre (va_recv hK hP (ci := 12) (q0 := 0) rfl rfl) hP hK hD) rfl rfl hl.1 rfl (lv_room (Nat.le_of_ble_eq_true rfl)) dX12_workName_120 (by decide +kernel)) hS (fun q _ h => hFc q h) hFc (fun u t9_ H locs ht hvm hw9 hB9 hz1 hk1 hS => ?_)
              have e9F : fT (fT (fT vF 53 (upd (upd (vF 53) ((nI fN)).toNatClampNeg (nI (sN + 1))) (nI fr).toNatClampNeg 0)) 54 (upd (vF 54) ((nI fN)).toNatClampNeg 0)) 52 (upd (vF 52) (nI fr).toNatClampNeg (nI dN)) = fT (fT (fT (fT vF 53 (upd (vF 53) ((nI fN)).toNatClampNeg (nI (sN + 1)))) 54 (upd (vF 54) ((nI fN)).toNatClampNeg 0)) 52 (upd (vF 52) (nI fr).toNatClampNeg (nI dN))) 53 (upd (upd (vF 53) ((nI fN)).toNatClampNeg (nI (sN + 1))) (nI fr).toNatClampNeg 0) := ((fT_sw _ _ _ (Nat.ne_of_beq_eq_false rfl)).trans (congrArg (fun g9 => fT g9 52 (upd (vF 52) (nI fr).toNatClampNeg (nI dN))) ((fT_sw _ _ _ (Nat.ne_of_beq_eq_false rfl)).trans (congrArg (fun g9 => fT g9 54 (upd (vF 54) ((nI fN)).toNatClampNeg 0)) (fT_sm _ _ _ _))))).symm
              have hP := wr_PF e9F (fz_P ht hB9.1)
              have hD := wr_DF e9F (hB9.2.weaken (fun _ q _ h => hFc q.1 h))
              clear e9F
              refine W.widen (k := 0) (n := 0) (by decide +kernel) (by decide +kernel) ?_
              have e9 : fT (fT (fT (fT (fT vi 21 s298) 22 p298) 82 sp298) 81 (nI pN)) 89 (nI (fr + 1)) = fT (fT (fT (fT vi 21 s298) 22 p298) 82 sp298) 89 (nI (fr + 1)) := Eq.trans (mv_1 rfl) (Eq.trans (congrArg (fT _ 81) (show nI pN = vi 81 from (by first | with_reducible rfl | with_reducible assumption | (symm; with_reducible assumption) | rfl | assumption | (symm; assumption) | (subst_vars; rfl)))) (id_4 rfl))
              have hP := wr_Pi e9 hP
              have hD := wr_Di e9 hD
              clear e9
              have e9 : fT (fT (fT (fT (fT vF 53 (upd (upd (vF 53) ((nI fN)).toNatClampNeg (nI (sN + 1))) (nI fr).toNatClampNeg 0)) 54 (upd (vF 54) ((nI fN)).toNatClampNeg 0)) 49 (vF 49)) 50 (vF 50)) 52 (upd (vF 52) (nI fr).toNatClampNeg (nI dN)) = fT (fT (fT vF 53 (upd (upd (vF 53) ((nI fN)).toNatClampNeg (nI (sN + 1))) (nI fr).toNatClampNeg 0)) 54 (upd (vF 54) ((nI fN)).toNatClampNeg 0)) 52 (upd (vF 52) (nI fr).toNatClampNeg (nI dN)) := Eq.trans (mv_2 rfl) (Eq.trans (id_4 rfl) (Eq.trans (mv_1 rfl) (id_3 rfl)))
              have hP := wr_PF e9 hP
              have hD := wr_DF e9 hD
              clear e9
              exact W.vret hx hb hr (fun t9_ ht hW => ⟨⟨((vF 49), (vF 50), (upd (vF 52) (nI fr).toNatClampNeg (nI dN)), (upd (upd (vF 53) ((nI fN)).toNatClampNeg (nI (sN + 1))) (nI fr).toNatClampNeg 0), (upd (vF 54) ((nI fN)).toNatClampNeg 0), (fr + 1), pN, s298, p298, sp298), rfl, by (try dsimp only); exact ⟨fun v9 h9 => hRw v9 (by omega), f98_0, f98_1, Or.inr (by (obtain rfl : sN = 0 := by omega); (obtain rfl : pN = hN := by omega); (obtain ⟨e31, hdT⟩ := hdN (by omega)); (obtain ⟨hw1, hw2⟩ := hwN.resolve_left (by omega)); (have hq2 := hdT.2.2.2.1); exact StpO.push 1 0 (wt nN - wt dN - 1) hfN hfr1 (fun q hq => by rw [upd_at (by omega), if_neg (by omega)]) (fun _ => by rw [upd_at (by omega), if_pos rfl]; exact nI_0.symm) hdT.2.1 hdT.2.2.1 (by omega) (WtO.n1 hkk hdT.2.2.2.2 (by omega) hdT (fun c h9 => by (have h8 := hw2 c h9); omega)) (by omega)), by omega⟩, by rw [ht]; exact hP, hD⟩, hS.F ht⟩) hS.2.2 dX12_workName_123
        · rintro H locs ls stk ⟨s3, p3, sp3, pq, f54x, hpq, hs30, hs31, hs4, h54, rfl, hP, hD, hS, hl⟩
          refine lv_aload_n hx hb dX12_workName_212 rfl (lv_at hl 0 rfl) ?_
          refine va_get (D := (dC, dI)) (ci := 12) (v := .int s3) (C := RX12) (T := TX12) (N := 163) (fs := fM (vS a (fT (fT (fT (fT vi 21 s3) 22 p3) 82 sp3) 81 (nI pq)) vj)) hx hb hts iwsRX12_workName_in12 hown hK hP 0 rfl rfl 21 (by decide) (hts (.fieldLink RX12 515 "OptimaWorksModel" "stop" "I") (by decide +kernel)) (fun _ h9 => h9) rfl dX12_workName_213 ?_
          refine lv_if_le (tgt := 220) hx hb dX12_workName_216 (by decide) (fun c_216 => ?_) (fun c_216 => ?_)
          · have t_216 : (s3).toInt ≤ 0 := toI_le c_216 rfl (by decide)
            obtain ⟨l4, hl40, hl4, hlk⟩ := hs4.resolve_left (by omega)
            refine lv_aload_n hx hb dX12_workName_220 rfl (lv_at hl 0 rfl) ?_
            refine lv_aload_n hx hb dX12_workName_221 rfl (lv_at hl 0 rfl) ?_
            refine va_get (D := (dC, dI)) (ci := 12) (v := .int (nI pq)) (C := RX12) (T := TX12) (N := 163) (fs := fM (vS a (fT (fT (fT (fT vi 21 s3) 22 p3) 82 sp3) 81 (nI pq)) vj)) hx hb hts iwsRX12_workName_in12 hown hK hP 0 rfl rfl 81 (by decide) (hts _ hm_r_X12_workName_2) (fun _ h9 => h9) rfl dX12_workName_222 ?_
            have hFc := allFree hD hS hA
            refine va_callv (va_runV (As := [.int (nI pq)]) (rest := []) ⟨hx, hb, hml, hown, hts⟩ (r_X12_nought l dC dI a k h0 (fT (fT (fT (fT vi 21 s3) 22 p3) 82 sp3) 81 (nI pq)) vj (fT (fT vF 53 (upd (vF 53) ((nI fN)).toNatClampNeg (nI (sN + 1)))) 54 f54x) vG pq (by first | with_reducible assumption | decide | omega | rfl | assumption) H.size) (cwV 1 hts gwsRX12_workName_4 rfl rfl rfl hd_yX12_nought_RX12 (by decide +kernel)) (fz_pre (va_recv hK hP (ci := 12) (q0 := 0) rfl rfl) hP hK hD) rfl rfl hl.1 rfl (lv_room (Nat.le_of_ble_eq_true rfl)) dX12_workName_225 (by decide +kernel)) hS (fun q _ h => hFc q h) hFc (fun u t9_ H locs ht hvm hw9 hB9 hz1 hk1 hS => ?_)
            revert u hw9 hB9
            refine fz_p2 ?_
            intro f49225 f50225 hw9 hB9
            try dsimp only at hw9 hB9
            have hP : va_P (dC, dI) vwCl (WR a k h0 (fT (fT (fT (fT vi 21 s3) 22 p3) 82 sp3) 81 (nI pq)) vj (fT (fT (fT (fT vF 53 (upd (vF 53) ((nI fN)).toNatClampNeg (nI (sN + 1)))) 54 f54x) 49 f49225) 50 f50225) vG) H := fz_P ht hB9.1
            have hD := fz_sd hP (hB9.2.weaken (fun _ q _ h => hFc q.1 h)) rfl
            revert hw9
            refine fz_a4 ?_
            intro f225_0 f225_1 f225_2 f225_3
            have f225_2 : ∀ q, (q < 9 * pq ∨ 9 * pq + 9 ≤ q) → f49225 q = (vF 49) q := f225_2
            have f225_3 : ∀ q, (q < 9 * pq ∨ 9 * pq + 9 ≤ q) → f50225 q = (vF 50) q := f225_3
            refine lv_iload_n hx hb dX12_workName_228 rfl (lv_at hl 3 rfl) ?_
            refine lv_if_eq (tgt := 297) hx hb dX12_workName_229 (by decide) (fun c_229 => ?_) (fun c_229 => ?_)
            · have t_229 : (zk).toInt = 0 := toI_eq c_229 rfl (by decide)
              refine lv_aload_n hx hb dX12_workName_297 rfl (lv_at hl 0 rfl) ?_
              refine va_get (D := (dC, dI)) (ci := 12) (v := .ref (a 49)) (C := RX12) (T := TX12) (N := 163) (fs := fM (vS a (fT (fT (fT (fT vi 21 s3) 22 p3) 82 sp3) 81 (nI pq)) vj)) hx hb hts iwsRX12_workName_in12 hown hK hP 0 rfl rfl 78 (by decide) (hts _ hm_r_X12_workName_3) (fun _ h9 => h9) rfl dX12_workName_298 ?_
              refine lv_bipush (v := 9) hx hb dX12_workName_301 (by decide) ?_
              refine lv_aload_n hx hb dX12_workName_303 rfl (lv_at hl 0 rfl) ?_
              refine va_get (D := (dC, dI)) (ci := 12) (v := .int (nI pq)) (C := RX12) (T := TX12) (N := 163) (fs := fM (vS a (fT (fT (fT (fT vi 21 s3) 22 p3) 82 sp3) 81 (nI pq)) vj)) hx hb hts iwsRX12_workName_in12 hown hK hP 0 rfl rfl 81 (by decide) (hts _ hm_r_X12_workName_2) (fun _ h9 => h9) rfl dX12_workName_304 ?_
              refine lv_imul hx hb dX12_workName_307 ?_
              refine lv_topi (fun y39 hy39 => ?_)
              obtain rfl : (nI (9 * pq)) = y39 := (hy39.trans (pk_mul 9 pq)).symm
              refine lv_iconst (v := 1) hx hb dX12_workName_308 (by decide) ?_
              refine lv_iadd hx hb dX12_workName_309 ?_
              refine lv_topi (fun y40 hy40 => ?_)
              obtain rfl : (nI ((9 * pq) + 1)) = y40 := (hy40.trans (nI_add (9 * pq) 1)).symm
              refine lv_aload_n hx hb dX12_workName_310 rfl (lv_at hl 0 rfl) ?_
              refine va_get (D := (dC, dI)) (ci := 12) (v := .ref (a 27)) (C := RX12) (T := TX12) (N := 163) (fs := fM (vS a (fT (fT (fT (fT vi 21 s3) 22 p3) 82 sp3) 81 (nI pq)) vj)) hx hb hts iwsRX12_workName_in12 hown hK hP 0 rfl rfl 50 (by decide) (hts (.fieldLink RX12 104 "OptimaWorksModel" "varAt" "[I") (by decide +kernel)) (fun _ h9 => h9) rfl dX12_workName_311 ?_
              refine lv_iload hx hb dX12_workName_314 (lv_at hl 4 rfl) ?_
              refine va_iald (cA := k 27) (n := 44) (f := (vF 27)) hx hb hK hP 28 27 (WR_get 27 (by decide)) (TR_get 27 (by decide)) (vp_in_nI (show aN < 44 by omega) (by omega)) dX12_workName_316 ?_
              refine lv_topi (fun y41 hy41 => ?_)
              obtain rfl : ((vF 27) aN) = y41 := (hy41.trans (by rw [nI_clamp (by omega)])).symm
              refine lv_topi (fun y42 hy42 => ?_)
              obtain rfl : (nI atN) = y42 := (hy42.trans (hA3 (by omega))).symm
              refine lv_iadd hx hb dX12_workName_317 ?_
              refine lv_topi (fun y43 hy43 => ?_)
              obtain rfl : (nI (((9 * pq) + 1) + atN)) = y43 := (hy43.trans (nI_add ((9 * pq) + 1) atN)).symm
              refine lv_aload_n hx hb dX12_workName_318 rfl (lv_at hl 0 rfl) ?_
              refine va_get (D := (dC, dI)) (ci := 12) (v := .ref (a 54)) (C := RX12) (T := TX12) (N := 163) (fs := fM (vS a (fT (fT (fT (fT vi 21 s3) 22 p3) 82 sp3) 81 (nI pq)) vj)) hx hb hts iwsRX12_workName_in12 hown hK hP 0 rfl rfl 87 (by decide) (hts _ hm_r_X12_workName_1) (fun _ h9 => h9) rfl dX12_workName_319 ?_
              refine lv_iload_n hx hb dX12_workName_322 rfl (lv_at hl 1 rfl) ?_
              refine va_iald (cA := k 54) (n := 4300) (f := f54x) hx hb hK hP 55 54 (WR_get 54 (by decide)) (TR_get 54 (by decide)) (vp_in_nI (show fN < 4300 by omega) (by omega)) dX12_workName_323 ?_
              refine lv_topi (fun y44 hy44 => ?_)
              obtain rfl : (f54x fN) = y44 := (hy44.trans (by rw [nI_clamp (by omega)])).symm
              refine lv_topi (fun y45 hy45 => ?_)
              obtain rfl : (nI l4) = y45 := (hy45.trans (hl4)).symm
              refine lv_iadd hx hb dX12_workName_324 ?_
              refine lv_topi (fun y46 hy46 => ?_)
              obtain rfl : (nI ((((9 * pq) + 1) + atN) + l4)) = y46 := (hy46.trans (nI_add (((9 * pq) + 1) + atN) l4)).symm
              refine lv_iconst (v := 1) hx hb dX12_workName_325 (by decide) ?_
              refine va_iast (cA := k 49) (n := 900) (f := f49225) hx hb hK hP hD hS 50 49 (WR_get 49 (by decide)) (TR_get 49 (by decide)) (vp_in_nI (show ((((9 * pq) + 1) + atN) + l4) < 900 by omega) (by omega)) dX12_workName_326 (fun H locs hP hD hS => ?_)
              have e9 : fT (fT (fT (fT vF 53 (upd (vF 53) ((nI fN)).toNatClampNeg (nI (sN + 1)))) 54 f54x) 49 (upd f49225 ((nI ((((9 * pq) + 1) + atN) + l4))).toNatClampNeg 1)) 50 f50225 = fT (fT (fT (fT (fT vF 53 (upd (vF 53) ((nI fN)).toNatClampNeg (nI (sN + 1)))) 54 f54x) 49 f49225) 50 f50225) 49 (upd f49225 ((nI ((((9 * pq) + 1) + atN) + l4))).toNatClampNeg 1) := ((fT_sw _ _ _ (Nat.ne_of_beq_eq_false rfl)).trans (congrArg (fun g9 => fT g9 50 f50225) (fT_sm _ _ _ _))).symm
              have hP := wr_PF e9 (fz_w (WR_F 49 (by decide) _ rfl) hP)
              have hD := wr_DF e9 (fz_wD (WR_F 49 (by decide) _ rfl) hD)
              clear e9
              refine lv_aload_n hx hb dX12_workName_327 rfl (lv_at hl 0 rfl) ?_
              refine lv_dup hx hb dX12_workName_328 rfl ?_
              refine va_get (D := (dC, dI)) (ci := 12) (v := .int (nI pq)) (C := RX12) (T := TX12) (N := 163) (fs := fM (vS a (fT (fT (fT (fT vi 21 s3) 22 p3) 82 sp3) 81 (nI pq)) vj)) hx hb hts iwsRX12_workName_in12 hown hK hP 0 rfl rfl 81 (by decide) (hts _ hm_r_X12_workName_2) (fun _ h9 => h9) rfl dX12_workName_329 ?_
              refine lv_iconst (v := 1) hx hb dX12_workName_332 (by decide) ?_
              refine lv_iadd hx hb dX12_workName_333 ?_
              refine lv_topi (fun y47 hy47 => ?_)
              obtain rfl : (nI (pq + 1)) = y47 := (hy47.trans (nI_add pq 1)).symm
              refine va_put (D := (dC, dI)) (ci := 12) (v := .int (nI (pq + 1))) (ty := .int) (C := RX12) (T := TX12) (N := 163) (fs := fM (vS a (fT (fT (fT (fT vi 21 s3) 22 p3) 82 sp3) 81 (nI pq)) vj)) hx hb hts iwsRX12_workName_in12 tyX12 tyX12_ok nmX12 hown hK hP hD hS 0 rfl rfl 81 (by decide) (hts _ hm_r_X12_workName_2) (fun _ h9 => h9) rfl (by decide +kernel) rfl rfl (Nat.le_of_ble_eq_true rfl) dX12_workName_334 (fun H locs hP hD hS => ?_)
              have e9 : fT (fT (fT (fT vi 21 s3) 22 p3) 82 sp3) 81 (nI (pq + 1)) = fT (fT (fT (fT (fT vi 21 s3) 22 p3) 82 sp3) 81 (nI pq)) 81 (nI (pq + 1)) := (fT_sm _ _ _ _).symm
              have hP := wr_Pi e9 (fz_w (WR_i 81 _ rfl) hP)
              have hD := wr_Di e9 (fz_wD (WR_i 81 _ rfl) hD)
              clear e9
              refine lv_aload_n hx hb dX12_workName_337 rfl (lv_at hl 0 rfl) ?_
              refine lv_dup hx hb dX12_workName_338 rfl ?_
              refine va_get (D := (dC, dI)) (ci := 12) (v := .int (vi 89)) (C := RX12) (T := TX12) (N := 163) (fs := fM (vS a (fT (fT (fT (fT vi 21 s3) 22 p3) 82 sp3) 81 (nI (pq + 1))) vj)) hx hb hts iwsRX12_workName_in12 hown hK hP 0 rfl rfl 89 (by decide) (hts _ hm_r_X12_workName_4) (fun _ h9 => h9) rfl dX12_workName_339 ?_
              refine lv_topi (fun y48 hy48 => ?_)
              obtain rfl : (nI fr) = y48 := (hy48.trans (hfr9)).symm
              refine lv_iconst (v := 1) hx hb dX12_workName_342 (by decide) ?_
              refine lv_isub hx hb dX12_workName_343 ?_
              refine lv_topi (fun y49 hy49 => ?_)
              obtain rfl : (nI (fr - 1)) = y49 := (hy49.trans (pk_sub (a := fr) (b := 1) (by omega))).symm
              refine va_put (D := (dC, dI)) (ci := 12) (v := .int (nI (fr - 1))) (ty := .int) (C := RX12) (T := TX12) (N := 163) (fs := fM (vS a (fT (fT (fT (fT vi 21 s3) 22 p3) 82 sp3) 81 (nI (pq + 1))) vj)) hx hb hts iwsRX12_workName_in12 tyX12 tyX12_ok nmX12 hown hK hP hD hS 0 rfl rfl 89 (by decide) (hts _ hm_r_X12_workName_4) (fun _ h9 => h9) rfl (by decide +kernel) rfl rfl (Nat.le_of_ble_eq_true rfl) dX12_workName_344 (fun H locs hP hD hS => ?_)
              have hP : va_P (dC, dI) vwCl (WR a k h0 (fT (fT (fT (fT (fT vi 21 s3) 22 p3) 82 sp3) 81 (nI (pq + 1))) 89 (nI (fr - 1))) vj (fT (fT (fT (fT vF 53 (upd (vF 53) ((nI fN)).toNatClampNeg (nI (sN + 1)))) 54 f54x) 49 (upd f49225 ((nI ((((9 * pq) + 1) + atN) + l4))).toNatClampNeg 1)) 50 f50225) vG) H := fz_w (WR_i 89 _ rfl) hP
              have hD : va_D A (WR a k h0 (fT (fT (fT (fT (fT vi 21 s3) 22 p3) 82 sp3) 81 (nI (pq + 1))) 89 (nI (fr - 1))) vj (fT (fT (fT (fT vF 53 (upd (vF 53) ((nI fN)).toNatClampNeg (nI (sN + 1)))) 54 f54x) 49 (upd f49225 ((nI ((((9 * pq) + 1) + atN) + l4))).toNatClampNeg 1)) 50 f50225) vG) := fz_wD (WR_i 89 _ rfl) hD
              refine W.widen (k := 0) (n := 0) (by decide +kernel) (by decide +kernel) ?_
              have e9 : fT (fT (fT (fT (fT vF 53 (upd (vF 53) ((nI fN)).toNatClampNeg (nI (sN + 1)))) 54 f54x) 49 (upd f49225 ((nI ((((9 * pq) + 1) + atN) + l4))).toNatClampNeg 1)) 50 f50225) 52 (vF 52) = fT (fT (fT (fT vF 53 (upd (vF 53) ((nI fN)).toNatClampNeg (nI (sN + 1)))) 54 f54x) 49 (upd f49225 ((nI ((((9 * pq) + 1) + atN) + l4))).toNatClampNeg 1)) 50 f50225 := fT_id _ _ ((fT_ne _ _ (Nat.ne_of_beq_eq_false rfl)).trans ((fT_ne _ _ (Nat.ne_of_beq_eq_false rfl)).trans ((fT_ne _ _ (Nat.ne_of_beq_eq_false rfl)).trans (fT_ne _ _ (Nat.ne_of_beq_eq_false rfl)))))
              have hP := wr_PF e9 hP
              have hD := wr_DF e9 hD
              clear e9
              exact W.vret hx hb hr (fun t9_ ht hW => ⟨⟨((upd f49225 ((nI ((((9 * pq) + 1) + atN) + l4))).toNatClampNeg 1), f50225, (vF 52), (upd (vF 53) ((nI fN)).toNatClampNeg (nI (sN + 1))), f54x, (fr - 1), (pq + 1), s3, p3, sp3), rfl, by (try dsimp only); exact ⟨fun v9 h9 => RowU.top (by omega) (RowU.nought f225_0 f225_1 (fun q h9 => f225_2 q (Or.inl h9)) (fun q h9 => f225_3 q (Or.inl h9)) (fun v8 h9 => hRw v8 (by omega)) (show v9 ≤ pq by omega)) (by decide), hs30, hs31, Or.inr (StpO.pop hfN hfr1 h54 (by rw [if_pos (by omega)]; omega)), by omega⟩, by rw [ht]; exact hP, hD⟩, hS.F ht⟩) hS.2.2 dX12_workName_347
            · have t_229 : ¬ (zk).toInt = 0 := toI_neq c_229 rfl (by decide)
              refine lv_aload_n hx hb dX12_workName_232 rfl (lv_at hl 0 rfl) ?_
              refine va_get (D := (dC, dI)) (ci := 12) (v := .ref (a 49)) (C := RX12) (T := TX12) (N := 163) (fs := fM (vS a (fT (fT (fT (fT vi 21 s3) 22 p3) 82 sp3) 81 (nI pq)) vj)) hx hb hts iwsRX12_workName_in12 hown hK hP 0 rfl rfl 78 (by decide) (hts _ hm_r_X12_workName_3) (fun _ h9 => h9) rfl dX12_workName_233 ?_
              refine lv_bipush (v := 9) hx hb dX12_workName_236 (by decide) ?_
              refine lv_aload_n hx hb dX12_workName_238 rfl (lv_at hl 0 rfl) ?_
              refine va_get (D := (dC, dI)) (ci := 12) (v := .int (nI pq)) (C := RX12) (T := TX12) (N := 163) (fs := fM (vS a (fT (fT (fT (fT vi 21 s3) 22 p3) 82 sp3) 81 (nI pq)) vj)) hx hb hts iwsRX12_workName_in12 hown hK hP 0 rfl rfl 81 (by decide) (hts _ hm_r_X12_workName_2) (fun _ h9 => h9) rfl dX12_workName_239 ?_
              refine lv_imul hx hb dX12_workName_242 ?_
              refine lv_topi (fun y50 hy50 => ?_)
              obtain rfl : (nI (9 * pq)) = y50 := (hy50.trans (pk_mul 9 pq)).symm
              refine lv_aload_n hx hb dX12_workName_243 rfl (lv_at hl 0 rfl) ?_
              refine va_get (D := (dC, dI)) (ci := 12) (v := .ref (a 22)) (C := RX12) (T := TX12) (N := 163) (fs := fM (vS a (fT (fT (fT (fT vi 21 s3) 22 p3) 82 sp3) 81 (nI pq)) vj)) hx hb hts iwsRX12_workName_in12 hown hK hP 0 rfl rfl 45 (by decide) (hts (.fieldLink RX12 89 "OptimaWorksModel" "paramTop" "[I") (by decide +kernel)) (fun _ h9 => h9) rfl dX12_workName_244 ?_
              refine lv_aload_n hx hb dX12_workName_247 rfl (lv_at hl 0 rfl) ?_
              refine va_get (D := (dC, dI)) (ci := 12) (v := .ref (a 21)) (C := RX12) (T := TX12) (N := 163) (fs := fM (vS a (fT (fT (fT (fT vi 21 s3) 22 p3) 82 sp3) 81 (nI pq)) vj)) hx hb hts iwsRX12_workName_in12 hown hK hP 0 rfl rfl 44 (by decide) (hts _ hm_r_X12_workName_5) (fun _ h9 => h9) rfl dX12_workName_248 ?_
              refine lv_iload hx hb dX12_workName_251 (lv_at hl 4 rfl) ?_
              refine va_iald (cA := k 21) (n := 44) (f := (vF 21)) hx hb hK hP 22 21 (WR_get 21 (by decide)) (TR_get 21 (by decide)) (vp_in_nI (show aN < 44 by omega) (by omega)) dX12_workName_253 ?_
              refine lv_topi (fun y51 hy51 => ?_)
              obtain rfl : ((vF 21) aN) = y51 := (hy51.trans (by rw [nI_clamp (by omega)])).symm
              refine lv_topi (fun y52 hy52 => ?_)
              obtain rfl : (nI atN) = y52 := (hy52.trans (hA2 (by omega))).symm
              refine lv_aload_n hx hb dX12_workName_254 rfl (lv_at hl 0 rfl) ?_
              refine va_get (D := (dC, dI)) (ci := 12) (v := .ref (a 54)) (C := RX12) (T := TX12) (N := 163) (fs := fM (vS a (fT (fT (fT (fT vi 21 s3) 22 p3) 82 sp3) 81 (nI pq)) vj)) hx hb hts iwsRX12_workName_in12 hown hK hP 0 rfl rfl 87 (by decide) (hts _ hm_r_X12_workName_1) (fun _ h9 => h9) rfl dX12_workName_255 ?_
              refine lv_iload_n hx hb dX12_workName_258 rfl (lv_at hl 1 rfl) ?_
              refine va_iald (cA := k 54) (n := 4300) (f := f54x) hx hb hK hP 55 54 (WR_get 54 (by decide)) (TR_get 54 (by decide)) (vp_in_nI (show fN < 4300 by omega) (by omega)) dX12_workName_259 ?_
              refine lv_topi (fun y53 hy53 => ?_)
              obtain rfl : (f54x fN) = y53 := (hy53.trans (by rw [nI_clamp (by omega)])).symm
              refine lv_topi (fun y54 hy54 => ?_)
              obtain rfl : (nI l4) = y54 := (hy54.trans (hl4)).symm
              refine lv_iadd hx hb dX12_workName_260 ?_
              refine lv_topi (fun y55 hy55 => ?_)
              obtain rfl : (nI (atN + l4)) = y55 := (hy55.trans (nI_add atN l4)).symm
              refine va_iald (cA := k 22) (n := 6400) (f := (vF 22)) hx hb hK hP 23 22 (WR_get 22 (by decide)) (TR_get 22 (by decide)) (vp_in_nI (show (atN + l4) < 6400 by omega) (by omega)) dX12_workName_261 ?_
              refine lv_topi (fun y56 hy56 => ?_)
              obtain rfl : ((vF 22) (atN + l4)) = y56 := (hy56.trans (by rw [nI_clamp (by omega)])).symm
              have hp9 := hPt.name hmem hlk (by omega)
              refine va_iast (cA := k 49) (n := 900) (f := f49225) hx hb hK hP hD hS 50 49 (WR_get 49 (by decide)) (TR_get 49 (by decide)) (vp_in_nI (show (9 * pq) < 900 by omega) (by omega)) dX12_workName_262 (fun H locs hP hD hS => ?_)
              have e9 : fT (fT (fT (fT vF 53 (upd (vF 53) ((nI fN)).toNatClampNeg (nI (sN + 1)))) 54 f54x) 49 (upd f49225 ((nI (9 * pq))).toNatClampNeg ((vF 22) (atN + l4)))) 50 f50225 = fT (fT (fT (fT (fT vF 53 (upd (vF 53) ((nI fN)).toNatClampNeg (nI (sN + 1)))) 54 f54x) 49 f49225) 50 f50225) 49 (upd f49225 ((nI (9 * pq))).toNatClampNeg ((vF 22) (atN + l4))) := ((fT_sw _ _ _ (Nat.ne_of_beq_eq_false rfl)).trans (congrArg (fun g9 => fT g9 50 f50225) (fT_sm _ _ _ _))).symm
              have hP := wr_PF e9 (fz_w (WR_F 49 (by decide) _ rfl) hP)
              have hD := wr_DF e9 (fz_wD (WR_F 49 (by decide) _ rfl) hD)
              clear e9
              refine lv_aload_n hx hb dX12_workName_263 rfl (lv_at hl 0 rfl) ?_
              refine va_get (D := (dC, dI)) (ci := 12) (v := .ref (a 50)) (C := RX12) (T := TX12) (N := 163) (fs := fM (vS a (fT (fT (fT (fT vi 21 s3) 22 p3) 82 sp3) 81 (nI pq)) vj)) hx hb hts iwsRX12_workName_in12 hown hK hP 0 rfl rfl 79 (by decide) (hts (.fieldLink RX12 173 "OptimaWorksModel" "under" "[I") (by decide +kernel)) (fun _ h9 => h9) rfl dX12_workName_264 ?_
              refine lv_bipush (v := 9) hx hb dX12_workName_267 (by decide) ?_
              refine lv_aload_n hx hb dX12_workName_269 rfl (lv_at hl 0 rfl) ?_
              refine va_get (D := (dC, dI)) (ci := 12) (v := .int (nI pq)) (C := RX12) (T := TX12) (N := 163) (fs := fM (vS a (fT (fT (fT (fT vi 21 s3) 22 p3) 82 sp3) 81 (nI pq)) vj)) hx hb hts iwsRX12_workName_in12 hown hK hP 0 rfl rfl 81 (by decide) (hts _ hm_r_X12_workName_2) (fun _ h9 => h9) rfl dX12_workName_270 ?_
              refine lv_imul hx hb dX12_workName_273 ?_
              refine lv_topi (fun y57 hy57 => ?_)
              obtain rfl : (nI (9 * pq)) = y57 := (hy57.trans (pk_mul 9 pq)).symm
              refine lv_aload_n hx hb dX12_workName_274 rfl (lv_at hl 0 rfl) ?_
              refine va_get (D := (dC, dI)) (ci := 12) (v := .ref (a 23)) (C := RX12) (T := TX12) (N := 163) (fs := fM (vS a (fT (fT (fT (fT vi 21 s3) 22 p3) 82 sp3) 81 (nI pq)) vj)) hx hb hts iwsRX12_workName_in12 hown hK hP 0 rfl rfl 46 (by decide) (hts (.fieldLink RX12 92 "OptimaWorksModel" "paramUnder" "[I") (by decide +kernel)) (fun _ h9 => h9) rfl dX12_workName_275 ?_
              refine lv_aload_n hx hb dX12_workName_278 rfl (lv_at hl 0 rfl) ?_
              refine va_get (D := (dC, dI)) (ci := 12) (v := .ref (a 21)) (C := RX12) (T := TX12) (N := 163) (fs := fM (vS a (fT (fT (fT (fT vi 21 s3) 22 p3) 82 sp3) 81 (nI pq)) vj)) hx hb hts iwsRX12_workName_in12 hown hK hP 0 rfl rfl 44 (by decide) (hts _ hm_r_X12_workName_5) (fun _ h9 => h9) rfl dX12_workName_279 ?_
              refine lv_iload hx hb dX12_workName_282 (lv_at hl 4 rfl) ?_
              refine va_iald (cA := k 21) (n := 44) (f := (vF 21)) hx hb hK hP 22 21 (WR_get 21 (by decide)) (TR_get 21 (by decide)) (vp_in_nI (show aN < 44 by omega) (by omega)) dX12_workName_284 ?_
              refine lv_topi (fun y58 hy58 => ?_)
              obtain rfl : ((vF 21) aN) = y58 := (hy58.trans (by rw [nI_clamp (by omega)])).symm
              refine lv_topi (fun y59 hy59 => ?_)
              obtain rfl : (nI atN) = y59 := (hy59.trans (hA2 (by omega))).symm
              refine lv_aload_n hx hb dX12_workName_285 rfl (lv_at hl 0 rfl) ?_
              refine va_get (D := (dC, dI)) (ci := 12) (v := .ref (a 54)) (C := RX12) (T := TX12) (N := 163) (fs := fM (vS a (fT (fT (fT (fT vi 21 s3) 22 p3) 82 sp3) 81 (nI pq)) vj)) hx hb hts iwsRX12_workName_in12 hown hK hP 0 rfl rfl 87 (by decide) (hts _ hm_r_X12_workName_1) (fun _ h9 => h9) rfl dX12_workName_286 ?_
              refine lv_iload_n hx hb dX12_workName_289 rfl (lv_at hl 1 rfl) ?_
              refine va_iald (cA := k 54) (n := 4300) (f := f54x) hx hb hK hP 55 54 (WR_get 54 (by decide)) (TR_get 54 (by decide)) (vp_in_nI (show fN < 4300 by omega) (by omega)) dX12_workName_290 ?_
              refine lv_topi (fun y60 hy60 => ?_)
              obtain rfl : (f54x fN) = y60 := (hy60.trans (by rw [nI_clamp (by omega)])).symm
              refine lv_topi (fun y61 hy61 => ?_)
              obtain rfl : (nI l4) = y61 := (hy61.trans (hl4)).symm
              refine lv_iadd hx hb dX12_workName_291 ?_
              refine lv_topi (fun y62 hy62 => ?_)
              obtain rfl : (nI (atN + l4)) = y62 := (hy62.trans (nI_add atN l4)).symm
              refine va_iald (cA := k 23) (n := 6400) (f := (vF 23)) hx hb hK hP 24 23 (WR_get 23 (by decide)) (TR_get 23 (by decide)) (vp_in_nI (show (atN + l4) < 6400 by omega) (by omega)) dX12_workName_292 ?_
              refine lv_topi (fun y63 hy63 => ?_)
              obtain rfl : ((vF 23) (atN + l4)) = y63 := (hy63.trans (by rw [nI_clamp (by omega)])).symm
              refine va_iast (cA := k 50) (n := 900) (f := f50225) hx hb hK hP hD hS 51 50 (WR_get 50 (by decide)) (TR_get 50 (by decide)) (vp_in_nI (show (9 * pq) < 900 by omega) (by omega)) dX12_workName_293 (fun H locs hP hD hS => ?_)
              have e9 : fT (fT (fT (fT vF 53 (upd (vF 53) ((nI fN)).toNatClampNeg (nI (sN + 1)))) 54 f54x) 49 (upd f49225 ((nI (9 * pq))).toNatClampNeg ((vF 22) (atN + l4)))) 50 (upd f50225 ((nI (9 * pq))).toNatClampNeg ((vF 23) (atN + l4))) = fT (fT (fT (fT (fT vF 53 (upd (vF 53) ((nI fN)).toNatClampNeg (nI (sN + 1)))) 54 f54x) 49 (upd f49225 ((nI (9 * pq))).toNatClampNeg ((vF 22) (atN + l4)))) 50 f50225) 50 (upd f50225 ((nI (9 * pq))).toNatClampNeg ((vF 23) (atN + l4))) := (fT_sm _ _ _ _).symm
              have hP := wr_PF e9 (fz_w (WR_F 50 (by decide) _ rfl) hP)
              have hD := wr_DF e9 (fz_wD (WR_F 50 (by decide) _ rfl) hD)
              clear e9
              refine lv_goto (tgt := 327) hx hb dX12_workName_294 (by decide) ?_
              refine lv_aload_n hx hb dX12_workName_327 rfl (lv_at hl 0 rfl) ?_
              refine lv_dup hx hb dX12_workName_328 rfl ?_
              refine va_get (D := (dC, dI)) (ci := 12) (v := .int (nI pq)) (C := RX12) (T := TX12) (N := 163) (fs := fM (vS a (fT (fT (fT (fT vi 21 s3) 22 p3) 82 sp3) 81 (nI pq)) vj)) hx hb hts iwsRX12_workName_in12 hown hK hP 0 rfl rfl 81 (by decide) (hts _ hm_r_X12_workName_2) (fun _ h9 => h9) rfl dX12_workName_329 ?_
              refine lv_iconst (v := 1) hx hb dX12_workName_332 (by decide) ?_
              refine lv_iadd hx hb dX12_workName_333 ?_
              refine lv_topi (fun y64 hy64 => ?_)
              obtain rfl : (nI (pq + 1)) = y64 := (hy64.trans (nI_add pq 1)).symm
              refine va_put (D := (dC, dI)) (ci := 12) (v := .int (nI (pq + 1))) (ty := .int) (C := RX12) (T := TX12) (N := 163) (fs := fM (vS a (fT (fT (fT (fT vi 21 s3) 22 p3) 82 sp3) 81 (nI pq)) vj)) hx hb hts iwsRX12_workName_in12 tyX12 tyX12_ok nmX12 hown hK hP hD hS 0 rfl rfl 81 (by decide) (hts _ hm_r_X12_workName_2) (fun _ h9 => h9) rfl (by decide +kernel) rfl rfl (Nat.le_of_ble_eq_true rfl) dX12_workName_334 (fun H locs hP hD hS => ?_)
              have e9 : fT (fT (fT (fT vi 21 s3) 22 p3) 82 sp3) 81 (nI (pq + 1)) = fT (fT (fT (fT (fT vi 21 s3) 22 p3) 82 sp3) 81 (nI pq)) 81 (nI (pq + 1)) := (fT_sm _ _ _ _).symm
              have hP := wr_Pi e9 (fz_w (WR_i 81 _ rfl) hP)
              have hD := wr_Di e9 (fz_wD (WR_i 81 _ rfl) hD)
              clear e9
              refine lv_aload_n hx hb dX12_workName_337 rfl (lv_at hl 0 rfl) ?_
              refine lv_dup hx hb dX12_workName_338 rfl ?_
              refine va_get (D := (dC, dI)) (ci := 12) (v := .int (vi 89)) (C := RX12) (T := TX12) (N := 163) (fs := fM (vS a (fT (fT (fT (fT vi 21 s3) 22 p3) 82 sp3) 81 (nI (pq + 1))) vj)) hx hb hts iwsRX12_workName_in12 hown hK hP 0 rfl rfl 89 (by decide) (hts _ hm_r_X12_workName_4) (fun _ h9 => h9) rfl dX12_workName_339 ?_
              refine lv_topi (fun y65 hy65 => ?_)
              obtain rfl : (nI fr) = y65 := (hy65.trans (hfr9)).symm
              refine lv_iconst (v := 1) hx hb dX12_workName_342 (by decide) ?_
              refine lv_isub hx hb dX12_workName_343 ?_
              refine lv_topi (fun y66 hy66 => ?_)
              obtain rfl : (nI (fr - 1)) = y66 := (hy66.trans (pk_sub (a := fr) (b := 1) (by omega))).symm
              refine va_put (D := (dC, dI)) (ci := 12) (v := .int (nI (fr - 1))) (ty := .int) (C := RX12) (T := TX12) (N := 163) (fs := fM (vS a (fT (fT (fT (fT vi 21 s3) 22 p3) 82 sp3) 81 (nI (pq + 1))) vj)) hx hb hts iwsRX12_workName_in12 tyX12 tyX12_ok nmX12 hown hK hP hD hS 0 rfl rfl 89 (by decide) (hts _ hm_r_X12_workName_4) (fun _ h9 => h9) rfl (by decide +kernel) rfl rfl (Nat.le_of_ble_eq_true rfl) dX12_workName_344 (fun H locs hP hD hS => ?_)
              have hP : va_P (dC, dI) vwCl (WR a k h0 (fT (fT (fT (fT (fT vi 21 s3) 22 p3) 82 sp3) 81 (nI (pq + 1))) 89 (nI (fr - 1))) vj (fT (fT (fT (fT vF 53 (upd (vF 53) ((nI fN)).toNatClampNeg (nI (sN + 1)))) 54 f54x) 49 (upd f49225 ((nI (9 * pq))).toNatClampNeg ((vF 22) (atN + l4)))) 50 (upd f50225 ((nI (9 * pq))).toNatClampNeg ((vF 23) (atN + l4)))) vG) H := fz_w (WR_i 89 _ rfl) hP
              have hD : va_D A (WR a k h0 (fT (fT (fT (fT (fT vi 21 s3) 22 p3) 82 sp3) 81 (nI (pq + 1))) 89 (nI (fr - 1))) vj (fT (fT (fT (fT vF 53 (upd (vF 53) ((nI fN)).toNatClampNeg (nI (sN + 1)))) 54 f54x) 49 (upd f49225 ((nI (9 * pq))).toNatClampNeg ((vF 22) (atN + l4)))) 50 (upd f50225 ((nI (9 * pq))).toNatClampNeg ((vF 23) (atN + l4)))) vG) := fz_wD (WR_i 89 _ rfl) hD
              refine W.widen (k := 0) (n := 0) (by decide +kernel) (by decide +kernel) ?_
              have e9 : fT (fT (fT (fT (fT vF 53 (upd (vF 53) ((nI fN)).toNatClampNeg (nI (sN + 1)))) 54 f54x) 49 (upd f49225 ((nI (9 * pq))).toNatClampNeg ((vF 22) (atN + l4)))) 50 (upd f50225 ((nI (9 * pq))).toNatClampNeg ((vF 23) (atN + l4)))) 52 (vF 52) = fT (fT (fT (fT vF 53 (upd (vF 53) ((nI fN)).toNatClampNeg (nI (sN + 1)))) 54 f54x) 49 (upd f49225 ((nI (9 * pq))).toNatClampNeg ((vF 22) (atN + l4)))) 50 (upd f50225 ((nI (9 * pq))).toNatClampNeg ((vF 23) (atN + l4))) := fT_id _ _ ((fT_ne _ _ (Nat.ne_of_beq_eq_false rfl)).trans ((fT_ne _ _ (Nat.ne_of_beq_eq_false rfl)).trans ((fT_ne _ _ (Nat.ne_of_beq_eq_false rfl)).trans (fT_ne _ _ (Nat.ne_of_beq_eq_false rfl)))))
              have hP := wr_PF e9 hP
              have hD := wr_DF e9 hD
              clear e9
              exact W.vret hx hb hr (fun t9_ ht hW => ⟨⟨((upd f49225 ((nI (9 * pq))).toNatClampNeg ((vF 22) (atN + l4))), (upd f50225 ((nI (9 * pq))).toNatClampNeg ((vF 23) (atN + l4))), (vF 52), (upd (vF 53) ((nI fN)).toNatClampNeg (nI (sN + 1))), f54x, (fr - 1), (pq + 1), s3, p3, sp3), rfl, by (try dsimp only); exact ⟨fun v9 h9 => RowU.under (by omega) (RowU.top (by omega) (RowU.nought f225_0 f225_1 (fun q h9 => f225_2 q (Or.inl h9)) (fun q h9 => f225_3 q (Or.inl h9)) (fun v8 h9 => hRw v8 (by omega)) (show v9 ≤ pq by omega)) ⟨hp9.1, hp9.2.1⟩) hp9.2.2, hs30, hs31, Or.inr (StpO.pop hfN hfr1 h54 (by rw [if_pos (by omega)]; omega)), by omega⟩, by rw [ht]; exact hP, hD⟩, hS.F ht⟩) hS.2.2 dX12_workName_347
          · have t_216 : ¬ (s3).toInt ≤ 0 := toI_nle c_216 rfl (by decide)
            refine W.widen (k := 0) (n := 0) (by decide +kernel) (by decide +kernel) ?_
            have e9 : fT (fT (fT (fT (fT vi 21 s3) 22 p3) 82 sp3) 81 (nI pq)) 89 (nI fr) = fT (fT (fT (fT vi 21 s3) 22 p3) 82 sp3) 81 (nI pq) := Eq.trans (congrArg (fT _ 89) (show nI fr = vi 89 from (by first | with_reducible rfl | with_reducible assumption | (symm; with_reducible assumption) | rfl | assumption | (symm; assumption) | (subst_vars; rfl)))) (id_4 rfl)
            have hP := wr_Pi e9 hP
            have hD := wr_Di e9 hD
            clear e9
            have e9 : fT (fT (fT (fT (fT vF 53 (upd (vF 53) ((nI fN)).toNatClampNeg (nI (sN + 1)))) 54 f54x) 49 (vF 49)) 50 (vF 50)) 52 (vF 52) = fT (fT vF 53 (upd (vF 53) ((nI fN)).toNatClampNeg (nI (sN + 1)))) 54 f54x := (fT_id _ _ ((fT_ne _ _ (Nat.ne_of_beq_eq_false rfl)).trans ((fT_ne _ _ (Nat.ne_of_beq_eq_false rfl)).trans ((fT_ne _ _ (Nat.ne_of_beq_eq_false rfl)).trans (fT_ne _ _ (Nat.ne_of_beq_eq_false rfl)))))).trans ((fT_id _ _ ((fT_ne _ _ (Nat.ne_of_beq_eq_false rfl)).trans ((fT_ne _ _ (Nat.ne_of_beq_eq_false rfl)).trans (fT_ne _ _ (Nat.ne_of_beq_eq_false rfl))))).trans (fT_id _ _ ((fT_ne _ _ (Nat.ne_of_beq_eq_false rfl)).trans (fT_ne _ _ (Nat.ne_of_beq_eq_false rfl)))))
            have hP := wr_PF e9 hP
            have hD := wr_DF e9 hD
            clear e9
            exact W.vret hx hb hr (fun t9_ ht hW => ⟨⟨((vF 49), (vF 50), (vF 52), (upd (vF 53) ((nI fN)).toNatClampNeg (nI (sN + 1))), f54x, fr, pq, s3, p3, sp3), rfl, by (try dsimp only); exact ⟨fun v9 h9 => hRw v9 (by omega), hs30, Or.inr (by omega), Or.inl (by omega), by omega⟩, by rw [ht]; exact hP, hD⟩, hS.F ht⟩) hS.2.2 dX12_workName_219
end
section
/-- how many members the binding b has -/
def MbO (f17 f36 f37 : Nat → Int32) (b mB : Nat) : Prop := ∃ o1 m1, o1 < 44 ∧ f36 b = nI o1 ∧ f17 o1 = nI m1 ∧ m1 ≤ 12 ∧ ((f37 b = -1 ∧ mB = m1) ∨ ∃ o2 m2, o2 < 44 ∧ f37 b = nI o2 ∧ f17 o2 = nI m2 ∧ m2 ≤ 12 ∧ mB = m1 * m2)
/-- a sum: what is known of it by its stages -/
theorem TopO.sum {F : Nat → Nat → Int32} {V : Nat → Prop} {wt dp pd : Nat → Nat} {n k s la h p r : Nat} (t : TopO F V wt dp pd n k s la h p r) (hk : k = 9) : (s = 0 ∧ p = h ∧ wt n ≤ r) ∨ (s = 1 ∧ p = h + 1 ∧ la ≤ mbO F n ∧ ∃ c W, SumW F V wt dp pd n c W ∧ (mbO F n - la) * W + 1 ≤ r) ∨ (s = 2 ∧ p = h + 1 ∧ la < mbO F n ∧ ∃ c W, SumW F V wt dp pd n c W ∧ (mbO F n - (la + 1)) * W + wt c + 5 ≤ r) ∨ (s = 3 ∧ p = h + 2 ∧ la < mbO F n ∧ ∃ c W, SumW F V wt dp pd n c W ∧ (mbO F n - (la + 1)) * W + 3 ≤ r) := by
  rcases t with ⟨h1, h2, h3⟩ | ⟨_, h1, h2, h3, h4⟩ | ⟨hn, h1, h2⟩ | h1
  · exact Or.inl ⟨h1, h2, h3⟩
  · exact Or.inr (Or.inl ⟨h1, h2, h3, h4⟩)
  · rcases h1 with h1 | h1 | h1 | h1 | h1 | h1 | h1 | h1 | h1 | h1 | h1 | h1
    · omega
    · omega
    · omega
    · omega
    · omega
    · exact absurd trivial h1.2.2.2.1
    · obtain ⟨_, a1, a2, _, a3, a4⟩ := h1
      exact Or.inr (Or.inr (Or.inr ⟨a1, by omega, a3, a4⟩))
    · omega
    · omega
    · omega
    · omega
    · omega
  · rcases h1 with h1 | h1 | h1 | h1 | h1 | h1 | h1 | h1 | h1 | h1 | h1 | h1
    · omega
    · omega
    · omega
    · omega
    · omega
    · obtain ⟨_, a1, a2, _, a3, a4⟩ := h1
      exact Or.inr (Or.inr (Or.inl ⟨a1, by omega, a3, a4⟩))
    · exact absurd h1.2.2.2.1 (fun h => h)
    · omega
    · omega
    · omega
    · omega
    · omega
/-- a sum's own turn: it stays -/
theorem StpO.stay {F : Nat → Nat → Int32} {V : Nat → Prop} {wt dp pd : Nat → Nat} {n k f fr h r p2 : Nat} {f52 f53 f54 g54 : Nat → Int32} (s' la' r' : Nat) (hf : f < 4299) (hfr : fr = f + 1) (h54 : ∀ q, q < f → g54 q = f54 q) (hla : k = 2 ∨ k = 3 ∨ k = 9 → g54 f = nI la') (ht : TopO F V wt dp pd n k s' la' h p2 r') (hr : r' < r) :
    StpO F V wt dp pd n k f h r f52 f53 f54 f52 (upd f53 (nI f).toNatClampNeg (nI s')) g54 fr p2 :=
  ⟨fun q hq => ⟨rfl, by rw [upd_at (by omega), if_neg (by omega)], h54 q hq⟩, Or.inr (Or.inr ⟨hfr, rfl, s', la', r', by rw [upd_at (by omega), if_pos rfl], hla, ht, hr⟩)⟩
end
section
def wsRmembersOfm : List Cond := .code yX12_membersOf cX12_membersOf 2 (some .int) :: ([.fieldLink RX12 74 "OptimaWorksModel" "setMany" "[I", .fieldLink RX12 131 "OptimaWorksModel" "bindOne" "[I", .fieldLink RX12 134 "OptimaWorksModel" "bindTwo" "[I"] ++ wsX120)
theorem iwsRmembersOfm_in12 : ∀ w ∈ wsX120, w ∈ wsRmembersOfm := fun _ h => List.mem_cons_of_mem _ (List.mem_append_right _ h)
theorem gdwsRmembersOfm : wsRmembersOfm.all goodWord = true := gdC rfl (gdA (by decide +kernel : ([.fieldLink RX12 74 "OptimaWorksModel" "setMany" "[I", .fieldLink RX12 131 "OptimaWorksModel" "bindOne" "[I", .fieldLink RX12 134 "OptimaWorksModel" "bindTwo" "[I"] : List Cond).all goodWord = true) gdwsX120)
theorem hm_r_X12_membersOfm_0 : (.fieldLink RX12 74 "OptimaWorksModel" "setMany" "[I" : Cond) ∈ wsRmembersOfm := by decide +kernel
theorem hm_r_X12_membersOfm_1 : (.fieldLink RX12 134 "OptimaWorksModel" "bindTwo" "[I" : Cond) ∈ wsRmembersOfm := by decide +kernel
set_option maxHeartbeats 4000000 in
set_option maxRecDepth 100000 in
/-- membersOf(b), told -/
theorem r_X12_membersOfm (l : Launch) (dC : Nat → ClassId) (dI : Nat → Nat → Nat) (a : Nat → Nat) (k : Nat → ClassId) (h0 : Nat) (vi : Nat → Int32) (vj : Nat → Int64) (vF : Nat → Nat → Int32) (vG : Nat → Nat → Int64) (bN : Nat) (mB : Nat) (hbN : bN < 900) (hMb : MbO (vF 17) (vF 36) (vF 37) bN mB) (sz : Nat) : Met l yX12_membersOf wsRmembersOfm ({ frames := 0, cells := 0, slots := 0, locals := 0 }) (va_Pc [.ref h0, .int (nI bN)] (fun U => U.heap.size = sz ∧ va_P (dC, dI) vwCl (WR a k h0 vi vj vF vG) U.heap ∧ va_K (dC, dI) vwCl (tX12 k) U ∧ va_D (fun _ => True) (WR a k h0 vi vj vF vG))) (va_Qi (fun (r : Int32) (u : Unit) => r = (nI mB)) (fun (u : Unit) t => va_P (dC, dI) vwCl (WR a k h0 vi vj vF vG) t.heap ∧ va_D (va_A (WR a k h0 vi vj vF vG) sz) (WR a k h0 vi vj vF vG)) (va_A (WR a k h0 vi vj vF vG) sz)) 0 0 (va_A (WR a k h0 vi vj vF vG) sz) := by
  refine Met.ofW (cc := cX12_membersOf) (maxL := 2) (ret := (some .int)) (by decide) rfl ?_
  intro p e s m args below meth c s₁ B hml hv
  obtain ⟨rfl, hsz, hP, hK, hD0⟩ := hv
  have hx := B.exec
  have hb := B.bytes
  have hr := B.returns
  have hts := atoms_spec (ws := wsRmembersOfm) B.pre
  have hown : s.vm.findClass RX12 = some m.cls := findClass_of_methodNamed B.named
  have hlocks := B.notSynchronized
  subst hsz
  have hD := hD0.self (sz := s.heap.size)
  generalize hAe : va_A (WR a k h0 vi vj vF vG) s.heap.size = A at hD ⊢
  have hA : ∀ q : Nat, s.heap.size ≤ q → A q := fun q h => by rw [← hAe]; exact Or.inr h
  have hS : va_S A s.heap s.heap [] := va_S.rf
  have hl := lv_entry ([.ref h0, .int (nI bN)]) (n := 2) (Nat.le_of_ble_eq_true rfl)
  rw [lg_entry_eq]
  generalize (lg_sl ([.ref h0, .int (nI bN)]) ++ List.replicate (2 - (lg_sl ([.ref h0, .int (nI bN)])).length) Slot.unset).toArray = ls at hl ⊢
  have hl : lv_has ls 2 [(0, .ref h0), (1, .int (nI bN))] := hl
  obtain ⟨o1, m1, ho1, eo1, em1, hm2, hmM⟩ := hMb
  refine lv_aload_n hx hb dX12_membersOf_0 rfl (lv_at hl 0 rfl) ?_
  refine va_get (D := (dC, dI)) (ci := 12) (v := .ref (a 17)) (C := RX12) (T := TX12) (N := 163) (fs := fM (vS a vi vj)) hx hb hts iwsRmembersOfm_in12 hown hK hP 0 rfl rfl 40 (by decide) (hts _ hm_r_X12_membersOfm_0) (fun _ h9 => h9) rfl dX12_membersOf_1 ?_
  refine lv_aload_n hx hb dX12_membersOf_4 rfl (lv_at hl 0 rfl) ?_
  refine va_get (D := (dC, dI)) (ci := 12) (v := .ref (a 36)) (C := RX12) (T := TX12) (N := 163) (fs := fM (vS a vi vj)) hx hb hts iwsRmembersOfm_in12 hown hK hP 0 rfl rfl 61 (by decide) (hts (.fieldLink RX12 131 "OptimaWorksModel" "bindOne" "[I") (by decide +kernel)) (fun _ h9 => h9) rfl dX12_membersOf_5 ?_
  refine lv_iload_n hx hb dX12_membersOf_8 rfl (lv_at hl 1 rfl) ?_
  refine va_iald (cA := k 36) (n := 900) (f := (vF 36)) hx hb hK hP 37 36 (WR_get 36 (by decide)) (TR_get 36 (by decide)) (vp_in_nI (show bN < 900 by omega) (by omega)) dX12_membersOf_9 ?_
  refine lv_topi (fun y1 hy1 => ?_)
  obtain rfl : ((vF 36) bN) = y1 := (hy1.trans (by rw [nI_clamp (by omega)])).symm
  refine lv_topi (fun y2 hy2 => ?_)
  obtain rfl : (nI o1) = y2 := (hy2.trans (eo1)).symm
  refine va_iald (cA := k 17) (n := 44) (f := (vF 17)) hx hb hK hP 18 17 (WR_get 17 (by decide)) (TR_get 17 (by decide)) (vp_in_nI (show o1 < 44 by omega) (by omega)) dX12_membersOf_10 ?_
  refine lv_topi (fun y3 hy3 => ?_)
  obtain rfl : ((vF 17) o1) = y3 := (hy3.trans (by rw [nI_clamp (by omega)])).symm
  refine lv_topi (fun y4 hy4 => ?_)
  obtain rfl : (nI m1) = y4 := (hy4.trans (em1)).symm
  refine lv_aload_n hx hb dX12_membersOf_11 rfl (lv_at hl 0 rfl) ?_
  refine va_get (D := (dC, dI)) (ci := 12) (v := .ref (a 37)) (C := RX12) (T := TX12) (N := 163) (fs := fM (vS a vi vj)) hx hb hts iwsRmembersOfm_in12 hown hK hP 0 rfl rfl 62 (by decide) (hts _ hm_r_X12_membersOfm_1) (fun _ h9 => h9) rfl dX12_membersOf_12 ?_
  refine lv_iload_n hx hb dX12_membersOf_15 rfl (lv_at hl 1 rfl) ?_
  refine va_iald (cA := k 37) (n := 900) (f := (vF 37)) hx hb hK hP 38 37 (WR_get 37 (by decide)) (TR_get 37 (by decide)) (vp_in_nI (show bN < 900 by omega) (by omega)) dX12_membersOf_16 ?_
  refine lv_topi (fun y5 hy5 => ?_)
  obtain rfl : ((vF 37) bN) = y5 := (hy5.trans (by rw [nI_clamp (by omega)])).symm
  refine lv_iconst (v := (-1)) hx hb dX12_membersOf_17 (by decide) ?_
  refine lv_icmp_ne (tgt := 25) hx hb dX12_membersOf_18 (by decide) (fun c_18 => ?_) (fun c_18 => ?_)
  · have t_18 : (((vF 37) bN)).toInt ≠ -1 := toI_ne c_18 rfl (by decide)
    obtain ⟨o2, m2, ho2, eo2, em2, hn2, emB⟩ := hmM.resolve_left (fun h9 => c_18 h9.1)
    have hmm2 : m1 * m2 ≤ 12 * 12 := Nat.mul_le_mul hm2 hn2
    refine lv_aload_n hx hb dX12_membersOf_25 rfl (lv_at hl 0 rfl) ?_
    refine va_get (D := (dC, dI)) (ci := 12) (v := .ref (a 17)) (C := RX12) (T := TX12) (N := 163) (fs := fM (vS a vi vj)) hx hb hts iwsRmembersOfm_in12 hown hK hP 0 rfl rfl 40 (by decide) (hts _ hm_r_X12_membersOfm_0) (fun _ h9 => h9) rfl dX12_membersOf_26 ?_
    refine lv_aload_n hx hb dX12_membersOf_29 rfl (lv_at hl 0 rfl) ?_
    refine va_get (D := (dC, dI)) (ci := 12) (v := .ref (a 37)) (C := RX12) (T := TX12) (N := 163) (fs := fM (vS a vi vj)) hx hb hts iwsRmembersOfm_in12 hown hK hP 0 rfl rfl 62 (by decide) (hts _ hm_r_X12_membersOfm_1) (fun _ h9 => h9) rfl dX12_membersOf_30 ?_
    refine lv_iload_n hx hb dX12_membersOf_33 rfl (lv_at hl 1 rfl) ?_
    refine va_iald (cA := k 37) (n := 900) (f := (vF 37)) hx hb hK hP 38 37 (WR_get 37 (by decide)) (TR_get 37 (by decide)) (vp_in_nI (show bN < 900 by omega) (by omega)) dX12_membersOf_34 ?_
    refine lv_topi (fun y6 hy6 => ?_)
    obtain rfl : ((vF 37) bN) = y6 := (hy6.trans (by rw [nI_clamp (by omega)])).symm
    refine lv_topi (fun y7 hy7 => ?_)
    obtain rfl : (nI o2) = y7 := (hy7.trans (eo2)).symm
    refine va_iald (cA := k 17) (n := 44) (f := (vF 17)) hx hb hK hP 18 17 (WR_get 17 (by decide)) (TR_get 17 (by decide)) (vp_in_nI (show o2 < 44 by omega) (by omega)) dX12_membersOf_35 ?_
    refine lv_topi (fun y8 hy8 => ?_)
    obtain rfl : ((vF 17) o2) = y8 := (hy8.trans (by rw [nI_clamp (by omega)])).symm
    refine lv_topi (fun y9 hy9 => ?_)
    obtain rfl : (nI m2) = y9 := (hy9.trans (em2)).symm
    refine lv_imul hx hb dX12_membersOf_36 ?_
    refine lv_topi (fun y10 hy10 => ?_)
    obtain rfl : (nI (m1 * m2)) = y10 := (hy10.trans (pk_mul m1 m2)).symm
    refine W.widen (k := 0) (n := 0) (by decide +kernel) (by decide +kernel) ?_
    exact W.iret (v := (nI (m1 * m2))) hx hb hr (fun t9_ ht hW => ⟨⟨(nI (m1 * m2)), (), rfl, by (try dsimp only); exact congrArg nI emB.symm, by rw [ht]; exact hP, hD⟩, hS.F ht⟩) hS.2.2 dX12_membersOf_37
  · have t_18 : (((vF 37) bN)).toInt = -1 := toI_nne c_18 rfl (by decide)
    refine lv_iconst (v := 1) hx hb dX12_membersOf_21 (by decide) ?_
    refine lv_goto (tgt := 36) hx hb dX12_membersOf_22 (by decide) ?_
    refine lv_imul hx hb dX12_membersOf_36 ?_
    refine lv_topi (fun y11 hy11 => ?_)
    obtain rfl : (nI (m1 * 1)) = y11 := (hy11.trans (pk_mul m1 1)).symm
    refine W.widen (k := 0) (n := 0) (by decide +kernel) (by decide +kernel) ?_
    exact W.iret (v := (nI (m1 * 1))) hx hb hr (fun t9_ ht hW => ⟨⟨(nI (m1 * 1)), (), rfl, by (try dsimp only); (obtain ⟨_, rfl⟩ := hmM.resolve_right (fun ⟨o2, _, h8, h9, _⟩ => nI_nm1 (by omega) (h9.symm.trans c_18))); rw [Nat.mul_one], by rw [ht]; exact hP, hD⟩, hS.F ht⟩) hS.2.2 dX12_membersOf_37
end
section
theorem StpO.push' {F : Nat → Nat → Int32} {V : Nat → Prop} {wt dp pd : Nat → Nat} {n k f fr h r p2 : Nat} {f52 f53 f54 g54 : Nat → Int32} {v cv : Int32} (c s' la' r' : Nat) (hv : v = nI s') (hcv : cv = nI c) (hf : f < 4299) (hfr : fr = f + 1) (h54 : ∀ q, q < f → g54 q = f54 q) (hla : k = 2 ∨ k = 3 ∨ k = 9 → g54 f = nI la') (hV : V c) (hd : dp c < dp n) (hp : p2 + pd c ≤ h + pd n) (hw : WtO F V wt dp pd n k s' la' h p2 r' ((F 29 c).toInt ≤ 9)) (hr : r' + wt c < r) :
    StpO F V wt dp pd n k f h r f52 f53 f54 (upd f52 (nI fr).toNatClampNeg cv) (upd (upd f53 (nI f).toNatClampNeg v) (nI fr).toNatClampNeg 0) g54 (fr + 1) p2 := by
  subst hv
  subst hcv
  exact StpO.push s' la' r' hf hfr h54 hla hV hd hp hw hr
theorem StpO.stay' {F : Nat → Nat → Int32} {V : Nat → Prop} {wt dp pd : Nat → Nat} {n k f fr h r p2 : Nat} {f52 f53 f54 g54 : Nat → Int32} {v : Int32} (s' la' r' : Nat) (hv : v = nI s') (hf : f < 4299) (hfr : fr = f + 1) (h54 : ∀ q, q < f → g54 q = f54 q) (hla : k = 2 ∨ k = 3 ∨ k = 9 → g54 f = nI la') (ht : TopO F V wt dp pd n k s' la' h p2 r') (hr : r' < r) :
    StpO F V wt dp pd n k f h r f52 f53 f54 f52 (upd f53 (nI f).toNatClampNeg v) g54 fr p2 := by
  subst hv
  exact StpO.stay s' la' r' hf hfr h54 hla ht hr
theorem StpO.pop0 {F : Nat → Nat → Int32} {V : Nat → Prop} {wt dp pd : Nat → Nat} {n k f fr h r p2 : Nat} {f52 f53 f54 : Nat → Int32} (hfr : fr = f + 1) (hp : p2 = h + (if k ≤ 9 then 1 else 0)) :
    StpO F V wt dp pd n k f h r f52 f53 f54 f52 f53 f54 (fr - 1) p2 := by
  subst hfr
  exact ⟨fun q hq => ⟨rfl, rfl, rfl⟩, Or.inl ⟨rfl, hp⟩⟩
theorem sum_step {m l W : Nat} (h : l < m) : (m - l) * W = (m - (l + 1)) * W + W := by
  rw [← Nat.succ_mul]
  congr 1
  omega
/-- what a sum knows when its turn comes, for the body c0 -/
theorem TopO.s0 {F : Nat → Nat → Int32} {V : Nat → Prop} {wt dp pd : Nat → Nat} {n la h p r : Nat} (t : TopO F V wt dp pd n 9 0 la h p r) : wt n ≤ r := by
  rcases t.sum rfl with h9 | h9 | h9 | h9
  · exact h9.2.2
  · exact absurd h9.1 (by decide)
  · exact absurd h9.1 (by decide)
  · exact absurd h9.1 (by decide)
theorem TopO.s1 {F : Nat → Nat → Int32} {V : Nat → Prop} {wt dp pd : Nat → Nat} {n la h p r c0 : Nat} (t : TopO F V wt dp pd n 9 1 la h p r) (hc : KidL F V dp pd n 32 1 c0) : ∃ W, SumW F V wt dp pd n c0 W ∧ (mbO F n - la) * W + 1 ≤ r := by
  rcases t.sum rfl with h9 | h9 | h9 | h9
  · exact absurd h9.1 (by decide)
  · obtain ⟨_, _, _, c, W, h1, h2⟩ := h9
    obtain rfl : c = c0 := kidE h1.1.1 hc.1
    exact ⟨W, h1, h2⟩
  · exact absurd h9.1 (by decide)
  · exact absurd h9.1 (by decide)
theorem TopO.s2 {F : Nat → Nat → Int32} {V : Nat → Prop} {wt dp pd : Nat → Nat} {n la h p r c0 : Nat} (t : TopO F V wt dp pd n 9 2 la h p r) (hc : KidL F V dp pd n 32 1 c0) : ∃ W, SumW F V wt dp pd n c0 W ∧ (mbO F n - (la + 1)) * W + wt c0 + 5 ≤ r := by
  rcases t.sum rfl with h9 | h9 | h9 | h9
  · exact absurd h9.1 (by decide)
  · exact absurd h9.1 (by decide)
  · obtain ⟨_, _, _, c, W, h1, h2⟩ := h9
    obtain rfl : c = c0 := kidE h1.1.1 hc.1
    exact ⟨W, h1, h2⟩
  · exact absurd h9.1 (by decide)
theorem TopO.s3 {F : Nat → Nat → Int32} {V : Nat → Prop} {wt dp pd : Nat → Nat} {n la h p r c0 : Nat} (t : TopO F V wt dp pd n 9 3 la h p r) (hc : KidL F V dp pd n 32 1 c0) : ∃ W, SumW F V wt dp pd n c0 W ∧ (mbO F n - (la + 1)) * W + 3 ≤ r := by
  rcases t.sum rfl with h9 | h9 | h9 | h9
  · exact absurd h9.1 (by decide)
  · exact absurd h9.1 (by decide)
  · exact absurd h9.1 (by decide)
  · obtain ⟨_, _, _, c, W, h1, h2⟩ := h9
    obtain rfl : c = c0 := kidE h1.1.1 hc.1
    exact ⟨W, h1, h2⟩
/-- the next turn of a sum, at stage 1 -/
theorem TopO.next {F : Nat → Nat → Int32} {V : Nat → Prop} {wt dp pd : Nat → Nat} {n la h p r c W : Nat} (hp : p = h + 1) (hl : la ≤ mbO F n) (hW : SumW F V wt dp pd n c W) (hr : (mbO F n - la) * W + 1 ≤ r) : TopO F V wt dp pd n 9 1 la h p r :=
  Or.inr (Or.inl ⟨rfl, rfl, hp, hl, c, W, hW, hr⟩)
/-- a sum that waits for its test, for its body -/
theorem WtO.s2 {F : Nat → Nat → Int32} {V : Nat → Prop} {wt dp pd : Nat → Nat} {n la h p r c W : Nat} {lin : Prop} (hp : p = h + 1) (hn : ¬ lin) (hl : la < mbO F n) (hW : SumW F V wt dp pd n c W) (hr : (mbO F n - (la + 1)) * W + wt c + 5 ≤ r) : WtO F V wt dp pd n 9 2 la h p r lin :=
  Or.inr (Or.inr (Or.inr (Or.inr (Or.inr (Or.inl ⟨rfl, rfl, hp, hn, hl, c, W, hW, hr⟩)))))
theorem WtO.s3 {F : Nat → Nat → Int32} {V : Nat → Prop} {wt dp pd : Nat → Nat} {n la h p r c W : Nat} {lin : Prop} (hp : p = h + 1) (hn : lin) (hl : la < mbO F n) (hW : SumW F V wt dp pd n c W) (hr : (mbO F n - (la + 1)) * W + 3 ≤ r) : WtO F V wt dp pd n 9 3 la h p r lin :=
  Or.inr (Or.inr (Or.inr (Or.inr (Or.inr (Or.inr (Or.inl ⟨rfl, rfl, hp, hn, hl, c, W, hW, hr⟩))))))
end
section
theorem hd_yX12_bind_RX12 : yX12_bind.cls = RX12 ∧ yX12_bind.cls ≠ "java/lang/invoke/MethodHandle" ∧ yX12_bind.cls ≠ "java/lang/invoke/VarHandle" ∧ (parseMethodDescriptor yX12_bind.desc).map (fun d => d.parameters.length) = some 2 := by decide +kernel
theorem hd_yX12_membersOf_RX12 : yX12_membersOf.cls = RX12 ∧ yX12_membersOf.cls ≠ "java/lang/invoke/MethodHandle" ∧ yX12_membersOf.cls ≠ "java/lang/invoke/VarHandle" ∧ (parseMethodDescriptor yX12_membersOf.desc).map (fun d => d.parameters.length) = some 1 := by decide +kernel
theorem dX12_workSum_0 : decode cX12_workSum 0 = .ok (.aload_n 0, 1) := dk_42 (by decide +kernel)
theorem dX12_workSum_1 : decode cX12_workSum 1 = .ok (.getfield 113, 3) := dk_180 (by decide +kernel)
theorem dX12_workSum_4 : decode cX12_workSum 4 = .ok (.iload_n 2, 1) := dk_28 (by decide +kernel)
theorem dX12_workSum_5 : decode cX12_workSum 5 = .ok (.iaload, 1) := dk_46 (by decide +kernel)
theorem dX12_workSum_6 : decode cX12_workSum 6 = .ok (.istore_n 3, 1) := dk_62 (by decide +kernel)
theorem dX12_workSum_7 : decode cX12_workSum 7 = .ok (.aload_n 0, 1) := dk_42 (by decide +kernel)
theorem dX12_workSum_8 : decode cX12_workSum 8 = .ok (.getfield 182, 3) := dk_180 (by decide +kernel)
theorem dX12_workSum_11 : decode cX12_workSum 11 = .ok (.iload_n 1, 1) := dk_27 (by decide +kernel)
theorem dX12_workSum_12 : decode cX12_workSum 12 = .ok (.iaload, 1) := dk_46 (by decide +kernel)
theorem dX12_workSum_13 : decode cX12_workSum 13 = .ok (.ifCond .ne 38, 3) := dk_154 (by decide +kernel)
theorem dX12_workSum_16 : decode cX12_workSum 16 = .ok (.aload_n 0, 1) := dk_42 (by decide +kernel)
theorem dX12_workSum_17 : decode cX12_workSum 17 = .ok (.aload_n 0, 1) := dk_42 (by decide +kernel)
theorem dX12_workSum_18 : decode cX12_workSum 18 = .ok (.getfield 659, 3) := dk_180 (by decide +kernel)
theorem dX12_workSum_21 : decode cX12_workSum 21 = .ok (.invokevirtual 662, 3) := dk_182 (by decide +kernel)
theorem dX12_workSum_24 : decode cX12_workSum 24 = .ok (.aload_n 0, 1) := dk_42 (by decide +kernel)
theorem dX12_workSum_25 : decode cX12_workSum 25 = .ok (.dup, 1) := dk_89 (by decide +kernel)
theorem dX12_workSum_26 : decode cX12_workSum 26 = .ok (.getfield 659, 3) := dk_180 (by decide +kernel)
theorem dX12_workSum_29 : decode cX12_workSum 29 = .ok (.iconst 1, 1) := dk_4 (by decide +kernel)
theorem dX12_workSum_30 : decode cX12_workSum 30 = .ok (.iadd, 1) := dk_96 (by decide +kernel)
theorem dX12_workSum_31 : decode cX12_workSum 31 = .ok (.putfield 659, 3) := dk_181 (by decide +kernel)
theorem dX12_workSum_34 : decode cX12_workSum 34 = .ok (.aload_n 0, 1) := dk_42 (by decide +kernel)
theorem dX12_workSum_35 : decode cX12_workSum 35 = .ok (.getfield 185, 3) := dk_180 (by decide +kernel)
theorem dX12_workSum_38 : decode cX12_workSum 38 = .ok (.iload_n 1, 1) := dk_27 (by decide +kernel)
theorem dX12_workSum_39 : decode cX12_workSum 39 = .ok (.iconst 0, 1) := dk_3 (by decide +kernel)
theorem dX12_workSum_40 : decode cX12_workSum 40 = .ok (.iastore, 1) := dk_79 (by decide +kernel)
theorem dX12_workSum_41 : decode cX12_workSum 41 = .ok (.aload_n 0, 1) := dk_42 (by decide +kernel)
theorem dX12_workSum_42 : decode cX12_workSum 42 = .ok (.getfield 182, 3) := dk_180 (by decide +kernel)
theorem dX12_workSum_45 : decode cX12_workSum 45 = .ok (.iload_n 1, 1) := dk_27 (by decide +kernel)
theorem dX12_workSum_46 : decode cX12_workSum 46 = .ok (.iconst 1, 1) := dk_4 (by decide +kernel)
theorem dX12_workSum_47 : decode cX12_workSum 47 = .ok (.iastore, 1) := dk_79 (by decide +kernel)
theorem dX12_workSum_48 : decode cX12_workSum 48 = .ok (.goto 224, 3) := dk_167 (by decide +kernel)
theorem dX12_workSum_51 : decode cX12_workSum 51 = .ok (.aload_n 0, 1) := dk_42 (by decide +kernel)
theorem dX12_workSum_52 : decode cX12_workSum 52 = .ok (.getfield 182, 3) := dk_180 (by decide +kernel)
theorem dX12_workSum_55 : decode cX12_workSum 55 = .ok (.iload_n 1, 1) := dk_27 (by decide +kernel)
theorem dX12_workSum_56 : decode cX12_workSum 56 = .ok (.iaload, 1) := dk_46 (by decide +kernel)
theorem dX12_workSum_57 : decode cX12_workSum 57 = .ok (.iconst 1, 1) := dk_4 (by decide +kernel)
theorem dX12_workSum_58 : decode cX12_workSum 58 = .ok (.if_icmp .ne 92, 3) := dk_160 (by decide +kernel)
theorem dX12_workSum_61 : decode cX12_workSum 61 = .ok (.aload_n 0, 1) := dk_42 (by decide +kernel)
theorem dX12_workSum_62 : decode cX12_workSum 62 = .ok (.getfield 185, 3) := dk_180 (by decide +kernel)
theorem dX12_workSum_65 : decode cX12_workSum 65 = .ok (.iload_n 1, 1) := dk_27 (by decide +kernel)
theorem dX12_workSum_66 : decode cX12_workSum 66 = .ok (.iaload, 1) := dk_46 (by decide +kernel)
theorem dX12_workSum_67 : decode cX12_workSum 67 = .ok (.aload_n 0, 1) := dk_42 (by decide +kernel)
theorem dX12_workSum_68 : decode cX12_workSum 68 = .ok (.iload_n 3, 1) := dk_29 (by decide +kernel)
theorem dX12_workSum_69 : decode cX12_workSum 69 = .ok (.invokevirtual 693, 3) := dk_182 (by decide +kernel)
theorem dX12_workSum_72 : decode cX12_workSum 72 = .ok (.if_icmp .ne 14, 3) := dk_160 (by decide +kernel)
theorem dX12_workSum_75 : decode cX12_workSum 75 = .ok (.aload_n 0, 1) := dk_42 (by decide +kernel)
theorem dX12_workSum_76 : decode cX12_workSum 76 = .ok (.dup, 1) := dk_89 (by decide +kernel)
theorem dX12_workSum_77 : decode cX12_workSum 77 = .ok (.getfield 647, 3) := dk_180 (by decide +kernel)
theorem dX12_workSum_80 : decode cX12_workSum 80 = .ok (.iconst 1, 1) := dk_4 (by decide +kernel)
theorem dX12_workSum_81 : decode cX12_workSum 81 = .ok (.isub, 1) := dk_100 (by decide +kernel)
theorem dX12_workSum_82 : decode cX12_workSum 82 = .ok (.putfield 647, 3) := dk_181 (by decide +kernel)
theorem dX12_workSum_85 : decode cX12_workSum 85 = .ok (.return_, 1) := dk_177 (by decide +kernel)
theorem dX12_workSum_86 : decode cX12_workSum 86 = .ok (.aload_n 0, 1) := dk_42 (by decide +kernel)
theorem dX12_workSum_87 : decode cX12_workSum 87 = .ok (.iload_n 3, 1) := dk_29 (by decide +kernel)
theorem dX12_workSum_88 : decode cX12_workSum 88 = .ok (.aload_n 0, 1) := dk_42 (by decide +kernel)
theorem dX12_workSum_89 : decode cX12_workSum 89 = .ok (.getfield 185, 3) := dk_180 (by decide +kernel)
theorem dX12_workSum_92 : decode cX12_workSum 92 = .ok (.iload_n 1, 1) := dk_27 (by decide +kernel)
theorem dX12_workSum_93 : decode cX12_workSum 93 = .ok (.iaload, 1) := dk_46 (by decide +kernel)
theorem dX12_workSum_94 : decode cX12_workSum 94 = .ok (.invokevirtual 696, 3) := dk_182 (by decide +kernel)
theorem dX12_workSum_97 : decode cX12_workSum 97 = .ok (.aload_n 0, 1) := dk_42 (by decide +kernel)
theorem dX12_workSum_98 : decode cX12_workSum 98 = .ok (.getfield 182, 3) := dk_180 (by decide +kernel)
theorem dX12_workSum_101 : decode cX12_workSum 101 = .ok (.iload_n 1, 1) := dk_27 (by decide +kernel)
theorem dX12_workSum_102 : decode cX12_workSum 102 = .ok (.aload_n 0, 1) := dk_42 (by decide +kernel)
theorem dX12_workSum_103 : decode cX12_workSum 103 = .ok (.getfield 116, 3) := dk_180 (by decide +kernel)
theorem dX12_workSum_106 : decode cX12_workSum 106 = .ok (.iload_n 2, 1) := dk_28 (by decide +kernel)
theorem dX12_workSum_107 : decode cX12_workSum 107 = .ok (.iaload, 1) := dk_46 (by decide +kernel)
theorem dX12_workSum_108 : decode cX12_workSum 108 = .ok (.iconst (-1), 1) := dk_2 (by decide +kernel)
theorem dX12_workSum_109 : decode cX12_workSum 109 = .ok (.if_icmp .ne 7, 3) := dk_160 (by decide +kernel)
theorem dX12_workSum_112 : decode cX12_workSum 112 = .ok (.iconst 3, 1) := dk_6 (by decide +kernel)
theorem dX12_workSum_113 : decode cX12_workSum 113 = .ok (.goto 4, 3) := dk_167 (by decide +kernel)
theorem dX12_workSum_116 : decode cX12_workSum 116 = .ok (.iconst 2, 1) := dk_5 (by decide +kernel)
theorem dX12_workSum_117 : decode cX12_workSum 117 = .ok (.iastore, 1) := dk_79 (by decide +kernel)
theorem dX12_workSum_118 : decode cX12_workSum 118 = .ok (.aload_n 0, 1) := dk_42 (by decide +kernel)
theorem dX12_workSum_119 : decode cX12_workSum 119 = .ok (.aload_n 0, 1) := dk_42 (by decide +kernel)
theorem dX12_workSum_120 : decode cX12_workSum 120 = .ok (.getfield 116, 3) := dk_180 (by decide +kernel)
theorem dX12_workSum_123 : decode cX12_workSum 123 = .ok (.iload_n 2, 1) := dk_28 (by decide +kernel)
theorem dX12_workSum_124 : decode cX12_workSum 124 = .ok (.iaload, 1) := dk_46 (by decide +kernel)
theorem dX12_workSum_125 : decode cX12_workSum 125 = .ok (.iconst (-1), 1) := dk_2 (by decide +kernel)
theorem dX12_workSum_126 : decode cX12_workSum 126 = .ok (.if_icmp .ne 12, 3) := dk_160 (by decide +kernel)
theorem dX12_workSum_129 : decode cX12_workSum 129 = .ok (.aload_n 0, 1) := dk_42 (by decide +kernel)
theorem dX12_workSum_130 : decode cX12_workSum 130 = .ok (.getfield 119, 3) := dk_180 (by decide +kernel)
theorem dX12_workSum_133 : decode cX12_workSum 133 = .ok (.iload_n 2, 1) := dk_28 (by decide +kernel)
theorem dX12_workSum_134 : decode cX12_workSum 134 = .ok (.iaload, 1) := dk_46 (by decide +kernel)
theorem dX12_workSum_135 : decode cX12_workSum 135 = .ok (.goto 9, 3) := dk_167 (by decide +kernel)
theorem dX12_workSum_138 : decode cX12_workSum 138 = .ok (.aload_n 0, 1) := dk_42 (by decide +kernel)
theorem dX12_workSum_139 : decode cX12_workSum 139 = .ok (.getfield 116, 3) := dk_180 (by decide +kernel)
theorem dX12_workSum_142 : decode cX12_workSum 142 = .ok (.iload_n 2, 1) := dk_28 (by decide +kernel)
theorem dX12_workSum_143 : decode cX12_workSum 143 = .ok (.iaload, 1) := dk_46 (by decide +kernel)
theorem dX12_workSum_144 : decode cX12_workSum 144 = .ok (.invokevirtual 650, 3) := dk_182 (by decide +kernel)
theorem dX12_workSum_147 : decode cX12_workSum 147 = .ok (.goto 125, 3) := dk_167 (by decide +kernel)
theorem dX12_workSum_150 : decode cX12_workSum 150 = .ok (.aload_n 0, 1) := dk_42 (by decide +kernel)
theorem dX12_workSum_151 : decode cX12_workSum 151 = .ok (.getfield 182, 3) := dk_180 (by decide +kernel)
theorem dX12_workSum_154 : decode cX12_workSum 154 = .ok (.iload_n 1, 1) := dk_27 (by decide +kernel)
theorem dX12_workSum_155 : decode cX12_workSum 155 = .ok (.iaload, 1) := dk_46 (by decide +kernel)
theorem dX12_workSum_156 : decode cX12_workSum 156 = .ok (.iconst 2, 1) := dk_5 (by decide +kernel)
theorem dX12_workSum_157 : decode cX12_workSum 157 = .ok (.if_icmp .ne 65, 3) := dk_160 (by decide +kernel)
theorem dX12_workSum_160 : decode cX12_workSum 160 = .ok (.aload_n 0, 1) := dk_42 (by decide +kernel)
theorem dX12_workSum_161 : decode cX12_workSum 161 = .ok (.getfield 182, 3) := dk_180 (by decide +kernel)
theorem dX12_workSum_164 : decode cX12_workSum 164 = .ok (.iload_n 1, 1) := dk_27 (by decide +kernel)
theorem dX12_workSum_165 : decode cX12_workSum 165 = .ok (.aload_n 0, 1) := dk_42 (by decide +kernel)
theorem dX12_workSum_166 : decode cX12_workSum 166 = .ok (.getfield 674, 3) := dk_180 (by decide +kernel)
theorem dX12_workSum_169 : decode cX12_workSum 169 = .ok (.ifCond .eq 7, 3) := dk_153 (by decide +kernel)
theorem dX12_workSum_172 : decode cX12_workSum 172 = .ok (.iconst 3, 1) := dk_6 (by decide +kernel)
theorem dX12_workSum_173 : decode cX12_workSum 173 = .ok (.goto 4, 3) := dk_167 (by decide +kernel)
theorem dX12_workSum_176 : decode cX12_workSum 176 = .ok (.iconst 1, 1) := dk_4 (by decide +kernel)
theorem dX12_workSum_177 : decode cX12_workSum 177 = .ok (.iastore, 1) := dk_79 (by decide +kernel)
theorem dX12_workSum_178 : decode cX12_workSum 178 = .ok (.aload_n 0, 1) := dk_42 (by decide +kernel)
theorem dX12_workSum_179 : decode cX12_workSum 179 = .ok (.iload_n 3, 1) := dk_29 (by decide +kernel)
theorem dX12_workSum_180 : decode cX12_workSum 180 = .ok (.aload_n 0, 1) := dk_42 (by decide +kernel)
theorem dX12_workSum_181 : decode cX12_workSum 181 = .ok (.getfield 185, 3) := dk_180 (by decide +kernel)
theorem dX12_workSum_184 : decode cX12_workSum 184 = .ok (.iload_n 1, 1) := dk_27 (by decide +kernel)
theorem dX12_workSum_185 : decode cX12_workSum 185 = .ok (.iaload, 1) := dk_46 (by decide +kernel)
theorem dX12_workSum_186 : decode cX12_workSum 186 = .ok (.invokevirtual 696, 3) := dk_182 (by decide +kernel)
theorem dX12_workSum_189 : decode cX12_workSum 189 = .ok (.aload_n 0, 1) := dk_42 (by decide +kernel)
theorem dX12_workSum_190 : decode cX12_workSum 190 = .ok (.getfield 674, 3) := dk_180 (by decide +kernel)
theorem dX12_workSum_193 : decode cX12_workSum 193 = .ok (.ifCond .eq 16, 3) := dk_153 (by decide +kernel)
theorem dX12_workSum_196 : decode cX12_workSum 196 = .ok (.aload_n 0, 1) := dk_42 (by decide +kernel)
theorem dX12_workSum_197 : decode cX12_workSum 197 = .ok (.aload_n 0, 1) := dk_42 (by decide +kernel)
theorem dX12_workSum_198 : decode cX12_workSum 198 = .ok (.getfield 119, 3) := dk_180 (by decide +kernel)
theorem dX12_workSum_201 : decode cX12_workSum 201 = .ok (.iload_n 2, 1) := dk_28 (by decide +kernel)
theorem dX12_workSum_202 : decode cX12_workSum 202 = .ok (.iaload, 1) := dk_46 (by decide +kernel)
theorem dX12_workSum_203 : decode cX12_workSum 203 = .ok (.invokevirtual 650, 3) := dk_182 (by decide +kernel)
theorem dX12_workSum_206 : decode cX12_workSum 206 = .ok (.goto 66, 3) := dk_167 (by decide +kernel)
theorem dX12_workSum_209 : decode cX12_workSum 209 = .ok (.aload_n 0, 1) := dk_42 (by decide +kernel)
theorem dX12_workSum_210 : decode cX12_workSum 210 = .ok (.getfield 185, 3) := dk_180 (by decide +kernel)
theorem dX12_workSum_213 : decode cX12_workSum 213 = .ok (.iload_n 1, 1) := dk_27 (by decide +kernel)
theorem dX12_workSum_214 : decode cX12_workSum 214 = .ok (.dup2, 1) := dk_92 (by decide +kernel)
theorem dX12_workSum_215 : decode cX12_workSum 215 = .ok (.iaload, 1) := dk_46 (by decide +kernel)
theorem dX12_workSum_216 : decode cX12_workSum 216 = .ok (.iconst 1, 1) := dk_4 (by decide +kernel)
theorem dX12_workSum_217 : decode cX12_workSum 217 = .ok (.iadd, 1) := dk_96 (by decide +kernel)
theorem dX12_workSum_218 : decode cX12_workSum 218 = .ok (.iastore, 1) := dk_79 (by decide +kernel)
theorem dX12_workSum_219 : decode cX12_workSum 219 = .ok (.goto 53, 3) := dk_167 (by decide +kernel)
theorem dX12_workSum_222 : decode cX12_workSum 222 = .ok (.aload_n 0, 1) := dk_42 (by decide +kernel)
theorem dX12_workSum_223 : decode cX12_workSum 223 = .ok (.aload_n 0, 1) := dk_42 (by decide +kernel)
theorem dX12_workSum_224 : decode cX12_workSum 224 = .ok (.getfield 659, 3) := dk_180 (by decide +kernel)
theorem dX12_workSum_227 : decode cX12_workSum 227 = .ok (.iconst 2, 1) := dk_5 (by decide +kernel)
theorem dX12_workSum_228 : decode cX12_workSum 228 = .ok (.isub, 1) := dk_100 (by decide +kernel)
theorem dX12_workSum_229 : decode cX12_workSum 229 = .ok (.aload_n 0, 1) := dk_42 (by decide +kernel)
theorem dX12_workSum_230 : decode cX12_workSum 230 = .ok (.getfield 659, 3) := dk_180 (by decide +kernel)
theorem dX12_workSum_233 : decode cX12_workSum 233 = .ok (.iconst 1, 1) := dk_4 (by decide +kernel)
theorem dX12_workSum_234 : decode cX12_workSum 234 = .ok (.isub, 1) := dk_100 (by decide +kernel)
theorem dX12_workSum_235 : decode cX12_workSum 235 = .ok (.iconst 1, 1) := dk_4 (by decide +kernel)
theorem dX12_workSum_236 : decode cX12_workSum 236 = .ok (.aload_n 0, 1) := dk_42 (by decide +kernel)
theorem dX12_workSum_237 : decode cX12_workSum 237 = .ok (.getfield 122, 3) := dk_180 (by decide +kernel)
theorem dX12_workSum_240 : decode cX12_workSum 240 = .ok (.iload_n 2, 1) := dk_28 (by decide +kernel)
theorem dX12_workSum_241 : decode cX12_workSum 241 = .ok (.iaload, 1) := dk_46 (by decide +kernel)
theorem dX12_workSum_242 : decode cX12_workSum 242 = .ok (.invokevirtual 683, 3) := dk_182 (by decide +kernel)
theorem dX12_workSum_245 : decode cX12_workSum 245 = .ok (.aload_n 0, 1) := dk_42 (by decide +kernel)
theorem dX12_workSum_246 : decode cX12_workSum 246 = .ok (.dup, 1) := dk_89 (by decide +kernel)
theorem dX12_workSum_247 : decode cX12_workSum 247 = .ok (.getfield 659, 3) := dk_180 (by decide +kernel)
theorem dX12_workSum_250 : decode cX12_workSum 250 = .ok (.iconst 1, 1) := dk_4 (by decide +kernel)
theorem dX12_workSum_251 : decode cX12_workSum 251 = .ok (.isub, 1) := dk_100 (by decide +kernel)
theorem dX12_workSum_252 : decode cX12_workSum 252 = .ok (.putfield 659, 3) := dk_181 (by decide +kernel)
theorem dX12_workSum_255 : decode cX12_workSum 255 = .ok (.aload_n 0, 1) := dk_42 (by decide +kernel)
theorem dX12_workSum_256 : decode cX12_workSum 256 = .ok (.getfield 185, 3) := dk_180 (by decide +kernel)
theorem dX12_workSum_259 : decode cX12_workSum 259 = .ok (.iload_n 1, 1) := dk_27 (by decide +kernel)
theorem dX12_workSum_260 : decode cX12_workSum 260 = .ok (.dup2, 1) := dk_92 (by decide +kernel)
theorem dX12_workSum_261 : decode cX12_workSum 261 = .ok (.iaload, 1) := dk_46 (by decide +kernel)
theorem dX12_workSum_262 : decode cX12_workSum 262 = .ok (.iconst 1, 1) := dk_4 (by decide +kernel)
theorem dX12_workSum_263 : decode cX12_workSum 263 = .ok (.iadd, 1) := dk_96 (by decide +kernel)
theorem dX12_workSum_264 : decode cX12_workSum 264 = .ok (.iastore, 1) := dk_79 (by decide +kernel)
theorem dX12_workSum_265 : decode cX12_workSum 265 = .ok (.aload_n 0, 1) := dk_42 (by decide +kernel)
theorem dX12_workSum_266 : decode cX12_workSum 266 = .ok (.getfield 182, 3) := dk_180 (by decide +kernel)
theorem dX12_workSum_269 : decode cX12_workSum 269 = .ok (.iload_n 1, 1) := dk_27 (by decide +kernel)
theorem dX12_workSum_270 : decode cX12_workSum 270 = .ok (.iconst 1, 1) := dk_4 (by decide +kernel)
theorem dX12_workSum_271 : decode cX12_workSum 271 = .ok (.iastore, 1) := dk_79 (by decide +kernel)
theorem dX12_workSum_272 : decode cX12_workSum 272 = .ok (.return_, 1) := dk_177 (by decide +kernel)
def wsRX12_workSum : List Cond := .code yX12_workSum cX12_workSum 4 none :: ([.fieldLink RX12 113 "OptimaWorksModel" "partA" "[I", .fieldLink RX12 182 "OptimaWorksModel" "stage" "[I", .fieldLink RX12 659 "OptimaWorksModel" "piled" "I", .fieldLink RX12 122 "OptimaWorksModel" "where" "[I", .fieldLink RX12 185 "OptimaWorksModel" "loopA" "[I", .fieldLink RX12 674 "OptimaWorksModel" "truth" "Z", .fieldLink RX12 119 "OptimaWorksModel" "partC" "[I", .fieldLink RX12 116 "OptimaWorksModel" "partB" "[I", .fieldLink RX12 647 "OptimaWorksModel" "framed" "I"] ++ wsX120 ++ (wsV RX12 683 RX12 yX12_join wsRX12_join) ++ (wsV RX12 696 RX12 yX12_bind wsRX12_bind) ++ (wsV RX12 650 RX12 yX12_call wsRX12_call) ++ (wsV RX12 693 RX12 yX12_membersOf wsRmembersOfm) ++ (wsV RX12 662 RX12 yX12_nought wsRX12_nought))
theorem iwsRX12_workSum_in12 : ∀ w ∈ wsX120, w ∈ wsRX12_workSum := fun _ h => List.mem_cons_of_mem _ (List.mem_append_left _ (List.mem_append_left _ (List.mem_append_left _ (List.mem_append_left _ (List.mem_append_left _ (List.mem_append_right _ h))))))
theorem gwsRX12_workSum_0 : GoodIn wsRX12_workSum (wsV RX12 683 RX12 yX12_join wsRX12_join) := goodIn_sub (fun _ h => List.mem_cons_of_mem _ (List.mem_append_left _ (List.mem_append_left _ (List.mem_append_left _ (List.mem_append_left _ (List.mem_append_right _ h)))))) (gdV (by decide +kernel) gdwsRX12_join)
theorem gwsRX12_workSum_1 : GoodIn wsRX12_workSum (wsV RX12 696 RX12 yX12_bind wsRX12_bind) := goodIn_sub (fun _ h => List.mem_cons_of_mem _ (List.mem_append_left _ (List.mem_append_left _ (List.mem_append_left _ (List.mem_append_right _ h))))) (gdV (by decide +kernel) gdwsRX12_bind)
theorem gwsRX12_workSum_2 : GoodIn wsRX12_workSum (wsV RX12 650 RX12 yX12_call wsRX12_call) := goodIn_sub (fun _ h => List.mem_cons_of_mem _ (List.mem_append_left _ (List.mem_append_left _ (List.mem_append_right _ h)))) (gdV (by decide +kernel) gdwsRX12_call)
theorem gwsRX12_workSum_3 : GoodIn wsRX12_workSum (wsV RX12 693 RX12 yX12_membersOf wsRmembersOfm) := goodIn_sub (fun _ h => List.mem_cons_of_mem _ (List.mem_append_left _ (List.mem_append_right _ h))) (gdV (by decide +kernel) gdwsRmembersOfm)
theorem gwsRX12_workSum_4 : GoodIn wsRX12_workSum (wsV RX12 662 RX12 yX12_nought wsRX12_nought) := goodIn_sub (fun _ h => List.mem_cons_of_mem _ (List.mem_append_right _ h)) (gdV (by decide +kernel) gdwsRX12_nought)
theorem gdwsRX12_workSum : wsRX12_workSum.all goodWord = true := gdC rfl (gdA (gdA (gdA (gdA (gdA (gdA (by decide +kernel : ([.fieldLink RX12 113 "OptimaWorksModel" "partA" "[I", .fieldLink RX12 182 "OptimaWorksModel" "stage" "[I", .fieldLink RX12 659 "OptimaWorksModel" "piled" "I", .fieldLink RX12 122 "OptimaWorksModel" "where" "[I", .fieldLink RX12 185 "OptimaWorksModel" "loopA" "[I", .fieldLink RX12 674 "OptimaWorksModel" "truth" "Z", .fieldLink RX12 119 "OptimaWorksModel" "partC" "[I", .fieldLink RX12 116 "OptimaWorksModel" "partB" "[I", .fieldLink RX12 647 "OptimaWorksModel" "framed" "I"] : List Cond).all goodWord = true) gdwsX120) (gdV (by decide +kernel) gdwsRX12_join)) (gdV (by decide +kernel) gdwsRX12_bind)) (gdV (by decide +kernel) gdwsRX12_call)) (gdV (by decide +kernel) gdwsRmembersOfm)) (gdV (by decide +kernel) gdwsRX12_nought))
theorem hm_r_X12_workSum_0 : (.fieldLink RX12 182 "OptimaWorksModel" "stage" "[I" : Cond) ∈ wsRX12_workSum := by decide +kernel
theorem hm_r_X12_workSum_1 : (.fieldLink RX12 659 "OptimaWorksModel" "piled" "I" : Cond) ∈ wsRX12_workSum := by decide +kernel
theorem hm_r_X12_workSum_2 : (.fieldLink RX12 185 "OptimaWorksModel" "loopA" "[I" : Cond) ∈ wsRX12_workSum := by decide +kernel
theorem hm_r_X12_workSum_3 : (.fieldLink RX12 674 "OptimaWorksModel" "truth" "Z" : Cond) ∈ wsRX12_workSum := by decide +kernel
theorem hm_r_X12_workSum_4 : (.fieldLink RX12 119 "OptimaWorksModel" "partC" "[I" : Cond) ∈ wsRX12_workSum := by decide +kernel
theorem hm_r_X12_workSum_5 : (.fieldLink RX12 116 "OptimaWorksModel" "partB" "[I" : Cond) ∈ wsRX12_workSum := by decide +kernel
theorem hm_r_X12_workSum_6 : (.fieldLink RX12 647 "OptimaWorksModel" "framed" "I" : Cond) ∈ wsRX12_workSum := by decide +kernel
set_option maxHeartbeats 4000000 in
set_option maxRecDepth 100000 in
/-- workSum(f, n) -/
theorem r_X12_workSum (l : Launch) (dC : Nat → ClassId) (dI : Nat → Nat → Nat) (a : Nat → Nat) (k : Nat → ClassId) (h0 : Nat) (vi : Nat → Int32) (vj : Nat → Int64) (vF : Nat → Nat → Int32) (vG : Nat → Nat → Int64) (nF : Nat → Nat → Int32) (V : Nat → Prop) (wt : Nat → Nat) (dp : Nat → Nat) (pd : Nat → Nat) (nN : Nat) (kN : Nat) (sN : Nat) (la : Nat) (hN : Nat) (pN : Nat) (rN : Nat) (fN : Nat) (fr : Nat) (bN : Nat) (se : Nat) (cN : Nat) (dV : Int32) (wW : Nat) (hnN : nN < 4000) (hfN : fN < 4299) (hkN : vF 29 nN = nI kN) (hsN : vF 53 fN = nI sN) (hfr9 : vi 89 = nI fr) (hfr1 : fr = fN + 1) (hTo : TopO nF V wt dp pd nN kN sN la hN pN rN) (hbB : vF 30 nN = nI bN) (hbN : bN < 900) (hBn : BnO (vF 36) (vF 37) (vF 38) se bN) (hse44 : se ≤ 44) (hSe : SeO (vF 16) (vF 17) se) (hMb : MbO (vF 17) (vF 36) (vF 37) bN (mbO nF nN)) (hmb4 : mbO nF nN ≤ 144) (hEn : EnO (vF 51)) (hcN : vF 32 nN = nI cN) (hdI : vF 31 nN = dV) (hdF : nF 31 nN = dV) (hSW : SumW nF V wt dp pd nN cN wW) (hwN : mbO nF nN * wW + 2 ≤ wt nN) (hla : 0 < sN → vF 54 fN = nI la) (hpl : vi 81 = nI pN) (hRw : ∀ v9, v9 < pN → RowU (vF 49) (vF 50) v9) (hpp : hN + pd nN ≤ 80) (hpd : 2 ≤ pd nN) (hst0 : 0 ≤ (vi 21).toInt) (hk9 : kN = 9) (sz : Nat) : Met l yX12_workSum wsRX12_workSum ({ frames := 3, cells := 0, slots := 0, locals := 87 }) (va_Pc [.ref h0, .int (nI fN), .int (nI nN)] (fun U => U.heap.size = sz ∧ va_P (dC, dI) vwCl (WR a k h0 vi vj vF vG) U.heap ∧ va_K (dC, dI) vwCl (tX12 k) U ∧ va_D (fun _ => True) (WR a k h0 vi vj vF vG))) (va_Qv (fun (u : (Nat → Int32) × (Nat → Int32) × (Nat → Int32) × (Nat → Int32) × (Nat → Int32) × (Nat → Int32) × (Nat) × (Nat) × (Int32) × (Int32)) => (∀ v9, v9 < (u.2.2.2.2.2.2.2.1) → RowU (u.1) (u.2.1) v9) ∧ (EnO (u.2.2.1)) ∧ (0 ≤ ((u.2.2.2.2.2.2.2.2.1)).toInt) ∧ ((u.2.2.2.2.2.2.2.2.1) = vi 21 ∨ 0 < ((u.2.2.2.2.2.2.2.2.1)).toInt) ∧ (StpO nF V wt dp pd nN kN fN hN rN (vF 52) (vF 53) (vF 54) (u.2.2.2.1) (u.2.2.2.2.1) (u.2.2.2.2.2.1) (u.2.2.2.2.2.2.1) (u.2.2.2.2.2.2.2.1))) (fun (u : (Nat → Int32) × (Nat → Int32) × (Nat → Int32) × (Nat → Int32) × (Nat → Int32) × (Nat → Int32) × (Nat) × (Nat) × (Int32) × (Int32)) t => va_P (dC, dI) vwCl (WR a k h0 (fT (fT (fT (fT vi 21 (u.2.2.2.2.2.2.2.2.1)) 22 (u.2.2.2.2.2.2.2.2.2)) 81 (nI (u.2.2.2.2.2.2.2.1))) 89 (nI (u.2.2.2.2.2.2.1))) vj (fT (fT (fT (fT (fT (fT vF 49 (u.1)) 50 (u.2.1)) 54 (u.2.2.2.2.2.1)) 53 (u.2.2.2.2.1)) 51 (u.2.2.1)) 52 (u.2.2.2.1)) vG) t.heap ∧ va_D (va_A (WR a k h0 vi vj vF vG) sz) (WR a k h0 (fT (fT (fT (fT vi 21 (u.2.2.2.2.2.2.2.2.1)) 22 (u.2.2.2.2.2.2.2.2.2)) 81 (nI (u.2.2.2.2.2.2.2.1))) 89 (nI (u.2.2.2.2.2.2.1))) vj (fT (fT (fT (fT (fT (fT vF 49 (u.1)) 50 (u.2.1)) 54 (u.2.2.2.2.2.1)) 53 (u.2.2.2.2.1)) 51 (u.2.2.1)) 52 (u.2.2.2.1)) vG)) (va_A (WR a k h0 vi vj vF vG) sz)) 0 0 (va_A (WR a k h0 vi vj vF vG) sz) := by
  refine Met.ofW (cc := cX12_workSum) (maxL := 4) (ret := none) (by decide) rfl ?_
  intro p e s m args below meth c s₁ B hml hv
  obtain ⟨rfl, hsz, hP, hK, hD0⟩ := hv
  have hx := B.exec
  have hb := B.bytes
  have hr := B.returns
  have hts := atoms_spec (ws := wsRX12_workSum) B.pre
  have hown : s.vm.findClass RX12 = some m.cls := findClass_of_methodNamed B.named
  have hlocks := B.notSynchronized
  subst hsz
  have hD := hD0.self (sz := s.heap.size)
  generalize hAe : va_A (WR a k h0 vi vj vF vG) s.heap.size = A at hD ⊢
  have hA : ∀ q : Nat, s.heap.size ≤ q → A q := fun q h => by rw [← hAe]; exact Or.inr h
  have hS : va_S A s.heap s.heap [] := va_S.rf
  have hl := lv_entry ([.ref h0, .int (nI fN), .int (nI nN)]) (n := 4) (Nat.le_of_ble_eq_true rfl)
  rw [lg_entry_eq]
  generalize (lg_sl ([.ref h0, .int (nI fN), .int (nI nN)]) ++ List.replicate (4 - (lg_sl ([.ref h0, .int (nI fN), .int (nI nN)])).length) Slot.unset).toArray = ls at hl ⊢
  have hl : lv_has ls 4 [(0, .ref h0), (1, .int (nI fN)), (2, .int (nI nN))] := hl
  have hs0 : (sN = 0 ∧ pN = hN) ∨ (sN = 1 ∧ pN = hN + 1 ∧ la ≤ mbO nF nN) ∨ (sN = 2 ∧ pN = hN + 1 ∧ la < mbO nF nN) ∨ (sN = 3 ∧ pN = hN + 2 ∧ la < mbO nF nN) := by (rcases hTo.sum hk9 with h9 | h9 | h9 | h9); (exact Or.inl ⟨h9.1, h9.2.1⟩); (exact Or.inr (Or.inl ⟨h9.1, h9.2.1, h9.2.2.1⟩)); (exact Or.inr (Or.inr (Or.inl ⟨h9.1, h9.2.1, h9.2.2.1⟩))); (exact Or.inr (Or.inr (Or.inr ⟨h9.1, h9.2.1, h9.2.2.1⟩)))
  refine lv_aload_n hx hb dX12_workSum_0 rfl (lv_at hl 0 rfl) ?_
  refine va_get (D := (dC, dI)) (ci := 12) (v := .ref (a 30)) (C := RX12) (T := TX12) (N := 163) (fs := fM (vS a vi vj)) hx hb hts iwsRX12_workSum_in12 hown hK hP 0 rfl rfl 54 (by decide) (hts (.fieldLink RX12 113 "OptimaWorksModel" "partA" "[I") (by decide +kernel)) (fun _ h9 => h9) rfl dX12_workSum_1 ?_
  refine lv_iload_n hx hb dX12_workSum_4 rfl (lv_at hl 2 rfl) ?_
  refine va_iald (cA := k 30) (n := 4200) (f := (vF 30)) hx hb hK hP 31 30 (WR_get 30 (by decide)) (TR_get 30 (by decide)) (vp_in_nI (show nN < 4200 by omega) (by omega)) dX12_workSum_5 ?_
  refine lv_topi (fun y1 hy1 => ?_)
  obtain rfl : ((vF 30) nN) = y1 := (hy1.trans (by rw [nI_clamp (by omega)])).symm
  refine lv_topi (fun y2 hy2 => ?_)
  obtain rfl : (nI bN) = y2 := (hy2.trans (hbB)).symm
  refine lv_istore_n hx hb dX12_workSum_6 rfl hl (by decide) rfl (fun ls (hl : lv_has ls _ ([(3, .int (nI bN)), (0, .ref h0), (1, .int (nI fN)), (2, .int (nI nN))])) => ?_)
  refine lv_aload_n hx hb dX12_workSum_7 rfl (lv_at hl 1 rfl) ?_
  refine va_get (D := (dC, dI)) (ci := 12) (v := .ref (a 53)) (C := RX12) (T := TX12) (N := 163) (fs := fM (vS a vi vj)) hx hb hts iwsRX12_workSum_in12 hown hK hP 0 rfl rfl 86 (by decide) (hts _ hm_r_X12_workSum_0) (fun _ h9 => h9) rfl dX12_workSum_8 ?_
  refine lv_iload_n hx hb dX12_workSum_11 rfl (lv_at hl 2 rfl) ?_
  refine va_iald (cA := k 53) (n := 4300) (f := (vF 53)) hx hb hK hP 54 53 (WR_get 53 (by decide)) (TR_get 53 (by decide)) (vp_in_nI (show fN < 4300 by omega) (by omega)) dX12_workSum_12 ?_
  refine lv_topi (fun y3 hy3 => ?_)
  obtain rfl : ((vF 53) fN) = y3 := (hy3.trans (by rw [nI_clamp (by omega)])).symm
  refine lv_topi (fun y4 hy4 => ?_)
  obtain rfl : (nI sN) = y4 := (hy4.trans (hsN)).symm
  refine lv_if_ne (tgt := 51) hx hb dX12_workSum_13 (by decide) (fun c_13 => ?_) (fun c_13 => ?_)
  · have t_13 : ((sN : Nat) : Int) ≠ 0 := toI_ne c_13 (nI_toInt (by omega)) (by decide)
    refine lv_aload_n hx hb dX12_workSum_51 rfl (lv_at hl 1 rfl) ?_
    refine va_get (D := (dC, dI)) (ci := 12) (v := .ref (a 53)) (C := RX12) (T := TX12) (N := 163) (fs := fM (vS a vi vj)) hx hb hts iwsRX12_workSum_in12 hown hK hP 0 rfl rfl 86 (by decide) (hts _ hm_r_X12_workSum_0) (fun _ h9 => h9) rfl dX12_workSum_52 ?_
    refine lv_iload_n hx hb dX12_workSum_55 rfl (lv_at hl 2 rfl) ?_
    refine va_iald (cA := k 53) (n := 4300) (f := (vF 53)) hx hb hK hP 54 53 (WR_get 53 (by decide)) (TR_get 53 (by decide)) (vp_in_nI (show fN < 4300 by omega) (by omega)) dX12_workSum_56 ?_
    refine lv_topi (fun y5 hy5 => ?_)
    obtain rfl : ((vF 53) fN) = y5 := (hy5.trans (by rw [nI_clamp (by omega)])).symm
    refine lv_topi (fun y6 hy6 => ?_)
    obtain rfl : (nI sN) = y6 := (hy6.trans (hsN)).symm
    refine lv_iconst (v := 1) hx hb dX12_workSum_57 (by decide) ?_
    refine lv_icmp_ne (tgt := 150) hx hb dX12_workSum_58 (by decide) (fun c_58 => ?_) (fun c_58 => ?_)
    · have t_58 : ((sN : Nat) : Int) ≠ 1 := toI_ne c_58 (nI_toInt (by omega)) (by decide)
      refine lv_aload_n hx hb dX12_workSum_150 rfl (lv_at hl 1 rfl) ?_
      refine va_get (D := (dC, dI)) (ci := 12) (v := .ref (a 53)) (C := RX12) (T := TX12) (N := 163) (fs := fM (vS a vi vj)) hx hb hts iwsRX12_workSum_in12 hown hK hP 0 rfl rfl 86 (by decide) (hts _ hm_r_X12_workSum_0) (fun _ h9 => h9) rfl dX12_workSum_151 ?_
      refine lv_iload_n hx hb dX12_workSum_154 rfl (lv_at hl 2 rfl) ?_
      refine va_iald (cA := k 53) (n := 4300) (f := (vF 53)) hx hb hK hP 54 53 (WR_get 53 (by decide)) (TR_get 53 (by decide)) (vp_in_nI (show fN < 4300 by omega) (by omega)) dX12_workSum_155 ?_
      refine lv_topi (fun y7 hy7 => ?_)
      obtain rfl : ((vF 53) fN) = y7 := (hy7.trans (by rw [nI_clamp (by omega)])).symm
      refine lv_topi (fun y8 hy8 => ?_)
      obtain rfl : (nI sN) = y8 := (hy8.trans (hsN)).symm
      refine lv_iconst (v := 2) hx hb dX12_workSum_156 (by decide) ?_
      refine lv_icmp_ne (tgt := 222) hx hb dX12_workSum_157 (by decide) (fun c_157 => ?_) (fun c_157 => ?_)
      · have t_157 : ((sN : Nat) : Int) ≠ 2 := toI_ne c_157 (nI_toInt (by omega)) (by decide)
        refine lv_aload_n hx hb dX12_workSum_222 rfl (lv_at hl 1 rfl) ?_
        refine lv_aload_n hx hb dX12_workSum_223 rfl (lv_at hl 1 rfl) ?_
        refine va_get (D := (dC, dI)) (ci := 12) (v := .int (vi 81)) (C := RX12) (T := TX12) (N := 163) (fs := fM (vS a vi vj)) hx hb hts iwsRX12_workSum_in12 hown hK hP 0 rfl rfl 81 (by decide) (hts _ hm_r_X12_workSum_1) (fun _ h9 => h9) rfl dX12_workSum_224 ?_
        refine lv_topi (fun y9 hy9 => ?_)
        obtain rfl : (nI pN) = y9 := (hy9.trans (hpl)).symm
        refine lv_iconst (v := 2) hx hb dX12_workSum_227 (by decide) ?_
        refine lv_isub hx hb dX12_workSum_228 ?_
        refine lv_topi (fun y10 hy10 => ?_)
        obtain rfl : (nI (pN - 2)) = y10 := (hy10.trans (pk_sub (a := pN) (b := 2) (by omega))).symm
        refine lv_aload_n hx hb dX12_workSum_229 rfl (lv_at hl 1 rfl) ?_
        refine va_get (D := (dC, dI)) (ci := 12) (v := .int (vi 81)) (C := RX12) (T := TX12) (N := 163) (fs := fM (vS a vi vj)) hx hb hts iwsRX12_workSum_in12 hown hK hP 0 rfl rfl 81 (by decide) (hts _ hm_r_X12_workSum_1) (fun _ h9 => h9) rfl dX12_workSum_230 ?_
        refine lv_topi (fun y11 hy11 => ?_)
        obtain rfl : (nI pN) = y11 := (hy11.trans (hpl)).symm
        refine lv_iconst (v := 1) hx hb dX12_workSum_233 (by decide) ?_
        refine lv_isub hx hb dX12_workSum_234 ?_
        refine lv_topi (fun y12 hy12 => ?_)
        obtain rfl : (nI (pN - 1)) = y12 := (hy12.trans (pk_sub (a := pN) (b := 1) (by omega))).symm
        refine lv_iconst (v := 1) hx hb dX12_workSum_235 (by decide) ?_
        refine lv_aload_n hx hb dX12_workSum_236 rfl (lv_at hl 1 rfl) ?_
        refine va_get (D := (dC, dI)) (ci := 12) (v := .ref (a 33)) (C := RX12) (T := TX12) (N := 163) (fs := fM (vS a vi vj)) hx hb hts iwsRX12_workSum_in12 hown hK hP 0 rfl rfl 57 (by decide) (hts (.fieldLink RX12 122 "OptimaWorksModel" "where" "[I") (by decide +kernel)) (fun _ h9 => h9) rfl dX12_workSum_237 ?_
        refine lv_iload_n hx hb dX12_workSum_240 rfl (lv_at hl 3 rfl) ?_
        refine va_iald (cA := k 33) (n := 4200) (f := (vF 33)) hx hb hK hP 34 33 (WR_get 33 (by decide)) (TR_get 33 (by decide)) (vp_in_nI (show nN < 4200 by omega) (by omega)) dX12_workSum_241 ?_
        refine lv_topi (fun y13 hy13 => ?_)
        obtain rfl : ((vF 33) nN) = y13 := (hy13.trans (by rw [nI_clamp (by omega)])).symm
        have hFc := allFree hD hS hA
        refine va_callv (va_runV (As := [.int (nI (pN - 2)), .int (nI (pN - 1)), .int 1, .int ((vF 33) nN)]) (rest := []) ⟨hx, hb, hml, hown, hts⟩ (r_X12_join l dC dI a k h0 vi vj vF vG (pN - 2) (pN - 1) 1 1 ((vF 33) nN) (by first | with_reducible assumption | decide | omega | rfl | assumption) (by first | with_reducible assumption | decide | omega | rfl | assumption) (by decide) (Or.inl rfl) (hRw _ (by omega)) (hRw _ (by omega)) s.heap.size) (cwV 4 hts gwsRX12_workSum_0 rfl rfl rfl hd_yX12_join_RX12 (by decide +kernel)) (fz_pre (va_recv hK hP (ci := 12) (q0 := 0) rfl rfl) hP hK hD) rfl rfl hl.1 rfl (lv_room (Nat.le_of_ble_eq_true rfl)) dX12_workSum_242 (by decide +kernel)) hS (fun q _ h => hFc q h) hFc (fun u t9_ H locs ht hvm hw9 hB9 hz1 hk1 hS => ?_)
        revert u hw9 hB9
        refine fz_p4 ?_
        intro s2242 p2242 f49242 f50242 hw9 hB9
        try dsimp only at hw9 hB9
        have hP : va_P (dC, dI) vwCl (WR a k h0 (fT (fT vi 21 s2242) 22 p2242) vj (fT (fT vF 49 f49242) 50 f50242) vG) H := fz_P ht hB9.1
        have hD := fz_sd hP (hB9.2.weaken (fun _ q _ h => hFc q.1 h)) rfl
        revert hw9
        refine fz_a4 ?_
        intro f242_0 f242_1 f242_2 f242_3
        have f242_0 : ∀ v9, v9 < 100 → RowU (vF 49) (vF 50) v9 → RowU f49242 f50242 v9 := f242_0
        have f242_1 : ∀ q, (q < 9 * (pN - 2) ∨ 9 * (pN - 2) + 9 ≤ q) → f49242 q = (vF 49) q := f242_1
        have f242_2 : ∀ q, (q < 9 * (pN - 2) ∨ 9 * (pN - 2) + 9 ≤ q) → f50242 q = (vF 50) q := f242_2
        have f242_3 : s2242 = (vi 21) ∨ 0 < (s2242).toInt := f242_3
        refine lv_aload_n hx hb dX12_workSum_245 rfl (lv_at hl 1 rfl) ?_
        refine lv_dup hx hb dX12_workSum_246 rfl ?_
        refine va_get (D := (dC, dI)) (ci := 12) (v := .int (vi 81)) (C := RX12) (T := TX12) (N := 163) (fs := fM (vS a (fT (fT vi 21 s2242) 22 p2242) vj)) hx hb hts iwsRX12_workSum_in12 hown hK hP 0 rfl rfl 81 (by decide) (hts _ hm_r_X12_workSum_1) (fun _ h9 => h9) rfl dX12_workSum_247 ?_
        refine lv_topi (fun y14 hy14 => ?_)
        obtain rfl : (nI pN) = y14 := (hy14.trans (hpl)).symm
        refine lv_iconst (v := 1) hx hb dX12_workSum_250 (by decide) ?_
        refine lv_isub hx hb dX12_workSum_251 ?_
        refine lv_topi (fun y15 hy15 => ?_)
        obtain rfl : (nI (pN - 1)) = y15 := (hy15.trans (pk_sub (a := pN) (b := 1) (by omega))).symm
        refine va_put (D := (dC, dI)) (ci := 12) (v := .int (nI (pN - 1))) (ty := .int) (C := RX12) (T := TX12) (N := 163) (fs := fM (vS a (fT (fT vi 21 s2242) 22 p2242) vj)) hx hb hts iwsRX12_workSum_in12 tyX12 tyX12_ok nmX12 hown hK hP hD hS 0 rfl rfl 81 (by decide) (hts _ hm_r_X12_workSum_1) (fun _ h9 => h9) rfl (by decide +kernel) rfl rfl (Nat.le_of_ble_eq_true rfl) dX12_workSum_252 (fun H locs hP hD hS => ?_)
        have hP : va_P (dC, dI) vwCl (WR a k h0 (fT (fT (fT vi 21 s2242) 22 p2242) 81 (nI (pN - 1))) vj (fT (fT vF 49 f49242) 50 f50242) vG) H := fz_w (WR_i 81 _ rfl) hP
        have hD : va_D A (WR a k h0 (fT (fT (fT vi 21 s2242) 22 p2242) 81 (nI (pN - 1))) vj (fT (fT vF 49 f49242) 50 f50242) vG) := fz_wD (WR_i 81 _ rfl) hD
        refine lv_aload_n hx hb dX12_workSum_255 rfl (lv_at hl 1 rfl) ?_
        refine va_get (D := (dC, dI)) (ci := 12) (v := .ref (a 54)) (C := RX12) (T := TX12) (N := 163) (fs := fM (vS a (fT (fT (fT vi 21 s2242) 22 p2242) 81 (nI (pN - 1))) vj)) hx hb hts iwsRX12_workSum_in12 hown hK hP 0 rfl rfl 87 (by decide) (hts _ hm_r_X12_workSum_2) (fun _ h9 => h9) rfl dX12_workSum_256 ?_
        refine lv_iload_n hx hb dX12_workSum_259 rfl (lv_at hl 2 rfl) ?_
        refine lv_dup2_11 hx hb dX12_workSum_260 rfl rfl ?_
        refine va_iald (cA := k 54) (n := 4300) (f := (vF 54)) hx hb hK hP 55 54 (WR_get 54 (by decide)) (TR_get 54 (by decide)) (vp_in_nI (show fN < 4300 by omega) (by omega)) dX12_workSum_261 ?_
        refine lv_topi (fun y16 hy16 => ?_)
        obtain rfl : ((vF 54) fN) = y16 := (hy16.trans (by rw [nI_clamp (by omega)])).symm
        refine lv_topi (fun y17 hy17 => ?_)
        obtain rfl : (nI la) = y17 := (hy17.trans (hla (by omega))).symm
        refine lv_iconst (v := 1) hx hb dX12_workSum_262 (by decide) ?_
        refine lv_iadd hx hb dX12_workSum_263 ?_
        refine lv_topi (fun y18 hy18 => ?_)
        obtain rfl : (nI (la + 1)) = y18 := (hy18.trans (nI_add la 1)).symm
        refine va_iast (cA := k 54) (n := 4300) (f := (vF 54)) hx hb hK hP hD hS 55 54 (WR_get 54 (by decide)) (TR_get 54 (by decide)) (vp_in_nI (show fN < 4300 by omega) (by omega)) dX12_workSum_264 (fun H locs hP hD hS => ?_)
        have hP : va_P (dC, dI) vwCl (WR a k h0 (fT (fT (fT vi 21 s2242) 22 p2242) 81 (nI (pN - 1))) vj (fT (fT (fT vF 49 f49242) 50 f50242) 54 (upd (vF 54) ((nI fN)).toNatClampNeg (nI (la + 1)))) vG) H := fz_w (WR_F 54 (by decide) _ rfl) hP
        have hD : va_D A (WR a k h0 (fT (fT (fT vi 21 s2242) 22 p2242) 81 (nI (pN - 1))) vj (fT (fT (fT vF 49 f49242) 50 f50242) 54 (upd (vF 54) ((nI fN)).toNatClampNeg (nI (la + 1)))) vG) := fz_wD (WR_F 54 (by decide) _ rfl) hD
        refine lv_aload_n hx hb dX12_workSum_265 rfl (lv_at hl 1 rfl) ?_
        refine va_get (D := (dC, dI)) (ci := 12) (v := .ref (a 53)) (C := RX12) (T := TX12) (N := 163) (fs := fM (vS a (fT (fT (fT vi 21 s2242) 22 p2242) 81 (nI (pN - 1))) vj)) hx hb hts iwsRX12_workSum_in12 hown hK hP 0 rfl rfl 86 (by decide) (hts _ hm_r_X12_workSum_0) (fun _ h9 => h9) rfl dX12_workSum_266 ?_
        refine lv_iload_n hx hb dX12_workSum_269 rfl (lv_at hl 2 rfl) ?_
        refine lv_iconst (v := 1) hx hb dX12_workSum_270 (by decide) ?_
        refine va_iast (cA := k 53) (n := 4300) (f := (vF 53)) hx hb hK hP hD hS 54 53 (WR_get 53 (by decide)) (TR_get 53 (by decide)) (vp_in_nI (show fN < 4300 by omega) (by omega)) dX12_workSum_271 (fun H locs hP hD hS => ?_)
        have hP : va_P (dC, dI) vwCl (WR a k h0 (fT (fT (fT vi 21 s2242) 22 p2242) 81 (nI (pN - 1))) vj (fT (fT (fT (fT vF 49 f49242) 50 f50242) 54 (upd (vF 54) ((nI fN)).toNatClampNeg (nI (la + 1)))) 53 (upd (vF 53) ((nI fN)).toNatClampNeg 1)) vG) H := fz_w (WR_F 53 (by decide) _ rfl) hP
        have hD : va_D A (WR a k h0 (fT (fT (fT vi 21 s2242) 22 p2242) 81 (nI (pN - 1))) vj (fT (fT (fT (fT vF 49 f49242) 50 f50242) 54 (upd (vF 54) ((nI fN)).toNatClampNeg (nI (la + 1)))) 53 (upd (vF 53) ((nI fN)).toNatClampNeg 1)) vG) := fz_wD (WR_F 53 (by decide) _ rfl) hD
        refine W.widen (k := 0) (n := 0) (by decide +kernel) (by decide +kernel) ?_
        have e9 : fT (fT (fT (fT vi 21 s2242) 22 p2242) 81 (nI (pN - 1))) 89 (nI fr) = fT (fT (fT vi 21 s2242) 22 p2242) 81 (nI (pN - 1)) := Eq.trans (congrArg (fT _ 89) (show nI fr = vi 89 from (by first | with_reducible rfl | with_reducible assumption | (symm; with_reducible assumption) | rfl | assumption | (symm; assumption) | (subst_vars; rfl)))) (id_3 rfl)
        have hP := wr_Pi e9 hP
        have hD := wr_Di e9 hD
        clear e9
        have e9 : fT (fT (fT (fT (fT (fT vF 49 f49242) 50 f50242) 54 (upd (vF 54) ((nI fN)).toNatClampNeg (nI (la + 1)))) 53 (upd (vF 53) ((nI fN)).toNatClampNeg 1)) 51 (vF 51)) 52 (vF 52) = fT (fT (fT (fT vF 49 f49242) 50 f50242) 54 (upd (vF 54) ((nI fN)).toNatClampNeg (nI (la + 1)))) 53 (upd (vF 53) ((nI fN)).toNatClampNeg 1) := (fT_id _ _ ((fT_ne _ _ (Nat.ne_of_beq_eq_false rfl)).trans ((fT_ne _ _ (Nat.ne_of_beq_eq_false rfl)).trans ((fT_ne _ _ (Nat.ne_of_beq_eq_false rfl)).trans ((fT_ne _ _ (Nat.ne_of_beq_eq_false rfl)).trans (fT_ne _ _ (Nat.ne_of_beq_eq_false rfl))))))).trans (fT_id _ _ ((fT_ne _ _ (Nat.ne_of_beq_eq_false rfl)).trans ((fT_ne _ _ (Nat.ne_of_beq_eq_false rfl)).trans ((fT_ne _ _ (Nat.ne_of_beq_eq_false rfl)).trans (fT_ne _ _ (Nat.ne_of_beq_eq_false rfl))))))
        have hP := wr_PF e9 hP
        have hD := wr_DF e9 hD
        clear e9
        exact W.vret hx hb hr (fun t9_ ht hW => ⟨⟨(f49242, f50242, (vF 51), (vF 52), (upd (vF 53) ((nI fN)).toNatClampNeg 1), (upd (vF 54) ((nI fN)).toNatClampNeg (nI (la + 1))), fr, (pN - 1), s2242, p2242), rfl, by (try dsimp only); exact ⟨fun v9 h9 => f242_0 v9 (by omega) (hRw v9 (by omega)), hEn, by (rcases f242_3 with h9 | h9); (rw [h9]; exact hst0); omega, f242_3, by (obtain rfl : kN = 9 := hk9); (obtain rfl : sN = 3 := by omega); (have hlm : la < mbO nF nN := by omega); (obtain ⟨W9, h1, h2⟩ := hTo.s3 hSW.1); exact StpO.stay' 1 (la + 1) ((mbO nF nN - (la + 1)) * W9 + 1) rfl hfN hfr1 (fun q hq => by rw [upd_at (by omega), if_neg (by omega)]) (fun _ => by rw [upd_at (by omega), if_pos rfl]) (TopO.next (by omega) hlm h1 (Nat.le_refl _)) (by omega)⟩, by rw [ht]; exact hP, hD⟩, hS.F ht⟩) hS.2.2 dX12_workSum_272
      · have t_157 : ((sN : Nat) : Int) = 2 := toI_nne c_157 (nI_toInt (by omega)) (by decide)
        refine lv_aload_n hx hb dX12_workSum_160 rfl (lv_at hl 1 rfl) ?_
        refine va_get (D := (dC, dI)) (ci := 12) (v := .ref (a 53)) (C := RX12) (T := TX12) (N := 163) (fs := fM (vS a vi vj)) hx hb hts iwsRX12_workSum_in12 hown hK hP 0 rfl rfl 86 (by decide) (hts _ hm_r_X12_workSum_0) (fun _ h9 => h9) rfl dX12_workSum_161 ?_
        refine lv_iload_n hx hb dX12_workSum_164 rfl (lv_at hl 2 rfl) ?_
        refine lv_aload_n hx hb dX12_workSum_165 rfl (lv_at hl 1 rfl) ?_
        refine va_get (D := (dC, dI)) (ci := 12) (v := .int (vi 84)) (C := RX12) (T := TX12) (N := 163) (fs := fM (vS a vi vj)) hx hb hts iwsRX12_workSum_in12 hown hK hP 0 rfl rfl 84 (by decide) (hts _ hm_r_X12_workSum_3) (fun _ h9 => h9) rfl dX12_workSum_166 ?_
        refine lv_if_eq (tgt := 176) hx hb dX12_workSum_169 (by decide) (fun c_169 => ?_) (fun c_169 => ?_)
        · have t_169 : ((vi 84)).toInt = 0 := toI_eq c_169 rfl (by decide)
          refine lv_iconst (v := 1) hx hb dX12_workSum_176 (by decide) ?_
          refine va_iast (cA := k 53) (n := 4300) (f := (vF 53)) hx hb hK hP hD hS 54 53 (WR_get 53 (by decide)) (TR_get 53 (by decide)) (vp_in_nI (show fN < 4300 by omega) (by omega)) dX12_workSum_177 (fun H locs hP hD hS => ?_)
          have hP : va_P (dC, dI) vwCl (WR a k h0 vi vj (fT vF 53 (upd (vF 53) ((nI fN)).toNatClampNeg 1)) vG) H := fz_w (WR_F 53 (by decide) _ rfl) hP
          have hD : va_D A (WR a k h0 vi vj (fT vF 53 (upd (vF 53) ((nI fN)).toNatClampNeg 1)) vG) := fz_wD (WR_F 53 (by decide) _ rfl) hD
          refine lv_aload_n hx hb dX12_workSum_178 rfl (lv_at hl 1 rfl) ?_
          refine lv_iload_n hx hb dX12_workSum_179 rfl (lv_at hl 0 rfl) ?_
          refine lv_aload_n hx hb dX12_workSum_180 rfl (lv_at hl 1 rfl) ?_
          refine va_get (D := (dC, dI)) (ci := 12) (v := .ref (a 54)) (C := RX12) (T := TX12) (N := 163) (fs := fM (vS a vi vj)) hx hb hts iwsRX12_workSum_in12 hown hK hP 0 rfl rfl 87 (by decide) (hts _ hm_r_X12_workSum_2) (fun _ h9 => h9) rfl dX12_workSum_181 ?_
          refine lv_iload_n hx hb dX12_workSum_184 rfl (lv_at hl 2 rfl) ?_
          refine va_iald (cA := k 54) (n := 4300) (f := (vF 54)) hx hb hK hP 55 54 (WR_get 54 (by decide)) (TR_get 54 (by decide)) (vp_in_nI (show fN < 4300 by omega) (by omega)) dX12_workSum_185 ?_
          refine lv_topi (fun y19 hy19 => ?_)
          obtain rfl : ((vF 54) fN) = y19 := (hy19.trans (by rw [nI_clamp (by omega)])).symm
          refine lv_topi (fun y20 hy20 => ?_)
          obtain rfl : (nI la) = y20 := (hy20.trans (hla (by omega))).symm
          have hFc := allFree hD hS hA
          refine va_callv (va_runV (As := [.int (nI bN), .int (nI la)]) (rest := []) ⟨hx, hb, hml, hown, hts⟩ (r_X12_bind l dC dI a k h0 vi vj (fT vF 53 (upd (vF 53) ((nI fN)).toNatClampNeg 1)) vG bN la se (by first | with_reducible assumption | decide | omega | rfl | assumption) (by first | with_reducible assumption | decide | omega | rfl | assumption) (by first | with_reducible assumption | decide | omega | rfl | assumption) (by first | with_reducible assumption | decide | omega | rfl | assumption) (by first | with_reducible assumption | decide | omega | rfl | assumption) (by first | with_reducible assumption | decide | omega | rfl | assumption) H.size) (cwV 2 hts gwsRX12_workSum_1 rfl rfl rfl hd_yX12_bind_RX12 (by decide +kernel)) (fz_pre (va_recv hK hP (ci := 12) (q0 := 0) rfl rfl) hP hK hD) rfl rfl hl.1 rfl (lv_room (Nat.le_of_ble_eq_true rfl)) dX12_workSum_186 (by decide +kernel)) hS (fun q _ h => hFc q h) hFc (fun g51186 t9_ H locs ht hvm hw9 hB9 hz1 hk1 hS => ?_)
          have hP : va_P (dC, dI) vwCl (WR a k h0 vi vj (fT (fT vF 53 (upd (vF 53) ((nI fN)).toNatClampNeg 1)) 51 g51186) vG) H := fz_P ht hB9.1
          have hD := fz_sd hP (hB9.2.weaken (fun _ q _ h => hFc q.1 h)) rfl
          have f186_0 := hw9
          try dsimp only at f186_0
          refine lv_aload_n hx hb dX12_workSum_189 rfl (lv_at hl 1 rfl) ?_
          refine va_get (D := (dC, dI)) (ci := 12) (v := .int (vi 84)) (C := RX12) (T := TX12) (N := 163) (fs := fM (vS a vi vj)) hx hb hts iwsRX12_workSum_in12 hown hK hP 0 rfl rfl 84 (by decide) (hts _ hm_r_X12_workSum_3) (fun _ h9 => h9) rfl dX12_workSum_190 ?_
          refine lv_if_eq (tgt := 209) hx hb dX12_workSum_193 (by decide) (fun c_193 => ?_) (fun c9 => False.elim (by have t9 : ¬ ((vi 84)).toInt = 0 := toI_neq c9 rfl (by decide); omega))
          have t_193 : ((vi 84)).toInt = 0 := toI_eq c_193 rfl (by decide)
          refine lv_aload_n hx hb dX12_workSum_209 rfl (lv_at hl 1 rfl) ?_
          refine va_get (D := (dC, dI)) (ci := 12) (v := .ref (a 54)) (C := RX12) (T := TX12) (N := 163) (fs := fM (vS a vi vj)) hx hb hts iwsRX12_workSum_in12 hown hK hP 0 rfl rfl 87 (by decide) (hts _ hm_r_X12_workSum_2) (fun _ h9 => h9) rfl dX12_workSum_210 ?_
          refine lv_iload_n hx hb dX12_workSum_213 rfl (lv_at hl 2 rfl) ?_
          refine lv_dup2_11 hx hb dX12_workSum_214 rfl rfl ?_
          refine va_iald (cA := k 54) (n := 4300) (f := (vF 54)) hx hb hK hP 55 54 (WR_get 54 (by decide)) (TR_get 54 (by decide)) (vp_in_nI (show fN < 4300 by omega) (by omega)) dX12_workSum_215 ?_
          refine lv_topi (fun y21 hy21 => ?_)
          obtain rfl : ((vF 54) fN) = y21 := (hy21.trans (by rw [nI_clamp (by omega)])).symm
          refine lv_topi (fun y22 hy22 => ?_)
          obtain rfl : (nI la) = y22 := (hy22.trans (hla (by omega))).symm
          refine lv_iconst (v := 1) hx hb dX12_workSum_216 (by decide) ?_
          refine lv_iadd hx hb dX12_workSum_217 ?_
          refine lv_topi (fun y23 hy23 => ?_)
          obtain rfl : (nI (la + 1)) = y23 := (hy23.trans (nI_add la 1)).symm
          refine va_iast (cA := k 54) (n := 4300) (f := (vF 54)) hx hb hK hP hD hS 55 54 (WR_get 54 (by decide)) (TR_get 54 (by decide)) (vp_in_nI (show fN < 4300 by omega) (by omega)) dX12_workSum_218 (fun H locs hP hD hS => ?_)
          have hP : va_P (dC, dI) vwCl (WR a k h0 vi vj (fT (fT (fT vF 53 (upd (vF 53) ((nI fN)).toNatClampNeg 1)) 51 g51186) 54 (upd (vF 54) ((nI fN)).toNatClampNeg (nI (la + 1)))) vG) H := fz_w (WR_F 54 (by decide) _ rfl) hP
          have hD : va_D A (WR a k h0 vi vj (fT (fT (fT vF 53 (upd (vF 53) ((nI fN)).toNatClampNeg 1)) 51 g51186) 54 (upd (vF 54) ((nI fN)).toNatClampNeg (nI (la + 1)))) vG) := fz_wD (WR_F 54 (by decide) _ rfl) hD
          refine lv_goto (tgt := 272) hx hb dX12_workSum_219 (by decide) ?_
          refine W.widen (k := 0) (n := 0) (by decide +kernel) (by decide +kernel) ?_
          have e9 : fT (fT (fT (fT vi 21 (vi 21)) 22 (vi 22)) 81 (nI pN)) 89 (nI fr) = vi := Eq.trans (mv_3 rfl) (Eq.trans (id_3 rfl) (Eq.trans (mv_2 rfl) (Eq.trans (id_2 rfl) (Eq.trans (mv_1 rfl) (Eq.trans (congrArg (fT _ 81) (show nI pN = vi 81 from (by first | with_reducible rfl | with_reducible assumption | (symm; with_reducible assumption) | rfl | assumption | (symm; assumption) | (subst_vars; rfl)))) (Eq.trans (id_1 rfl) (Eq.trans (congrArg (fT _ 89) (show nI fr = vi 89 from (by first | with_reducible rfl | with_reducible assumption | (symm; with_reducible assumption) | rfl | assumption | (symm; assumption) | (subst_vars; rfl)))) (id_0 rfl))))))))
          have hP := wr_Pi e9 hP
          have hD := wr_Di e9 hD
          clear e9
          have e9 : fT (fT (fT (fT (fT (fT vF 49 (vF 49)) 50 (vF 50)) 54 (upd (vF 54) ((nI fN)).toNatClampNeg (nI (la + 1)))) 53 (upd (vF 53) ((nI fN)).toNatClampNeg 1)) 51 g51186) 52 (vF 52) = fT (fT (fT vF 53 (upd (vF 53) ((nI fN)).toNatClampNeg 1)) 51 g51186) 54 (upd (vF 54) ((nI fN)).toNatClampNeg (nI (la + 1))) := Eq.trans (mv_5 rfl) (Eq.trans (id_5 rfl) (Eq.trans (mv_4 rfl) (Eq.trans (id_4 rfl) (Eq.trans (id_3 rfl) (Eq.trans (mv_1 rfl) (Eq.trans (mv_1 rfl) (mv_2 rfl)))))))
          have hP := wr_PF e9 hP
          have hD := wr_DF e9 hD
          clear e9
          exact W.vret hx hb hr (fun t9_ ht hW => ⟨⟨((vF 49), (vF 50), g51186, (vF 52), (upd (vF 53) ((nI fN)).toNatClampNeg 1), (upd (vF 54) ((nI fN)).toNatClampNeg (nI (la + 1))), fr, pN, (vi 21), (vi 22)), rfl, by (try dsimp only); exact ⟨fun v9 h9 => hRw v9 h9, f186_0, hst0, Or.inl rfl, by (obtain rfl : kN = 9 := hk9); (obtain rfl : sN = 2 := by omega); (have hlm : la < mbO nF nN := by omega); (obtain ⟨W9, h1, h2⟩ := hTo.s2 hSW.1); exact StpO.stay' 1 (la + 1) ((mbO nF nN - (la + 1)) * W9 + 1) rfl hfN hfr1 (fun q hq => by rw [upd_at (by omega), if_neg (by omega)]) (fun _ => by rw [upd_at (by omega), if_pos rfl]) (TopO.next (by omega) hlm h1 (Nat.le_refl _)) (by omega)⟩, by rw [ht]; exact hP, hD⟩, hS.F ht⟩) hS.2.2 dX12_workSum_272
        · have t_169 : ¬ ((vi 84)).toInt = 0 := toI_neq c_169 rfl (by decide)
          refine lv_iconst (v := 3) hx hb dX12_workSum_172 (by decide) ?_
          refine lv_goto (tgt := 177) hx hb dX12_workSum_173 (by decide) ?_
          refine va_iast (cA := k 53) (n := 4300) (f := (vF 53)) hx hb hK hP hD hS 54 53 (WR_get 53 (by decide)) (TR_get 53 (by decide)) (vp_in_nI (show fN < 4300 by omega) (by omega)) dX12_workSum_177 (fun H locs hP hD hS => ?_)
          have hP : va_P (dC, dI) vwCl (WR a k h0 vi vj (fT vF 53 (upd (vF 53) ((nI fN)).toNatClampNeg 3)) vG) H := fz_w (WR_F 53 (by decide) _ rfl) hP
          have hD : va_D A (WR a k h0 vi vj (fT vF 53 (upd (vF 53) ((nI fN)).toNatClampNeg 3)) vG) := fz_wD (WR_F 53 (by decide) _ rfl) hD
          refine lv_aload_n hx hb dX12_workSum_178 rfl (lv_at hl 1 rfl) ?_
          refine lv_iload_n hx hb dX12_workSum_179 rfl (lv_at hl 0 rfl) ?_
          refine lv_aload_n hx hb dX12_workSum_180 rfl (lv_at hl 1 rfl) ?_
          refine va_get (D := (dC, dI)) (ci := 12) (v := .ref (a 54)) (C := RX12) (T := TX12) (N := 163) (fs := fM (vS a vi vj)) hx hb hts iwsRX12_workSum_in12 hown hK hP 0 rfl rfl 87 (by decide) (hts _ hm_r_X12_workSum_2) (fun _ h9 => h9) rfl dX12_workSum_181 ?_
          refine lv_iload_n hx hb dX12_workSum_184 rfl (lv_at hl 2 rfl) ?_
          refine va_iald (cA := k 54) (n := 4300) (f := (vF 54)) hx hb hK hP 55 54 (WR_get 54 (by decide)) (TR_get 54 (by decide)) (vp_in_nI (show fN < 4300 by omega) (by omega)) dX12_workSum_185 ?_
          refine lv_topi (fun y24 hy24 => ?_)
          obtain rfl : ((vF 54) fN) = y24 := (hy24.trans (by rw [nI_clamp (by omega)])).symm
          refine lv_topi (fun y25 hy25 => ?_)
          obtain rfl : (nI la) = y25 := (hy25.trans (hla (by omega))).symm
          have hFc := allFree hD hS hA
          refine va_callv (va_runV (As := [.int (nI bN), .int (nI la)]) (rest := []) ⟨hx, hb, hml, hown, hts⟩ (r_X12_bind l dC dI a k h0 vi vj (fT vF 53 (upd (vF 53) ((nI fN)).toNatClampNeg 3)) vG bN la se (by first | with_reducible assumption | decide | omega | rfl | assumption) (by first | with_reducible assumption | decide | omega | rfl | assumption) (by first | with_reducible assumption | decide | omega | rfl | assumption) (by first | with_reducible assumption | decide | omega | rfl | assumption) (by first | with_reducible assumption | decide | omega | rfl | assumption) (by first | with_reducible assumption | decide | omega | rfl | assumption) H.size) (cwV 2 hts gwsRX12_workSum_1 rfl rfl rfl hd_yX12_bind_RX12 (by decide +kernel)) (fz_pre (va_recv hK hP (ci := 12) (q0 := 0) rfl rfl) hP hK hD) rfl rfl hl.1 rfl (lv_room (Nat.le_of_ble_eq_true rfl)) dX12_workSum_186 (by decide +kernel)) hS (fun q _ h => hFc q h) hFc (fun g51186_1 t9_ H locs ht hvm hw9 hB9 hz1 hk1 hS => ?_)
          have hP : va_P (dC, dI) vwCl (WR a k h0 vi vj (fT (fT vF 53 (upd (vF 53) ((nI fN)).toNatClampNeg 3)) 51 g51186_1) vG) H := fz_P ht hB9.1
          have hD := fz_sd hP (hB9.2.weaken (fun _ q _ h => hFc q.1 h)) rfl
          have f186_1_0 := hw9
          try dsimp only at f186_1_0
          refine lv_aload_n hx hb dX12_workSum_189 rfl (lv_at hl 1 rfl) ?_
          refine va_get (D := (dC, dI)) (ci := 12) (v := .int (vi 84)) (C := RX12) (T := TX12) (N := 163) (fs := fM (vS a vi vj)) hx hb hts iwsRX12_workSum_in12 hown hK hP 0 rfl rfl 84 (by decide) (hts _ hm_r_X12_workSum_3) (fun _ h9 => h9) rfl dX12_workSum_190 ?_
          refine lv_if_eq (tgt := 209) hx hb dX12_workSum_193 (by decide) (fun c9 => False.elim (by have t9 : ((vi 84)).toInt = 0 := toI_eq c9 rfl (by decide); omega)) (fun c_193 => ?_)
          have t_193 : ¬ ((vi 84)).toInt = 0 := toI_neq c_193 rfl (by decide)
          refine lv_aload_n hx hb dX12_workSum_196 rfl (lv_at hl 1 rfl) ?_
          refine lv_aload_n hx hb dX12_workSum_197 rfl (lv_at hl 1 rfl) ?_
          refine va_get (D := (dC, dI)) (ci := 12) (v := .ref (a 32)) (C := RX12) (T := TX12) (N := 163) (fs := fM (vS a vi vj)) hx hb hts iwsRX12_workSum_in12 hown hK hP 0 rfl rfl 56 (by decide) (hts _ hm_r_X12_workSum_4) (fun _ h9 => h9) rfl dX12_workSum_198 ?_
          refine lv_iload_n hx hb dX12_workSum_201 rfl (lv_at hl 3 rfl) ?_
          refine va_iald (cA := k 32) (n := 4200) (f := (vF 32)) hx hb hK hP 33 32 (WR_get 32 (by decide)) (TR_get 32 (by decide)) (vp_in_nI (show nN < 4200 by omega) (by omega)) dX12_workSum_202 ?_
          refine lv_topi (fun y26 hy26 => ?_)
          obtain rfl : ((vF 32) nN) = y26 := (hy26.trans (by rw [nI_clamp (by omega)])).symm
          refine lv_topi (fun y27 hy27 => ?_)
          obtain rfl : (nI cN) = y27 := (hy27.trans (hcN)).symm
          have hFc := allFree hD hS hA
          refine va_callv (va_runV (As := [.int (nI cN)]) (rest := []) ⟨hx, hb, hml, hown, hts⟩ (r_X12_call l dC dI a k h0 vi vj (fT (fT vF 53 (upd (vF 53) ((nI fN)).toNatClampNeg 3)) 51 g51186_1) vG (nI cN) fr hfr9 (by first | with_reducible assumption | decide | omega | rfl | assumption) H.size) (cwV 1 hts gwsRX12_workSum_2 rfl rfl rfl hd_yX12_call_RX12 (by decide +kernel)) (fz_pre (va_recv hK hP (ci := 12) (q0 := 0) rfl rfl) hP hK hD) rfl rfl hl.1 rfl (lv_room (Nat.le_of_ble_eq_true rfl)) dX12_workSum_203 (by decide +kernel)) hS (fun q _ h => hFc q h) hFc (fun u t9_ H locs ht hvm hw9 hB9 hz1 hk1 hS => ?_)
          have e9F : fT (fT (fT vF 53 (upd (upd (vF 53) ((nI fN)).toNatClampNeg 3) (nI fr).toNatClampNeg 0)) 51 g51186_1) 52 (upd (vF 52) (nI fr).toNatClampNeg (nI cN)) = fT (fT (fT (fT vF 53 (upd (vF 53) ((nI fN)).toNatClampNeg 3)) 51 g51186_1) 52 (upd (vF 52) (nI fr).toNatClampNeg (nI cN))) 53 (upd (upd (vF 53) ((nI fN)).toNatClampNeg 3) (nI fr).toNatClampNeg 0) := ((fT_sw _ _ _ (Nat.ne_of_beq_eq_false rfl)).trans (congrArg (fun g9 => fT g9 52 (upd (vF 52) (nI fr).toNatClampNeg (nI cN))) ((fT_sw _ _ _ (Nat.ne_of_beq_eq_false rfl)).trans (congrArg (fun g9 => fT g9 51 g51186_1) (fT_sm _ _ _ _))))).symm
          have hP := wr_PF e9F (fz_P ht hB9.1)
          have hD := wr_DF e9F (hB9.2.weaken (fun _ q _ h => hFc q.1 h))
          clear e9F
          refine lv_goto (tgt := 272) hx hb dX12_workSum_206 (by decide) ?_
          refine W.widen (k := 0) (n := 0) (by decide +kernel) (by decide +kernel) ?_
          have e9 : fT (fT (fT (fT vi 21 (vi 21)) 22 (vi 22)) 81 (nI pN)) 89 (nI (fr + 1)) = fT vi 89 (nI (fr + 1)) := Eq.trans (mv_3 rfl) (Eq.trans (id_3 rfl) (Eq.trans (mv_2 rfl) (Eq.trans (id_2 rfl) (Eq.trans (mv_1 rfl) (Eq.trans (congrArg (fT _ 81) (show nI pN = vi 81 from (by first | with_reducible rfl | with_reducible assumption | (symm; with_reducible assumption) | rfl | assumption | (symm; assumption) | (subst_vars; rfl)))) (id_1 rfl))))))
          have hP := wr_Pi e9 hP
          have hD := wr_Di e9 hD
          clear e9
          have e9 : fT (fT (fT (fT (fT (fT vF 49 (vF 49)) 50 (vF 50)) 54 (vF 54)) 53 (upd (upd (vF 53) ((nI fN)).toNatClampNeg 3) (nI fr).toNatClampNeg 0)) 51 g51186_1) 52 (upd (vF 52) (nI fr).toNatClampNeg (nI cN)) = fT (fT (fT vF 53 (upd (upd (vF 53) ((nI fN)).toNatClampNeg 3) (nI fr).toNatClampNeg 0)) 51 g51186_1) 52 (upd (vF 52) (nI fr).toNatClampNeg (nI cN)) := Eq.trans (mv_5 rfl) (Eq.trans (id_5 rfl) (Eq.trans (mv_4 rfl) (Eq.trans (id_4 rfl) (Eq.trans (mv_3 rfl) (id_3 rfl)))))
          have hP := wr_PF e9 hP
          have hD := wr_DF e9 hD
          clear e9
          exact W.vret hx hb hr (fun t9_ ht hW => ⟨⟨((vF 49), (vF 50), g51186_1, (upd (vF 52) (nI fr).toNatClampNeg (nI cN)), (upd (upd (vF 53) ((nI fN)).toNatClampNeg 3) (nI fr).toNatClampNeg 0), (vF 54), (fr + 1), pN, (vi 21), (vi 22)), rfl, by (try dsimp only); exact ⟨fun v9 h9 => hRw v9 h9, f186_1_0, hst0, Or.inl rfl, by (obtain rfl : kN = 9 := hk9); (obtain rfl : sN = 2 := by omega); (have hlm : la < mbO nF nN := by omega); (obtain ⟨W9, h1, h2⟩ := hTo.s2 hSW.1); (have h4 := hSW.1.2.2.2.1); exact StpO.push' cN 3 la ((mbO nF nN - (la + 1)) * W9 + 3) rfl rfl hfN hfr1 (fun _ _ => rfl) (fun _ => hla (by omega)) hSW.1.2.1 hSW.1.2.2.1 (by omega) (WtO.s3 (by omega) hSW.1.2.2.2.2 hlm h1 (Nat.le_refl _)) (by omega)⟩, by rw [ht]; exact hP, hD⟩, hS.F ht⟩) hS.2.2 dX12_workSum_272
    · have t_58 : ((sN : Nat) : Int) = 1 := toI_nne c_58 (nI_toInt (by omega)) (by decide)
      refine lv_aload_n hx hb dX12_workSum_61 rfl (lv_at hl 1 rfl) ?_
      refine va_get (D := (dC, dI)) (ci := 12) (v := .ref (a 54)) (C := RX12) (T := TX12) (N := 163) (fs := fM (vS a vi vj)) hx hb hts iwsRX12_workSum_in12 hown hK hP 0 rfl rfl 87 (by decide) (hts _ hm_r_X12_workSum_2) (fun _ h9 => h9) rfl dX12_workSum_62 ?_
      refine lv_iload_n hx hb dX12_workSum_65 rfl (lv_at hl 2 rfl) ?_
      refine va_iald (cA := k 54) (n := 4300) (f := (vF 54)) hx hb hK hP 55 54 (WR_get 54 (by decide)) (TR_get 54 (by decide)) (vp_in_nI (show fN < 4300 by omega) (by omega)) dX12_workSum_66 ?_
      refine lv_topi (fun y28 hy28 => ?_)
      obtain rfl : ((vF 54) fN) = y28 := (hy28.trans (by rw [nI_clamp (by omega)])).symm
      refine lv_topi (fun y29 hy29 => ?_)
      obtain rfl : (nI la) = y29 := (hy29.trans (hla (by omega))).symm
      refine lv_aload_n hx hb dX12_workSum_67 rfl (lv_at hl 1 rfl) ?_
      refine lv_iload_n hx hb dX12_workSum_68 rfl (lv_at hl 0 rfl) ?_
      have hFc := allFree hD hS hA
      refine va_calli (va_runV (As := [.int (nI bN)]) (rest := [.int (nI la)]) ⟨hx, hb, hml, hown, hts⟩ (r_X12_membersOfm l dC dI a k h0 vi vj vF vG bN (mbO nF nN) (by first | with_reducible assumption | decide | omega | rfl | assumption) (by first | with_reducible assumption | decide | omega | rfl | assumption) s.heap.size) (cwV 1 hts gwsRX12_workSum_3 rfl rfl rfl hd_yX12_membersOf_RX12 (by decide +kernel)) (fz_pre (va_recv hK hP (ci := 12) (q0 := 0) rfl rfl) hP hK hD) rfl rfl hl.1 rfl (lv_room (Nat.le_of_ble_eq_true rfl)) dX12_workSum_69 (by decide +kernel)) hS (fun q _ h => hFc q h) hFc (fun r69 u t9_ H locs ht hvm hw9 hB9 hz1 hk1 hS => ?_)
      have hP : va_P (dC, dI) vwCl (WR a k h0 vi vj vF vG) H := fz_P ht hB9.1
      have hD := fz_sd hP (hB9.2.weaken (fun _ q _ h => hFc q.1 h)) rfl
      obtain rfl := hw9
      refine lv_icmp_ne (tgt := 86) hx hb dX12_workSum_72 (by decide) (fun c_72 => ?_) (fun c_72 => ?_)
      · have t_72 : ((la : Nat) : Int) ≠ (((mbO nF nN) : Nat) : Int) := toI_ne c_72 (nI_toInt (by omega)) (nI_toInt (by omega))
        refine lv_aload_n hx hb dX12_workSum_86 rfl (lv_at hl 1 rfl) ?_
        refine lv_iload_n hx hb dX12_workSum_87 rfl (lv_at hl 0 rfl) ?_
        refine lv_aload_n hx hb dX12_workSum_88 rfl (lv_at hl 1 rfl) ?_
        refine va_get (D := (dC, dI)) (ci := 12) (v := .ref (a 54)) (C := RX12) (T := TX12) (N := 163) (fs := fM (vS a vi vj)) hx hb hts iwsRX12_workSum_in12 hown hK hP 0 rfl rfl 87 (by decide) (hts _ hm_r_X12_workSum_2) (fun _ h9 => h9) rfl dX12_workSum_89 ?_
        refine lv_iload_n hx hb dX12_workSum_92 rfl (lv_at hl 2 rfl) ?_
        refine va_iald (cA := k 54) (n := 4300) (f := (vF 54)) hx hb hK hP 55 54 (WR_get 54 (by decide)) (TR_get 54 (by decide)) (vp_in_nI (show fN < 4300 by omega) (by omega)) dX12_workSum_93 ?_
        refine lv_topi (fun y30 hy30 => ?_)
        obtain rfl : ((vF 54) fN) = y30 := (hy30.trans (by rw [nI_clamp (by omega)])).symm
        refine lv_topi (fun y31 hy31 => ?_)
        obtain rfl : (nI la) = y31 := (hy31.trans (hla (by omega))).symm
        have hFc := allFree hD hS hA
        refine va_callv (va_runV (As := [.int (nI bN), .int (nI la)]) (rest := []) ⟨hx, hb, hml, hown, hts⟩ (r_X12_bind l dC dI a k h0 vi vj vF vG bN la se (by first | with_reducible assumption | decide | omega | rfl | assumption) (by first | with_reducible assumption | decide | omega | rfl | assumption) (by first | with_reducible assumption | decide | omega | rfl | assumption) (by first | with_reducible assumption | decide | omega | rfl | assumption) (by first | with_reducible assumption | decide | omega | rfl | assumption) (by first | with_reducible assumption | decide | omega | rfl | assumption) H.size) (cwV 2 hts gwsRX12_workSum_1 rfl rfl rfl hd_yX12_bind_RX12 (by decide +kernel)) (fz_pre (va_recv hK hP (ci := 12) (q0 := 0) rfl rfl) hP hK hD) rfl rfl hl.1 rfl (lv_room (Nat.le_of_ble_eq_true rfl)) dX12_workSum_94 (by decide +kernel)) hS (fun q _ h => hFc q h) hFc (fun g5194 t9_ H locs ht hvm hw9 hB9 hz1 hk1 hS => ?_)
        have hP : va_P (dC, dI) vwCl (WR a k h0 vi vj (fT vF 51 g5194) vG) H := fz_P ht hB9.1
        have hD := fz_sd hP (hB9.2.weaken (fun _ q _ h => hFc q.1 h)) rfl
        have f94_0 := hw9
        try dsimp only at f94_0
        refine lv_aload_n hx hb dX12_workSum_97 rfl (lv_at hl 1 rfl) ?_
        refine va_get (D := (dC, dI)) (ci := 12) (v := .ref (a 53)) (C := RX12) (T := TX12) (N := 163) (fs := fM (vS a vi vj)) hx hb hts iwsRX12_workSum_in12 hown hK hP 0 rfl rfl 86 (by decide) (hts _ hm_r_X12_workSum_0) (fun _ h9 => h9) rfl dX12_workSum_98 ?_
        refine lv_iload_n hx hb dX12_workSum_101 rfl (lv_at hl 2 rfl) ?_
        refine lv_aload_n hx hb dX12_workSum_102 rfl (lv_at hl 1 rfl) ?_
        refine va_get (D := (dC, dI)) (ci := 12) (v := .ref (a 31)) (C := RX12) (T := TX12) (N := 163) (fs := fM (vS a vi vj)) hx hb hts iwsRX12_workSum_in12 hown hK hP 0 rfl rfl 55 (by decide) (hts _ hm_r_X12_workSum_5) (fun _ h9 => h9) rfl dX12_workSum_103 ?_
        refine lv_iload_n hx hb dX12_workSum_106 rfl (lv_at hl 3 rfl) ?_
        refine va_iald (cA := k 31) (n := 4200) (f := (vF 31)) hx hb hK hP 32 31 (WR_get 31 (by decide)) (TR_get 31 (by decide)) (vp_in_nI (show nN < 4200 by omega) (by omega)) dX12_workSum_107 ?_
        refine lv_topi (fun y32 hy32 => ?_)
        obtain rfl : ((vF 31) nN) = y32 := (hy32.trans (by rw [nI_clamp (by omega)])).symm
        refine lv_topi (fun y33 hy33 => ?_)
        obtain rfl : dV = y33 := (hy33.trans (hdI)).symm
        refine lv_iconst (v := (-1)) hx hb dX12_workSum_108 (by decide) ?_
        refine lv_icmp_ne (tgt := 116) hx hb dX12_workSum_109 (by decide) (fun c_109 => ?_) (fun c_109 => ?_)
        · have t_109 : (dV).toInt ≠ -1 := toI_ne c_109 rfl (by decide)
          refine lv_iconst (v := 2) hx hb dX12_workSum_116 (by decide) ?_
          refine va_iast (cA := k 53) (n := 4300) (f := (vF 53)) hx hb hK hP hD hS 54 53 (WR_get 53 (by decide)) (TR_get 53 (by decide)) (vp_in_nI (show fN < 4300 by omega) (by omega)) dX12_workSum_117 (fun H locs hP hD hS => ?_)
          have hP : va_P (dC, dI) vwCl (WR a k h0 vi vj (fT (fT vF 51 g5194) 53 (upd (vF 53) ((nI fN)).toNatClampNeg 2)) vG) H := fz_w (WR_F 53 (by decide) _ rfl) hP
          have hD : va_D A (WR a k h0 vi vj (fT (fT vF 51 g5194) 53 (upd (vF 53) ((nI fN)).toNatClampNeg 2)) vG) := fz_wD (WR_F 53 (by decide) _ rfl) hD
          refine lv_aload_n hx hb dX12_workSum_118 rfl (lv_at hl 1 rfl) ?_
          refine lv_aload_n hx hb dX12_workSum_119 rfl (lv_at hl 1 rfl) ?_
          refine va_get (D := (dC, dI)) (ci := 12) (v := .ref (a 31)) (C := RX12) (T := TX12) (N := 163) (fs := fM (vS a vi vj)) hx hb hts iwsRX12_workSum_in12 hown hK hP 0 rfl rfl 55 (by decide) (hts _ hm_r_X12_workSum_5) (fun _ h9 => h9) rfl dX12_workSum_120 ?_
          refine lv_iload_n hx hb dX12_workSum_123 rfl (lv_at hl 3 rfl) ?_
          refine va_iald (cA := k 31) (n := 4200) (f := (vF 31)) hx hb hK hP 32 31 (WR_get 31 (by decide)) (TR_get 31 (by decide)) (vp_in_nI (show nN < 4200 by omega) (by omega)) dX12_workSum_124 ?_
          refine lv_topi (fun y34 hy34 => ?_)
          obtain rfl : ((vF 31) nN) = y34 := (hy34.trans (by rw [nI_clamp (by omega)])).symm
          refine lv_topi (fun y35 hy35 => ?_)
          obtain rfl : dV = y35 := (hy35.trans (hdI)).symm
          refine lv_iconst (v := (-1)) hx hb dX12_workSum_125 (by decide) ?_
          refine lv_icmp_ne (tgt := 138) hx hb dX12_workSum_126 (by decide) (fun c_126 => ?_) (fun c9 => False.elim (by have t9 : (dV).toInt = -1 := toI_nne c9 rfl (by decide); omega))
          have t_126 : (dV).toInt ≠ -1 := toI_ne c_126 rfl (by decide)
          refine lv_aload_n hx hb dX12_workSum_138 rfl (lv_at hl 1 rfl) ?_
          refine va_get (D := (dC, dI)) (ci := 12) (v := .ref (a 31)) (C := RX12) (T := TX12) (N := 163) (fs := fM (vS a vi vj)) hx hb hts iwsRX12_workSum_in12 hown hK hP 0 rfl rfl 55 (by decide) (hts _ hm_r_X12_workSum_5) (fun _ h9 => h9) rfl dX12_workSum_139 ?_
          refine lv_iload_n hx hb dX12_workSum_142 rfl (lv_at hl 3 rfl) ?_
          refine va_iald (cA := k 31) (n := 4200) (f := (vF 31)) hx hb hK hP 32 31 (WR_get 31 (by decide)) (TR_get 31 (by decide)) (vp_in_nI (show nN < 4200 by omega) (by omega)) dX12_workSum_143 ?_
          refine lv_topi (fun y36 hy36 => ?_)
          obtain rfl : ((vF 31) nN) = y36 := (hy36.trans (by rw [nI_clamp (by omega)])).symm
          refine lv_topi (fun y37 hy37 => ?_)
          obtain rfl : dV = y37 := (hy37.trans (hdI)).symm
          have hFc := allFree hD hS hA
          refine va_callv (va_runV (As := [.int dV]) (rest := []) ⟨hx, hb, hml, hown, hts⟩ (r_X12_call l dC dI a k h0 vi vj (fT (fT vF 51 g5194) 53 (upd (vF 53) ((nI fN)).toNatClampNeg 2)) vG dV fr hfr9 (by first | with_reducible assumption | decide | omega | rfl | assumption) H.size) (cwV 1 hts gwsRX12_workSum_2 rfl rfl rfl hd_yX12_call_RX12 (by decide +kernel)) (fz_pre (va_recv hK hP (ci := 12) (q0 := 0) rfl rfl) hP hK hD) rfl rfl hl.1 rfl (lv_room (Nat.le_of_ble_eq_true rfl)) dX12_workSum_144 (by decide +kernel)) hS (fun q _ h => hFc q h) hFc (fun u t9_ H locs ht hvm hw9 hB9 hz1 hk1 hS => ?_)
          have e9F : fT (fT (fT vF 51 g5194) 53 (upd (upd (vF 53) ((nI fN)).toNatClampNeg 2) (nI fr).toNatClampNeg 0)) 52 (upd (vF 52) (nI fr).toNatClampNeg dV) = fT (fT (fT (fT vF 51 g5194) 53 (upd (vF 53) ((nI fN)).toNatClampNeg 2)) 52 (upd (vF 52) (nI fr).toNatClampNeg dV)) 53 (upd (upd (vF 53) ((nI fN)).toNatClampNeg 2) (nI fr).toNatClampNeg 0) := ((fT_sw _ _ _ (Nat.ne_of_beq_eq_false rfl)).trans (congrArg (fun g9 => fT g9 52 (upd (vF 52) (nI fr).toNatClampNeg dV)) (fT_sm _ _ _ _))).symm
          have hP := wr_PF e9F (fz_P ht hB9.1)
          have hD := wr_DF e9F (hB9.2.weaken (fun _ q _ h => hFc q.1 h))
          clear e9F
          refine lv_goto (tgt := 272) hx hb dX12_workSum_147 (by decide) ?_
          refine W.widen (k := 0) (n := 0) (by decide +kernel) (by decide +kernel) ?_
          have e9 : fT (fT (fT (fT vi 21 (vi 21)) 22 (vi 22)) 81 (nI pN)) 89 (nI (fr + 1)) = fT vi 89 (nI (fr + 1)) := Eq.trans (mv_3 rfl) (Eq.trans (id_3 rfl) (Eq.trans (mv_2 rfl) (Eq.trans (id_2 rfl) (Eq.trans (mv_1 rfl) (Eq.trans (congrArg (fT _ 81) (show nI pN = vi 81 from (by first | with_reducible rfl | with_reducible assumption | (symm; with_reducible assumption) | rfl | assumption | (symm; assumption) | (subst_vars; rfl)))) (id_1 rfl))))))
          have hP := wr_Pi e9 hP
          have hD := wr_Di e9 hD
          clear e9
          have e9 : fT (fT (fT (fT (fT (fT vF 49 (vF 49)) 50 (vF 50)) 54 (vF 54)) 53 (upd (upd (vF 53) ((nI fN)).toNatClampNeg 2) (nI fr).toNatClampNeg 0)) 51 g5194) 52 (upd (vF 52) (nI fr).toNatClampNeg dV) = fT (fT (fT vF 51 g5194) 53 (upd (upd (vF 53) ((nI fN)).toNatClampNeg 2) (nI fr).toNatClampNeg 0)) 52 (upd (vF 52) (nI fr).toNatClampNeg dV) := Eq.trans (mv_5 rfl) (Eq.trans (id_5 rfl) (Eq.trans (mv_4 rfl) (Eq.trans (id_4 rfl) (Eq.trans (mv_3 rfl) (Eq.trans (id_3 rfl) (Eq.trans (mv_1 rfl) (Eq.trans (mv_2 rfl) (mv_2 rfl))))))))
          have hP := wr_PF e9 hP
          have hD := wr_DF e9 hD
          clear e9
          exact W.vret hx hb hr (fun t9_ ht hW => ⟨⟨((vF 49), (vF 50), g5194, (upd (vF 52) (nI fr).toNatClampNeg dV), (upd (upd (vF 53) ((nI fN)).toNatClampNeg 2) (nI fr).toNatClampNeg 0), (vF 54), (fr + 1), pN, (vi 21), (vi 22)), rfl, by (try dsimp only); exact ⟨fun v9 h9 => hRw v9 h9, f94_0, hst0, Or.inl rfl, by (obtain rfl : kN = 9 := hk9); (obtain rfl : sN = 1 := by omega); (have hlm : la < mbO nF nN := by omega); (obtain ⟨W9, h1, h2⟩ := hTo.s1 hSW.1); rw [sum_step hlm] at h2; (have h3 := h1.2.1); (obtain ⟨d9, h5, h6⟩ := h1.2.2.resolve_left (fun h => c_109 (hdF.symm.trans h))); (have h4 := h5.2.2.2.1); exact StpO.push' d9 2 la ((mbO nF nN - (la + 1)) * W9 + wt cN + 5) rfl (hdF.symm.trans h5.1.1) hfN hfr1 (fun _ _ => rfl) (fun _ => hla (by omega)) h5.2.1 h5.2.2.1 (by omega) (WtO.s2 (by omega) h5.2.2.2.2 hlm h1 (Nat.le_refl _)) (by omega)⟩, by rw [ht]; exact hP, hD⟩, hS.F ht⟩) hS.2.2 dX12_workSum_272
        · have t_109 : (dV).toInt = -1 := toI_nne c_109 rfl (by decide)
          refine lv_iconst (v := 3) hx hb dX12_workSum_112 (by decide) ?_
          refine lv_goto (tgt := 117) hx hb dX12_workSum_113 (by decide) ?_
          refine va_iast (cA := k 53) (n := 4300) (f := (vF 53)) hx hb hK hP hD hS 54 53 (WR_get 53 (by decide)) (TR_get 53 (by decide)) (vp_in_nI (show fN < 4300 by omega) (by omega)) dX12_workSum_117 (fun H locs hP hD hS => ?_)
          have hP : va_P (dC, dI) vwCl (WR a k h0 vi vj (fT (fT vF 51 g5194) 53 (upd (vF 53) ((nI fN)).toNatClampNeg 3)) vG) H := fz_w (WR_F 53 (by decide) _ rfl) hP
          have hD : va_D A (WR a k h0 vi vj (fT (fT vF 51 g5194) 53 (upd (vF 53) ((nI fN)).toNatClampNeg 3)) vG) := fz_wD (WR_F 53 (by decide) _ rfl) hD
          refine lv_aload_n hx hb dX12_workSum_118 rfl (lv_at hl 1 rfl) ?_
          refine lv_aload_n hx hb dX12_workSum_119 rfl (lv_at hl 1 rfl) ?_
          refine va_get (D := (dC, dI)) (ci := 12) (v := .ref (a 31)) (C := RX12) (T := TX12) (N := 163) (fs := fM (vS a vi vj)) hx hb hts iwsRX12_workSum_in12 hown hK hP 0 rfl rfl 55 (by decide) (hts _ hm_r_X12_workSum_5) (fun _ h9 => h9) rfl dX12_workSum_120 ?_
          refine lv_iload_n hx hb dX12_workSum_123 rfl (lv_at hl 3 rfl) ?_
          refine va_iald (cA := k 31) (n := 4200) (f := (vF 31)) hx hb hK hP 32 31 (WR_get 31 (by decide)) (TR_get 31 (by decide)) (vp_in_nI (show nN < 4200 by omega) (by omega)) dX12_workSum_124 ?_
          refine lv_topi (fun y38 hy38 => ?_)
          obtain rfl : ((vF 31) nN) = y38 := (hy38.trans (by rw [nI_clamp (by omega)])).symm
          refine lv_topi (fun y39 hy39 => ?_)
          obtain rfl : dV = y39 := (hy39.trans (hdI)).symm
          refine lv_iconst (v := (-1)) hx hb dX12_workSum_125 (by decide) ?_
          refine lv_icmp_ne (tgt := 138) hx hb dX12_workSum_126 (by decide) (fun c9 => False.elim (by have t9 : (dV).toInt ≠ -1 := toI_ne c9 rfl (by decide); omega)) (fun c_126 => ?_)
          have t_126 : (dV).toInt = -1 := toI_nne c_126 rfl (by decide)
          refine lv_aload_n hx hb dX12_workSum_129 rfl (lv_at hl 1 rfl) ?_
          refine va_get (D := (dC, dI)) (ci := 12) (v := .ref (a 32)) (C := RX12) (T := TX12) (N := 163) (fs := fM (vS a vi vj)) hx hb hts iwsRX12_workSum_in12 hown hK hP 0 rfl rfl 56 (by decide) (hts _ hm_r_X12_workSum_4) (fun _ h9 => h9) rfl dX12_workSum_130 ?_
          refine lv_iload_n hx hb dX12_workSum_133 rfl (lv_at hl 3 rfl) ?_
          refine va_iald (cA := k 32) (n := 4200) (f := (vF 32)) hx hb hK hP 33 32 (WR_get 32 (by decide)) (TR_get 32 (by decide)) (vp_in_nI (show nN < 4200 by omega) (by omega)) dX12_workSum_134 ?_
          refine lv_topi (fun y40 hy40 => ?_)
          obtain rfl : ((vF 32) nN) = y40 := (hy40.trans (by rw [nI_clamp (by omega)])).symm
          refine lv_topi (fun y41 hy41 => ?_)
          obtain rfl : (nI cN) = y41 := (hy41.trans (hcN)).symm
          refine lv_goto (tgt := 144) hx hb dX12_workSum_135 (by decide) ?_
          have hFc := allFree hD hS hA
          refine va_callv (va_runV (As := [.int (nI cN)]) (rest := []) ⟨hx, hb, hml, hown, hts⟩ (r_X12_call l dC dI a k h0 vi vj (fT (fT vF 51 g5194) 53 (upd (vF 53) ((nI fN)).toNatClampNeg 3)) vG (nI cN) fr hfr9 (by first | with_reducible assumption | decide | omega | rfl | assumption) H.size) (cwV 1 hts gwsRX12_workSum_2 rfl rfl rfl hd_yX12_call_RX12 (by decide +kernel)) (fz_pre (va_recv hK hP (ci := 12) (q0 := 0) rfl rfl) hP hK hD) rfl rfl hl.1 rfl (lv_room (Nat.le_of_ble_eq_true rfl)) dX12_workSum_144 (by decide +kernel)) hS (fun q _ h => hFc q h) hFc (fun u t9_ H locs ht hvm hw9 hB9 hz1 hk1 hS => ?_)
          have e9F : fT (fT (fT vF 51 g5194) 53 (upd (upd (vF 53) ((nI fN)).toNatClampNeg 3) (nI fr).toNatClampNeg 0)) 52 (upd (vF 52) (nI fr).toNatClampNeg (nI cN)) = fT (fT (fT (fT vF 51 g5194) 53 (upd (vF 53) ((nI fN)).toNatClampNeg 3)) 52 (upd (vF 52) (nI fr).toNatClampNeg (nI cN))) 53 (upd (upd (vF 53) ((nI fN)).toNatClampNeg 3) (nI fr).toNatClampNeg 0) := ((fT_sw _ _ _ (Nat.ne_of_beq_eq_false rfl)).trans (congrArg (fun g9 => fT g9 52 (upd (vF 52) (nI fr).toNatClampNeg (nI cN))) (fT_sm _ _ _ _))).symm
          have hP := wr_PF e9F (fz_P ht hB9.1)
          have hD := wr_DF e9F (hB9.2.weaken (fun _ q _ h => hFc q.1 h))
          clear e9F
          refine lv_goto (tgt := 272) hx hb dX12_workSum_147 (by decide) ?_
          refine W.widen (k := 0) (n := 0) (by decide +kernel) (by decide +kernel) ?_
          have e9 : fT (fT (fT (fT vi 21 (vi 21)) 22 (vi 22)) 81 (nI pN)) 89 (nI (fr + 1)) = fT vi 89 (nI (fr + 1)) := Eq.trans (mv_3 rfl) (Eq.trans (id_3 rfl) (Eq.trans (mv_2 rfl) (Eq.trans (id_2 rfl) (Eq.trans (mv_1 rfl) (Eq.trans (congrArg (fT _ 81) (show nI pN = vi 81 from (by first | with_reducible rfl | with_reducible assumption | (symm; with_reducible assumption) | rfl | assumption | (symm; assumption) | (subst_vars; rfl)))) (id_1 rfl))))))
          have hP := wr_Pi e9 hP
          have hD := wr_Di e9 hD
          clear e9
          have e9 : fT (fT (fT (fT (fT (fT vF 49 (vF 49)) 50 (vF 50)) 54 (vF 54)) 53 (upd (upd (vF 53) ((nI fN)).toNatClampNeg 3) (nI fr).toNatClampNeg 0)) 51 g5194) 52 (upd (vF 52) (nI fr).toNatClampNeg (nI cN)) = fT (fT (fT vF 51 g5194) 53 (upd (upd (vF 53) ((nI fN)).toNatClampNeg 3) (nI fr).toNatClampNeg 0)) 52 (upd (vF 52) (nI fr).toNatClampNeg (nI cN)) := Eq.trans (mv_5 rfl) (Eq.trans (id_5 rfl) (Eq.trans (mv_4 rfl) (Eq.trans (id_4 rfl) (Eq.trans (mv_3 rfl) (Eq.trans (id_3 rfl) (Eq.trans (mv_1 rfl) (Eq.trans (mv_2 rfl) (mv_2 rfl))))))))
          have hP := wr_PF e9 hP
          have hD := wr_DF e9 hD
          clear e9
          exact W.vret hx hb hr (fun t9_ ht hW => ⟨⟨((vF 49), (vF 50), g5194, (upd (vF 52) (nI fr).toNatClampNeg (nI cN)), (upd (upd (vF 53) ((nI fN)).toNatClampNeg 3) (nI fr).toNatClampNeg 0), (vF 54), (fr + 1), pN, (vi 21), (vi 22)), rfl, by (try dsimp only); exact ⟨fun v9 h9 => hRw v9 h9, f94_0, hst0, Or.inl rfl, by (obtain rfl : kN = 9 := hk9); (obtain rfl : sN = 1 := by omega); (have hlm : la < mbO nF nN := by omega); (obtain ⟨W9, h1, h2⟩ := hTo.s1 hSW.1); rw [sum_step hlm] at h2; (have h3 := h1.2.1); (have h4 := hSW.1.2.2.2.1); exact StpO.push' cN 3 la ((mbO nF nN - (la + 1)) * W9 + 3) rfl rfl hfN hfr1 (fun _ _ => rfl) (fun _ => hla (by omega)) hSW.1.2.1 hSW.1.2.2.1 (by omega) (WtO.s3 (by omega) hSW.1.2.2.2.2 hlm h1 (Nat.le_refl _)) (by omega)⟩, by rw [ht]; exact hP, hD⟩, hS.F ht⟩) hS.2.2 dX12_workSum_272
      · have t_72 : ((la : Nat) : Int) = (((mbO nF nN) : Nat) : Int) := toI_nne c_72 (nI_toInt (by omega)) (nI_toInt (by omega))
        refine lv_aload_n hx hb dX12_workSum_75 rfl (lv_at hl 1 rfl) ?_
        refine lv_dup hx hb dX12_workSum_76 rfl ?_
        refine va_get (D := (dC, dI)) (ci := 12) (v := .int (vi 89)) (C := RX12) (T := TX12) (N := 163) (fs := fM (vS a vi vj)) hx hb hts iwsRX12_workSum_in12 hown hK hP 0 rfl rfl 89 (by decide) (hts _ hm_r_X12_workSum_6) (fun _ h9 => h9) rfl dX12_workSum_77 ?_
        refine lv_topi (fun y42 hy42 => ?_)
        obtain rfl : (nI fr) = y42 := (hy42.trans (hfr9)).symm
        refine lv_iconst (v := 1) hx hb dX12_workSum_80 (by decide) ?_
        refine lv_isub hx hb dX12_workSum_81 ?_
        refine lv_topi (fun y43 hy43 => ?_)
        obtain rfl : (nI (fr - 1)) = y43 := (hy43.trans (pk_sub (a := fr) (b := 1) (by omega))).symm
        refine va_put (D := (dC, dI)) (ci := 12) (v := .int (nI (fr - 1))) (ty := .int) (C := RX12) (T := TX12) (N := 163) (fs := fM (vS a vi vj)) hx hb hts iwsRX12_workSum_in12 tyX12 tyX12_ok nmX12 hown hK hP hD hS 0 rfl rfl 89 (by decide) (hts _ hm_r_X12_workSum_6) (fun _ h9 => h9) rfl (by decide +kernel) rfl rfl (Nat.le_of_ble_eq_true rfl) dX12_workSum_82 (fun H locs hP hD hS => ?_)
        have hP : va_P (dC, dI) vwCl (WR a k h0 (fT vi 89 (nI (fr - 1))) vj vF vG) H := fz_w (WR_i 89 _ rfl) hP
        have hD : va_D A (WR a k h0 (fT vi 89 (nI (fr - 1))) vj vF vG) := fz_wD (WR_i 89 _ rfl) hD
        refine W.widen (k := 0) (n := 0) (by decide +kernel) (by decide +kernel) ?_
        have e9 : fT (fT (fT (fT vi 21 (vi 21)) 22 (vi 22)) 81 (nI pN)) 89 (nI (fr - 1)) = fT vi 89 (nI (fr - 1)) := Eq.trans (mv_3 rfl) (Eq.trans (id_3 rfl) (Eq.trans (mv_2 rfl) (Eq.trans (id_2 rfl) (Eq.trans (mv_1 rfl) (Eq.trans (congrArg (fT _ 81) (show nI pN = vi 81 from (by first | with_reducible rfl | with_reducible assumption | (symm; with_reducible assumption) | rfl | assumption | (symm; assumption) | (subst_vars; rfl)))) (id_1 rfl))))))
        have hP := wr_Pi e9 hP
        have hD := wr_Di e9 hD
        clear e9
        have e9 : fT (fT (fT (fT (fT (fT vF 49 (vF 49)) 50 (vF 50)) 54 (vF 54)) 53 (vF 53)) 51 (vF 51)) 52 (vF 52) = vF := Eq.trans (mv_5 rfl) (Eq.trans (id_5 rfl) (Eq.trans (mv_4 rfl) (Eq.trans (id_4 rfl) (Eq.trans (mv_3 rfl) (Eq.trans (id_3 rfl) (Eq.trans (mv_2 rfl) (Eq.trans (id_2 rfl) (Eq.trans (mv_1 rfl) (Eq.trans (id_1 rfl) (id_0 rfl))))))))))
        have hP := wr_PF e9 hP
        have hD := wr_DF e9 hD
        clear e9
        exact W.vret hx hb hr (fun t9_ ht hW => ⟨⟨((vF 49), (vF 50), (vF 51), (vF 52), (vF 53), (vF 54), (fr - 1), pN, (vi 21), (vi 22)), rfl, by (try dsimp only); exact ⟨fun v9 h9 => hRw v9 h9, hEn, hst0, Or.inl rfl, StpO.pop0 hfr1 (by rw [if_pos (by omega)]; omega)⟩, by rw [ht]; exact hP, hD⟩, hS.F ht⟩) hS.2.2 dX12_workSum_85
  · have t_13 : ((sN : Nat) : Int) = 0 := toI_nne c_13 (nI_toInt (by omega)) (by decide)
    refine lv_aload_n hx hb dX12_workSum_16 rfl (lv_at hl 1 rfl) ?_
    refine lv_aload_n hx hb dX12_workSum_17 rfl (lv_at hl 1 rfl) ?_
    refine va_get (D := (dC, dI)) (ci := 12) (v := .int (vi 81)) (C := RX12) (T := TX12) (N := 163) (fs := fM (vS a vi vj)) hx hb hts iwsRX12_workSum_in12 hown hK hP 0 rfl rfl 81 (by decide) (hts _ hm_r_X12_workSum_1) (fun _ h9 => h9) rfl dX12_workSum_18 ?_
    refine lv_topi (fun y44 hy44 => ?_)
    obtain rfl : (nI pN) = y44 := (hy44.trans (hpl)).symm
    have hFc := allFree hD hS hA
    refine va_callv (va_runV (As := [.int (nI pN)]) (rest := []) ⟨hx, hb, hml, hown, hts⟩ (r_X12_nought l dC dI a k h0 vi vj vF vG pN (by first | with_reducible assumption | decide | omega | rfl | assumption) s.heap.size) (cwV 1 hts gwsRX12_workSum_4 rfl rfl rfl hd_yX12_nought_RX12 (by decide +kernel)) (fz_pre (va_recv hK hP (ci := 12) (q0 := 0) rfl rfl) hP hK hD) rfl rfl hl.1 rfl (lv_room (Nat.le_of_ble_eq_true rfl)) dX12_workSum_21 (by decide +kernel)) hS (fun q _ h => hFc q h) hFc (fun u t9_ H locs ht hvm hw9 hB9 hz1 hk1 hS => ?_)
    revert u hw9 hB9
    refine fz_p2 ?_
    intro f4921 f5021 hw9 hB9
    try dsimp only at hw9 hB9
    have hP : va_P (dC, dI) vwCl (WR a k h0 vi vj (fT (fT vF 49 f4921) 50 f5021) vG) H := fz_P ht hB9.1
    have hD := fz_sd hP (hB9.2.weaken (fun _ q _ h => hFc q.1 h)) rfl
    revert hw9
    refine fz_a4 ?_
    intro f21_0 f21_1 f21_2 f21_3
    have f21_2 : ∀ q, (q < 9 * pN ∨ 9 * pN + 9 ≤ q) → f4921 q = (vF 49) q := f21_2
    have f21_3 : ∀ q, (q < 9 * pN ∨ 9 * pN + 9 ≤ q) → f5021 q = (vF 50) q := f21_3
    refine lv_aload_n hx hb dX12_workSum_24 rfl (lv_at hl 1 rfl) ?_
    refine lv_dup hx hb dX12_workSum_25 rfl ?_
    refine va_get (D := (dC, dI)) (ci := 12) (v := .int (vi 81)) (C := RX12) (T := TX12) (N := 163) (fs := fM (vS a vi vj)) hx hb hts iwsRX12_workSum_in12 hown hK hP 0 rfl rfl 81 (by decide) (hts _ hm_r_X12_workSum_1) (fun _ h9 => h9) rfl dX12_workSum_26 ?_
    refine lv_topi (fun y45 hy45 => ?_)
    obtain rfl : (nI pN) = y45 := (hy45.trans (hpl)).symm
    refine lv_iconst (v := 1) hx hb dX12_workSum_29 (by decide) ?_
    refine lv_iadd hx hb dX12_workSum_30 ?_
    refine lv_topi (fun y46 hy46 => ?_)
    obtain rfl : (nI (pN + 1)) = y46 := (hy46.trans (nI_add pN 1)).symm
    refine va_put (D := (dC, dI)) (ci := 12) (v := .int (nI (pN + 1))) (ty := .int) (C := RX12) (T := TX12) (N := 163) (fs := fM (vS a vi vj)) hx hb hts iwsRX12_workSum_in12 tyX12 tyX12_ok nmX12 hown hK hP hD hS 0 rfl rfl 81 (by decide) (hts _ hm_r_X12_workSum_1) (fun _ h9 => h9) rfl (by decide +kernel) rfl rfl (Nat.le_of_ble_eq_true rfl) dX12_workSum_31 (fun H locs hP hD hS => ?_)
    have hP : va_P (dC, dI) vwCl (WR a k h0 (fT vi 81 (nI (pN + 1))) vj (fT (fT vF 49 f4921) 50 f5021) vG) H := fz_w (WR_i 81 _ rfl) hP
    have hD : va_D A (WR a k h0 (fT vi 81 (nI (pN + 1))) vj (fT (fT vF 49 f4921) 50 f5021) vG) := fz_wD (WR_i 81 _ rfl) hD
    refine lv_aload_n hx hb dX12_workSum_34 rfl (lv_at hl 1 rfl) ?_
    refine va_get (D := (dC, dI)) (ci := 12) (v := .ref (a 54)) (C := RX12) (T := TX12) (N := 163) (fs := fM (vS a (fT vi 81 (nI (pN + 1))) vj)) hx hb hts iwsRX12_workSum_in12 hown hK hP 0 rfl rfl 87 (by decide) (hts _ hm_r_X12_workSum_2) (fun _ h9 => h9) rfl dX12_workSum_35 ?_
    refine lv_iload_n hx hb dX12_workSum_38 rfl (lv_at hl 2 rfl) ?_
    refine lv_iconst (v := 0) hx hb dX12_workSum_39 (by decide) ?_
    refine va_iast (cA := k 54) (n := 4300) (f := (vF 54)) hx hb hK hP hD hS 55 54 (WR_get 54 (by decide)) (TR_get 54 (by decide)) (vp_in_nI (show fN < 4300 by omega) (by omega)) dX12_workSum_40 (fun H locs hP hD hS => ?_)
    have hP : va_P (dC, dI) vwCl (WR a k h0 (fT vi 81 (nI (pN + 1))) vj (fT (fT (fT vF 49 f4921) 50 f5021) 54 (upd (vF 54) ((nI fN)).toNatClampNeg 0)) vG) H := fz_w (WR_F 54 (by decide) _ rfl) hP
    have hD : va_D A (WR a k h0 (fT vi 81 (nI (pN + 1))) vj (fT (fT (fT vF 49 f4921) 50 f5021) 54 (upd (vF 54) ((nI fN)).toNatClampNeg 0)) vG) := fz_wD (WR_F 54 (by decide) _ rfl) hD
    refine lv_aload_n hx hb dX12_workSum_41 rfl (lv_at hl 1 rfl) ?_
    refine va_get (D := (dC, dI)) (ci := 12) (v := .ref (a 53)) (C := RX12) (T := TX12) (N := 163) (fs := fM (vS a (fT vi 81 (nI (pN + 1))) vj)) hx hb hts iwsRX12_workSum_in12 hown hK hP 0 rfl rfl 86 (by decide) (hts _ hm_r_X12_workSum_0) (fun _ h9 => h9) rfl dX12_workSum_42 ?_
    refine lv_iload_n hx hb dX12_workSum_45 rfl (lv_at hl 2 rfl) ?_
    refine lv_iconst (v := 1) hx hb dX12_workSum_46 (by decide) ?_
    refine va_iast (cA := k 53) (n := 4300) (f := (vF 53)) hx hb hK hP hD hS 54 53 (WR_get 53 (by decide)) (TR_get 53 (by decide)) (vp_in_nI (show fN < 4300 by omega) (by omega)) dX12_workSum_47 (fun H locs hP hD hS => ?_)
    have hP : va_P (dC, dI) vwCl (WR a k h0 (fT vi 81 (nI (pN + 1))) vj (fT (fT (fT (fT vF 49 f4921) 50 f5021) 54 (upd (vF 54) ((nI fN)).toNatClampNeg 0)) 53 (upd (vF 53) ((nI fN)).toNatClampNeg 1)) vG) H := fz_w (WR_F 53 (by decide) _ rfl) hP
    have hD : va_D A (WR a k h0 (fT vi 81 (nI (pN + 1))) vj (fT (fT (fT (fT vF 49 f4921) 50 f5021) 54 (upd (vF 54) ((nI fN)).toNatClampNeg 0)) 53 (upd (vF 53) ((nI fN)).toNatClampNeg 1)) vG) := fz_wD (WR_F 53 (by decide) _ rfl) hD
    refine lv_goto (tgt := 272) hx hb dX12_workSum_48 (by decide) ?_
    refine W.widen (k := 0) (n := 0) (by decide +kernel) (by decide +kernel) ?_
    have e9 : fT (fT (fT (fT vi 21 (vi 21)) 22 (vi 22)) 81 (nI (pN + 1))) 89 (nI fr) = fT vi 81 (nI (pN + 1)) := Eq.trans (mv_3 rfl) (Eq.trans (id_3 rfl) (Eq.trans (mv_2 rfl) (Eq.trans (id_2 rfl) (Eq.trans (congrArg (fT _ 89) (show nI fr = vi 89 from (by first | with_reducible rfl | with_reducible assumption | (symm; with_reducible assumption) | rfl | assumption | (symm; assumption) | (subst_vars; rfl)))) (id_1 rfl)))))
    have hP := wr_Pi e9 hP
    have hD := wr_Di e9 hD
    clear e9
    have e9 : fT (fT (fT (fT (fT (fT vF 49 f4921) 50 f5021) 54 (upd (vF 54) ((nI fN)).toNatClampNeg 0)) 53 (upd (vF 53) ((nI fN)).toNatClampNeg 1)) 51 (vF 51)) 52 (vF 52) = fT (fT (fT (fT vF 49 f4921) 50 f5021) 54 (upd (vF 54) ((nI fN)).toNatClampNeg 0)) 53 (upd (vF 53) ((nI fN)).toNatClampNeg 1) := (fT_id _ _ ((fT_ne _ _ (Nat.ne_of_beq_eq_false rfl)).trans ((fT_ne _ _ (Nat.ne_of_beq_eq_false rfl)).trans ((fT_ne _ _ (Nat.ne_of_beq_eq_false rfl)).trans ((fT_ne _ _ (Nat.ne_of_beq_eq_false rfl)).trans (fT_ne _ _ (Nat.ne_of_beq_eq_false rfl))))))).trans (fT_id _ _ ((fT_ne _ _ (Nat.ne_of_beq_eq_false rfl)).trans ((fT_ne _ _ (Nat.ne_of_beq_eq_false rfl)).trans ((fT_ne _ _ (Nat.ne_of_beq_eq_false rfl)).trans (fT_ne _ _ (Nat.ne_of_beq_eq_false rfl))))))
    have hP := wr_PF e9 hP
    have hD := wr_DF e9 hD
    clear e9
    exact W.vret hx hb hr (fun t9_ ht hW => ⟨⟨(f4921, f5021, (vF 51), (vF 52), (upd (vF 53) ((nI fN)).toNatClampNeg 1), (upd (vF 54) ((nI fN)).toNatClampNeg 0), fr, (pN + 1), (vi 21), (vi 22)), rfl, by (try dsimp only); exact ⟨fun v9 h9 => RowU.nought f21_0 f21_1 (fun q h9 => f21_2 q (Or.inl h9)) (fun q h9 => f21_3 q (Or.inl h9)) hRw (by omega), hEn, hst0, Or.inl rfl, by (obtain rfl : kN = 9 := hk9); (obtain rfl : sN = 0 := by omega); (have h8 := hTo.s0); exact StpO.stay' 1 0 (mbO nF nN * wW + 1) rfl hfN hfr1 (fun q hq => by rw [upd_at (by omega), if_neg (by omega)]) (fun _ => by rw [upd_at (by omega), if_pos rfl]; exact nI_0.symm) (TopO.next (by omega) (Nat.zero_le _) hSW (Nat.le_refl _)) (by omega)⟩, by rw [ht]; exact hP, hD⟩, hS.F ht⟩) hS.2.2 dX12_workSum_272
end
section
/-- a name: its places pl, their sets o1 o2, where its values lie -/
def NamS (F : Nat → Nat → Int32) (se k a pl o1 o2 aT : Nat) : Prop :=
  ((k = 2 → F 18 a = nI pl) ∧ (k = 3 → F 24 a = nI pl)) ∧ ((k = 2 → F 19 a = nI o1) ∧ (k = 2 → F 20 a = nI o2) ∧ (k = 2 → F 21 a = nI aT) ∧ (k = 3 → F 25 a = nI o1) ∧ (k = 3 → F 26 a = nI o2) ∧ (k = 3 → F 27 a = nI aT)) ∧
  (aT ≤ 6000 ∧ aT + 6000 * k ≤ 18008) ∧ (pl ≤ 2 ∧ o1 < 44 ∧ o2 < 44) ∧ PlK se pl o1 o2 ∧ ((k = 2 → a < (F 1 0).toInt.toNat) ∧ (k = 3 → a < (F 2 0).toInt.toNat)) ∧ MmK F k pl o1 o2 aT
/-- the parts of a name node -/
def NmD (F : Nat → Nat → Int32) (V : Nat → Prop) (wt dp pd : Nat → Nat) (n pl d c : Nat) : Prop :=
  ((pl = 0 ∧ F 31 n = -1) ∨ (1 ≤ pl ∧ KidL F V dp pd n 31 0 d)) ∧ ((pl ≤ 1 ∧ F 32 n = -1) ∨ (pl = 2 ∧ KidL F V dp pd n 32 0 c)) ∧ (pl = 0 ∨ (wt d + 4 ≤ wt n ∧ (pl = 1 ∨ wt c + wt d + 4 ≤ wt n)))
theorem nIm1 {c : Nat} (h : c < 4000) : ¬ nI c = -1 := fun e => by
  have h1 := congrArg Int32.toInt e
  rw [nI_toInt (by omega)] at h1
  have h2 : (-1 : Int32).toInt = -1 := by decide
  omega
theorem NmD.ex {F : Nat → Nat → Int32} {V : Nat → Prop} {wt dp pd : Nat → Nat} {n pl d c : Nat} (h : NmD F V wt dp pd n pl d c) (h2 : pl ≤ 2) :
    ((1 ≤ pl → F 31 n = nI d ∧ KidL F V dp pd n 31 0 d) ∧ (pl = 2 → F 32 n = nI c ∧ KidL F V dp pd n 32 0 c)) ∧ ((∀ c, KidL F V dp pd n 31 0 c → 1 ≤ pl) ∧ (∀ c, KidL F V dp pd n 32 0 c → pl = 2)) ∧ WnK F V wt dp pd n pl d := by
  obtain ⟨h31, h32, hw⟩ := h
  refine ⟨⟨fun q => ?_, fun q => ?_⟩, ⟨fun x hx => ?_, fun x hx => ?_⟩, ?_⟩
  · rcases h31 with h | h
    · omega
    · exact ⟨h.2.1.1, h.2⟩
  · rcases h32 with h | h
    · omega
    · exact ⟨h.2.1.1, h.2⟩
  · rcases h31 with h | h
    · exact absurd (hx.1.1.symm.trans h.2) (nIm1 hx.1.2)
    · exact h.1
  · rcases h32 with h | h
    · exact absurd (hx.1.1.symm.trans h.2) (nIm1 hx.1.2)
    · exact h.1
  · rcases hw with h | ⟨h, h3⟩
    · exact Or.inl h
    · refine Or.inr ⟨h, fun x hx => ?_⟩
      rcases h32 with h4 | h4
      · exact absurd (hx.1.1.symm.trans h4.2) (nIm1 hx.1.2)
      · obtain rfl : x = c := kidE hx.1 h4.2.1
        rcases h3 with h5 | h5
        · omega
        · exact h5
/-- a name node: a its declaration -/
def NamK (F : Nat → Nat → Int32) (V : Nat → Prop) (wt dp pd : Nat → Nat) (se n k a pl o1 o2 aT d c : Nat) : Prop :=
  (F 30 n = nI a ∧ a < 44) ∧ NamS F se k a pl o1 o2 aT ∧ NmD F V wt dp pd n pl d c
/-- a finished node -/
def NdK (F : Nat → Nat → Int32) (V : Nat → Prop) (wt dp pd : Nat → Nat) (se n k : Nat) : Prop :=
  (k = 0 ∧ 1 ≤ pd n ∧ -1000200 ≤ (F 30 n).toInt ∧ (F 30 n).toInt ≤ 1000200) ∨
  (k = 1 ∧ 1 ≤ pd n ∧ ∃ x, x < 60 ∧ F 30 n = nI x) ∨
  ((k = 2 ∨ k = 3) ∧ 1 ≤ pd n ∧ ∃ a pl o1 o2 aT d c, NamK F V wt dp pd se n k a pl o1 o2 aT d c) ∨
  (k = 4 ∧ 1 ≤ pd n ∧ ∃ c, KidL F V dp pd n 30 0 c ∧ wt c + 3 ≤ wt n) ∨
  (((5 ≤ k ∧ k ≤ 8) ∨ k = 13) ∧ 2 ≤ pd n ∧ ∃ c d, KidL F V dp pd n 30 0 c ∧ KidL F V dp pd n 31 1 d ∧ wt c + wt d + 3 ≤ wt n) ∨
  (k = 9 ∧ 2 ≤ pd n ∧ ∃ b c W, F 30 n = nI b ∧ b < 900 ∧ BnO (F 36) (F 37) (F 38) se b ∧ MbO (F 17) (F 36) (F 37) b (mbO F n) ∧ mbO F n ≤ 144 ∧ SumW F V wt dp pd n c W ∧ mbO F n * W + 2 ≤ wt n) ∨
  ((k = 10 ∨ k = 11) ∧ ∃ c d, KidT F V dp pd n 30 0 c ∧ KidT F V dp pd n 31 0 d ∧ wt c + wt d + 3 ≤ wt n) ∨
  (k = 12 ∧ ∃ c, KidT F V dp pd n 30 0 c ∧ wt c + 3 ≤ wt n)
/-- the rows that the worker only reads -/
def SmF (F G : Nat → Nat → Int32) : Prop := F 17 = G 17 ∧ F 18 = G 18 ∧ F 19 = G 19 ∧ F 20 = G 20 ∧ F 21 = G 21 ∧ F 24 = G 24 ∧ F 25 = G 25 ∧ F 26 = G 26 ∧ F 27 = G 27 ∧ F 29 = G 29 ∧ F 30 = G 30 ∧ F 31 = G 31 ∧ F 32 = G 32 ∧ F 36 = G 36 ∧ F 37 = G 37 ∧ F 38 = G 38
end
section
theorem NdK.e0 {F : Nat → Nat → Int32} {V : Nat → Prop} {wt dp pd : Nat → Nat} {se n k : Nat} (h : NdK F V wt dp pd se n k) (hk : k = 0) : 1 ≤ pd n ∧ -1000200 ≤ (F 30 n).toInt ∧ (F 30 n).toInt ≤ 1000200 := by
  rcases h with h | h | h | h | h | h | h | h
  · exact h.2
  · (exfalso; obtain ⟨h, _⟩ := h; omega)
  · (exfalso; obtain ⟨h, _⟩ := h; omega)
  · (exfalso; obtain ⟨h, _⟩ := h; omega)
  · (exfalso; obtain ⟨h, _⟩ := h; omega)
  · (exfalso; obtain ⟨h, _⟩ := h; omega)
  · (exfalso; obtain ⟨h, _⟩ := h; omega)
  · (exfalso; obtain ⟨h, _⟩ := h; omega)
theorem NdK.e1 {F : Nat → Nat → Int32} {V : Nat → Prop} {wt dp pd : Nat → Nat} {se n k : Nat} (h : NdK F V wt dp pd se n k) (hk : k = 1) : 1 ≤ pd n ∧ ∃ x, x < 60 ∧ F 30 n = nI x := by
  rcases h with h | h | h | h | h | h | h | h
  · (exfalso; obtain ⟨h, _⟩ := h; omega)
  · exact h.2
  · (exfalso; obtain ⟨h, _⟩ := h; omega)
  · (exfalso; obtain ⟨h, _⟩ := h; omega)
  · (exfalso; obtain ⟨h, _⟩ := h; omega)
  · (exfalso; obtain ⟨h, _⟩ := h; omega)
  · (exfalso; obtain ⟨h, _⟩ := h; omega)
  · (exfalso; obtain ⟨h, _⟩ := h; omega)
theorem NdK.e2 {F : Nat → Nat → Int32} {V : Nat → Prop} {wt dp pd : Nat → Nat} {se n k : Nat} (h : NdK F V wt dp pd se n k) (hk : k = 2 ∨ k = 3) : 1 ≤ pd n ∧ ∃ a pl o1 o2 aT d c, NamK F V wt dp pd se n k a pl o1 o2 aT d c := by
  rcases h with h | h | h | h | h | h | h | h
  · (exfalso; obtain ⟨h, _⟩ := h; omega)
  · (exfalso; obtain ⟨h, _⟩ := h; omega)
  · exact h.2
  · (exfalso; obtain ⟨h, _⟩ := h; omega)
  · (exfalso; obtain ⟨h, _⟩ := h; omega)
  · (exfalso; obtain ⟨h, _⟩ := h; omega)
  · (exfalso; obtain ⟨h, _⟩ := h; omega)
  · (exfalso; obtain ⟨h, _⟩ := h; omega)
theorem NdK.e4 {F : Nat → Nat → Int32} {V : Nat → Prop} {wt dp pd : Nat → Nat} {se n k : Nat} (h : NdK F V wt dp pd se n k) (hk : k = 4) : 1 ≤ pd n ∧ ∃ c, KidL F V dp pd n 30 0 c ∧ wt c + 3 ≤ wt n := by
  rcases h with h | h | h | h | h | h | h | h
  · (exfalso; obtain ⟨h, _⟩ := h; omega)
  · (exfalso; obtain ⟨h, _⟩ := h; omega)
  · (exfalso; obtain ⟨h, _⟩ := h; omega)
  · exact h.2
  · (exfalso; obtain ⟨h, _⟩ := h; omega)
  · (exfalso; obtain ⟨h, _⟩ := h; omega)
  · (exfalso; obtain ⟨h, _⟩ := h; omega)
  · (exfalso; obtain ⟨h, _⟩ := h; omega)
theorem NdK.e5 {F : Nat → Nat → Int32} {V : Nat → Prop} {wt dp pd : Nat → Nat} {se n k : Nat} (h : NdK F V wt dp pd se n k) (hk : (5 ≤ k ∧ k ≤ 8) ∨ k = 13) : 2 ≤ pd n ∧ ∃ c d, KidL F V dp pd n 30 0 c ∧ KidL F V dp pd n 31 1 d ∧ wt c + wt d + 3 ≤ wt n := by
  rcases h with h | h | h | h | h | h | h | h
  · (exfalso; obtain ⟨h, _⟩ := h; omega)
  · (exfalso; obtain ⟨h, _⟩ := h; omega)
  · (exfalso; obtain ⟨h, _⟩ := h; omega)
  · (exfalso; obtain ⟨h, _⟩ := h; omega)
  · exact h.2
  · (exfalso; obtain ⟨h, _⟩ := h; omega)
  · (exfalso; obtain ⟨h, _⟩ := h; omega)
  · (exfalso; obtain ⟨h, _⟩ := h; omega)
theorem NdK.e9 {F : Nat → Nat → Int32} {V : Nat → Prop} {wt dp pd : Nat → Nat} {se n k : Nat} (h : NdK F V wt dp pd se n k) (hk : k = 9) : 2 ≤ pd n ∧ ∃ b c W, F 30 n = nI b ∧ b < 900 ∧ BnO (F 36) (F 37) (F 38) se b ∧ MbO (F 17) (F 36) (F 37) b (mbO F n) ∧ mbO F n ≤ 144 ∧ SumW F V wt dp pd n c W ∧ mbO F n * W + 2 ≤ wt n := by
  rcases h with h | h | h | h | h | h | h | h
  · (exfalso; obtain ⟨h, _⟩ := h; omega)
  · (exfalso; obtain ⟨h, _⟩ := h; omega)
  · (exfalso; obtain ⟨h, _⟩ := h; omega)
  · (exfalso; obtain ⟨h, _⟩ := h; omega)
  · (exfalso; obtain ⟨h, _⟩ := h; omega)
  · exact h.2
  · (exfalso; obtain ⟨h, _⟩ := h; omega)
  · (exfalso; obtain ⟨h, _⟩ := h; omega)
theorem NdK.e10 {F : Nat → Nat → Int32} {V : Nat → Prop} {wt dp pd : Nat → Nat} {se n k : Nat} (h : NdK F V wt dp pd se n k) (hk : k = 10 ∨ k = 11) : ∃ c d, KidT F V dp pd n 30 0 c ∧ KidT F V dp pd n 31 0 d ∧ wt c + wt d + 3 ≤ wt n := by
  rcases h with h | h | h | h | h | h | h | h
  · (exfalso; obtain ⟨h, _⟩ := h; omega)
  · (exfalso; obtain ⟨h, _⟩ := h; omega)
  · (exfalso; obtain ⟨h, _⟩ := h; omega)
  · (exfalso; obtain ⟨h, _⟩ := h; omega)
  · (exfalso; obtain ⟨h, _⟩ := h; omega)
  · (exfalso; obtain ⟨h, _⟩ := h; omega)
  · exact h.2
  · (exfalso; obtain ⟨h, _⟩ := h; omega)
theorem NdK.e12 {F : Nat → Nat → Int32} {V : Nat → Prop} {wt dp pd : Nat → Nat} {se n k : Nat} (h : NdK F V wt dp pd se n k) (hk : k = 12) : ∃ c, KidT F V dp pd n 30 0 c ∧ wt c + 3 ≤ wt n := by
  rcases h with h | h | h | h | h | h | h | h
  · (exfalso; obtain ⟨h, _⟩ := h; omega)
  · (exfalso; obtain ⟨h, _⟩ := h; omega)
  · (exfalso; obtain ⟨h, _⟩ := h; omega)
  · (exfalso; obtain ⟨h, _⟩ := h; omega)
  · (exfalso; obtain ⟨h, _⟩ := h; omega)
  · (exfalso; obtain ⟨h, _⟩ := h; omega)
  · (exfalso; obtain ⟨h, _⟩ := h; omega)
  · exact h.2
theorem NdK.k13 {F : Nat → Nat → Int32} {V : Nat → Prop} {wt dp pd : Nat → Nat} {se n k : Nat} (h : NdK F V wt dp pd se n k) : k ≤ 13 := by
  rcases h with h | h | h | h | h | h | h | h <;> (obtain ⟨h, _⟩ := h; omega)
theorem TopO.leaf {F : Nat → Nat → Int32} {V : Nat → Prop} {wt dp pd : Nat → Nat} {n k s la h p r : Nat} (t : TopO F V wt dp pd n k s la h p r) (hk : k ≤ 1) : s = 0 ∧ p = h ∧ wt n ≤ r := by
  rcases t with ⟨h1, h2, h3⟩ | ⟨h1, _⟩ | ⟨hn, h1, h2⟩ | h1
  · exact ⟨h1, h2, h3⟩
  · omega
  · rcases h1 with h1 | h1 | h1 | h1 | h1 | h1 | h1 | h1 | h1 | h1 | h1 | h1
    · (exfalso; obtain ⟨h1, _⟩ := h1; omega)
    · (exfalso; obtain ⟨h1, h4, _⟩ := h1; omega)
    · (exfalso; obtain ⟨h1, h4, _⟩ := h1; omega)
    · (exfalso; obtain ⟨h1, _⟩ := h1; omega)
    · (exfalso; obtain ⟨h1, _⟩ := h1; omega)
    · (exfalso; obtain ⟨h1, _⟩ := h1; omega)
    · (exfalso; obtain ⟨h1, _⟩ := h1; omega)
    · (exfalso; obtain ⟨h1, _⟩ := h1; omega)
    · (exfalso; obtain ⟨h1, _⟩ := h1; omega)
    · (exfalso; obtain ⟨h1, _⟩ := h1; omega)
    · (exfalso; obtain ⟨h1, _⟩ := h1; omega)
    · (exfalso; obtain ⟨h1, _⟩ := h1; omega)
  · rcases h1 with h1 | h1 | h1 | h1 | h1 | h1 | h1 | h1 | h1 | h1 | h1 | h1
    · (exfalso; obtain ⟨h1, _⟩ := h1; omega)
    · (exfalso; obtain ⟨h1, h4, _⟩ := h1; omega)
    · (exfalso; obtain ⟨h1, h4, _⟩ := h1; omega)
    · (exfalso; obtain ⟨h1, _⟩ := h1; omega)
    · (exfalso; obtain ⟨h1, _⟩ := h1; omega)
    · (exfalso; obtain ⟨h1, _⟩ := h1; omega)
    · (exfalso; obtain ⟨h1, _⟩ := h1; omega)
    · (exfalso; obtain ⟨h1, _⟩ := h1; omega)
    · (exfalso; obtain ⟨h1, _⟩ := h1; omega)
    · (exfalso; obtain ⟨h1, _⟩ := h1; omega)
    · (exfalso; obtain ⟨h1, _⟩ := h1; omega)
    · (exfalso; obtain ⟨h1, _⟩ := h1; omega)
theorem TopO.minus {F : Nat → Nat → Int32} {V : Nat → Prop} {wt dp pd : Nat → Nat} {n k s la h p r : Nat} (t : TopO F V wt dp pd n k s la h p r) (hk : k = 4) : (s = 0 ∧ p = h ∧ wt n ≤ r) ∨ (s = 1 ∧ p = h + 1 ∧ 1 ≤ r) := by
  rcases t with ⟨h1, h2, h3⟩ | ⟨h1, _⟩ | ⟨hn, h1, h2⟩ | h1
  · exact Or.inl ⟨h1, h2, h3⟩
  · omega
  · rcases h1 with h1 | h1 | h1 | h1 | h1 | h1 | h1 | h1 | h1 | h1 | h1 | h1
    · exact Or.inr ⟨h1.2.1, by (have h5 := h1.2.2.1); omega, h1.2.2.2.2⟩
    · (exfalso; obtain ⟨h1, h4, _⟩ := h1; omega)
    · (exfalso; obtain ⟨h1, h4, _⟩ := h1; omega)
    · (exfalso; obtain ⟨h1, _⟩ := h1; omega)
    · (exfalso; obtain ⟨h1, _⟩ := h1; omega)
    · (exfalso; obtain ⟨h1, _⟩ := h1; omega)
    · (exfalso; obtain ⟨h1, _⟩ := h1; omega)
    · (exfalso; obtain ⟨h1, _⟩ := h1; omega)
    · (exfalso; obtain ⟨h1, _⟩ := h1; omega)
    · (exfalso; obtain ⟨h1, _⟩ := h1; omega)
    · (exfalso; obtain ⟨h1, _⟩ := h1; omega)
    · (exfalso; obtain ⟨h1, _⟩ := h1; omega)
  · rcases h1 with h1 | h1 | h1 | h1 | h1 | h1 | h1 | h1 | h1 | h1 | h1 | h1
    · exact absurd h1.2.2.2.1 (fun h => h)
    · (exfalso; obtain ⟨h1, h4, _⟩ := h1; omega)
    · (exfalso; obtain ⟨h1, h4, _⟩ := h1; omega)
    · (exfalso; obtain ⟨h1, _⟩ := h1; omega)
    · (exfalso; obtain ⟨h1, _⟩ := h1; omega)
    · (exfalso; obtain ⟨h1, _⟩ := h1; omega)
    · (exfalso; obtain ⟨h1, _⟩ := h1; omega)
    · (exfalso; obtain ⟨h1, _⟩ := h1; omega)
    · (exfalso; obtain ⟨h1, _⟩ := h1; omega)
    · (exfalso; obtain ⟨h1, _⟩ := h1; omega)
    · (exfalso; obtain ⟨h1, _⟩ := h1; omega)
    · (exfalso; obtain ⟨h1, _⟩ := h1; omega)
theorem TopO.not {F : Nat → Nat → Int32} {V : Nat → Prop} {wt dp pd : Nat → Nat} {n k s la h p r : Nat} (t : TopO F V wt dp pd n k s la h p r) (hk : k = 12) : (s = 0 ∧ p = h ∧ wt n ≤ r) ∨ (s = 1 ∧ p = h ∧ 1 ≤ r) := by
  rcases t with ⟨h1, h2, h3⟩ | ⟨h1, _⟩ | ⟨hn, h1, h2⟩ | h1
  · exact Or.inl ⟨h1, h2, h3⟩
  · omega
  · rcases h1 with h1 | h1 | h1 | h1 | h1 | h1 | h1 | h1 | h1 | h1 | h1 | h1
    · (exfalso; obtain ⟨h1, _⟩ := h1; omega)
    · (exfalso; obtain ⟨h1, h4, _⟩ := h1; omega)
    · (exfalso; obtain ⟨h1, h4, _⟩ := h1; omega)
    · (exfalso; obtain ⟨h1, _⟩ := h1; omega)
    · (exfalso; obtain ⟨h1, _⟩ := h1; omega)
    · (exfalso; obtain ⟨h1, _⟩ := h1; omega)
    · (exfalso; obtain ⟨h1, _⟩ := h1; omega)
    · (exfalso; obtain ⟨h1, _⟩ := h1; omega)
    · (exfalso; obtain ⟨h1, _⟩ := h1; omega)
    · exact absurd trivial h1.2.2.2.1
    · (exfalso; obtain ⟨h1, _⟩ := h1; omega)
    · (exfalso; obtain ⟨h1, _⟩ := h1; omega)
  · rcases h1 with h1 | h1 | h1 | h1 | h1 | h1 | h1 | h1 | h1 | h1 | h1 | h1
    · (exfalso; obtain ⟨h1, _⟩ := h1; omega)
    · (exfalso; obtain ⟨h1, h4, _⟩ := h1; omega)
    · (exfalso; obtain ⟨h1, h4, _⟩ := h1; omega)
    · (exfalso; obtain ⟨h1, _⟩ := h1; omega)
    · (exfalso; obtain ⟨h1, _⟩ := h1; omega)
    · (exfalso; obtain ⟨h1, _⟩ := h1; omega)
    · (exfalso; obtain ⟨h1, _⟩ := h1; omega)
    · (exfalso; obtain ⟨h1, _⟩ := h1; omega)
    · (exfalso; obtain ⟨h1, _⟩ := h1; omega)
    · exact Or.inr ⟨h1.2.1, h1.2.2.1, h1.2.2.2.2⟩
    · (exfalso; obtain ⟨h1, _⟩ := h1; omega)
    · (exfalso; obtain ⟨h1, _⟩ := h1; omega)
theorem WtO.m1 {F : Nat → Nat → Int32} {V : Nat → Prop} {wt dp pd : Nat → Nat} {n la h r : Nat} {lin : Prop} (hl : lin) (hr : 1 ≤ r) : WtO F V wt dp pd n 4 1 la h h r lin :=
  Or.inl ⟨rfl, rfl, rfl, hl, hr⟩
theorem WtO.t1 {F : Nat → Nat → Int32} {V : Nat → Prop} {wt dp pd : Nat → Nat} {n la h r : Nat} {lin : Prop} (hl : ¬ lin) (hr : 1 ≤ r) : WtO F V wt dp pd n 12 1 la h h r lin :=
  Or.inr (Or.inr (Or.inr (Or.inr (Or.inr (Or.inr (Or.inr (Or.inr (Or.inr (Or.inl ⟨rfl, rfl, rfl, hl, hr⟩)))))))))
theorem neg_2m {x : Int32} (h1 : -2000000 ≤ x.toInt) (h2 : x.toInt ≤ 2000000) : -2000000 ≤ (-x).toInt ∧ (-x).toInt ≤ 2000000 := by
  rw [Int32.toInt_neg, Int.bmod_eq_of_le (by omega) (by omega)]
  omega
end
section
/-- where a name or a sum stands, once it has begun -/
def LaK (k s : Nat) (f54 : Nat → Int32) (f la : Nat) : Prop := (k = 2 ∨ k = 3 ∨ k = 9) → 0 < s → f54 f = nI la
/-- all finished nodes are well formed -/
def VoK (F : Nat → Nat → Int32) (V : Nat → Prop) (wt dp pd : Nat → Nat) (se : Nat) : Prop := ∀ n, V n → n < 4000 ∧ ∃ k, F 29 n = nI k ∧ NdK F V wt dp pd se n k
/-- the frames below the uppermost one, f of them (n, h: node and pile of the frame above them; R: the turns that they have left) -/
def BelO (F : Nat → Nat → Int32) (V : Nat → Prop) (wt dp pd : Nat → Nat) (f52 f53 f54 : Nat → Int32) (D h0 n0 : Nat) : Nat → Nat → Nat → Nat → Prop
  | 0, n, h, R => n = n0 ∧ h = h0 ∧ R = 0
  | f + 1, n, h, R => ∃ n' k' s' la' h' r' R', (V n' ∧ F 29 n' = nI k' ∧ k' ≤ 13) ∧ (f52 f = nI n' ∧ f53 f = nI s' ∧ (k' = 2 ∨ k' = 3 ∨ k' = 9 → f54 f = nI la')) ∧ (h' + pd n' ≤ 80 ∧ f + dp n' ≤ D) ∧ WtO F V wt dp pd n' k' s' la' h' h r' ((F 29 n).toInt ≤ 9) ∧ BelO F V wt dp pd f52 f53 f54 D h0 n0 f n' h' R' ∧ R = 2 * r' + 1 + R'
theorem BelO.congr {F : Nat → Nat → Int32} {V : Nat → Prop} {wt dp pd : Nat → Nat} {f52 f53 f54 g52 g53 g54 : Nat → Int32} {D h0 n0 : Nat} : ∀ (f n h R : Nat), (∀ q, q < f → g52 q = f52 q ∧ g53 q = f53 q ∧ g54 q = f54 q) → BelO F V wt dp pd f52 f53 f54 D h0 n0 f n h R → BelO F V wt dp pd g52 g53 g54 D h0 n0 f n h R
  | 0, _, _, _, _, h => h
  | f + 1, n, h, R, e, b => by
    obtain ⟨n', k', s', la', h', r', R', a1, ⟨a2, a3, a4⟩, a5, a6, a7, a8⟩ := b
    obtain ⟨e1, e2, e3⟩ := e f (Nat.lt_succ_self f)
    exact ⟨n', k', s', la', h', r', R', a1, ⟨e1.trans a2, e2.trans a3, fun q => e3.trans (a4 q)⟩, a5, a6, BelO.congr f n' h' R' (fun q hq => e q (by omega)) a7, a8⟩
/-- the worker's frames: none is left and the value lies on the pile, or the uppermost one has its turn -/
def FrsO (F : Nat → Nat → Int32) (V : Nat → Prop) (wt dp pd : Nat → Nat) (f52 f53 f54 : Nat → Int32) (D h0 n0 fr p mQ : Nat) : Prop :=
  (fr = 0 ∧ ((p = h0 + 1 ∧ (F 29 n0).toInt ≤ 9) ∨ (p = h0 ∧ ¬ (F 29 n0).toInt ≤ 9))) ∨
  ∃ f n k s la h r R, fr = f + 1 ∧ (V n ∧ F 29 n = nI k ∧ k ≤ 13) ∧ (f52 f = nI n ∧ f53 f = nI s ∧ LaK k s f54 f la) ∧ TopO F V wt dp pd n k s la h p r ∧ BelO F V wt dp pd f52 f53 f54 D h0 n0 f n h R ∧ (f + dp n ≤ D ∧ h + pd n ≤ 80) ∧ 2 * r + 1 + R ≤ mQ
theorem WtO.lin {F : Nat → Nat → Int32} {V : Nat → Prop} {wt dp pd : Nat → Nat} {n k s la h hn r : Nat} {p q : Prop} (h1 : WtO F V wt dp pd n k s la h hn r p) (e : p ↔ q) : WtO F V wt dp pd n k s la h hn r q := (propext e) ▸ h1
theorem StpO.fr {F : Nat → Nat → Int32} {V : Nat → Prop} {wt dp pd : Nat → Nat} {n k f h r fr2 p2 : Nat} {f52 f53 f54 g52 g53 g54 : Nat → Int32} (h : StpO F V wt dp pd n k f h r f52 f53 f54 g52 g53 g54 fr2 p2) : fr2 ≤ f + 2 := by
  rcases h.2 with h9 | h9 | h9
  · have := h9.1; omega
  · have := h9.1; omega
  · have := h9.1; omega
theorem FrsO.step {F : Nat → Nat → Int32} {V : Nat → Prop} {wt dp pd : Nat → Nat} {se n k f h r R D h0 n0 fr2 p2 mQ : Nat} {f52 f53 f54 g52 g53 g54 : Nat → Int32} (hV : VoK F V wt dp pd se) (hVn : V n) (hk : F 29 n = nI k) (hk13 : k ≤ 13) (h52 : f52 f = nI n) (hB : BelO F V wt dp pd f52 f53 f54 D h0 n0 f n h R) (hD : f + dp n ≤ D) (h80 : h + pd n ≤ 80) (hm : 2 * r + 1 + R ≤ mQ) (hS : StpO F V wt dp pd n k f h r f52 f53 f54 g52 g53 g54 fr2 p2) : FrsO F V wt dp pd g52 g53 g54 D h0 n0 fr2 p2 (mQ - 1) := by
  obtain ⟨hE, hS⟩ := hS
  have hkT : (F 29 n).toInt = k := by rw [hk]; exact nI_toInt (by omega)
  rcases hS with ⟨a1, a2⟩ | ⟨a1, a2, c, s', la', r', b1, b2, b3, b4, b5, b6, b7, b8, b9⟩ | ⟨a1, a2, s', la', r', b1, b2, b3, b4⟩
  · match f, hB, hE with
    | 0, hB, _ =>
      obtain ⟨rfl, rfl, _⟩ := hB
      refine Or.inl ⟨a1, ?_⟩
      by_cases h9 : k ≤ 9
      · exact Or.inl ⟨by rw [if_pos h9] at a2; exact a2, by omega⟩
      · exact Or.inr ⟨by rw [if_neg h9] at a2; exact a2, by omega⟩
    | f + 1, hB, hE =>
      obtain ⟨n', k', s', la', h', r', R', c1, ⟨c2, c3, c4⟩, c5, c6, c7, c8⟩ := hB
      obtain ⟨e1, e2, e3⟩ := hE f (Nat.lt_succ_self f)
      refine Or.inr ⟨f, n', k', s', la', h', r', R', a1, c1, ⟨e1.trans c2, e2.trans c3, fun q _ => e3.trans (c4 q)⟩, ?_, BelO.congr f n' h' R' (fun q hq => hE q (by omega)) c7, c5.symm, by omega⟩
      by_cases h9 : k ≤ 9
      · rw [if_pos h9] at a2
        exact Or.inr (Or.inr (Or.inl ⟨h, c6.lin ⟨fun _ => trivial, fun _ => by omega⟩, a2⟩))
      · rw [if_neg h9] at a2
        have a3 : p2 = h := a2
        subst a3
        exact Or.inr (Or.inr (Or.inr (c6.lin ⟨fun q => by omega, fun q => q.elim⟩)))
  · obtain ⟨_, k9, d1, d2⟩ := hV c b5
    exact Or.inr ⟨f + 1, c, k9, 0, 0, p2, wt c, 2 * r' + 1 + R, a1, ⟨b5, d1, d2.k13⟩, ⟨b1, b2.trans nI_0.symm, fun _ q => absurd q (by omega)⟩, Or.inl ⟨rfl, rfl, Nat.le_refl _⟩,
      ⟨n, k, s', la', h, r', R, ⟨hVn, hk, hk13⟩, ⟨a2.trans h52, b3, b4⟩, ⟨h80, hD⟩, b8, BelO.congr f n h R hE hB, rfl⟩, ⟨by omega, by omega⟩, by omega⟩
  · exact Or.inr ⟨f, n, k, s', la', h, r', R, a1, ⟨hVn, hk, hk13⟩, ⟨a2.trans h52, b1, fun q _ => b2 q⟩, b3, BelO.congr f n h R hE hB, ⟨hD, h80⟩, by omega⟩
/-- one call stands, and nothing below it -/
theorem FrsO.first {F : Nat → Nat → Int32} {V : Nat → Prop} {wt dp pd : Nat → Nat} {se D h0 n0 : Nat} {f52 f53 f54 : Nat → Int32} (hV : VoK F V wt dp pd se) (hn : V n0) (h52 : f52 0 = nI n0) (h53 : f53 0 = 0) (hD : dp n0 ≤ D) (h80 : h0 + pd n0 ≤ 80) : FrsO F V wt dp pd f52 f53 f54 D h0 n0 1 h0 (2 * wt n0 + 1) := by
  obtain ⟨_, k9, d1, d2⟩ := hV n0 hn
  exact Or.inr ⟨0, n0, k9, 0, 0, h0, wt n0, 0, rfl, ⟨hn, d1, d2.k13⟩, ⟨h52, h53.trans nI_0.symm, fun _ q => absurd q (by omega)⟩, Or.inl ⟨rfl, rfl, Nat.le_refl _⟩, ⟨rfl, rfl, rfl⟩, ⟨by omega, h80⟩, by omega⟩
theorem FrsO.top {F : Nat → Nat → Int32} {V : Nat → Prop} {wt dp pd : Nat → Nat} {f52 f53 f54 : Nat → Int32} {D h0 n0 fr p mQ : Nat} (h : FrsO F V wt dp pd f52 f53 f54 D h0 n0 fr p mQ) (hf : 0 < fr) :
  ∃ f n k s la h r R, fr = f + 1 ∧ (V n ∧ F 29 n = nI k ∧ k ≤ 13) ∧ (f52 f = nI n ∧ f53 f = nI s ∧ LaK k s f54 f la) ∧ TopO F V wt dp pd n k s la h p r ∧ BelO F V wt dp pd f52 f53 f54 D h0 n0 f n h R ∧ (f + dp n ≤ D ∧ h + pd n ≤ 80) ∧ 2 * r + 1 + R ≤ mQ :=
  h.resolve_left (fun q => absurd q.1 (by omega))
theorem FrsO.done {F : Nat → Nat → Int32} {V : Nat → Prop} {wt dp pd : Nat → Nat} {f52 f53 f54 : Nat → Int32} {D h0 n0 fr p mQ : Nat} (h : FrsO F V wt dp pd f52 f53 f54 D h0 n0 fr p mQ) (hf : fr = 0) : (p = h0 + 1 ∧ (F 29 n0).toInt ≤ 9) ∨ (p = h0 ∧ ¬ (F 29 n0).toInt ≤ 9) :=
  (h.resolve_right (fun ⟨_, _, _, _, _, _, _, _, q, _⟩ => absurd q (by omega))).2
theorem nIinj {a b : Nat} (ha : a < 4000) (hb : b < 4000) (h : nI a = nI b) : a = b := kidE ⟨rfl, ha⟩ ⟨h, hb⟩
end
section
theorem hd_yX12_workName_RX12 : yX12_workName.cls = RX12 ∧ yX12_workName.cls ≠ "java/lang/invoke/MethodHandle" ∧ yX12_workName.cls ≠ "java/lang/invoke/VarHandle" ∧ (parseMethodDescriptor yX12_workName.desc).map (fun d => d.parameters.length) = some 2 := by decide +kernel
theorem hd_yX12_workPair_RX12 : yX12_workPair.cls = RX12 ∧ yX12_workPair.cls ≠ "java/lang/invoke/MethodHandle" ∧ yX12_workPair.cls ≠ "java/lang/invoke/VarHandle" ∧ (parseMethodDescriptor yX12_workPair.desc).map (fun d => d.parameters.length) = some 2 := by decide +kernel
theorem hd_yX12_workSum_RX12 : yX12_workSum.cls = RX12 ∧ yX12_workSum.cls ≠ "java/lang/invoke/MethodHandle" ∧ yX12_workSum.cls ≠ "java/lang/invoke/VarHandle" ∧ (parseMethodDescriptor yX12_workSum.desc).map (fun d => d.parameters.length) = some 2 := by decide +kernel
theorem hd_yX12_workJoined_RX12 : yX12_workJoined.cls = RX12 ∧ yX12_workJoined.cls ≠ "java/lang/invoke/MethodHandle" ∧ yX12_workJoined.cls ≠ "java/lang/invoke/VarHandle" ∧ (parseMethodDescriptor yX12_workJoined.desc).map (fun d => d.parameters.length) = some 2 := by decide +kernel
theorem hd_yX12_workCompare_RX12 : yX12_workCompare.cls = RX12 ∧ yX12_workCompare.cls ≠ "java/lang/invoke/MethodHandle" ∧ yX12_workCompare.cls ≠ "java/lang/invoke/VarHandle" ∧ (parseMethodDescriptor yX12_workCompare.desc).map (fun d => d.parameters.length) = some 2 := by decide +kernel
theorem dX12_workFrame_0 : decode cX12_workFrame 0 = .ok (.aload_n 0, 1) := dk_42 (by decide +kernel)
theorem dX12_workFrame_1 : decode cX12_workFrame 1 = .ok (.getfield 179, 3) := dk_180 (by decide +kernel)
theorem dX12_workFrame_4 : decode cX12_workFrame 4 = .ok (.iload_n 1, 1) := dk_27 (by decide +kernel)
theorem dX12_workFrame_5 : decode cX12_workFrame 5 = .ok (.iaload, 1) := dk_46 (by decide +kernel)
theorem dX12_workFrame_6 : decode cX12_workFrame 6 = .ok (.istore_n 2, 1) := dk_61 (by decide +kernel)
theorem dX12_workFrame_7 : decode cX12_workFrame 7 = .ok (.aload_n 0, 1) := dk_42 (by decide +kernel)
theorem dX12_workFrame_8 : decode cX12_workFrame 8 = .ok (.getfield 110, 3) := dk_180 (by decide +kernel)
theorem dX12_workFrame_11 : decode cX12_workFrame 11 = .ok (.iload_n 2, 1) := dk_28 (by decide +kernel)
theorem dX12_workFrame_12 : decode cX12_workFrame 12 = .ok (.iaload, 1) := dk_46 (by decide +kernel)
theorem dX12_workFrame_13 : decode cX12_workFrame 13 = .ok (.tableswitch 338 0 13 #[71, 71, 147, 147, 156, 338, 338, 338, 338, 249, 258, 258, 267, 329], 71) := by decide +kernel
theorem dX12_workFrame_84 : decode cX12_workFrame 84 = .ok (.aload_n 0, 1) := dk_42 (by decide +kernel)
theorem dX12_workFrame_85 : decode cX12_workFrame 85 = .ok (.invokevirtual 656, 3) := dk_182 (by decide +kernel)
theorem dX12_workFrame_88 : decode cX12_workFrame 88 = .ok (.aload_n 0, 1) := dk_42 (by decide +kernel)
theorem dX12_workFrame_89 : decode cX12_workFrame 89 = .ok (.aload_n 0, 1) := dk_42 (by decide +kernel)
theorem dX12_workFrame_90 : decode cX12_workFrame 90 = .ok (.getfield 659, 3) := dk_180 (by decide +kernel)
theorem dX12_workFrame_93 : decode cX12_workFrame 93 = .ok (.invokevirtual 662, 3) := dk_182 (by decide +kernel)
theorem dX12_workFrame_96 : decode cX12_workFrame 96 = .ok (.aload_n 0, 1) := dk_42 (by decide +kernel)
theorem dX12_workFrame_97 : decode cX12_workFrame 97 = .ok (.getfield 170, 3) := dk_180 (by decide +kernel)
theorem dX12_workFrame_100 : decode cX12_workFrame 100 = .ok (.bipush 9, 2) := dk_16 (by decide +kernel)
theorem dX12_workFrame_102 : decode cX12_workFrame 102 = .ok (.aload_n 0, 1) := dk_42 (by decide +kernel)
theorem dX12_workFrame_103 : decode cX12_workFrame 103 = .ok (.getfield 659, 3) := dk_180 (by decide +kernel)
theorem dX12_workFrame_106 : decode cX12_workFrame 106 = .ok (.imul, 1) := dk_104 (by decide +kernel)
theorem dX12_workFrame_107 : decode cX12_workFrame 107 = .ok (.aload_n 0, 1) := dk_42 (by decide +kernel)
theorem dX12_workFrame_108 : decode cX12_workFrame 108 = .ok (.getfield 110, 3) := dk_180 (by decide +kernel)
theorem dX12_workFrame_111 : decode cX12_workFrame 111 = .ok (.iload_n 2, 1) := dk_28 (by decide +kernel)
theorem dX12_workFrame_112 : decode cX12_workFrame 112 = .ok (.iaload, 1) := dk_46 (by decide +kernel)
theorem dX12_workFrame_113 : decode cX12_workFrame 113 = .ok (.ifCond .ne 12, 3) := dk_154 (by decide +kernel)
theorem dX12_workFrame_116 : decode cX12_workFrame 116 = .ok (.aload_n 0, 1) := dk_42 (by decide +kernel)
theorem dX12_workFrame_117 : decode cX12_workFrame 117 = .ok (.getfield 113, 3) := dk_180 (by decide +kernel)
theorem dX12_workFrame_120 : decode cX12_workFrame 120 = .ok (.iload_n 2, 1) := dk_28 (by decide +kernel)
theorem dX12_workFrame_121 : decode cX12_workFrame 121 = .ok (.iaload, 1) := dk_46 (by decide +kernel)
theorem dX12_workFrame_122 : decode cX12_workFrame 122 = .ok (.goto 14, 3) := dk_167 (by decide +kernel)
theorem dX12_workFrame_125 : decode cX12_workFrame 125 = .ok (.aload_n 0, 1) := dk_42 (by decide +kernel)
theorem dX12_workFrame_126 : decode cX12_workFrame 126 = .ok (.getfield 176, 3) := dk_180 (by decide +kernel)
theorem dX12_workFrame_129 : decode cX12_workFrame 129 = .ok (.aload_n 0, 1) := dk_42 (by decide +kernel)
theorem dX12_workFrame_130 : decode cX12_workFrame 130 = .ok (.getfield 113, 3) := dk_180 (by decide +kernel)
theorem dX12_workFrame_133 : decode cX12_workFrame 133 = .ok (.iload_n 2, 1) := dk_28 (by decide +kernel)
theorem dX12_workFrame_134 : decode cX12_workFrame 134 = .ok (.iaload, 1) := dk_46 (by decide +kernel)
theorem dX12_workFrame_135 : decode cX12_workFrame 135 = .ok (.iaload, 1) := dk_46 (by decide +kernel)
theorem dX12_workFrame_136 : decode cX12_workFrame 136 = .ok (.iastore, 1) := dk_79 (by decide +kernel)
theorem dX12_workFrame_137 : decode cX12_workFrame 137 = .ok (.aload_n 0, 1) := dk_42 (by decide +kernel)
theorem dX12_workFrame_138 : decode cX12_workFrame 138 = .ok (.dup, 1) := dk_89 (by decide +kernel)
theorem dX12_workFrame_139 : decode cX12_workFrame 139 = .ok (.getfield 659, 3) := dk_180 (by decide +kernel)
theorem dX12_workFrame_142 : decode cX12_workFrame 142 = .ok (.iconst 1, 1) := dk_4 (by decide +kernel)
theorem dX12_workFrame_143 : decode cX12_workFrame 143 = .ok (.iadd, 1) := dk_96 (by decide +kernel)
theorem dX12_workFrame_144 : decode cX12_workFrame 144 = .ok (.putfield 659, 3) := dk_181 (by decide +kernel)
theorem dX12_workFrame_147 : decode cX12_workFrame 147 = .ok (.aload_n 0, 1) := dk_42 (by decide +kernel)
theorem dX12_workFrame_148 : decode cX12_workFrame 148 = .ok (.dup, 1) := dk_89 (by decide +kernel)
theorem dX12_workFrame_149 : decode cX12_workFrame 149 = .ok (.getfield 647, 3) := dk_180 (by decide +kernel)
theorem dX12_workFrame_152 : decode cX12_workFrame 152 = .ok (.iconst 1, 1) := dk_4 (by decide +kernel)
theorem dX12_workFrame_153 : decode cX12_workFrame 153 = .ok (.isub, 1) := dk_100 (by decide +kernel)
theorem dX12_workFrame_154 : decode cX12_workFrame 154 = .ok (.putfield 647, 3) := dk_181 (by decide +kernel)
theorem dX12_workFrame_157 : decode cX12_workFrame 157 = .ok (.goto 200, 3) := dk_167 (by decide +kernel)
theorem dX12_workFrame_160 : decode cX12_workFrame 160 = .ok (.aload_n 0, 1) := dk_42 (by decide +kernel)
theorem dX12_workFrame_161 : decode cX12_workFrame 161 = .ok (.iload_n 1, 1) := dk_27 (by decide +kernel)
theorem dX12_workFrame_162 : decode cX12_workFrame 162 = .ok (.iload_n 2, 1) := dk_28 (by decide +kernel)
theorem dX12_workFrame_163 : decode cX12_workFrame 163 = .ok (.invokevirtual 665, 3) := dk_182 (by decide +kernel)
theorem dX12_workFrame_166 : decode cX12_workFrame 166 = .ok (.goto 191, 3) := dk_167 (by decide +kernel)
theorem dX12_workFrame_169 : decode cX12_workFrame 169 = .ok (.aload_n 0, 1) := dk_42 (by decide +kernel)
theorem dX12_workFrame_170 : decode cX12_workFrame 170 = .ok (.getfield 182, 3) := dk_180 (by decide +kernel)
theorem dX12_workFrame_173 : decode cX12_workFrame 173 = .ok (.iload_n 1, 1) := dk_27 (by decide +kernel)
theorem dX12_workFrame_174 : decode cX12_workFrame 174 = .ok (.iaload, 1) := dk_46 (by decide +kernel)
theorem dX12_workFrame_175 : decode cX12_workFrame 175 = .ok (.ifCond .ne 27, 3) := dk_154 (by decide +kernel)
theorem dX12_workFrame_178 : decode cX12_workFrame 178 = .ok (.aload_n 0, 1) := dk_42 (by decide +kernel)
theorem dX12_workFrame_179 : decode cX12_workFrame 179 = .ok (.invokevirtual 656, 3) := dk_182 (by decide +kernel)
theorem dX12_workFrame_182 : decode cX12_workFrame 182 = .ok (.aload_n 0, 1) := dk_42 (by decide +kernel)
theorem dX12_workFrame_183 : decode cX12_workFrame 183 = .ok (.getfield 182, 3) := dk_180 (by decide +kernel)
theorem dX12_workFrame_186 : decode cX12_workFrame 186 = .ok (.iload_n 1, 1) := dk_27 (by decide +kernel)
theorem dX12_workFrame_187 : decode cX12_workFrame 187 = .ok (.iconst 1, 1) := dk_4 (by decide +kernel)
theorem dX12_workFrame_188 : decode cX12_workFrame 188 = .ok (.iastore, 1) := dk_79 (by decide +kernel)
theorem dX12_workFrame_189 : decode cX12_workFrame 189 = .ok (.aload_n 0, 1) := dk_42 (by decide +kernel)
theorem dX12_workFrame_190 : decode cX12_workFrame 190 = .ok (.aload_n 0, 1) := dk_42 (by decide +kernel)
theorem dX12_workFrame_191 : decode cX12_workFrame 191 = .ok (.getfield 113, 3) := dk_180 (by decide +kernel)
theorem dX12_workFrame_194 : decode cX12_workFrame 194 = .ok (.iload_n 2, 1) := dk_28 (by decide +kernel)
theorem dX12_workFrame_195 : decode cX12_workFrame 195 = .ok (.iaload, 1) := dk_46 (by decide +kernel)
theorem dX12_workFrame_196 : decode cX12_workFrame 196 = .ok (.invokevirtual 650, 3) := dk_182 (by decide +kernel)
theorem dX12_workFrame_199 : decode cX12_workFrame 199 = .ok (.goto 158, 3) := dk_167 (by decide +kernel)
theorem dX12_workFrame_202 : decode cX12_workFrame 202 = .ok (.iconst 0, 1) := dk_3 (by decide +kernel)
theorem dX12_workFrame_203 : decode cX12_workFrame 203 = .ok (.istore_n 3, 1) := dk_62 (by decide +kernel)
theorem dX12_workFrame_204 : decode cX12_workFrame 204 = .ok (.iload_n 3, 1) := dk_29 (by decide +kernel)
theorem dX12_workFrame_205 : decode cX12_workFrame 205 = .ok (.bipush 9, 2) := dk_16 (by decide +kernel)
theorem dX12_workFrame_207 : decode cX12_workFrame 207 = .ok (.if_icmp .ge 42, 3) := dk_162 (by decide +kernel)
theorem dX12_workFrame_210 : decode cX12_workFrame 210 = .ok (.aload_n 0, 1) := dk_42 (by decide +kernel)
theorem dX12_workFrame_211 : decode cX12_workFrame 211 = .ok (.getfield 170, 3) := dk_180 (by decide +kernel)
theorem dX12_workFrame_214 : decode cX12_workFrame 214 = .ok (.bipush 9, 2) := dk_16 (by decide +kernel)
theorem dX12_workFrame_216 : decode cX12_workFrame 216 = .ok (.aload_n 0, 1) := dk_42 (by decide +kernel)
theorem dX12_workFrame_217 : decode cX12_workFrame 217 = .ok (.getfield 659, 3) := dk_180 (by decide +kernel)
theorem dX12_workFrame_220 : decode cX12_workFrame 220 = .ok (.iconst 1, 1) := dk_4 (by decide +kernel)
theorem dX12_workFrame_221 : decode cX12_workFrame 221 = .ok (.isub, 1) := dk_100 (by decide +kernel)
theorem dX12_workFrame_222 : decode cX12_workFrame 222 = .ok (.imul, 1) := dk_104 (by decide +kernel)
theorem dX12_workFrame_223 : decode cX12_workFrame 223 = .ok (.iload_n 3, 1) := dk_29 (by decide +kernel)
theorem dX12_workFrame_224 : decode cX12_workFrame 224 = .ok (.iadd, 1) := dk_96 (by decide +kernel)
theorem dX12_workFrame_225 : decode cX12_workFrame 225 = .ok (.aload_n 0, 1) := dk_42 (by decide +kernel)
theorem dX12_workFrame_226 : decode cX12_workFrame 226 = .ok (.getfield 170, 3) := dk_180 (by decide +kernel)
theorem dX12_workFrame_229 : decode cX12_workFrame 229 = .ok (.bipush 9, 2) := dk_16 (by decide +kernel)
theorem dX12_workFrame_231 : decode cX12_workFrame 231 = .ok (.aload_n 0, 1) := dk_42 (by decide +kernel)
theorem dX12_workFrame_232 : decode cX12_workFrame 232 = .ok (.getfield 659, 3) := dk_180 (by decide +kernel)
theorem dX12_workFrame_235 : decode cX12_workFrame 235 = .ok (.iconst 1, 1) := dk_4 (by decide +kernel)
theorem dX12_workFrame_236 : decode cX12_workFrame 236 = .ok (.isub, 1) := dk_100 (by decide +kernel)
theorem dX12_workFrame_237 : decode cX12_workFrame 237 = .ok (.imul, 1) := dk_104 (by decide +kernel)
theorem dX12_workFrame_238 : decode cX12_workFrame 238 = .ok (.iload_n 3, 1) := dk_29 (by decide +kernel)
theorem dX12_workFrame_239 : decode cX12_workFrame 239 = .ok (.iadd, 1) := dk_96 (by decide +kernel)
theorem dX12_workFrame_240 : decode cX12_workFrame 240 = .ok (.iaload, 1) := dk_46 (by decide +kernel)
theorem dX12_workFrame_241 : decode cX12_workFrame 241 = .ok (.ineg, 1) := dk_116 (by decide +kernel)
theorem dX12_workFrame_242 : decode cX12_workFrame 242 = .ok (.iastore, 1) := dk_79 (by decide +kernel)
theorem dX12_workFrame_243 : decode cX12_workFrame 243 = .ok (.iinc 3 1, 3) := dk_132 (by decide +kernel)
theorem dX12_workFrame_246 : decode cX12_workFrame 246 = .ok (.goto (-42), 3) := dk_167 (by decide +kernel)
theorem dX12_workFrame_249 : decode cX12_workFrame 249 = .ok (.aload_n 0, 1) := dk_42 (by decide +kernel)
theorem dX12_workFrame_250 : decode cX12_workFrame 250 = .ok (.dup, 1) := dk_89 (by decide +kernel)
theorem dX12_workFrame_251 : decode cX12_workFrame 251 = .ok (.getfield 647, 3) := dk_180 (by decide +kernel)
theorem dX12_workFrame_254 : decode cX12_workFrame 254 = .ok (.iconst 1, 1) := dk_4 (by decide +kernel)
theorem dX12_workFrame_255 : decode cX12_workFrame 255 = .ok (.isub, 1) := dk_100 (by decide +kernel)
theorem dX12_workFrame_256 : decode cX12_workFrame 256 = .ok (.putfield 647, 3) := dk_181 (by decide +kernel)
theorem dX12_workFrame_259 : decode cX12_workFrame 259 = .ok (.goto 98, 3) := dk_167 (by decide +kernel)
theorem dX12_workFrame_262 : decode cX12_workFrame 262 = .ok (.aload_n 0, 1) := dk_42 (by decide +kernel)
theorem dX12_workFrame_263 : decode cX12_workFrame 263 = .ok (.iload_n 1, 1) := dk_27 (by decide +kernel)
theorem dX12_workFrame_264 : decode cX12_workFrame 264 = .ok (.iload_n 2, 1) := dk_28 (by decide +kernel)
theorem dX12_workFrame_265 : decode cX12_workFrame 265 = .ok (.invokevirtual 668, 3) := dk_182 (by decide +kernel)
theorem dX12_workFrame_268 : decode cX12_workFrame 268 = .ok (.goto 89, 3) := dk_167 (by decide +kernel)
theorem dX12_workFrame_271 : decode cX12_workFrame 271 = .ok (.aload_n 0, 1) := dk_42 (by decide +kernel)
theorem dX12_workFrame_272 : decode cX12_workFrame 272 = .ok (.iload_n 1, 1) := dk_27 (by decide +kernel)
theorem dX12_workFrame_273 : decode cX12_workFrame 273 = .ok (.iload_n 2, 1) := dk_28 (by decide +kernel)
theorem dX12_workFrame_274 : decode cX12_workFrame 274 = .ok (.invokevirtual 671, 3) := dk_182 (by decide +kernel)
theorem dX12_workFrame_277 : decode cX12_workFrame 277 = .ok (.goto 80, 3) := dk_167 (by decide +kernel)
theorem dX12_workFrame_280 : decode cX12_workFrame 280 = .ok (.aload_n 0, 1) := dk_42 (by decide +kernel)
theorem dX12_workFrame_281 : decode cX12_workFrame 281 = .ok (.getfield 182, 3) := dk_180 (by decide +kernel)
theorem dX12_workFrame_284 : decode cX12_workFrame 284 = .ok (.iload_n 1, 1) := dk_27 (by decide +kernel)
theorem dX12_workFrame_285 : decode cX12_workFrame 285 = .ok (.dup2, 1) := dk_92 (by decide +kernel)
theorem dX12_workFrame_286 : decode cX12_workFrame 286 = .ok (.iaload, 1) := dk_46 (by decide +kernel)
theorem dX12_workFrame_287 : decode cX12_workFrame 287 = .ok (.iconst 1, 1) := dk_4 (by decide +kernel)
theorem dX12_workFrame_288 : decode cX12_workFrame 288 = .ok (.iadd, 1) := dk_96 (by decide +kernel)
theorem dX12_workFrame_289 : decode cX12_workFrame 289 = .ok (.iastore, 1) := dk_79 (by decide +kernel)
theorem dX12_workFrame_290 : decode cX12_workFrame 290 = .ok (.aload_n 0, 1) := dk_42 (by decide +kernel)
theorem dX12_workFrame_291 : decode cX12_workFrame 291 = .ok (.getfield 182, 3) := dk_180 (by decide +kernel)
theorem dX12_workFrame_294 : decode cX12_workFrame 294 = .ok (.iload_n 1, 1) := dk_27 (by decide +kernel)
theorem dX12_workFrame_295 : decode cX12_workFrame 295 = .ok (.iaload, 1) := dk_46 (by decide +kernel)
theorem dX12_workFrame_296 : decode cX12_workFrame 296 = .ok (.iconst 1, 1) := dk_4 (by decide +kernel)
theorem dX12_workFrame_297 : decode cX12_workFrame 297 = .ok (.if_icmp .ne 16, 3) := dk_160 (by decide +kernel)
theorem dX12_workFrame_300 : decode cX12_workFrame 300 = .ok (.aload_n 0, 1) := dk_42 (by decide +kernel)
theorem dX12_workFrame_301 : decode cX12_workFrame 301 = .ok (.aload_n 0, 1) := dk_42 (by decide +kernel)
theorem dX12_workFrame_302 : decode cX12_workFrame 302 = .ok (.getfield 113, 3) := dk_180 (by decide +kernel)
theorem dX12_workFrame_305 : decode cX12_workFrame 305 = .ok (.iload_n 2, 1) := dk_28 (by decide +kernel)
theorem dX12_workFrame_306 : decode cX12_workFrame 306 = .ok (.iaload, 1) := dk_46 (by decide +kernel)
theorem dX12_workFrame_307 : decode cX12_workFrame 307 = .ok (.invokevirtual 650, 3) := dk_182 (by decide +kernel)
theorem dX12_workFrame_310 : decode cX12_workFrame 310 = .ok (.goto 47, 3) := dk_167 (by decide +kernel)
theorem dX12_workFrame_313 : decode cX12_workFrame 313 = .ok (.aload_n 0, 1) := dk_42 (by decide +kernel)
theorem dX12_workFrame_314 : decode cX12_workFrame 314 = .ok (.aload_n 0, 1) := dk_42 (by decide +kernel)
theorem dX12_workFrame_315 : decode cX12_workFrame 315 = .ok (.getfield 674, 3) := dk_180 (by decide +kernel)
theorem dX12_workFrame_318 : decode cX12_workFrame 318 = .ok (.ifCond .ne 7, 3) := dk_154 (by decide +kernel)
theorem dX12_workFrame_321 : decode cX12_workFrame 321 = .ok (.iconst 1, 1) := dk_4 (by decide +kernel)
theorem dX12_workFrame_322 : decode cX12_workFrame 322 = .ok (.goto 4, 3) := dk_167 (by decide +kernel)
theorem dX12_workFrame_325 : decode cX12_workFrame 325 = .ok (.iconst 0, 1) := dk_3 (by decide +kernel)
theorem dX12_workFrame_326 : decode cX12_workFrame 326 = .ok (.putfield 674, 3) := dk_181 (by decide +kernel)
theorem dX12_workFrame_329 : decode cX12_workFrame 329 = .ok (.aload_n 0, 1) := dk_42 (by decide +kernel)
theorem dX12_workFrame_330 : decode cX12_workFrame 330 = .ok (.dup, 1) := dk_89 (by decide +kernel)
theorem dX12_workFrame_331 : decode cX12_workFrame 331 = .ok (.getfield 647, 3) := dk_180 (by decide +kernel)
theorem dX12_workFrame_334 : decode cX12_workFrame 334 = .ok (.iconst 1, 1) := dk_4 (by decide +kernel)
theorem dX12_workFrame_335 : decode cX12_workFrame 335 = .ok (.isub, 1) := dk_100 (by decide +kernel)
theorem dX12_workFrame_336 : decode cX12_workFrame 336 = .ok (.putfield 647, 3) := dk_181 (by decide +kernel)
theorem dX12_workFrame_339 : decode cX12_workFrame 339 = .ok (.goto 18, 3) := dk_167 (by decide +kernel)
theorem dX12_workFrame_342 : decode cX12_workFrame 342 = .ok (.aload_n 0, 1) := dk_42 (by decide +kernel)
theorem dX12_workFrame_343 : decode cX12_workFrame 343 = .ok (.iload_n 1, 1) := dk_27 (by decide +kernel)
theorem dX12_workFrame_344 : decode cX12_workFrame 344 = .ok (.iload_n 2, 1) := dk_28 (by decide +kernel)
theorem dX12_workFrame_345 : decode cX12_workFrame 345 = .ok (.invokevirtual 677, 3) := dk_182 (by decide +kernel)
theorem dX12_workFrame_348 : decode cX12_workFrame 348 = .ok (.goto 9, 3) := dk_167 (by decide +kernel)
theorem dX12_workFrame_351 : decode cX12_workFrame 351 = .ok (.aload_n 0, 1) := dk_42 (by decide +kernel)
theorem dX12_workFrame_352 : decode cX12_workFrame 352 = .ok (.iload_n 1, 1) := dk_27 (by decide +kernel)
theorem dX12_workFrame_353 : decode cX12_workFrame 353 = .ok (.iload_n 2, 1) := dk_28 (by decide +kernel)
theorem dX12_workFrame_354 : decode cX12_workFrame 354 = .ok (.invokevirtual 680, 3) := dk_182 (by decide +kernel)
theorem dX12_workFrame_357 : decode cX12_workFrame 357 = .ok (.return_, 1) := dk_177 (by decide +kernel)
def wsRX12_workFrame : List Cond := .code yX12_workFrame cX12_workFrame 4 none :: ([.fieldLink RX12 179 "OptimaWorksModel" "frame" "[I", .fieldLink RX12 110 "OptimaWorksModel" "kind" "[I", .fieldLink RX12 659 "OptimaWorksModel" "piled" "I", .fieldLink RX12 170 "OptimaWorksModel" "top" "[I", .fieldLink RX12 113 "OptimaWorksModel" "partA" "[I", .fieldLink RX12 647 "OptimaWorksModel" "framed" "I", .fieldLink RX12 176 "OptimaWorksModel" "env" "[I", .fieldLink RX12 182 "OptimaWorksModel" "stage" "[I", .fieldLink RX12 674 "OptimaWorksModel" "truth" "Z"] ++ wsX120 ++ (wsV RX12 656 RX12 yX12_stepOne wsRX12_stepOne) ++ (wsV RX12 662 RX12 yX12_nought wsRX12_nought) ++ (wsV RX12 665 RX12 yX12_workName wsRX12_workName) ++ (wsV RX12 650 RX12 yX12_call wsRX12_call) ++ (wsV RX12 680 RX12 yX12_workPair wsRX12_workPair) ++ (wsV RX12 668 RX12 yX12_workSum wsRX12_workSum) ++ (wsV RX12 671 RX12 yX12_workJoined wsRX12_workJoined) ++ (wsV RX12 677 RX12 yX12_workCompare wsRX12_workCompare))
theorem iwsRX12_workFrame_in12 : ∀ w ∈ wsX120, w ∈ wsRX12_workFrame := fun _ h => List.mem_cons_of_mem _ (List.mem_append_left _ (List.mem_append_left _ (List.mem_append_left _ (List.mem_append_left _ (List.mem_append_left _ (List.mem_append_left _ (List.mem_append_left _ (List.mem_append_left _ (List.mem_append_right _ h)))))))))
theorem gwsRX12_workFrame_0 : GoodIn wsRX12_workFrame (wsV RX12 656 RX12 yX12_stepOne wsRX12_stepOne) := goodIn_sub (fun _ h => List.mem_cons_of_mem _ (List.mem_append_left _ (List.mem_append_left _ (List.mem_append_left _ (List.mem_append_left _ (List.mem_append_left _ (List.mem_append_left _ (List.mem_append_left _ (List.mem_append_right _ h))))))))) (gdV (by decide +kernel) gdwsRX12_stepOne)
theorem gwsRX12_workFrame_1 : GoodIn wsRX12_workFrame (wsV RX12 662 RX12 yX12_nought wsRX12_nought) := goodIn_sub (fun _ h => List.mem_cons_of_mem _ (List.mem_append_left _ (List.mem_append_left _ (List.mem_append_left _ (List.mem_append_left _ (List.mem_append_left _ (List.mem_append_left _ (List.mem_append_right _ h)))))))) (gdV (by decide +kernel) gdwsRX12_nought)
theorem gwsRX12_workFrame_2 : GoodIn wsRX12_workFrame (wsV RX12 665 RX12 yX12_workName wsRX12_workName) := goodIn_sub (fun _ h => List.mem_cons_of_mem _ (List.mem_append_left _ (List.mem_append_left _ (List.mem_append_left _ (List.mem_append_left _ (List.mem_append_left _ (List.mem_append_right _ h))))))) (gdV (by decide +kernel) gdwsRX12_workName)
theorem gwsRX12_workFrame_3 : GoodIn wsRX12_workFrame (wsV RX12 650 RX12 yX12_call wsRX12_call) := goodIn_sub (fun _ h => List.mem_cons_of_mem _ (List.mem_append_left _ (List.mem_append_left _ (List.mem_append_left _ (List.mem_append_left _ (List.mem_append_right _ h)))))) (gdV (by decide +kernel) gdwsRX12_call)
theorem gwsRX12_workFrame_4 : GoodIn wsRX12_workFrame (wsV RX12 680 RX12 yX12_workPair wsRX12_workPair) := goodIn_sub (fun _ h => List.mem_cons_of_mem _ (List.mem_append_left _ (List.mem_append_left _ (List.mem_append_left _ (List.mem_append_right _ h))))) (gdV (by decide +kernel) gdwsRX12_workPair)
theorem gwsRX12_workFrame_5 : GoodIn wsRX12_workFrame (wsV RX12 668 RX12 yX12_workSum wsRX12_workSum) := goodIn_sub (fun _ h => List.mem_cons_of_mem _ (List.mem_append_left _ (List.mem_append_left _ (List.mem_append_right _ h)))) (gdV (by decide +kernel) gdwsRX12_workSum)
theorem gwsRX12_workFrame_6 : GoodIn wsRX12_workFrame (wsV RX12 671 RX12 yX12_workJoined wsRX12_workJoined) := goodIn_sub (fun _ h => List.mem_cons_of_mem _ (List.mem_append_left _ (List.mem_append_right _ h))) (gdV (by decide +kernel) gdwsRX12_workJoined)
theorem gwsRX12_workFrame_7 : GoodIn wsRX12_workFrame (wsV RX12 677 RX12 yX12_workCompare wsRX12_workCompare) := goodIn_sub (fun _ h => List.mem_cons_of_mem _ (List.mem_append_right _ h)) (gdV (by decide +kernel) gdwsRX12_workCompare)
theorem gdwsRX12_workFrame : wsRX12_workFrame.all goodWord = true := gdC rfl (gdA (gdA (gdA (gdA (gdA (gdA (gdA (gdA (gdA (by decide +kernel : ([.fieldLink RX12 179 "OptimaWorksModel" "frame" "[I", .fieldLink RX12 110 "OptimaWorksModel" "kind" "[I", .fieldLink RX12 659 "OptimaWorksModel" "piled" "I", .fieldLink RX12 170 "OptimaWorksModel" "top" "[I", .fieldLink RX12 113 "OptimaWorksModel" "partA" "[I", .fieldLink RX12 647 "OptimaWorksModel" "framed" "I", .fieldLink RX12 176 "OptimaWorksModel" "env" "[I", .fieldLink RX12 182 "OptimaWorksModel" "stage" "[I", .fieldLink RX12 674 "OptimaWorksModel" "truth" "Z"] : List Cond).all goodWord = true) gdwsX120) (gdV (by decide +kernel) gdwsRX12_stepOne)) (gdV (by decide +kernel) gdwsRX12_nought)) (gdV (by decide +kernel) gdwsRX12_workName)) (gdV (by decide +kernel) gdwsRX12_call)) (gdV (by decide +kernel) gdwsRX12_workPair)) (gdV (by decide +kernel) gdwsRX12_workSum)) (gdV (by decide +kernel) gdwsRX12_workJoined)) (gdV (by decide +kernel) gdwsRX12_workCompare))
theorem hm_r_X12_workFrame_0 : (.fieldLink RX12 110 "OptimaWorksModel" "kind" "[I" : Cond) ∈ wsRX12_workFrame := by decide +kernel
theorem hm_r_X12_workFrame_1 : (.fieldLink RX12 659 "OptimaWorksModel" "piled" "I" : Cond) ∈ wsRX12_workFrame := by decide +kernel
theorem hm_r_X12_workFrame_2 : (.fieldLink RX12 170 "OptimaWorksModel" "top" "[I" : Cond) ∈ wsRX12_workFrame := by decide +kernel
theorem hm_r_X12_workFrame_3 : (.fieldLink RX12 113 "OptimaWorksModel" "partA" "[I" : Cond) ∈ wsRX12_workFrame := by decide +kernel
theorem hm_r_X12_workFrame_4 : (.fieldLink RX12 647 "OptimaWorksModel" "framed" "I" : Cond) ∈ wsRX12_workFrame := by decide +kernel
theorem hm_r_X12_workFrame_5 : (.fieldLink RX12 182 "OptimaWorksModel" "stage" "[I" : Cond) ∈ wsRX12_workFrame := by decide +kernel
theorem hm_r_X12_workFrame_6 : (.fieldLink RX12 674 "OptimaWorksModel" "truth" "Z" : Cond) ∈ wsRX12_workFrame := by decide +kernel
set_option maxHeartbeats 4000000 in
set_option maxRecDepth 100000 in
/-- workFrame(f) -/
theorem r_X12_workFrame (l : Launch) (dC : Nat → ClassId) (dI : Nat → Nat → Nat) (a : Nat → Nat) (k : Nat → ClassId) (h0 : Nat) (vi : Nat → Int32) (vj : Nat → Int64) (vF : Nat → Nat → Int32) (vG : Nat → Nat → Int64) (nF : Nat → Nat → Int32) (V : Nat → Prop) (wt : Nat → Nat) (dp : Nat → Nat) (pd : Nat → Nat) (nN : Nat) (kN : Nat) (sN : Nat) (la : Nat) (hN : Nat) (pN : Nat) (rN : Nat) (fN : Nat) (fr : Nat) (se : Nat) (hnN : nN < 4000) (hfN : fN < 4299) (hkN : vF 29 nN = nI kN) (hsN : vF 53 fN = nI sN) (hfr9 : vi 89 = nI fr) (hfr1 : fr = fN + 1) (hTo : TopO nF V wt dp pd nN kN sN la hN pN rN) (hse44 : se ≤ 44) (hSe : SeO (vF 16) (vF 17) se) (hnF : vF 52 fN = nI nN) (hn17 : vF 17 = nF 17) (hn18 : vF 18 = nF 18) (hn19 : vF 19 = nF 19) (hn20 : vF 20 = nF 20) (hn21 : vF 21 = nF 21) (hn24 : vF 24 = nF 24) (hn25 : vF 25 = nF 25) (hn26 : vF 26 = nF 26) (hn27 : vF 27 = nF 27) (hn29 : vF 29 = nF 29) (hn30 : vF 30 = nF 30) (hn31 : vF 31 = nF 31) (hn32 : vF 32 = nF 32) (hn36 : vF 36 = nF 36) (hn37 : vF 37 = nF 37) (hn38 : vF 38 = nF 38) (hNd : NdK nF V wt dp pd se nN kN) (hEn : EnO (vF 51)) (hPt : PtO (vF 22) (vF 23) (nuF nF)) (hla : LaK kN sN (vF 54) fN la) (hpl : vi 81 = nI pN) (hRw : ∀ v9, v9 < pN → RowU (vF 49) (vF 50) v9) (hpp : hN + pd nN ≤ 80) (hst0 : 0 ≤ (vi 21).toInt) (hst1 : (vi 21).toInt ≤ 0) (sz : Nat) : Met l yX12_workFrame wsRX12_workFrame ({ frames := 4, cells := 0, slots := 0, locals := 118 }) (va_Pc [.ref h0, .int (nI fN)] (fun U => U.heap.size = sz ∧ va_P (dC, dI) vwCl (WR a k h0 vi vj vF vG) U.heap ∧ va_K (dC, dI) vwCl (tX12 k) U ∧ va_D (fun _ => True) (WR a k h0 vi vj vF vG))) (va_Qv (fun (u : (Nat → Int32) × (Nat → Int32) × (Nat → Int32) × (Nat → Int32) × (Nat → Int32) × (Nat → Int32) × (Nat) × (Nat) × (Int32) × (Int32) × (Int32) × (Int32)) => (∀ v9, v9 < (u.2.2.2.2.2.2.2.1) → RowU (u.1) (u.2.1) v9) ∧ (EnO (u.2.2.1)) ∧ (0 ≤ ((u.2.2.2.2.2.2.2.2.1)).toInt) ∧ ((u.2.2.2.2.2.2.2.2.1) = vi 21 ∨ 0 < ((u.2.2.2.2.2.2.2.2.1)).toInt) ∧ (0 < ((u.2.2.2.2.2.2.2.2.1)).toInt ∨ StpO nF V wt dp pd nN kN fN hN rN (vF 52) (vF 53) (vF 54) (u.2.2.2.1) (u.2.2.2.2.1) (u.2.2.2.2.2.1) (u.2.2.2.2.2.2.1) (u.2.2.2.2.2.2.2.1)) ∧ ((u.2.2.2.2.2.2.1) ≤ fr + 1)) (fun (u : (Nat → Int32) × (Nat → Int32) × (Nat → Int32) × (Nat → Int32) × (Nat → Int32) × (Nat → Int32) × (Nat) × (Nat) × (Int32) × (Int32) × (Int32) × (Int32)) t => va_P (dC, dI) vwCl (WR a k h0 (fT (fT (fT (fT (fT (fT vi 21 (u.2.2.2.2.2.2.2.2.1)) 22 (u.2.2.2.2.2.2.2.2.2.1)) 82 (u.2.2.2.2.2.2.2.2.2.2.1)) 81 (nI (u.2.2.2.2.2.2.2.1))) 89 (nI (u.2.2.2.2.2.2.1))) 84 (u.2.2.2.2.2.2.2.2.2.2.2)) vj (fT (fT (fT (fT (fT (fT vF 49 (u.1)) 50 (u.2.1)) 54 (u.2.2.2.2.2.1)) 53 (u.2.2.2.2.1)) 51 (u.2.2.1)) 52 (u.2.2.2.1)) vG) t.heap ∧ va_D (va_A (WR a k h0 vi vj vF vG) sz) (WR a k h0 (fT (fT (fT (fT (fT (fT vi 21 (u.2.2.2.2.2.2.2.2.1)) 22 (u.2.2.2.2.2.2.2.2.2.1)) 82 (u.2.2.2.2.2.2.2.2.2.2.1)) 81 (nI (u.2.2.2.2.2.2.2.1))) 89 (nI (u.2.2.2.2.2.2.1))) 84 (u.2.2.2.2.2.2.2.2.2.2.2)) vj (fT (fT (fT (fT (fT (fT vF 49 (u.1)) 50 (u.2.1)) 54 (u.2.2.2.2.2.1)) 53 (u.2.2.2.2.1)) 51 (u.2.2.1)) 52 (u.2.2.2.1)) vG)) (va_A (WR a k h0 vi vj vF vG) sz)) 0 0 (va_A (WR a k h0 vi vj vF vG) sz) := by
  refine Met.ofW (cc := cX12_workFrame) (maxL := 4) (ret := none) (by decide) rfl ?_
  intro p e s m args below meth c s₁ B hml hv
  obtain ⟨rfl, hsz, hP, hK, hD0⟩ := hv
  have hx := B.exec
  have hb := B.bytes
  have hr := B.returns
  have hts := atoms_spec (ws := wsRX12_workFrame) B.pre
  have hown : s.vm.findClass RX12 = some m.cls := findClass_of_methodNamed B.named
  have hlocks := B.notSynchronized
  subst hsz
  have hD := hD0.self (sz := s.heap.size)
  generalize hAe : va_A (WR a k h0 vi vj vF vG) s.heap.size = A at hD ⊢
  have hA : ∀ q : Nat, s.heap.size ≤ q → A q := fun q h => by rw [← hAe]; exact Or.inr h
  have hS : va_S A s.heap s.heap [] := va_S.rf
  have hl := lv_entry ([.ref h0, .int (nI fN)]) (n := 4) (Nat.le_of_ble_eq_true rfl)
  rw [lg_entry_eq]
  generalize (lg_sl ([.ref h0, .int (nI fN)]) ++ List.replicate (4 - (lg_sl ([.ref h0, .int (nI fN)])).length) Slot.unset).toArray = ls at hl ⊢
  have hl : lv_has ls 4 [(0, .ref h0), (1, .int (nI fN))] := hl
  have hk13 := hNd.k13
  refine lv_aload_n hx hb dX12_workFrame_0 rfl (lv_at hl 0 rfl) ?_
  refine va_get (D := (dC, dI)) (ci := 12) (v := .ref (a 52)) (C := RX12) (T := TX12) (N := 163) (fs := fM (vS a vi vj)) hx hb hts iwsRX12_workFrame_in12 hown hK hP 0 rfl rfl 85 (by decide) (hts (.fieldLink RX12 179 "OptimaWorksModel" "frame" "[I") (by decide +kernel)) (fun _ h9 => h9) rfl dX12_workFrame_1 ?_
  refine lv_iload_n hx hb dX12_workFrame_4 rfl (lv_at hl 1 rfl) ?_
  refine va_iald (cA := k 52) (n := 4300) (f := (vF 52)) hx hb hK hP 53 52 (WR_get 52 (by decide)) (TR_get 52 (by decide)) (vp_in_nI (show fN < 4300 by omega) (by omega)) dX12_workFrame_5 ?_
  refine lv_topi (fun y1 hy1 => ?_)
  obtain rfl : ((vF 52) fN) = y1 := (hy1.trans (by rw [nI_clamp (by omega)])).symm
  refine lv_topi (fun y2 hy2 => ?_)
  obtain rfl : (nI nN) = y2 := (hy2.trans (hnF)).symm
  refine lv_istore_n hx hb dX12_workFrame_6 rfl hl (by decide) rfl (fun ls (hl : lv_has ls _ ([(2, .int (nI nN)), (0, .ref h0), (1, .int (nI fN))])) => ?_)
  refine lv_aload_n hx hb dX12_workFrame_7 rfl (lv_at hl 1 rfl) ?_
  refine va_get (D := (dC, dI)) (ci := 12) (v := .ref (a 29)) (C := RX12) (T := TX12) (N := 163) (fs := fM (vS a vi vj)) hx hb hts iwsRX12_workFrame_in12 hown hK hP 0 rfl rfl 53 (by decide) (hts _ hm_r_X12_workFrame_0) (fun _ h9 => h9) rfl dX12_workFrame_8 ?_
  refine lv_iload_n hx hb dX12_workFrame_11 rfl (lv_at hl 0 rfl) ?_
  refine va_iald (cA := k 29) (n := 4200) (f := (vF 29)) hx hb hK hP 30 29 (WR_get 29 (by decide)) (TR_get 29 (by decide)) (vp_in_nI (show nN < 4200 by omega) (by omega)) dX12_workFrame_12 ?_
  refine lv_topi (fun y3 hy3 => ?_)
  obtain rfl : ((vF 29) nN) = y3 := (hy3.trans (by rw [nI_clamp (by omega)])).symm
  refine lv_topi (fun y4 hy4 => ?_)
  obtain rfl : (nI kN) = y4 := (hy4.trans (hkN)).symm
  by_cases s_13_0 : (nI kN) = 0
  · have ts_13_0 : ((kN : Nat) : Int) = 0 := toI_eq s_13_0 (nI_toInt (by omega)) (by decide)
    refine lv_tableIn (off := 71) (tgt := 84) hx hb dX12_workFrame_13 (by rw [s_13_0]; decide) (by rw [s_13_0]; decide) (by rw [s_13_0]; decide) (by decide) ?_
    obtain ⟨hpd9, hb01, hb02⟩ := hNd.e0 (by omega)
    rw [← hn30] at hb01 hb02
    obtain ⟨hlf1, hlf2, _⟩ := hTo.leaf (by omega)
    refine lv_aload_n hx hb dX12_workFrame_84 rfl (lv_at hl 1 rfl) ?_
    have hFc := allFree hD hS hA
    refine va_callv (va_runV (As := []) (rest := []) ⟨hx, hb, hml, hown, hts⟩ (r_X12_stepOne l dC dI a k h0 vi vj vF vG (by first | with_reducible assumption | decide | omega | rfl | assumption) s.heap.size) (cwV 0 hts gwsRX12_workFrame_0 rfl rfl rfl hd_yX12_stepOne_RX12 (by decide +kernel)) (fz_pre (va_recv hK hP (ci := 12) (q0 := 0) rfl rfl) hP hK hD) rfl rfl hl.1 rfl (lv_room (Nat.le_of_ble_eq_true rfl)) dX12_workFrame_85 (by decide +kernel)) hS (fun q _ h => hFc q h) hFc (fun u t9_ H locs ht hvm hw9 hB9 hz1 hk1 hS => ?_)
    revert u hw9 hB9
    refine fz_p3 ?_
    intro s285 p285 sp285 hw9 hB9
    try dsimp only at hw9 hB9
    have hP : va_P (dC, dI) vwCl (WR a k h0 (fT (fT (fT vi 21 s285) 22 p285) 82 sp285) vj vF vG) H := fz_P ht hB9.1
    have hD := fz_sd hP (hB9.2.weaken (fun _ q _ h => hFc q.1 h)) rfl
    revert hw9
    refine fz_a2 ?_
    intro f85_0 f85_1
    have f85_1 : s285 = (vi 21) ∨ 0 < (s285).toInt := f85_1
    refine lv_aload_n hx hb dX12_workFrame_88 rfl (lv_at hl 1 rfl) ?_
    refine lv_aload_n hx hb dX12_workFrame_89 rfl (lv_at hl 1 rfl) ?_
    refine va_get (D := (dC, dI)) (ci := 12) (v := .int (vi 81)) (C := RX12) (T := TX12) (N := 163) (fs := fM (vS a (fT (fT (fT vi 21 s285) 22 p285) 82 sp285) vj)) hx hb hts iwsRX12_workFrame_in12 hown hK hP 0 rfl rfl 81 (by decide) (hts _ hm_r_X12_workFrame_1) (fun _ h9 => h9) rfl dX12_workFrame_90 ?_
    refine lv_topi (fun y5 hy5 => ?_)
    obtain rfl : (nI pN) = y5 := (hy5.trans (hpl)).symm
    have hFc := allFree hD hS hA
    refine va_callv (va_runV (As := [.int (nI pN)]) (rest := []) ⟨hx, hb, hml, hown, hts⟩ (r_X12_nought l dC dI a k h0 (fT (fT (fT vi 21 s285) 22 p285) 82 sp285) vj vF vG pN (by first | with_reducible assumption | decide | omega | rfl | assumption) H.size) (cwV 1 hts gwsRX12_workFrame_1 rfl rfl rfl hd_yX12_nought_RX12 (by decide +kernel)) (fz_pre (va_recv hK hP (ci := 12) (q0 := 0) rfl rfl) hP hK hD) rfl rfl hl.1 rfl (lv_room (Nat.le_of_ble_eq_true rfl)) dX12_workFrame_93 (by decide +kernel)) hS (fun q _ h => hFc q h) hFc (fun u t9_ H locs ht hvm hw9 hB9 hz1 hk1 hS => ?_)
    revert u hw9 hB9
    refine fz_p2 ?_
    intro f4993 f5093 hw9 hB9
    try dsimp only at hw9 hB9
    have hP : va_P (dC, dI) vwCl (WR a k h0 (fT (fT (fT vi 21 s285) 22 p285) 82 sp285) vj (fT (fT vF 49 f4993) 50 f5093) vG) H := fz_P ht hB9.1
    have hD := fz_sd hP (hB9.2.weaken (fun _ q _ h => hFc q.1 h)) rfl
    revert hw9
    refine fz_a4 ?_
    intro f93_0 f93_1 f93_2 f93_3
    have f93_2 : ∀ q, (q < 9 * pN ∨ 9 * pN + 9 ≤ q) → f4993 q = (vF 49) q := f93_2
    have f93_3 : ∀ q, (q < 9 * pN ∨ 9 * pN + 9 ≤ q) → f5093 q = (vF 50) q := f93_3
    refine lv_aload_n hx hb dX12_workFrame_96 rfl (lv_at hl 1 rfl) ?_
    refine va_get (D := (dC, dI)) (ci := 12) (v := .ref (a 49)) (C := RX12) (T := TX12) (N := 163) (fs := fM (vS a (fT (fT (fT vi 21 s285) 22 p285) 82 sp285) vj)) hx hb hts iwsRX12_workFrame_in12 hown hK hP 0 rfl rfl 78 (by decide) (hts _ hm_r_X12_workFrame_2) (fun _ h9 => h9) rfl dX12_workFrame_97 ?_
    refine lv_bipush (v := 9) hx hb dX12_workFrame_100 (by decide) ?_
    refine lv_aload_n hx hb dX12_workFrame_102 rfl (lv_at hl 1 rfl) ?_
    refine va_get (D := (dC, dI)) (ci := 12) (v := .int (vi 81)) (C := RX12) (T := TX12) (N := 163) (fs := fM (vS a (fT (fT (fT vi 21 s285) 22 p285) 82 sp285) vj)) hx hb hts iwsRX12_workFrame_in12 hown hK hP 0 rfl rfl 81 (by decide) (hts _ hm_r_X12_workFrame_1) (fun _ h9 => h9) rfl dX12_workFrame_103 ?_
    refine lv_topi (fun y6 hy6 => ?_)
    obtain rfl : (nI pN) = y6 := (hy6.trans (hpl)).symm
    refine lv_imul hx hb dX12_workFrame_106 ?_
    refine lv_topi (fun y7 hy7 => ?_)
    obtain rfl : (nI (9 * pN)) = y7 := (hy7.trans (pk_mul 9 pN)).symm
    refine lv_aload_n hx hb dX12_workFrame_107 rfl (lv_at hl 1 rfl) ?_
    refine va_get (D := (dC, dI)) (ci := 12) (v := .ref (a 29)) (C := RX12) (T := TX12) (N := 163) (fs := fM (vS a (fT (fT (fT vi 21 s285) 22 p285) 82 sp285) vj)) hx hb hts iwsRX12_workFrame_in12 hown hK hP 0 rfl rfl 53 (by decide) (hts _ hm_r_X12_workFrame_0) (fun _ h9 => h9) rfl dX12_workFrame_108 ?_
    refine lv_iload_n hx hb dX12_workFrame_111 rfl (lv_at hl 0 rfl) ?_
    refine va_iald (cA := k 29) (n := 4200) (f := (vF 29)) hx hb hK hP 30 29 (WR_get 29 (by decide)) (TR_get 29 (by decide)) (vp_in_nI (show nN < 4200 by omega) (by omega)) dX12_workFrame_112 ?_
    refine lv_topi (fun y8 hy8 => ?_)
    obtain rfl : ((vF 29) nN) = y8 := (hy8.trans (by rw [nI_clamp (by omega)])).symm
    refine lv_topi (fun y9 hy9 => ?_)
    obtain rfl : (nI kN) = y9 := (hy9.trans (hkN)).symm
    refine lv_if_ne (tgt := 125) hx hb dX12_workFrame_113 (by decide) (fun c9 => False.elim (by have t9 : ((kN : Nat) : Int) ≠ 0 := toI_ne c9 (nI_toInt (by omega)) (by decide); omega)) (fun c_113 => ?_)
    have t_113 : ((kN : Nat) : Int) = 0 := toI_nne c_113 (nI_toInt (by omega)) (by decide)
    refine lv_aload_n hx hb dX12_workFrame_116 rfl (lv_at hl 1 rfl) ?_
    refine va_get (D := (dC, dI)) (ci := 12) (v := .ref (a 30)) (C := RX12) (T := TX12) (N := 163) (fs := fM (vS a (fT (fT (fT vi 21 s285) 22 p285) 82 sp285) vj)) hx hb hts iwsRX12_workFrame_in12 hown hK hP 0 rfl rfl 54 (by decide) (hts _ hm_r_X12_workFrame_3) (fun _ h9 => h9) rfl dX12_workFrame_117 ?_
    refine lv_iload_n hx hb dX12_workFrame_120 rfl (lv_at hl 0 rfl) ?_
    refine va_iald (cA := k 30) (n := 4200) (f := (vF 30)) hx hb hK hP 31 30 (WR_get 30 (by decide)) (TR_get 30 (by decide)) (vp_in_nI (show nN < 4200 by omega) (by omega)) dX12_workFrame_121 ?_
    refine lv_topi (fun y10 hy10 => ?_)
    obtain rfl : ((vF 30) nN) = y10 := (hy10.trans (by rw [nI_clamp (by omega)])).symm
    refine lv_goto (tgt := 136) hx hb dX12_workFrame_122 (by decide) ?_
    refine va_iast (cA := k 49) (n := 900) (f := f4993) hx hb hK hP hD hS 50 49 (WR_get 49 (by decide)) (TR_get 49 (by decide)) (vp_in_nI (show (9 * pN) < 900 by omega) (by omega)) dX12_workFrame_136 (fun H locs hP hD hS => ?_)
    have e9 : fT (fT vF 49 (upd f4993 ((nI (9 * pN))).toNatClampNeg ((vF 30) nN))) 50 f5093 = fT (fT (fT vF 49 f4993) 50 f5093) 49 (upd f4993 ((nI (9 * pN))).toNatClampNeg ((vF 30) nN)) := ((fT_sw _ _ _ (Nat.ne_of_beq_eq_false rfl)).trans (congrArg (fun g9 => fT g9 50 f5093) (fT_sm _ _ _ _))).symm
    have hP := wr_PF e9 (fz_w (WR_F 49 (by decide) _ rfl) hP)
    have hD := wr_DF e9 (fz_wD (WR_F 49 (by decide) _ rfl) hD)
    clear e9
    refine lv_aload_n hx hb dX12_workFrame_137 rfl (lv_at hl 1 rfl) ?_
    refine lv_dup hx hb dX12_workFrame_138 rfl ?_
    refine va_get (D := (dC, dI)) (ci := 12) (v := .int (vi 81)) (C := RX12) (T := TX12) (N := 163) (fs := fM (vS a (fT (fT (fT vi 21 s285) 22 p285) 82 sp285) vj)) hx hb hts iwsRX12_workFrame_in12 hown hK hP 0 rfl rfl 81 (by decide) (hts _ hm_r_X12_workFrame_1) (fun _ h9 => h9) rfl dX12_workFrame_139 ?_
    refine lv_topi (fun y11 hy11 => ?_)
    obtain rfl : (nI pN) = y11 := (hy11.trans (hpl)).symm
    refine lv_iconst (v := 1) hx hb dX12_workFrame_142 (by decide) ?_
    refine lv_iadd hx hb dX12_workFrame_143 ?_
    refine lv_topi (fun y12 hy12 => ?_)
    obtain rfl : (nI (pN + 1)) = y12 := (hy12.trans (nI_add pN 1)).symm
    refine va_put (D := (dC, dI)) (ci := 12) (v := .int (nI (pN + 1))) (ty := .int) (C := RX12) (T := TX12) (N := 163) (fs := fM (vS a (fT (fT (fT vi 21 s285) 22 p285) 82 sp285) vj)) hx hb hts iwsRX12_workFrame_in12 tyX12 tyX12_ok nmX12 hown hK hP hD hS 0 rfl rfl 81 (by decide) (hts _ hm_r_X12_workFrame_1) (fun _ h9 => h9) rfl (by decide +kernel) rfl rfl (Nat.le_of_ble_eq_true rfl) dX12_workFrame_144 (fun H locs hP hD hS => ?_)
    have hP : va_P (dC, dI) vwCl (WR a k h0 (fT (fT (fT (fT vi 21 s285) 22 p285) 82 sp285) 81 (nI (pN + 1))) vj (fT (fT vF 49 (upd f4993 ((nI (9 * pN))).toNatClampNeg ((vF 30) nN))) 50 f5093) vG) H := fz_w (WR_i 81 _ rfl) hP
    have hD : va_D A (WR a k h0 (fT (fT (fT (fT vi 21 s285) 22 p285) 82 sp285) 81 (nI (pN + 1))) vj (fT (fT vF 49 (upd f4993 ((nI (9 * pN))).toNatClampNeg ((vF 30) nN))) 50 f5093) vG) := fz_wD (WR_i 81 _ rfl) hD
    refine lv_aload_n hx hb dX12_workFrame_147 rfl (lv_at hl 1 rfl) ?_
    refine lv_dup hx hb dX12_workFrame_148 rfl ?_
    refine va_get (D := (dC, dI)) (ci := 12) (v := .int (vi 89)) (C := RX12) (T := TX12) (N := 163) (fs := fM (vS a (fT (fT (fT (fT vi 21 s285) 22 p285) 82 sp285) 81 (nI (pN + 1))) vj)) hx hb hts iwsRX12_workFrame_in12 hown hK hP 0 rfl rfl 89 (by decide) (hts _ hm_r_X12_workFrame_4) (fun _ h9 => h9) rfl dX12_workFrame_149 ?_
    refine lv_topi (fun y13 hy13 => ?_)
    obtain rfl : (nI fr) = y13 := (hy13.trans (hfr9)).symm
    refine lv_iconst (v := 1) hx hb dX12_workFrame_152 (by decide) ?_
    refine lv_isub hx hb dX12_workFrame_153 ?_
    refine lv_topi (fun y14 hy14 => ?_)
    obtain rfl : (nI (fr - 1)) = y14 := (hy14.trans (pk_sub (a := fr) (b := 1) (by omega))).symm
    refine va_put (D := (dC, dI)) (ci := 12) (v := .int (nI (fr - 1))) (ty := .int) (C := RX12) (T := TX12) (N := 163) (fs := fM (vS a (fT (fT (fT (fT vi 21 s285) 22 p285) 82 sp285) 81 (nI (pN + 1))) vj)) hx hb hts iwsRX12_workFrame_in12 tyX12 tyX12_ok nmX12 hown hK hP hD hS 0 rfl rfl 89 (by decide) (hts _ hm_r_X12_workFrame_4) (fun _ h9 => h9) rfl (by decide +kernel) rfl rfl (Nat.le_of_ble_eq_true rfl) dX12_workFrame_154 (fun H locs hP hD hS => ?_)
    have hP : va_P (dC, dI) vwCl (WR a k h0 (fT (fT (fT (fT (fT vi 21 s285) 22 p285) 82 sp285) 81 (nI (pN + 1))) 89 (nI (fr - 1))) vj (fT (fT vF 49 (upd f4993 ((nI (9 * pN))).toNatClampNeg ((vF 30) nN))) 50 f5093) vG) H := fz_w (WR_i 89 _ rfl) hP
    have hD : va_D A (WR a k h0 (fT (fT (fT (fT (fT vi 21 s285) 22 p285) 82 sp285) 81 (nI (pN + 1))) 89 (nI (fr - 1))) vj (fT (fT vF 49 (upd f4993 ((nI (9 * pN))).toNatClampNeg ((vF 30) nN))) 50 f5093) vG) := fz_wD (WR_i 89 _ rfl) hD
    refine lv_goto (tgt := 357) hx hb dX12_workFrame_157 (by decide) ?_
    refine W.widen (k := 0) (n := 0) (by decide +kernel) (by decide +kernel) ?_
    have e9 : fT (fT (fT (fT (fT (fT vi 21 s285) 22 p285) 82 sp285) 81 (nI (pN + 1))) 89 (nI (fr - 1))) 84 (vi 84) = fT (fT (fT (fT (fT vi 21 s285) 22 p285) 82 sp285) 81 (nI (pN + 1))) 89 (nI (fr - 1)) := fT_id _ _ ((fT_ne _ _ (Nat.ne_of_beq_eq_false rfl)).trans ((fT_ne _ _ (Nat.ne_of_beq_eq_false rfl)).trans ((fT_ne _ _ (Nat.ne_of_beq_eq_false rfl)).trans ((fT_ne _ _ (Nat.ne_of_beq_eq_false rfl)).trans (fT_ne _ _ (Nat.ne_of_beq_eq_false rfl))))))
    have hP := wr_Pi e9 hP
    have hD := wr_Di e9 hD
    clear e9
    have e9 : fT (fT (fT (fT (fT (fT vF 49 (upd f4993 ((nI (9 * pN))).toNatClampNeg ((vF 30) nN))) 50 f5093) 54 (vF 54)) 53 (vF 53)) 51 (vF 51)) 52 (vF 52) = fT (fT vF 49 (upd f4993 ((nI (9 * pN))).toNatClampNeg ((vF 30) nN))) 50 f5093 := Eq.trans (mv_3 rfl) (Eq.trans (id_5 rfl) (Eq.trans (mv_2 rfl) (Eq.trans (id_4 rfl) (Eq.trans (mv_1 rfl) (Eq.trans (id_3 rfl) (id_2 rfl))))))
    have hP := wr_PF e9 hP
    have hD := wr_DF e9 hD
    clear e9
    exact W.vret hx hb hr (fun t9_ ht hW => ⟨⟨((upd f4993 ((nI (9 * pN))).toNatClampNeg ((vF 30) nN)), f5093, (vF 51), (vF 52), (vF 53), (vF 54), (fr - 1), (pN + 1), s285, p285, sp285, (vi 84)), rfl, by (try dsimp only); exact ⟨fun v9 h9 => RowU.top (by omega) (RowU.nought f93_0 f93_1 (fun q h9 => f93_2 q (Or.inl h9)) (fun q h9 => f93_3 q (Or.inl h9)) hRw (show v9 ≤ pN by omega)) ⟨by omega, by omega⟩, hEn, f85_0, f85_1, Or.inr (StpO.pop0 hfr1 (by rw [if_pos (by omega)]; omega)), by omega⟩, by rw [ht]; exact hP, hD⟩, hS.F ht⟩) hS.2.2 dX12_workFrame_357
  · have ts_13_0 : ¬ ((kN : Nat) : Int) = 0 := toI_neq s_13_0 (nI_toInt (by omega)) (by decide)
    by_cases s_13_1 : (nI kN) = 1
    · have ts_13_1 : ((kN : Nat) : Int) = 1 := toI_eq s_13_1 (nI_toInt (by omega)) (by decide)
      refine lv_tableIn (off := 71) (tgt := 84) hx hb dX12_workFrame_13 (by rw [s_13_1]; decide) (by rw [s_13_1]; decide) (by rw [s_13_1]; decide) (by decide) ?_
      obtain ⟨hpd9, xN, hx60, hx9⟩ := hNd.e1 (by omega)
      obtain ⟨hlf1, hlf2, _⟩ := hTo.leaf (by omega)
      refine lv_aload_n hx hb dX12_workFrame_84 rfl (lv_at hl 1 rfl) ?_
      have hFc := allFree hD hS hA
      refine va_callv (va_runV (As := []) (rest := []) ⟨hx, hb, hml, hown, hts⟩ (r_X12_stepOne l dC dI a k h0 vi vj vF vG (by first | with_reducible assumption | decide | omega | rfl | assumption) s.heap.size) (cwV 0 hts gwsRX12_workFrame_0 rfl rfl rfl hd_yX12_stepOne_RX12 (by decide +kernel)) (fz_pre (va_recv hK hP (ci := 12) (q0 := 0) rfl rfl) hP hK hD) rfl rfl hl.1 rfl (lv_room (Nat.le_of_ble_eq_true rfl)) dX12_workFrame_85 (by decide +kernel)) hS (fun q _ h => hFc q h) hFc (fun u t9_ H locs ht hvm hw9 hB9 hz1 hk1 hS => ?_)
      revert u hw9 hB9
      refine fz_p3 ?_
      intro s285_1 p285_1 sp285_1 hw9 hB9
      try dsimp only at hw9 hB9
      have hP : va_P (dC, dI) vwCl (WR a k h0 (fT (fT (fT vi 21 s285_1) 22 p285_1) 82 sp285_1) vj vF vG) H := fz_P ht hB9.1
      have hD := fz_sd hP (hB9.2.weaken (fun _ q _ h => hFc q.1 h)) rfl
      revert hw9
      refine fz_a2 ?_
      intro f85_1_0 f85_1_1
      have f85_1_1 : s285_1 = (vi 21) ∨ 0 < (s285_1).toInt := f85_1_1
      refine lv_aload_n hx hb dX12_workFrame_88 rfl (lv_at hl 1 rfl) ?_
      refine lv_aload_n hx hb dX12_workFrame_89 rfl (lv_at hl 1 rfl) ?_
      refine va_get (D := (dC, dI)) (ci := 12) (v := .int (vi 81)) (C := RX12) (T := TX12) (N := 163) (fs := fM (vS a (fT (fT (fT vi 21 s285_1) 22 p285_1) 82 sp285_1) vj)) hx hb hts iwsRX12_workFrame_in12 hown hK hP 0 rfl rfl 81 (by decide) (hts _ hm_r_X12_workFrame_1) (fun _ h9 => h9) rfl dX12_workFrame_90 ?_
      refine lv_topi (fun y15 hy15 => ?_)
      obtain rfl : (nI pN) = y15 := (hy15.trans (hpl)).symm
      have hFc := allFree hD hS hA
      refine va_callv (va_runV (As := [.int (nI pN)]) (rest := []) ⟨hx, hb, hml, hown, hts⟩ (r_X12_nought l dC dI a k h0 (fT (fT (fT vi 21 s285_1) 22 p285_1) 82 sp285_1) vj vF vG pN (by first | with_reducible assumption | decide | omega | rfl | assumption) H.size) (cwV 1 hts gwsRX12_workFrame_1 rfl rfl rfl hd_yX12_nought_RX12 (by decide +kernel)) (fz_pre (va_recv hK hP (ci := 12) (q0 := 0) rfl rfl) hP hK hD) rfl rfl hl.1 rfl (lv_room (Nat.le_of_ble_eq_true rfl)) dX12_workFrame_93 (by decide +kernel)) hS (fun q _ h => hFc q h) hFc (fun u t9_ H locs ht hvm hw9 hB9 hz1 hk1 hS => ?_)
      revert u hw9 hB9
      refine fz_p2 ?_
      intro f4993_1 f5093_1 hw9 hB9
      try dsimp only at hw9 hB9
      have hP : va_P (dC, dI) vwCl (WR a k h0 (fT (fT (fT vi 21 s285_1) 22 p285_1) 82 sp285_1) vj (fT (fT vF 49 f4993_1) 50 f5093_1) vG) H := fz_P ht hB9.1
      have hD := fz_sd hP (hB9.2.weaken (fun _ q _ h => hFc q.1 h)) rfl
      revert hw9
      refine fz_a4 ?_
      intro f93_1_0 f93_1_1 f93_1_2 f93_1_3
      have f93_1_2 : ∀ q, (q < 9 * pN ∨ 9 * pN + 9 ≤ q) → f4993_1 q = (vF 49) q := f93_1_2
      have f93_1_3 : ∀ q, (q < 9 * pN ∨ 9 * pN + 9 ≤ q) → f5093_1 q = (vF 50) q := f93_1_3
      refine lv_aload_n hx hb dX12_workFrame_96 rfl (lv_at hl 1 rfl) ?_
      refine va_get (D := (dC, dI)) (ci := 12) (v := .ref (a 49)) (C := RX12) (T := TX12) (N := 163) (fs := fM (vS a (fT (fT (fT vi 21 s285_1) 22 p285_1) 82 sp285_1) vj)) hx hb hts iwsRX12_workFrame_in12 hown hK hP 0 rfl rfl 78 (by decide) (hts _ hm_r_X12_workFrame_2) (fun _ h9 => h9) rfl dX12_workFrame_97 ?_
      refine lv_bipush (v := 9) hx hb dX12_workFrame_100 (by decide) ?_
      refine lv_aload_n hx hb dX12_workFrame_102 rfl (lv_at hl 1 rfl) ?_
      refine va_get (D := (dC, dI)) (ci := 12) (v := .int (vi 81)) (C := RX12) (T := TX12) (N := 163) (fs := fM (vS a (fT (fT (fT vi 21 s285_1) 22 p285_1) 82 sp285_1) vj)) hx hb hts iwsRX12_workFrame_in12 hown hK hP 0 rfl rfl 81 (by decide) (hts _ hm_r_X12_workFrame_1) (fun _ h9 => h9) rfl dX12_workFrame_103 ?_
      refine lv_topi (fun y16 hy16 => ?_)
      obtain rfl : (nI pN) = y16 := (hy16.trans (hpl)).symm
      refine lv_imul hx hb dX12_workFrame_106 ?_
      refine lv_topi (fun y17 hy17 => ?_)
      obtain rfl : (nI (9 * pN)) = y17 := (hy17.trans (pk_mul 9 pN)).symm
      refine lv_aload_n hx hb dX12_workFrame_107 rfl (lv_at hl 1 rfl) ?_
      refine va_get (D := (dC, dI)) (ci := 12) (v := .ref (a 29)) (C := RX12) (T := TX12) (N := 163) (fs := fM (vS a (fT (fT (fT vi 21 s285_1) 22 p285_1) 82 sp285_1) vj)) hx hb hts iwsRX12_workFrame_in12 hown hK hP 0 rfl rfl 53 (by decide) (hts _ hm_r_X12_workFrame_0) (fun _ h9 => h9) rfl dX12_workFrame_108 ?_
      refine lv_iload_n hx hb dX12_workFrame_111 rfl (lv_at hl 0 rfl) ?_
      refine va_iald (cA := k 29) (n := 4200) (f := (vF 29)) hx hb hK hP 30 29 (WR_get 29 (by decide)) (TR_get 29 (by decide)) (vp_in_nI (show nN < 4200 by omega) (by omega)) dX12_workFrame_112 ?_
      refine lv_topi (fun y18 hy18 => ?_)
      obtain rfl : ((vF 29) nN) = y18 := (hy18.trans (by rw [nI_clamp (by omega)])).symm
      refine lv_topi (fun y19 hy19 => ?_)
      obtain rfl : (nI kN) = y19 := (hy19.trans (hkN)).symm
      refine lv_if_ne (tgt := 125) hx hb dX12_workFrame_113 (by decide) (fun c_113 => ?_) (fun c9 => False.elim (by have t9 : ((kN : Nat) : Int) = 0 := toI_nne c9 (nI_toInt (by omega)) (by decide); omega))
      have t_113 : ((kN : Nat) : Int) ≠ 0 := toI_ne c_113 (nI_toInt (by omega)) (by decide)
      refine lv_aload_n hx hb dX12_workFrame_125 rfl (lv_at hl 1 rfl) ?_
      refine va_get (D := (dC, dI)) (ci := 12) (v := .ref (a 51)) (C := RX12) (T := TX12) (N := 163) (fs := fM (vS a (fT (fT (fT vi 21 s285_1) 22 p285_1) 82 sp285_1) vj)) hx hb hts iwsRX12_workFrame_in12 hown hK hP 0 rfl rfl 80 (by decide) (hts (.fieldLink RX12 176 "OptimaWorksModel" "env" "[I") (by decide +kernel)) (fun _ h9 => h9) rfl dX12_workFrame_126 ?_
      refine lv_aload_n hx hb dX12_workFrame_129 rfl (lv_at hl 1 rfl) ?_
      refine va_get (D := (dC, dI)) (ci := 12) (v := .ref (a 30)) (C := RX12) (T := TX12) (N := 163) (fs := fM (vS a (fT (fT (fT vi 21 s285_1) 22 p285_1) 82 sp285_1) vj)) hx hb hts iwsRX12_workFrame_in12 hown hK hP 0 rfl rfl 54 (by decide) (hts _ hm_r_X12_workFrame_3) (fun _ h9 => h9) rfl dX12_workFrame_130 ?_
      refine lv_iload_n hx hb dX12_workFrame_133 rfl (lv_at hl 0 rfl) ?_
      refine va_iald (cA := k 30) (n := 4200) (f := (vF 30)) hx hb hK hP 31 30 (WR_get 30 (by decide)) (TR_get 30 (by decide)) (vp_in_nI (show nN < 4200 by omega) (by omega)) dX12_workFrame_134 ?_
      refine lv_topi (fun y20 hy20 => ?_)
      obtain rfl : ((vF 30) nN) = y20 := (hy20.trans (by rw [nI_clamp (by omega)])).symm
      refine lv_topi (fun y21 hy21 => ?_)
      obtain rfl : (nI xN) = y21 := (hy21.trans ((congrFun hn30 nN).trans hx9)).symm
      refine va_iald (cA := k 51) (n := 60) (f := (vF 51)) hx hb hK hP 52 51 (WR_get 51 (by decide)) (TR_get 51 (by decide)) (vp_in_nI (show xN < 60 by omega) (by omega)) dX12_workFrame_135 ?_
      refine lv_topi (fun y22 hy22 => ?_)
      obtain rfl : ((vF 51) xN) = y22 := (hy22.trans (by rw [nI_clamp (by omega)])).symm
      refine va_iast (cA := k 49) (n := 900) (f := f4993_1) hx hb hK hP hD hS 50 49 (WR_get 49 (by decide)) (TR_get 49 (by decide)) (vp_in_nI (show (9 * pN) < 900 by omega) (by omega)) dX12_workFrame_136 (fun H locs hP hD hS => ?_)
      have e9 : fT (fT vF 49 (upd f4993_1 ((nI (9 * pN))).toNatClampNeg ((vF 51) xN))) 50 f5093_1 = fT (fT (fT vF 49 f4993_1) 50 f5093_1) 49 (upd f4993_1 ((nI (9 * pN))).toNatClampNeg ((vF 51) xN)) := ((fT_sw _ _ _ (Nat.ne_of_beq_eq_false rfl)).trans (congrArg (fun g9 => fT g9 50 f5093_1) (fT_sm _ _ _ _))).symm
      have hP := wr_PF e9 (fz_w (WR_F 49 (by decide) _ rfl) hP)
      have hD := wr_DF e9 (fz_wD (WR_F 49 (by decide) _ rfl) hD)
      clear e9
      refine lv_aload_n hx hb dX12_workFrame_137 rfl (lv_at hl 1 rfl) ?_
      refine lv_dup hx hb dX12_workFrame_138 rfl ?_
      refine va_get (D := (dC, dI)) (ci := 12) (v := .int (vi 81)) (C := RX12) (T := TX12) (N := 163) (fs := fM (vS a (fT (fT (fT vi 21 s285_1) 22 p285_1) 82 sp285_1) vj)) hx hb hts iwsRX12_workFrame_in12 hown hK hP 0 rfl rfl 81 (by decide) (hts _ hm_r_X12_workFrame_1) (fun _ h9 => h9) rfl dX12_workFrame_139 ?_
      refine lv_topi (fun y23 hy23 => ?_)
      obtain rfl : (nI pN) = y23 := (hy23.trans (hpl)).symm
      refine lv_iconst (v := 1) hx hb dX12_workFrame_142 (by decide) ?_
      refine lv_iadd hx hb dX12_workFrame_143 ?_
      refine lv_topi (fun y24 hy24 => ?_)
      obtain rfl : (nI (pN + 1)) = y24 := (hy24.trans (nI_add pN 1)).symm
      refine va_put (D := (dC, dI)) (ci := 12) (v := .int (nI (pN + 1))) (ty := .int) (C := RX12) (T := TX12) (N := 163) (fs := fM (vS a (fT (fT (fT vi 21 s285_1) 22 p285_1) 82 sp285_1) vj)) hx hb hts iwsRX12_workFrame_in12 tyX12 tyX12_ok nmX12 hown hK hP hD hS 0 rfl rfl 81 (by decide) (hts _ hm_r_X12_workFrame_1) (fun _ h9 => h9) rfl (by decide +kernel) rfl rfl (Nat.le_of_ble_eq_true rfl) dX12_workFrame_144 (fun H locs hP hD hS => ?_)
      have hP : va_P (dC, dI) vwCl (WR a k h0 (fT (fT (fT (fT vi 21 s285_1) 22 p285_1) 82 sp285_1) 81 (nI (pN + 1))) vj (fT (fT vF 49 (upd f4993_1 ((nI (9 * pN))).toNatClampNeg ((vF 51) xN))) 50 f5093_1) vG) H := fz_w (WR_i 81 _ rfl) hP
      have hD : va_D A (WR a k h0 (fT (fT (fT (fT vi 21 s285_1) 22 p285_1) 82 sp285_1) 81 (nI (pN + 1))) vj (fT (fT vF 49 (upd f4993_1 ((nI (9 * pN))).toNatClampNeg ((vF 51) xN))) 50 f5093_1) vG) := fz_wD (WR_i 81 _ rfl) hD
      refine lv_aload_n hx hb dX12_workFrame_147 rfl (lv_at hl 1 rfl) ?_
      refine lv_dup hx hb dX12_workFrame_148 rfl ?_
      refine va_get (D := (dC, dI)) (ci := 12) (v := .int (vi 89)) (C := RX12) (T := TX12) (N := 163) (fs := fM (vS a (fT (fT (fT (fT vi 21 s285_1) 22 p285_1) 82 sp285_1) 81 (nI (pN + 1))) vj)) hx hb hts iwsRX12_workFrame_in12 hown hK hP 0 rfl rfl 89 (by decide) (hts _ hm_r_X12_workFrame_4) (fun _ h9 => h9) rfl dX12_workFrame_149 ?_
      refine lv_topi (fun y25 hy25 => ?_)
      obtain rfl : (nI fr) = y25 := (hy25.trans (hfr9)).symm
      refine lv_iconst (v := 1) hx hb dX12_workFrame_152 (by decide) ?_
      refine lv_isub hx hb dX12_workFrame_153 ?_
      refine lv_topi (fun y26 hy26 => ?_)
      obtain rfl : (nI (fr - 1)) = y26 := (hy26.trans (pk_sub (a := fr) (b := 1) (by omega))).symm
      refine va_put (D := (dC, dI)) (ci := 12) (v := .int (nI (fr - 1))) (ty := .int) (C := RX12) (T := TX12) (N := 163) (fs := fM (vS a (fT (fT (fT (fT vi 21 s285_1) 22 p285_1) 82 sp285_1) 81 (nI (pN + 1))) vj)) hx hb hts iwsRX12_workFrame_in12 tyX12 tyX12_ok nmX12 hown hK hP hD hS 0 rfl rfl 89 (by decide) (hts _ hm_r_X12_workFrame_4) (fun _ h9 => h9) rfl (by decide +kernel) rfl rfl (Nat.le_of_ble_eq_true rfl) dX12_workFrame_154 (fun H locs hP hD hS => ?_)
      have hP : va_P (dC, dI) vwCl (WR a k h0 (fT (fT (fT (fT (fT vi 21 s285_1) 22 p285_1) 82 sp285_1) 81 (nI (pN + 1))) 89 (nI (fr - 1))) vj (fT (fT vF 49 (upd f4993_1 ((nI (9 * pN))).toNatClampNeg ((vF 51) xN))) 50 f5093_1) vG) H := fz_w (WR_i 89 _ rfl) hP
      have hD : va_D A (WR a k h0 (fT (fT (fT (fT (fT vi 21 s285_1) 22 p285_1) 82 sp285_1) 81 (nI (pN + 1))) 89 (nI (fr - 1))) vj (fT (fT vF 49 (upd f4993_1 ((nI (9 * pN))).toNatClampNeg ((vF 51) xN))) 50 f5093_1) vG) := fz_wD (WR_i 89 _ rfl) hD
      refine lv_goto (tgt := 357) hx hb dX12_workFrame_157 (by decide) ?_
      refine W.widen (k := 0) (n := 0) (by decide +kernel) (by decide +kernel) ?_
      have e9 : fT (fT (fT (fT (fT (fT vi 21 s285_1) 22 p285_1) 82 sp285_1) 81 (nI (pN + 1))) 89 (nI (fr - 1))) 84 (vi 84) = fT (fT (fT (fT (fT vi 21 s285_1) 22 p285_1) 82 sp285_1) 81 (nI (pN + 1))) 89 (nI (fr - 1)) := fT_id _ _ ((fT_ne _ _ (Nat.ne_of_beq_eq_false rfl)).trans ((fT_ne _ _ (Nat.ne_of_beq_eq_false rfl)).trans ((fT_ne _ _ (Nat.ne_of_beq_eq_false rfl)).trans ((fT_ne _ _ (Nat.ne_of_beq_eq_false rfl)).trans (fT_ne _ _ (Nat.ne_of_beq_eq_false rfl))))))
      have hP := wr_Pi e9 hP
      have hD := wr_Di e9 hD
      clear e9
      have e9 : fT (fT (fT (fT (fT (fT vF 49 (upd f4993_1 ((nI (9 * pN))).toNatClampNeg ((vF 51) xN))) 50 f5093_1) 54 (vF 54)) 53 (vF 53)) 51 (vF 51)) 52 (vF 52) = fT (fT vF 49 (upd f4993_1 ((nI (9 * pN))).toNatClampNeg ((vF 51) xN))) 50 f5093_1 := Eq.trans (mv_3 rfl) (Eq.trans (id_5 rfl) (Eq.trans (mv_2 rfl) (Eq.trans (id_4 rfl) (Eq.trans (mv_1 rfl) (Eq.trans (id_3 rfl) (id_2 rfl))))))
      have hP := wr_PF e9 hP
      have hD := wr_DF e9 hD
      clear e9
      exact W.vret hx hb hr (fun t9_ ht hW => ⟨⟨((upd f4993_1 ((nI (9 * pN))).toNatClampNeg ((vF 51) xN)), f5093_1, (vF 51), (vF 52), (vF 53), (vF 54), (fr - 1), (pN + 1), s285_1, p285_1, sp285_1, (vi 84)), rfl, by (try dsimp only); exact ⟨fun v9 h9 => RowU.top (by omega) (RowU.nought f93_1_0 f93_1_1 (fun q h9 => f93_1_2 q (Or.inl h9)) (fun q h9 => f93_1_3 q (Or.inl h9)) hRw (show v9 ≤ pN by omega)) ⟨by (have h8 := hEn xN hx60); omega, by (have h8 := hEn xN hx60); omega⟩, hEn, f85_1_0, f85_1_1, Or.inr (StpO.pop0 hfr1 (by rw [if_pos (by omega)]; omega)), by omega⟩, by rw [ht]; exact hP, hD⟩, hS.F ht⟩) hS.2.2 dX12_workFrame_357
    · have ts_13_1 : ¬ ((kN : Nat) : Int) = 1 := toI_neq s_13_1 (nI_toInt (by omega)) (by decide)
      by_cases s_13_2 : (nI kN) = 2
      · have ts_13_2 : ((kN : Nat) : Int) = 2 := toI_eq s_13_2 (nI_toInt (by omega)) (by decide)
        refine lv_tableIn (off := 147) (tgt := 160) hx hb dX12_workFrame_13 (by rw [s_13_2]; decide) (by rw [s_13_2]; decide) (by rw [s_13_2]; decide) (by decide) ?_
        obtain ⟨hpd9, aN, plN, o1, o2, atN, dN, eN, ⟨m1, m2⟩, ⟨⟨m3, m4⟩, ⟨m5, m6, m7, m8, m9, m10⟩, ⟨m11, m12⟩, m13, m14, _, m20⟩, hNm⟩ := hNd.e2 (by omega)
        obtain ⟨⟨m15, m16⟩, ⟨m17, m18⟩, m19⟩ := hNm.ex m13.1
        refine lv_aload_n hx hb dX12_workFrame_160 rfl (lv_at hl 1 rfl) ?_
        refine lv_iload_n hx hb dX12_workFrame_161 rfl (lv_at hl 2 rfl) ?_
        refine lv_iload_n hx hb dX12_workFrame_162 rfl (lv_at hl 0 rfl) ?_
        have hFc := allFree hD hS hA
        refine va_callv (va_runV (As := [.int (nI fN), .int (nI nN)]) (rest := []) ⟨hx, hb, hml, hown, hts⟩ (r_X12_workName l dC dI a k h0 vi vj vF vG nF V wt dp pd nN kN sN la hN pN rN fN fr aN plN se o1 o2 atN dN eN (by first | with_reducible assumption | decide | omega | rfl | assumption) (by first | with_reducible assumption | decide | omega | rfl | assumption) (by first | with_reducible assumption | decide | omega | rfl | assumption) (by first | with_reducible assumption | decide | omega | rfl | assumption) hfr9 (by first | with_reducible assumption | decide | omega | rfl | assumption) (by first | with_reducible assumption | decide | omega | rfl | assumption) ((congrFun hn30 nN).trans m1) (m2) ((show kN = 2 ∨ kN = 3 by omega)) ((show 2 ≤ kN ∧ kN ≤ 3 by omega)) (fun h9 => (congrFun hn18 aN).trans (m3 h9)) (fun h9 => (congrFun hn24 aN).trans (m4 h9)) (by first | with_reducible assumption | decide | omega | rfl | assumption) (by first | with_reducible assumption | decide | omega | rfl | assumption) (fun h9 => (congrFun hn19 aN).trans (m5 h9)) (fun h9 => (congrFun hn20 aN).trans (m6 h9)) (fun h9 => (congrFun hn21 aN).trans (m7 h9)) (fun h9 => (congrFun hn25 aN).trans (m8 h9)) (fun h9 => (congrFun hn26 aN).trans (m9 h9)) (fun h9 => (congrFun hn27 aN).trans (m10 h9)) (m11) (m12) (m13) (m14) (hPt) (m1) (m5) (hn17.symm) (m20) (fun h9 => ⟨(congrFun hn31 nN).trans (m15 h9).1, (m15 h9).2⟩) (fun h9 => ⟨(congrFun hn32 nN).trans (m16 h9).1, (m16 h9).2⟩) (m17) (m18) (m19) (fun h9 => hla (by omega) h9) hpl (by first | with_reducible assumption | decide | omega | rfl | assumption) (by first | with_reducible assumption | decide | omega | rfl | assumption) (hpd9) (by first | with_reducible assumption | decide | omega | rfl | assumption) (by first | with_reducible assumption | decide | omega | rfl | assumption) s.heap.size) (cwV 2 hts gwsRX12_workFrame_2 rfl rfl rfl hd_yX12_workName_RX12 (by decide +kernel)) (fz_pre (va_recv hK hP (ci := 12) (q0 := 0) rfl rfl) hP hK hD) rfl rfl hl.1 rfl (lv_room (Nat.le_of_ble_eq_true rfl)) dX12_workFrame_163 (by decide +kernel)) hS (fun q _ h => hFc q h) hFc (fun u t9_ H locs ht hvm hw9 hB9 hz1 hk1 hS => ?_)
        revert u hw9 hB9
        refine fz_p10 ?_
        intro g49163 g50163 g52163 g53163 g54163 fr2163 pq2163 s2163 p2163 sp2163 hw9 hB9
        try dsimp only at hw9 hB9
        have hP : va_P (dC, dI) vwCl (WR a k h0 (fT (fT (fT (fT (fT vi 21 s2163) 22 p2163) 82 sp2163) 81 (nI pq2163)) 89 (nI fr2163)) vj (fT (fT (fT (fT (fT vF 53 g53163) 54 g54163) 49 g49163) 50 g50163) 52 g52163) vG) H := fz_P ht hB9.1
        have hD := fz_sd hP (hB9.2.weaken (fun _ q _ h => hFc q.1 h)) rfl
        revert hw9
        refine fz_a5 ?_
        intro f163_0 f163_1 f163_2 f163_3 f163_4
        have f163_2 : s2163 = (vi 21) ∨ 0 < (s2163).toInt := f163_2
        have f163_3 : 0 < (s2163).toInt ∨ StpO nF V wt dp pd nN kN fN hN rN (vF 52) (vF 53) (vF 54) g52163 g53163 g54163 fr2163 pq2163 := f163_3
        refine lv_goto (tgt := 357) hx hb dX12_workFrame_166 (by decide) ?_
        refine W.widen (k := 0) (n := 0) (by decide +kernel) (by decide +kernel) ?_
        have e9 : fT (fT (fT (fT (fT (fT vi 21 s2163) 22 p2163) 82 sp2163) 81 (nI pq2163)) 89 (nI fr2163)) 84 (vi 84) = fT (fT (fT (fT (fT vi 21 s2163) 22 p2163) 82 sp2163) 81 (nI pq2163)) 89 (nI fr2163) := fT_id _ _ ((fT_ne _ _ (Nat.ne_of_beq_eq_false rfl)).trans ((fT_ne _ _ (Nat.ne_of_beq_eq_false rfl)).trans ((fT_ne _ _ (Nat.ne_of_beq_eq_false rfl)).trans ((fT_ne _ _ (Nat.ne_of_beq_eq_false rfl)).trans (fT_ne _ _ (Nat.ne_of_beq_eq_false rfl))))))
        have hP := wr_Pi e9 hP
        have hD := wr_Di e9 hD
        clear e9
        have e9 : fT (fT (fT (fT (fT (fT vF 49 g49163) 50 g50163) 54 g54163) 53 g53163) 51 (vF 51)) 52 g52163 = fT (fT (fT (fT (fT vF 53 g53163) 54 g54163) 49 g49163) 50 g50163) 52 g52163 := Eq.trans (mv_1 rfl) (Eq.trans (id_5 rfl) (Eq.trans (mv_1 rfl) (Eq.trans (mv_2 rfl) (Eq.trans (mv_4 rfl) (Eq.trans (mv_4 rfl) (mv_4 rfl))))))
        have hP := wr_PF e9 hP
        have hD := wr_DF e9 hD
        clear e9
        exact W.vret hx hb hr (fun t9_ ht hW => ⟨⟨(g49163, g50163, (vF 51), g52163, g53163, g54163, fr2163, pq2163, s2163, p2163, sp2163, (vi 84)), rfl, by (try dsimp only); exact ⟨f163_0, hEn, f163_1, f163_2, f163_3, f163_4⟩, by rw [ht]; exact hP, hD⟩, hS.F ht⟩) hS.2.2 dX12_workFrame_357
      · have ts_13_2 : ¬ ((kN : Nat) : Int) = 2 := toI_neq s_13_2 (nI_toInt (by omega)) (by decide)
        by_cases s_13_3 : (nI kN) = 3
        · have ts_13_3 : ((kN : Nat) : Int) = 3 := toI_eq s_13_3 (nI_toInt (by omega)) (by decide)
          refine lv_tableIn (off := 147) (tgt := 160) hx hb dX12_workFrame_13 (by rw [s_13_3]; decide) (by rw [s_13_3]; decide) (by rw [s_13_3]; decide) (by decide) ?_
          obtain ⟨hpd9, aN, plN, o1, o2, atN, dN, eN, ⟨m1, m2⟩, ⟨⟨m3, m4⟩, ⟨m5, m6, m7, m8, m9, m10⟩, ⟨m11, m12⟩, m13, m14, _, m20⟩, hNm⟩ := hNd.e2 (by omega)
          obtain ⟨⟨m15, m16⟩, ⟨m17, m18⟩, m19⟩ := hNm.ex m13.1
          refine lv_aload_n hx hb dX12_workFrame_160 rfl (lv_at hl 1 rfl) ?_
          refine lv_iload_n hx hb dX12_workFrame_161 rfl (lv_at hl 2 rfl) ?_
          refine lv_iload_n hx hb dX12_workFrame_162 rfl (lv_at hl 0 rfl) ?_
          have hFc := allFree hD hS hA
          refine va_callv (va_runV (As := [.int (nI fN), .int (nI nN)]) (rest := []) ⟨hx, hb, hml, hown, hts⟩ (r_X12_workName l dC dI a k h0 vi vj vF vG nF V wt dp pd nN kN sN la hN pN rN fN fr aN plN se o1 o2 atN dN eN (by first | with_reducible assumption | decide | omega | rfl | assumption) (by first | with_reducible assumption | decide | omega | rfl | assumption) (by first | with_reducible assumption | decide | omega | rfl | assumption) (by first | with_reducible assumption | decide | omega | rfl | assumption) hfr9 (by first | with_reducible assumption | decide | omega | rfl | assumption) (by first | with_reducible assumption | decide | omega | rfl | assumption) ((congrFun hn30 nN).trans m1) (m2) ((show kN = 2 ∨ kN = 3 by omega)) ((show 2 ≤ kN ∧ kN ≤ 3 by omega)) (fun h9 => (congrFun hn18 aN).trans (m3 h9)) (fun h9 => (congrFun hn24 aN).trans (m4 h9)) (by first | with_reducible assumption | decide | omega | rfl | assumption) (by first | with_reducible assumption | decide | omega | rfl | assumption) (fun h9 => (congrFun hn19 aN).trans (m5 h9)) (fun h9 => (congrFun hn20 aN).trans (m6 h9)) (fun h9 => (congrFun hn21 aN).trans (m7 h9)) (fun h9 => (congrFun hn25 aN).trans (m8 h9)) (fun h9 => (congrFun hn26 aN).trans (m9 h9)) (fun h9 => (congrFun hn27 aN).trans (m10 h9)) (m11) (m12) (m13) (m14) (hPt) (m1) (m5) (hn17.symm) (m20) (fun h9 => ⟨(congrFun hn31 nN).trans (m15 h9).1, (m15 h9).2⟩) (fun h9 => ⟨(congrFun hn32 nN).trans (m16 h9).1, (m16 h9).2⟩) (m17) (m18) (m19) (fun h9 => hla (by omega) h9) hpl (by first | with_reducible assumption | decide | omega | rfl | assumption) (by first | with_reducible assumption | decide | omega | rfl | assumption) (hpd9) (by first | with_reducible assumption | decide | omega | rfl | assumption) (by first | with_reducible assumption | decide | omega | rfl | assumption) s.heap.size) (cwV 2 hts gwsRX12_workFrame_2 rfl rfl rfl hd_yX12_workName_RX12 (by decide +kernel)) (fz_pre (va_recv hK hP (ci := 12) (q0 := 0) rfl rfl) hP hK hD) rfl rfl hl.1 rfl (lv_room (Nat.le_of_ble_eq_true rfl)) dX12_workFrame_163 (by decide +kernel)) hS (fun q _ h => hFc q h) hFc (fun u t9_ H locs ht hvm hw9 hB9 hz1 hk1 hS => ?_)
          revert u hw9 hB9
          refine fz_p10 ?_
          intro g49163_1 g50163_1 g52163_1 g53163_1 g54163_1 fr2163_1 pq2163_1 s2163_1 p2163_1 sp2163_1 hw9 hB9
          try dsimp only at hw9 hB9
          have hP : va_P (dC, dI) vwCl (WR a k h0 (fT (fT (fT (fT (fT vi 21 s2163_1) 22 p2163_1) 82 sp2163_1) 81 (nI pq2163_1)) 89 (nI fr2163_1)) vj (fT (fT (fT (fT (fT vF 53 g53163_1) 54 g54163_1) 49 g49163_1) 50 g50163_1) 52 g52163_1) vG) H := fz_P ht hB9.1
          have hD := fz_sd hP (hB9.2.weaken (fun _ q _ h => hFc q.1 h)) rfl
          revert hw9
          refine fz_a5 ?_
          intro f163_1_0 f163_1_1 f163_1_2 f163_1_3 f163_1_4
          have f163_1_2 : s2163_1 = (vi 21) ∨ 0 < (s2163_1).toInt := f163_1_2
          have f163_1_3 : 0 < (s2163_1).toInt ∨ StpO nF V wt dp pd nN kN fN hN rN (vF 52) (vF 53) (vF 54) g52163_1 g53163_1 g54163_1 fr2163_1 pq2163_1 := f163_1_3
          refine lv_goto (tgt := 357) hx hb dX12_workFrame_166 (by decide) ?_
          refine W.widen (k := 0) (n := 0) (by decide +kernel) (by decide +kernel) ?_
          have e9 : fT (fT (fT (fT (fT (fT vi 21 s2163_1) 22 p2163_1) 82 sp2163_1) 81 (nI pq2163_1)) 89 (nI fr2163_1)) 84 (vi 84) = fT (fT (fT (fT (fT vi 21 s2163_1) 22 p2163_1) 82 sp2163_1) 81 (nI pq2163_1)) 89 (nI fr2163_1) := fT_id _ _ ((fT_ne _ _ (Nat.ne_of_beq_eq_false rfl)).trans ((fT_ne _ _ (Nat.ne_of_beq_eq_false rfl)).trans ((fT_ne _ _ (Nat.ne_of_beq_eq_false rfl)).trans ((fT_ne _ _ (Nat.ne_of_beq_eq_false rfl)).trans (fT_ne _ _ (Nat.ne_of_beq_eq_false rfl))))))
          have hP := wr_Pi e9 hP
          have hD := wr_Di e9 hD
          clear e9
          have e9 : fT (fT (fT (fT (fT (fT vF 49 g49163_1) 50 g50163_1) 54 g54163_1) 53 g53163_1) 51 (vF 51)) 52 g52163_1 = fT (fT (fT (fT (fT vF 53 g53163_1) 54 g54163_1) 49 g49163_1) 50 g50163_1) 52 g52163_1 := Eq.trans (mv_1 rfl) (Eq.trans (id_5 rfl) (Eq.trans (mv_1 rfl) (Eq.trans (mv_2 rfl) (Eq.trans (mv_4 rfl) (Eq.trans (mv_4 rfl) (mv_4 rfl))))))
          have hP := wr_PF e9 hP
          have hD := wr_DF e9 hD
          clear e9
          exact W.vret hx hb hr (fun t9_ ht hW => ⟨⟨(g49163_1, g50163_1, (vF 51), g52163_1, g53163_1, g54163_1, fr2163_1, pq2163_1, s2163_1, p2163_1, sp2163_1, (vi 84)), rfl, by (try dsimp only); exact ⟨f163_1_0, hEn, f163_1_1, f163_1_2, f163_1_3, f163_1_4⟩, by rw [ht]; exact hP, hD⟩, hS.F ht⟩) hS.2.2 dX12_workFrame_357
        · have ts_13_3 : ¬ ((kN : Nat) : Int) = 3 := toI_neq s_13_3 (nI_toInt (by omega)) (by decide)
          by_cases s_13_4 : (nI kN) = 4
          · have ts_13_4 : ((kN : Nat) : Int) = 4 := toI_eq s_13_4 (nI_toInt (by omega)) (by decide)
            refine lv_tableIn (off := 156) (tgt := 169) hx hb dX12_workFrame_13 (by rw [s_13_4]; decide) (by rw [s_13_4]; decide) (by rw [s_13_4]; decide) (by decide) ?_
            obtain ⟨hpd9, cN, hc4, hwN9⟩ := hNd.e4 (by omega)
            have hsd := hTo.minus (by omega)
            have hq1 := hc4.2.2.2.1
            refine lv_aload_n hx hb dX12_workFrame_169 rfl (lv_at hl 1 rfl) ?_
            refine va_get (D := (dC, dI)) (ci := 12) (v := .ref (a 53)) (C := RX12) (T := TX12) (N := 163) (fs := fM (vS a vi vj)) hx hb hts iwsRX12_workFrame_in12 hown hK hP 0 rfl rfl 86 (by decide) (hts _ hm_r_X12_workFrame_5) (fun _ h9 => h9) rfl dX12_workFrame_170 ?_
            refine lv_iload_n hx hb dX12_workFrame_173 rfl (lv_at hl 2 rfl) ?_
            refine va_iald (cA := k 53) (n := 4300) (f := (vF 53)) hx hb hK hP 54 53 (WR_get 53 (by decide)) (TR_get 53 (by decide)) (vp_in_nI (show fN < 4300 by omega) (by omega)) dX12_workFrame_174 ?_
            refine lv_topi (fun y27 hy27 => ?_)
            obtain rfl : ((vF 53) fN) = y27 := (hy27.trans (by rw [nI_clamp (by omega)])).symm
            refine lv_topi (fun y28 hy28 => ?_)
            obtain rfl : (nI sN) = y28 := (hy28.trans (hsN)).symm
            refine lv_if_ne (tgt := 202) hx hb dX12_workFrame_175 (by decide) (fun c_175 => ?_) (fun c_175 => ?_)
            · have t_175 : ((sN : Nat) : Int) ≠ 0 := toI_ne c_175 (nI_toInt (by omega)) (by decide)
              refine lv_iconst (v := 0) hx hb dX12_workFrame_202 (by decide) ?_
              refine lv_istore_n hx hb dX12_workFrame_203 rfl hl (by decide) rfl (fun ls (hl : lv_has ls _ ([(3, .int 0), (2, .int (nI nN)), (0, .ref h0), (1, .int (nI fN))])) => ?_)
              have e9 : fT vF 49 (vF 49) = vF := by funext q9; by_cases h9_49 : q9 = 49; (subst h9_49; exact (fT_eq _ _ _).trans (Eq.trans (by first | with_reducible rfl | with_reducible assumption | (symm; with_reducible assumption) | rfl | assumption | (symm; assumption) | (subst_vars; rfl)) (Eq.refl _).symm)); exact (fT_ne _ _ h9_49).trans (Eq.refl _).symm
              have hP := wr_PF e9 hP
              have hD := wr_DF e9 hD
              clear e9
              have hl : lv_has _ _ ([(0, .ref h0), (1, .int (nI fN)), (2, .int (nI nN)), (3, .int (nI 0))]) := lv_sub hl [2, 3, 1, 0] rfl
              refine (fun (loop : ∀ (n9 : Nat) (k5 : Nat) (x49 : Nat → Int32) (H : Heap) (locs : List Loc) (ls : Array Slot), (k5 ≤ 9) → (∀ v9, v9 < pN → RowU x49 (vF 50) v9) →  (9 < k5 + n9) → va_P (dC, dI) vwCl (WR a k h0 vi vj (fT vF 49 x49) vG) H → va_D A (WR a k h0 vi vj (fT vF 49 x49) vG) → va_S A s.heap H locs → lv_has ls 4 [(0, .ref h0), (1, .int (nI fN)), (2, .int (nI nN)), (3, .int (nI k5))] → W p l e _ s m _ below meth c H locs 0 0 _ (F0 m 204 ls [])) => loop (10) 0 (vF 49) _ _ _ (by omega) (hRw) (by omega) hP hD hS hl) ?_
              intro n9
              induction n9 with
              | zero => intro k5 x49 H locs ls hk5 hrx hf9; exact False.elim (by omega)
              | succ n9 ih204 =>
                intro k5 x49 H locs ls hk5 hrx hf204 hP hD hS hl
                refine lv_iload_n hx hb dX12_workFrame_204 rfl (lv_at hl 3 rfl) ?_
                refine lv_bipush (v := 9) hx hb dX12_workFrame_205 (by decide) ?_
                refine lv_icmp_ge (tgt := 249) hx hb dX12_workFrame_207 (by decide) (fun c_207 => ?_) (fun c_207 => ?_)
                · have t_207 : ((k5 : Nat) : Int) ≥ 9 := toI_ge c_207 (nI_toInt (by omega)) (by decide)
                  refine lv_aload_n hx hb dX12_workFrame_249 rfl (lv_at hl 0 rfl) ?_
                  refine lv_dup hx hb dX12_workFrame_250 rfl ?_
                  refine va_get (D := (dC, dI)) (ci := 12) (v := .int (vi 89)) (C := RX12) (T := TX12) (N := 163) (fs := fM (vS a vi vj)) hx hb hts iwsRX12_workFrame_in12 hown hK hP 0 rfl rfl 89 (by decide) (hts _ hm_r_X12_workFrame_4) (fun _ h9 => h9) rfl dX12_workFrame_251 ?_
                  refine lv_topi (fun y29 hy29 => ?_)
                  obtain rfl : (nI fr) = y29 := (hy29.trans (hfr9)).symm
                  refine lv_iconst (v := 1) hx hb dX12_workFrame_254 (by decide) ?_
                  refine lv_isub hx hb dX12_workFrame_255 ?_
                  refine lv_topi (fun y30 hy30 => ?_)
                  obtain rfl : (nI (fr - 1)) = y30 := (hy30.trans (pk_sub (a := fr) (b := 1) (by omega))).symm
                  refine va_put (D := (dC, dI)) (ci := 12) (v := .int (nI (fr - 1))) (ty := .int) (C := RX12) (T := TX12) (N := 163) (fs := fM (vS a vi vj)) hx hb hts iwsRX12_workFrame_in12 tyX12 tyX12_ok nmX12 hown hK hP hD hS 0 rfl rfl 89 (by decide) (hts _ hm_r_X12_workFrame_4) (fun _ h9 => h9) rfl (by decide +kernel) rfl rfl (Nat.le_of_ble_eq_true rfl) dX12_workFrame_256 (fun H locs hP hD hS => ?_)
                  have hP : va_P (dC, dI) vwCl (WR a k h0 (fT vi 89 (nI (fr - 1))) vj (fT vF 49 x49) vG) H := fz_w (WR_i 89 _ rfl) hP
                  have hD : va_D A (WR a k h0 (fT vi 89 (nI (fr - 1))) vj (fT vF 49 x49) vG) := fz_wD (WR_i 89 _ rfl) hD
                  refine lv_goto (tgt := 357) hx hb dX12_workFrame_259 (by decide) ?_
                  refine W.widen (k := 0) (n := 0) (by decide +kernel) (by decide +kernel) ?_
                  have e9 : fT (fT (fT (fT (fT (fT vi 21 (vi 21)) 22 (vi 22)) 82 (vi 82)) 81 (nI pN)) 89 (nI (fr - 1))) 84 (vi 84) = fT vi 89 (nI (fr - 1)) := Eq.trans (mv_5 rfl) (Eq.trans (id_5 rfl) (Eq.trans (mv_4 rfl) (Eq.trans (id_4 rfl) (Eq.trans (mv_3 rfl) (Eq.trans (id_3 rfl) (Eq.trans (mv_2 rfl) (Eq.trans (congrArg (fT _ 81) (show nI pN = vi 81 from (by first | with_reducible rfl | with_reducible assumption | (symm; with_reducible assumption) | rfl | assumption | (symm; assumption) | (subst_vars; rfl)))) (Eq.trans (id_2 rfl) (id_1 rfl)))))))))
                  have hP := wr_Pi e9 hP
                  have hD := wr_Di e9 hD
                  clear e9
                  have e9 : fT (fT (fT (fT (fT (fT vF 49 x49) 50 (vF 50)) 54 (vF 54)) 53 (vF 53)) 51 (vF 51)) 52 (vF 52) = fT vF 49 x49 := Eq.trans (mv_4 rfl) (Eq.trans (id_5 rfl) (Eq.trans (mv_3 rfl) (Eq.trans (id_4 rfl) (Eq.trans (mv_2 rfl) (Eq.trans (id_3 rfl) (Eq.trans (mv_1 rfl) (Eq.trans (id_2 rfl) (id_1 rfl))))))))
                  have hP := wr_PF e9 hP
                  have hD := wr_DF e9 hD
                  clear e9
                  exact W.vret hx hb hr (fun t9_ ht hW => ⟨⟨(x49, (vF 50), (vF 51), (vF 52), (vF 53), (vF 54), (fr - 1), pN, (vi 21), (vi 22), (vi 82), (vi 84)), rfl, by (try dsimp only); exact ⟨hrx, hEn, hst0, Or.inl rfl, Or.inr (StpO.pop0 hfr1 (by rw [if_pos (by omega)]; omega)), by omega⟩, by rw [ht]; exact hP, hD⟩, hS.F ht⟩) hS.2.2 dX12_workFrame_357
                · have t_207 : ¬ ((k5 : Nat) : Int) ≥ 9 := toI_nge c_207 (nI_toInt (by omega)) (by decide)
                  refine lv_aload_n hx hb dX12_workFrame_210 rfl (lv_at hl 0 rfl) ?_
                  refine va_get (D := (dC, dI)) (ci := 12) (v := .ref (a 49)) (C := RX12) (T := TX12) (N := 163) (fs := fM (vS a vi vj)) hx hb hts iwsRX12_workFrame_in12 hown hK hP 0 rfl rfl 78 (by decide) (hts _ hm_r_X12_workFrame_2) (fun _ h9 => h9) rfl dX12_workFrame_211 ?_
                  refine lv_bipush (v := 9) hx hb dX12_workFrame_214 (by decide) ?_
                  refine lv_aload_n hx hb dX12_workFrame_216 rfl (lv_at hl 0 rfl) ?_
                  refine va_get (D := (dC, dI)) (ci := 12) (v := .int (vi 81)) (C := RX12) (T := TX12) (N := 163) (fs := fM (vS a vi vj)) hx hb hts iwsRX12_workFrame_in12 hown hK hP 0 rfl rfl 81 (by decide) (hts _ hm_r_X12_workFrame_1) (fun _ h9 => h9) rfl dX12_workFrame_217 ?_
                  refine lv_topi (fun y31 hy31 => ?_)
                  obtain rfl : (nI pN) = y31 := (hy31.trans (hpl)).symm
                  refine lv_iconst (v := 1) hx hb dX12_workFrame_220 (by decide) ?_
                  refine lv_isub hx hb dX12_workFrame_221 ?_
                  refine lv_topi (fun y32 hy32 => ?_)
                  obtain rfl : (nI (pN - 1)) = y32 := (hy32.trans (pk_sub (a := pN) (b := 1) (by omega))).symm
                  refine lv_imul hx hb dX12_workFrame_222 ?_
                  refine lv_topi (fun y33 hy33 => ?_)
                  obtain rfl : (nI (9 * (pN - 1))) = y33 := (hy33.trans (pk_mul 9 (pN - 1))).symm
                  refine lv_iload_n hx hb dX12_workFrame_223 rfl (lv_at hl 3 rfl) ?_
                  refine lv_iadd hx hb dX12_workFrame_224 ?_
                  refine lv_topi (fun y34 hy34 => ?_)
                  obtain rfl : (nI ((9 * (pN - 1)) + k5)) = y34 := (hy34.trans (nI_add (9 * (pN - 1)) k5)).symm
                  refine lv_aload_n hx hb dX12_workFrame_225 rfl (lv_at hl 0 rfl) ?_
                  refine va_get (D := (dC, dI)) (ci := 12) (v := .ref (a 49)) (C := RX12) (T := TX12) (N := 163) (fs := fM (vS a vi vj)) hx hb hts iwsRX12_workFrame_in12 hown hK hP 0 rfl rfl 78 (by decide) (hts _ hm_r_X12_workFrame_2) (fun _ h9 => h9) rfl dX12_workFrame_226 ?_
                  refine lv_bipush (v := 9) hx hb dX12_workFrame_229 (by decide) ?_
                  refine lv_aload_n hx hb dX12_workFrame_231 rfl (lv_at hl 0 rfl) ?_
                  refine va_get (D := (dC, dI)) (ci := 12) (v := .int (vi 81)) (C := RX12) (T := TX12) (N := 163) (fs := fM (vS a vi vj)) hx hb hts iwsRX12_workFrame_in12 hown hK hP 0 rfl rfl 81 (by decide) (hts _ hm_r_X12_workFrame_1) (fun _ h9 => h9) rfl dX12_workFrame_232 ?_
                  refine lv_topi (fun y35 hy35 => ?_)
                  obtain rfl : (nI pN) = y35 := (hy35.trans (hpl)).symm
                  refine lv_iconst (v := 1) hx hb dX12_workFrame_235 (by decide) ?_
                  refine lv_isub hx hb dX12_workFrame_236 ?_
                  refine lv_topi (fun y36 hy36 => ?_)
                  obtain rfl : (nI (pN - 1)) = y36 := (hy36.trans (pk_sub (a := pN) (b := 1) (by omega))).symm
                  refine lv_imul hx hb dX12_workFrame_237 ?_
                  refine lv_topi (fun y37 hy37 => ?_)
                  obtain rfl : (nI (9 * (pN - 1))) = y37 := (hy37.trans (pk_mul 9 (pN - 1))).symm
                  refine lv_iload_n hx hb dX12_workFrame_238 rfl (lv_at hl 3 rfl) ?_
                  refine lv_iadd hx hb dX12_workFrame_239 ?_
                  refine lv_topi (fun y38 hy38 => ?_)
                  obtain rfl : (nI ((9 * (pN - 1)) + k5)) = y38 := (hy38.trans (nI_add (9 * (pN - 1)) k5)).symm
                  refine va_iald (cA := k 49) (n := 900) (f := x49) hx hb hK hP 50 49 (WR_get 49 (by decide)) (TR_get 49 (by decide)) (vp_in_nI (show ((9 * (pN - 1)) + k5) < 900 by omega) (by omega)) dX12_workFrame_240 ?_
                  refine lv_topi (fun y39 hy39 => ?_)
                  obtain rfl : (x49 ((9 * (pN - 1)) + k5)) = y39 := (hy39.trans (by rw [nI_clamp (by omega)])).symm
                  refine lv_ineg hx hb dX12_workFrame_241 ?_
                  refine va_iast (cA := k 49) (n := 900) (f := x49) hx hb hK hP hD hS 50 49 (WR_get 49 (by decide)) (TR_get 49 (by decide)) (vp_in_nI (show ((9 * (pN - 1)) + k5) < 900 by omega) (by omega)) dX12_workFrame_242 (fun H locs hP hD hS => ?_)
                  have e9 : fT vF 49 (upd x49 ((nI ((9 * (pN - 1)) + k5))).toNatClampNeg (-(x49 ((9 * (pN - 1)) + k5)))) = fT (fT vF 49 x49) 49 (upd x49 ((nI ((9 * (pN - 1)) + k5))).toNatClampNeg (-(x49 ((9 * (pN - 1)) + k5)))) := (fT_sm _ _ _ _).symm
                  have hP := wr_PF e9 (fz_w (WR_F 49 (by decide) _ rfl) hP)
                  have hD := wr_DF e9 (fz_wD (WR_F 49 (by decide) _ rfl) hD)
                  clear e9
                  refine lv_iinc (v := (nI (k5 + 1))) hx hb dX12_workFrame_243 hl (k := 3) rfl (nI_add k5 1) (by decide) rfl (fun ls (hl : lv_has ls _ ([(3, .int (nI (k5 + 1))), (0, .ref h0), (1, .int (nI fN)), (2, .int (nI nN))])) => ?_)
                  refine lv_goto (tgt := 204) hx hb dX12_workFrame_246 (by decide) ?_
                  have hl : lv_has _ _ ([(0, .ref h0), (1, .int (nI fN)), (2, .int (nI nN)), (3, .int (nI (k5 + 1)))]) := lv_sub hl [1, 2, 3, 0] rfl
                  exact ih204 (k5 + 1) (upd x49 ((nI ((9 * (pN - 1)) + k5))).toNatClampNeg (-(x49 ((9 * (pN - 1)) + k5)))) _ _ _ (by omega) (fun v9 h9 => RowU.top (by omega) (hrx v9 h9) (by (have h8 := hrx (pN - 1) (by omega) k5 (by omega)); exact neg_2m h8.1 h8.2.1)) (by omega) hP hD hS hl
            · have t_175 : ((sN : Nat) : Int) = 0 := toI_nne c_175 (nI_toInt (by omega)) (by decide)
              refine lv_aload_n hx hb dX12_workFrame_178 rfl (lv_at hl 1 rfl) ?_
              have hFc := allFree hD hS hA
              refine va_callv (va_runV (As := []) (rest := []) ⟨hx, hb, hml, hown, hts⟩ (r_X12_stepOne l dC dI a k h0 vi vj vF vG (by first | with_reducible assumption | decide | omega | rfl | assumption) s.heap.size) (cwV 0 hts gwsRX12_workFrame_0 rfl rfl rfl hd_yX12_stepOne_RX12 (by decide +kernel)) (fz_pre (va_recv hK hP (ci := 12) (q0 := 0) rfl rfl) hP hK hD) rfl rfl hl.1 rfl (lv_room (Nat.le_of_ble_eq_true rfl)) dX12_workFrame_179 (by decide +kernel)) hS (fun q _ h => hFc q h) hFc (fun u t9_ H locs ht hvm hw9 hB9 hz1 hk1 hS => ?_)
              revert u hw9 hB9
              refine fz_p3 ?_
              intro s2179 p2179 sp2179 hw9 hB9
              try dsimp only at hw9 hB9
              have hP : va_P (dC, dI) vwCl (WR a k h0 (fT (fT (fT vi 21 s2179) 22 p2179) 82 sp2179) vj vF vG) H := fz_P ht hB9.1
              have hD := fz_sd hP (hB9.2.weaken (fun _ q _ h => hFc q.1 h)) rfl
              revert hw9
              refine fz_a2 ?_
              intro f179_0 f179_1
              have f179_1 : s2179 = (vi 21) ∨ 0 < (s2179).toInt := f179_1
              refine lv_aload_n hx hb dX12_workFrame_182 rfl (lv_at hl 1 rfl) ?_
              refine va_get (D := (dC, dI)) (ci := 12) (v := .ref (a 53)) (C := RX12) (T := TX12) (N := 163) (fs := fM (vS a (fT (fT (fT vi 21 s2179) 22 p2179) 82 sp2179) vj)) hx hb hts iwsRX12_workFrame_in12 hown hK hP 0 rfl rfl 86 (by decide) (hts _ hm_r_X12_workFrame_5) (fun _ h9 => h9) rfl dX12_workFrame_183 ?_
              refine lv_iload_n hx hb dX12_workFrame_186 rfl (lv_at hl 2 rfl) ?_
              refine lv_iconst (v := 1) hx hb dX12_workFrame_187 (by decide) ?_
              refine va_iast (cA := k 53) (n := 4300) (f := (vF 53)) hx hb hK hP hD hS 54 53 (WR_get 53 (by decide)) (TR_get 53 (by decide)) (vp_in_nI (show fN < 4300 by omega) (by omega)) dX12_workFrame_188 (fun H locs hP hD hS => ?_)
              have hP : va_P (dC, dI) vwCl (WR a k h0 (fT (fT (fT vi 21 s2179) 22 p2179) 82 sp2179) vj (fT vF 53 (upd (vF 53) ((nI fN)).toNatClampNeg 1)) vG) H := fz_w (WR_F 53 (by decide) _ rfl) hP
              have hD : va_D A (WR a k h0 (fT (fT (fT vi 21 s2179) 22 p2179) 82 sp2179) vj (fT vF 53 (upd (vF 53) ((nI fN)).toNatClampNeg 1)) vG) := fz_wD (WR_F 53 (by decide) _ rfl) hD
              refine lv_aload_n hx hb dX12_workFrame_189 rfl (lv_at hl 1 rfl) ?_
              refine lv_aload_n hx hb dX12_workFrame_190 rfl (lv_at hl 1 rfl) ?_
              refine va_get (D := (dC, dI)) (ci := 12) (v := .ref (a 30)) (C := RX12) (T := TX12) (N := 163) (fs := fM (vS a (fT (fT (fT vi 21 s2179) 22 p2179) 82 sp2179) vj)) hx hb hts iwsRX12_workFrame_in12 hown hK hP 0 rfl rfl 54 (by decide) (hts _ hm_r_X12_workFrame_3) (fun _ h9 => h9) rfl dX12_workFrame_191 ?_
              refine lv_iload_n hx hb dX12_workFrame_194 rfl (lv_at hl 0 rfl) ?_
              refine va_iald (cA := k 30) (n := 4200) (f := (vF 30)) hx hb hK hP 31 30 (WR_get 30 (by decide)) (TR_get 30 (by decide)) (vp_in_nI (show nN < 4200 by omega) (by omega)) dX12_workFrame_195 ?_
              refine lv_topi (fun y40 hy40 => ?_)
              obtain rfl : ((vF 30) nN) = y40 := (hy40.trans (by rw [nI_clamp (by omega)])).symm
              refine lv_topi (fun y41 hy41 => ?_)
              obtain rfl : (nI cN) = y41 := (hy41.trans ((congrFun hn30 nN).trans hc4.1.1)).symm
              have hFc := allFree hD hS hA
              refine va_callv (va_runV (As := [.int (nI cN)]) (rest := []) ⟨hx, hb, hml, hown, hts⟩ (r_X12_call l dC dI a k h0 (fT (fT (fT vi 21 s2179) 22 p2179) 82 sp2179) vj (fT vF 53 (upd (vF 53) ((nI fN)).toNatClampNeg 1)) vG (nI cN) fr hfr9 (by first | with_reducible assumption | decide | omega | rfl | assumption) H.size) (cwV 1 hts gwsRX12_workFrame_3 rfl rfl rfl hd_yX12_call_RX12 (by decide +kernel)) (fz_pre (va_recv hK hP (ci := 12) (q0 := 0) rfl rfl) hP hK hD) rfl rfl hl.1 rfl (lv_room (Nat.le_of_ble_eq_true rfl)) dX12_workFrame_196 (by decide +kernel)) hS (fun q _ h => hFc q h) hFc (fun u t9_ H locs ht hvm hw9 hB9 hz1 hk1 hS => ?_)
              have e9F : fT (fT vF 53 (upd (upd (vF 53) ((nI fN)).toNatClampNeg 1) (nI fr).toNatClampNeg 0)) 52 (upd (vF 52) (nI fr).toNatClampNeg (nI cN)) = fT (fT (fT vF 53 (upd (vF 53) ((nI fN)).toNatClampNeg 1)) 52 (upd (vF 52) (nI fr).toNatClampNeg (nI cN))) 53 (upd (upd (vF 53) ((nI fN)).toNatClampNeg 1) (nI fr).toNatClampNeg 0) := ((fT_sw _ _ _ (Nat.ne_of_beq_eq_false rfl)).trans (congrArg (fun g9 => fT g9 52 (upd (vF 52) (nI fr).toNatClampNeg (nI cN))) (fT_sm _ _ _ _))).symm
              have hP := wr_PF e9F (fz_P ht hB9.1)
              have hD := wr_DF e9F (hB9.2.weaken (fun _ q _ h => hFc q.1 h))
              clear e9F
              refine lv_goto (tgt := 357) hx hb dX12_workFrame_199 (by decide) ?_
              refine W.widen (k := 0) (n := 0) (by decide +kernel) (by decide +kernel) ?_
              have e9 : fT (fT (fT (fT (fT (fT vi 21 s2179) 22 p2179) 82 sp2179) 81 (nI pN)) 89 (nI (fr + 1))) 84 (vi 84) = fT (fT (fT (fT vi 21 s2179) 22 p2179) 82 sp2179) 89 (nI (fr + 1)) := Eq.trans (mv_2 rfl) (Eq.trans (congrArg (fT _ 81) (show nI pN = vi 81 from (by first | with_reducible rfl | with_reducible assumption | (symm; with_reducible assumption) | rfl | assumption | (symm; assumption) | (subst_vars; rfl)))) (Eq.trans (id_5 rfl) (id_4 rfl)))
              have hP := wr_Pi e9 hP
              have hD := wr_Di e9 hD
              clear e9
              have e9 : fT (fT (fT (fT (fT (fT vF 49 (vF 49)) 50 (vF 50)) 54 (vF 54)) 53 (upd (upd (vF 53) ((nI fN)).toNatClampNeg 1) (nI fr).toNatClampNeg 0)) 51 (vF 51)) 52 (upd (vF 52) (nI fr).toNatClampNeg (nI cN)) = fT (fT vF 53 (upd (upd (vF 53) ((nI fN)).toNatClampNeg 1) (nI fr).toNatClampNeg 0)) 52 (upd (vF 52) (nI fr).toNatClampNeg (nI cN)) := Eq.trans (mv_5 rfl) (Eq.trans (id_5 rfl) (Eq.trans (mv_4 rfl) (Eq.trans (id_4 rfl) (Eq.trans (mv_3 rfl) (Eq.trans (id_3 rfl) (Eq.trans (mv_1 rfl) (id_2 rfl)))))))
              have hP := wr_PF e9 hP
              have hD := wr_DF e9 hD
              clear e9
              exact W.vret hx hb hr (fun t9_ ht hW => ⟨⟨((vF 49), (vF 50), (vF 51), (upd (vF 52) (nI fr).toNatClampNeg (nI cN)), (upd (upd (vF 53) ((nI fN)).toNatClampNeg 1) (nI fr).toNatClampNeg 0), (vF 54), (fr + 1), pN, s2179, p2179, sp2179, (vi 84)), rfl, by (try dsimp only); exact ⟨hRw, hEn, f179_0, f179_1, Or.inr (by (obtain rfl : sN = 0 := by omega); (obtain rfl : kN = 4 := by omega); (obtain rfl : pN = hN := by omega); exact StpO.push' cN 1 la 1 rfl rfl hfN hfr1 (fun _ _ => rfl) (fun h9 => absurd h9 (by omega)) hc4.2.1 hc4.2.2.1 (by omega) (WtO.m1 hc4.2.2.2.2 (Nat.le_refl _)) (by omega)), by omega⟩, by rw [ht]; exact hP, hD⟩, hS.F ht⟩) hS.2.2 dX12_workFrame_357
          · have ts_13_4 : ¬ ((kN : Nat) : Int) = 4 := toI_neq s_13_4 (nI_toInt (by omega)) (by decide)
            by_cases s_13_5 : (nI kN) = 5
            · have ts_13_5 : ((kN : Nat) : Int) = 5 := toI_eq s_13_5 (nI_toInt (by omega)) (by decide)
              refine lv_tableIn (off := 338) (tgt := 351) hx hb dX12_workFrame_13 (by rw [s_13_5]; decide) (by rw [s_13_5]; decide) (by rw [s_13_5]; decide) (by decide) ?_
              obtain ⟨hpd9, cN, dN, hcT, hdT, hwN9⟩ := hNd.e5 (by omega)
              refine lv_aload_n hx hb dX12_workFrame_351 rfl (lv_at hl 1 rfl) ?_
              refine lv_iload_n hx hb dX12_workFrame_352 rfl (lv_at hl 2 rfl) ?_
              refine lv_iload_n hx hb dX12_workFrame_353 rfl (lv_at hl 0 rfl) ?_
              have hFc := allFree hD hS hA
              refine va_callv (va_runV (As := [.int (nI fN), .int (nI nN)]) (rest := []) ⟨hx, hb, hml, hown, hts⟩ (r_X12_workPair l dC dI a k h0 vi vj vF vG nF V wt dp pd nN kN sN la hN pN rN fN fr cN dN (by first | with_reducible assumption | decide | omega | rfl | assumption) (by first | with_reducible assumption | decide | omega | rfl | assumption) (by first | with_reducible assumption | decide | omega | rfl | assumption) (by first | with_reducible assumption | decide | omega | rfl | assumption) hfr9 (by first | with_reducible assumption | decide | omega | rfl | assumption) (by first | with_reducible assumption | decide | omega | rfl | assumption) ((congrFun hn30 nN).trans hcT.1.1) ((congrFun hn31 nN).trans hdT.1.1) (hcT) (hdT) (hwN9) ((show (5 ≤ kN ∧ kN ≤ 8) ∨ kN = 13 by omega)) ((by omega)) hpl (by first | with_reducible assumption | decide | omega | rfl | assumption) ((by omega)) (hpd9) (by first | with_reducible assumption | decide | omega | rfl | assumption) s.heap.size) (cwV 2 hts gwsRX12_workFrame_4 rfl rfl rfl hd_yX12_workPair_RX12 (by decide +kernel)) (fz_pre (va_recv hK hP (ci := 12) (q0 := 0) rfl rfl) hP hK hD) rfl rfl hl.1 rfl (lv_room (Nat.le_of_ble_eq_true rfl)) dX12_workFrame_354 (by decide +kernel)) hS (fun q _ h => hFc q h) hFc (fun u t9_ H locs ht hvm hw9 hB9 hz1 hk1 hS => ?_)
              revert u hw9 hB9
              refine fz_p9 ?_
              intro g49354 g50354 g52354 g53354 fr2354 pq2354 s2354 p2354 sp2354 hw9 hB9
              try dsimp only at hw9 hB9
              have hP : va_P (dC, dI) vwCl (WR a k h0 (fT (fT (fT (fT (fT vi 21 s2354) 22 p2354) 81 (nI pq2354)) 89 (nI fr2354)) 82 sp2354) vj (fT (fT (fT (fT vF 53 g53354) 49 g49354) 50 g50354) 52 g52354) vG) H := fz_P ht hB9.1
              have hD := fz_sd hP (hB9.2.weaken (fun _ q _ h => hFc q.1 h)) rfl
              revert hw9
              refine fz_a4 ?_
              intro f354_0 f354_1 f354_2 f354_3
              have f354_2 : s2354 = (vi 21) ∨ 0 < (s2354).toInt := f354_2
              have f354_3 : StpO nF V wt dp pd nN kN fN hN rN (vF 52) (vF 53) (vF 54) g52354 g53354 (vF 54) fr2354 pq2354 := f354_3
              refine W.widen (k := 0) (n := 0) (by decide +kernel) (by decide +kernel) ?_
              have e9 : fT (fT (fT (fT (fT (fT vi 21 s2354) 22 p2354) 82 sp2354) 81 (nI pq2354)) 89 (nI fr2354)) 84 (vi 84) = fT (fT (fT (fT (fT vi 21 s2354) 22 p2354) 81 (nI pq2354)) 89 (nI fr2354)) 82 sp2354 := Eq.trans (id_5 rfl) (Eq.trans (mv_1 rfl) (Eq.trans (mv_1 rfl) (mv_2 rfl)))
              have hP := wr_Pi e9 hP
              have hD := wr_Di e9 hD
              clear e9
              have e9 : fT (fT (fT (fT (fT (fT vF 49 g49354) 50 g50354) 54 (vF 54)) 53 g53354) 51 (vF 51)) 52 g52354 = fT (fT (fT (fT vF 53 g53354) 49 g49354) 50 g50354) 52 g52354 := Eq.trans (mv_3 rfl) (Eq.trans (id_5 rfl) (Eq.trans (mv_1 rfl) (Eq.trans (id_4 rfl) (Eq.trans (mv_1 rfl) (Eq.trans (mv_3 rfl) (Eq.trans (mv_3 rfl) (mv_3 rfl)))))))
              have hP := wr_PF e9 hP
              have hD := wr_DF e9 hD
              clear e9
              exact W.vret hx hb hr (fun t9_ ht hW => ⟨⟨(g49354, g50354, (vF 51), g52354, g53354, (vF 54), fr2354, pq2354, s2354, p2354, sp2354, (vi 84)), rfl, by (try dsimp only); exact ⟨f354_0, hEn, f354_1, f354_2, Or.inr f354_3, by (have h9 := f354_3.fr); omega⟩, by rw [ht]; exact hP, hD⟩, hS.F ht⟩) hS.2.2 dX12_workFrame_357
            · have ts_13_5 : ¬ ((kN : Nat) : Int) = 5 := toI_neq s_13_5 (nI_toInt (by omega)) (by decide)
              by_cases s_13_6 : (nI kN) = 6
              · have ts_13_6 : ((kN : Nat) : Int) = 6 := toI_eq s_13_6 (nI_toInt (by omega)) (by decide)
                refine lv_tableIn (off := 338) (tgt := 351) hx hb dX12_workFrame_13 (by rw [s_13_6]; decide) (by rw [s_13_6]; decide) (by rw [s_13_6]; decide) (by decide) ?_
                obtain ⟨hpd9, cN, dN, hcT, hdT, hwN9⟩ := hNd.e5 (by omega)
                refine lv_aload_n hx hb dX12_workFrame_351 rfl (lv_at hl 1 rfl) ?_
                refine lv_iload_n hx hb dX12_workFrame_352 rfl (lv_at hl 2 rfl) ?_
                refine lv_iload_n hx hb dX12_workFrame_353 rfl (lv_at hl 0 rfl) ?_
                have hFc := allFree hD hS hA
                refine va_callv (va_runV (As := [.int (nI fN), .int (nI nN)]) (rest := []) ⟨hx, hb, hml, hown, hts⟩ (r_X12_workPair l dC dI a k h0 vi vj vF vG nF V wt dp pd nN kN sN la hN pN rN fN fr cN dN (by first | with_reducible assumption | decide | omega | rfl | assumption) (by first | with_reducible assumption | decide | omega | rfl | assumption) (by first | with_reducible assumption | decide | omega | rfl | assumption) (by first | with_reducible assumption | decide | omega | rfl | assumption) hfr9 (by first | with_reducible assumption | decide | omega | rfl | assumption) (by first | with_reducible assumption | decide | omega | rfl | assumption) ((congrFun hn30 nN).trans hcT.1.1) ((congrFun hn31 nN).trans hdT.1.1) (hcT) (hdT) (hwN9) ((show (5 ≤ kN ∧ kN ≤ 8) ∨ kN = 13 by omega)) ((by omega)) hpl (by first | with_reducible assumption | decide | omega | rfl | assumption) ((by omega)) (hpd9) (by first | with_reducible assumption | decide | omega | rfl | assumption) s.heap.size) (cwV 2 hts gwsRX12_workFrame_4 rfl rfl rfl hd_yX12_workPair_RX12 (by decide +kernel)) (fz_pre (va_recv hK hP (ci := 12) (q0 := 0) rfl rfl) hP hK hD) rfl rfl hl.1 rfl (lv_room (Nat.le_of_ble_eq_true rfl)) dX12_workFrame_354 (by decide +kernel)) hS (fun q _ h => hFc q h) hFc (fun u t9_ H locs ht hvm hw9 hB9 hz1 hk1 hS => ?_)
                revert u hw9 hB9
                refine fz_p9 ?_
                intro g49354_1 g50354_1 g52354_1 g53354_1 fr2354_1 pq2354_1 s2354_1 p2354_1 sp2354_1 hw9 hB9
                try dsimp only at hw9 hB9
                have hP : va_P (dC, dI) vwCl (WR a k h0 (fT (fT (fT (fT (fT vi 21 s2354_1) 22 p2354_1) 81 (nI pq2354_1)) 89 (nI fr2354_1)) 82 sp2354_1) vj (fT (fT (fT (fT vF 53 g53354_1) 49 g49354_1) 50 g50354_1) 52 g52354_1) vG) H := fz_P ht hB9.1
                have hD := fz_sd hP (hB9.2.weaken (fun _ q _ h => hFc q.1 h)) rfl
                revert hw9
                refine fz_a4 ?_
                intro f354_1_0 f354_1_1 f354_1_2 f354_1_3
                have f354_1_2 : s2354_1 = (vi 21) ∨ 0 < (s2354_1).toInt := f354_1_2
                have f354_1_3 : StpO nF V wt dp pd nN kN fN hN rN (vF 52) (vF 53) (vF 54) g52354_1 g53354_1 (vF 54) fr2354_1 pq2354_1 := f354_1_3
                refine W.widen (k := 0) (n := 0) (by decide +kernel) (by decide +kernel) ?_
                have e9 : fT (fT (fT (fT (fT (fT vi 21 s2354_1) 22 p2354_1) 82 sp2354_1) 81 (nI pq2354_1)) 89 (nI fr2354_1)) 84 (vi 84) = fT (fT (fT (fT (fT vi 21 s2354_1) 22 p2354_1) 81 (nI pq2354_1)) 89 (nI fr2354_1)) 82 sp2354_1 := Eq.trans (id_5 rfl) (Eq.trans (mv_1 rfl) (Eq.trans (mv_1 rfl) (mv_2 rfl)))
                have hP := wr_Pi e9 hP
                have hD := wr_Di e9 hD
                clear e9
                have e9 : fT (fT (fT (fT (fT (fT vF 49 g49354_1) 50 g50354_1) 54 (vF 54)) 53 g53354_1) 51 (vF 51)) 52 g52354_1 = fT (fT (fT (fT vF 53 g53354_1) 49 g49354_1) 50 g50354_1) 52 g52354_1 := Eq.trans (mv_3 rfl) (Eq.trans (id_5 rfl) (Eq.trans (mv_1 rfl) (Eq.trans (id_4 rfl) (Eq.trans (mv_1 rfl) (Eq.trans (mv_3 rfl) (Eq.trans (mv_3 rfl) (mv_3 rfl)))))))
                have hP := wr_PF e9 hP
                have hD := wr_DF e9 hD
                clear e9
                exact W.vret hx hb hr (fun t9_ ht hW => ⟨⟨(g49354_1, g50354_1, (vF 51), g52354_1, g53354_1, (vF 54), fr2354_1, pq2354_1, s2354_1, p2354_1, sp2354_1, (vi 84)), rfl, by (try dsimp only); exact ⟨f354_1_0, hEn, f354_1_1, f354_1_2, Or.inr f354_1_3, by (have h9 := f354_1_3.fr); omega⟩, by rw [ht]; exact hP, hD⟩, hS.F ht⟩) hS.2.2 dX12_workFrame_357
              · have ts_13_6 : ¬ ((kN : Nat) : Int) = 6 := toI_neq s_13_6 (nI_toInt (by omega)) (by decide)
                by_cases s_13_7 : (nI kN) = 7
                · have ts_13_7 : ((kN : Nat) : Int) = 7 := toI_eq s_13_7 (nI_toInt (by omega)) (by decide)
                  refine lv_tableIn (off := 338) (tgt := 351) hx hb dX12_workFrame_13 (by rw [s_13_7]; decide) (by rw [s_13_7]; decide) (by rw [s_13_7]; decide) (by decide) ?_
                  obtain ⟨hpd9, cN, dN, hcT, hdT, hwN9⟩ := hNd.e5 (by omega)
                  refine lv_aload_n hx hb dX12_workFrame_351 rfl (lv_at hl 1 rfl) ?_
                  refine lv_iload_n hx hb dX12_workFrame_352 rfl (lv_at hl 2 rfl) ?_
                  refine lv_iload_n hx hb dX12_workFrame_353 rfl (lv_at hl 0 rfl) ?_
                  have hFc := allFree hD hS hA
                  refine va_callv (va_runV (As := [.int (nI fN), .int (nI nN)]) (rest := []) ⟨hx, hb, hml, hown, hts⟩ (r_X12_workPair l dC dI a k h0 vi vj vF vG nF V wt dp pd nN kN sN la hN pN rN fN fr cN dN (by first | with_reducible assumption | decide | omega | rfl | assumption) (by first | with_reducible assumption | decide | omega | rfl | assumption) (by first | with_reducible assumption | decide | omega | rfl | assumption) (by first | with_reducible assumption | decide | omega | rfl | assumption) hfr9 (by first | with_reducible assumption | decide | omega | rfl | assumption) (by first | with_reducible assumption | decide | omega | rfl | assumption) ((congrFun hn30 nN).trans hcT.1.1) ((congrFun hn31 nN).trans hdT.1.1) (hcT) (hdT) (hwN9) ((show (5 ≤ kN ∧ kN ≤ 8) ∨ kN = 13 by omega)) ((by omega)) hpl (by first | with_reducible assumption | decide | omega | rfl | assumption) ((by omega)) (hpd9) (by first | with_reducible assumption | decide | omega | rfl | assumption) s.heap.size) (cwV 2 hts gwsRX12_workFrame_4 rfl rfl rfl hd_yX12_workPair_RX12 (by decide +kernel)) (fz_pre (va_recv hK hP (ci := 12) (q0 := 0) rfl rfl) hP hK hD) rfl rfl hl.1 rfl (lv_room (Nat.le_of_ble_eq_true rfl)) dX12_workFrame_354 (by decide +kernel)) hS (fun q _ h => hFc q h) hFc (fun u t9_ H locs ht hvm hw9 hB9 hz1 hk1 hS => ?_)
                  revert u hw9 hB9
                  refine fz_p9 ?_
                  intro g49354_2 g50354_2 g52354_2 g53354_2 fr2354_2 pq2354_2 s2354_2 p2354_2 sp2354_2 hw9 hB9
                  try dsimp only at hw9 hB9
                  have hP : va_P (dC, dI) vwCl (WR a k h0 (fT (fT (fT (fT (fT vi 21 s2354_2) 22 p2354_2) 81 (nI pq2354_2)) 89 (nI fr2354_2)) 82 sp2354_2) vj (fT (fT (fT (fT vF 53 g53354_2) 49 g49354_2) 50 g50354_2) 52 g52354_2) vG) H := fz_P ht hB9.1
                  have hD := fz_sd hP (hB9.2.weaken (fun _ q _ h => hFc q.1 h)) rfl
                  revert hw9
                  refine fz_a4 ?_
                  intro f354_2_0 f354_2_1 f354_2_2 f354_2_3
                  have f354_2_2 : s2354_2 = (vi 21) ∨ 0 < (s2354_2).toInt := f354_2_2
                  have f354_2_3 : StpO nF V wt dp pd nN kN fN hN rN (vF 52) (vF 53) (vF 54) g52354_2 g53354_2 (vF 54) fr2354_2 pq2354_2 := f354_2_3
                  refine W.widen (k := 0) (n := 0) (by decide +kernel) (by decide +kernel) ?_
                  have e9 : fT (fT (fT (fT (fT (fT vi 21 s2354_2) 22 p2354_2) 82 sp2354_2) 81 (nI pq2354_2)) 89 (nI fr2354_2)) 84 (vi 84) = fT (fT (fT (fT (fT vi 21 s2354_2) 22 p2354_2) 81 (nI pq2354_2)) 89 (nI fr2354_2)) 82 sp2354_2 := Eq.trans (id_5 rfl) (Eq.trans (mv_1 rfl) (Eq.trans (mv_1 rfl) (mv_2 rfl)))
                  have hP := wr_Pi e9 hP
                  have hD := wr_Di e9 hD
                  clear e9
                  have e9 : fT (fT (fT (fT (fT (fT vF 49 g49354_2) 50 g50354_2) 54 (vF 54)) 53 g53354_2) 51 (vF 51)) 52 g52354_2 = fT (fT (fT (fT vF 53 g53354_2) 49 g49354_2) 50 g50354_2) 52 g52354_2 := Eq.trans (mv_3 rfl) (Eq.trans (id_5 rfl) (Eq.trans (mv_1 rfl) (Eq.trans (id_4 rfl) (Eq.trans (mv_1 rfl) (Eq.trans (mv_3 rfl) (Eq.trans (mv_3 rfl) (mv_3 rfl)))))))
                  have hP := wr_PF e9 hP
                  have hD := wr_DF e9 hD
                  clear e9
                  exact W.vret hx hb hr (fun t9_ ht hW => ⟨⟨(g49354_2, g50354_2, (vF 51), g52354_2, g53354_2, (vF 54), fr2354_2, pq2354_2, s2354_2, p2354_2, sp2354_2, (vi 84)), rfl, by (try dsimp only); exact ⟨f354_2_0, hEn, f354_2_1, f354_2_2, Or.inr f354_2_3, by (have h9 := f354_2_3.fr); omega⟩, by rw [ht]; exact hP, hD⟩, hS.F ht⟩) hS.2.2 dX12_workFrame_357
                · have ts_13_7 : ¬ ((kN : Nat) : Int) = 7 := toI_neq s_13_7 (nI_toInt (by omega)) (by decide)
                  by_cases s_13_8 : (nI kN) = 8
                  · have ts_13_8 : ((kN : Nat) : Int) = 8 := toI_eq s_13_8 (nI_toInt (by omega)) (by decide)
                    refine lv_tableIn (off := 338) (tgt := 351) hx hb dX12_workFrame_13 (by rw [s_13_8]; decide) (by rw [s_13_8]; decide) (by rw [s_13_8]; decide) (by decide) ?_
                    obtain ⟨hpd9, cN, dN, hcT, hdT, hwN9⟩ := hNd.e5 (by omega)
                    refine lv_aload_n hx hb dX12_workFrame_351 rfl (lv_at hl 1 rfl) ?_
                    refine lv_iload_n hx hb dX12_workFrame_352 rfl (lv_at hl 2 rfl) ?_
                    refine lv_iload_n hx hb dX12_workFrame_353 rfl (lv_at hl 0 rfl) ?_
                    have hFc := allFree hD hS hA
                    refine va_callv (va_runV (As := [.int (nI fN), .int (nI nN)]) (rest := []) ⟨hx, hb, hml, hown, hts⟩ (r_X12_workPair l dC dI a k h0 vi vj vF vG nF V wt dp pd nN kN sN la hN pN rN fN fr cN dN (by first | with_reducible assumption | decide | omega | rfl | assumption) (by first | with_reducible assumption | decide | omega | rfl | assumption) (by first | with_reducible assumption | decide | omega | rfl | assumption) (by first | with_reducible assumption | decide | omega | rfl | assumption) hfr9 (by first | with_reducible assumption | decide | omega | rfl | assumption) (by first | with_reducible assumption | decide | omega | rfl | assumption) ((congrFun hn30 nN).trans hcT.1.1) ((congrFun hn31 nN).trans hdT.1.1) (hcT) (hdT) (hwN9) ((show (5 ≤ kN ∧ kN ≤ 8) ∨ kN = 13 by omega)) ((by omega)) hpl (by first | with_reducible assumption | decide | omega | rfl | assumption) ((by omega)) (hpd9) (by first | with_reducible assumption | decide | omega | rfl | assumption) s.heap.size) (cwV 2 hts gwsRX12_workFrame_4 rfl rfl rfl hd_yX12_workPair_RX12 (by decide +kernel)) (fz_pre (va_recv hK hP (ci := 12) (q0 := 0) rfl rfl) hP hK hD) rfl rfl hl.1 rfl (lv_room (Nat.le_of_ble_eq_true rfl)) dX12_workFrame_354 (by decide +kernel)) hS (fun q _ h => hFc q h) hFc (fun u t9_ H locs ht hvm hw9 hB9 hz1 hk1 hS => ?_)
                    revert u hw9 hB9
                    refine fz_p9 ?_
                    intro g49354_3 g50354_3 g52354_3 g53354_3 fr2354_3 pq2354_3 s2354_3 p2354_3 sp2354_3 hw9 hB9
                    try dsimp only at hw9 hB9
                    have hP : va_P (dC, dI) vwCl (WR a k h0 (fT (fT (fT (fT (fT vi 21 s2354_3) 22 p2354_3) 81 (nI pq2354_3)) 89 (nI fr2354_3)) 82 sp2354_3) vj (fT (fT (fT (fT vF 53 g53354_3) 49 g49354_3) 50 g50354_3) 52 g52354_3) vG) H := fz_P ht hB9.1
                    have hD := fz_sd hP (hB9.2.weaken (fun _ q _ h => hFc q.1 h)) rfl
                    revert hw9
                    refine fz_a4 ?_
                    intro f354_3_0 f354_3_1 f354_3_2 f354_3_3
                    have f354_3_2 : s2354_3 = (vi 21) ∨ 0 < (s2354_3).toInt := f354_3_2
                    have f354_3_3 : StpO nF V wt dp pd nN kN fN hN rN (vF 52) (vF 53) (vF 54) g52354_3 g53354_3 (vF 54) fr2354_3 pq2354_3 := f354_3_3
                    refine W.widen (k := 0) (n := 0) (by decide +kernel) (by decide +kernel) ?_
                    have e9 : fT (fT (fT (fT (fT (fT vi 21 s2354_3) 22 p2354_3) 82 sp2354_3) 81 (nI pq2354_3)) 89 (nI fr2354_3)) 84 (vi 84) = fT (fT (fT (fT (fT vi 21 s2354_3) 22 p2354_3) 81 (nI pq2354_3)) 89 (nI fr2354_3)) 82 sp2354_3 := Eq.trans (id_5 rfl) (Eq.trans (mv_1 rfl) (Eq.trans (mv_1 rfl) (mv_2 rfl)))
                    have hP := wr_Pi e9 hP
                    have hD := wr_Di e9 hD
                    clear e9
                    have e9 : fT (fT (fT (fT (fT (fT vF 49 g49354_3) 50 g50354_3) 54 (vF 54)) 53 g53354_3) 51 (vF 51)) 52 g52354_3 = fT (fT (fT (fT vF 53 g53354_3) 49 g49354_3) 50 g50354_3) 52 g52354_3 := Eq.trans (mv_3 rfl) (Eq.trans (id_5 rfl) (Eq.trans (mv_1 rfl) (Eq.trans (id_4 rfl) (Eq.trans (mv_1 rfl) (Eq.trans (mv_3 rfl) (Eq.trans (mv_3 rfl) (mv_3 rfl)))))))
                    have hP := wr_PF e9 hP
                    have hD := wr_DF e9 hD
                    clear e9
                    exact W.vret hx hb hr (fun t9_ ht hW => ⟨⟨(g49354_3, g50354_3, (vF 51), g52354_3, g53354_3, (vF 54), fr2354_3, pq2354_3, s2354_3, p2354_3, sp2354_3, (vi 84)), rfl, by (try dsimp only); exact ⟨f354_3_0, hEn, f354_3_1, f354_3_2, Or.inr f354_3_3, by (have h9 := f354_3_3.fr); omega⟩, by rw [ht]; exact hP, hD⟩, hS.F ht⟩) hS.2.2 dX12_workFrame_357
                  · have ts_13_8 : ¬ ((kN : Nat) : Int) = 8 := toI_neq s_13_8 (nI_toInt (by omega)) (by decide)
                    by_cases s_13_9 : (nI kN) = 9
                    · have ts_13_9 : ((kN : Nat) : Int) = 9 := toI_eq s_13_9 (nI_toInt (by omega)) (by decide)
                      refine lv_tableIn (off := 249) (tgt := 262) hx hb dX12_workFrame_13 (by rw [s_13_9]; decide) (by rw [s_13_9]; decide) (by rw [s_13_9]; decide) (by decide) ?_
                      obtain ⟨hpd9, bN, cN, wW, b1, b2, b3, b4, b5, hSW, hwN9⟩ := hNd.e9 (by omega)
                      refine lv_aload_n hx hb dX12_workFrame_262 rfl (lv_at hl 1 rfl) ?_
                      refine lv_iload_n hx hb dX12_workFrame_263 rfl (lv_at hl 2 rfl) ?_
                      refine lv_iload_n hx hb dX12_workFrame_264 rfl (lv_at hl 0 rfl) ?_
                      have hFc := allFree hD hS hA
                      refine va_callv (va_runV (As := [.int (nI fN), .int (nI nN)]) (rest := []) ⟨hx, hb, hml, hown, hts⟩ (r_X12_workSum l dC dI a k h0 vi vj vF vG nF V wt dp pd nN kN sN la hN pN rN fN fr bN se cN (nF 31 nN) wW (by first | with_reducible assumption | decide | omega | rfl | assumption) (by first | with_reducible assumption | decide | omega | rfl | assumption) (by first | with_reducible assumption | decide | omega | rfl | assumption) (by first | with_reducible assumption | decide | omega | rfl | assumption) hfr9 (by first | with_reducible assumption | decide | omega | rfl | assumption) (by first | with_reducible assumption | decide | omega | rfl | assumption) ((congrFun hn30 nN).trans b1) (b2) ((by rw [hn36, hn37, hn38]; exact b3)) (by first | with_reducible assumption | decide | omega | rfl | assumption) (by first | with_reducible assumption | decide | omega | rfl | assumption) ((by rw [hn17, hn36, hn37]; exact b4)) (b5) (by first | with_reducible assumption | decide | omega | rfl | assumption) ((congrFun hn32 nN).trans hSW.1.1.1) (congrFun hn31 nN) (rfl) (hSW) (hwN9) (fun h9 => hla (by omega) h9) hpl (by first | with_reducible assumption | decide | omega | rfl | assumption) (by first | with_reducible assumption | decide | omega | rfl | assumption) (hpd9) (by first | with_reducible assumption | decide | omega | rfl | assumption) ((by omega)) s.heap.size) (cwV 2 hts gwsRX12_workFrame_5 rfl rfl rfl hd_yX12_workSum_RX12 (by decide +kernel)) (fz_pre (va_recv hK hP (ci := 12) (q0 := 0) rfl rfl) hP hK hD) rfl rfl hl.1 rfl (lv_room (Nat.le_of_ble_eq_true rfl)) dX12_workFrame_265 (by decide +kernel)) hS (fun q _ h => hFc q h) hFc (fun u t9_ H locs ht hvm hw9 hB9 hz1 hk1 hS => ?_)
                      revert u hw9 hB9
                      refine fz_p10 ?_
                      intro g49265 g50265 g51265 g52265 g53265 g54265 fr2265 pq2265 s2265 p2265 hw9 hB9
                      try dsimp only at hw9 hB9
                      have hP : va_P (dC, dI) vwCl (WR a k h0 (fT (fT (fT (fT vi 21 s2265) 22 p2265) 81 (nI pq2265)) 89 (nI fr2265)) vj (fT (fT (fT (fT (fT (fT vF 49 g49265) 50 g50265) 54 g54265) 53 g53265) 51 g51265) 52 g52265) vG) H := fz_P ht hB9.1
                      have hD := fz_sd hP (hB9.2.weaken (fun _ q _ h => hFc q.1 h)) rfl
                      revert hw9
                      refine fz_a5 ?_
                      intro f265_0 f265_1 f265_2 f265_3 f265_4
                      have f265_3 : s2265 = (vi 21) ∨ 0 < (s2265).toInt := f265_3
                      have f265_4 : StpO nF V wt dp pd nN kN fN hN rN (vF 52) (vF 53) (vF 54) g52265 g53265 g54265 fr2265 pq2265 := f265_4
                      refine lv_goto (tgt := 357) hx hb dX12_workFrame_268 (by decide) ?_
                      refine W.widen (k := 0) (n := 0) (by decide +kernel) (by decide +kernel) ?_
                      have e9 : fT (fT (fT (fT (fT (fT vi 21 s2265) 22 p2265) 82 (vi 82)) 81 (nI pq2265)) 89 (nI fr2265)) 84 (vi 84) = fT (fT (fT (fT vi 21 s2265) 22 p2265) 81 (nI pq2265)) 89 (nI fr2265) := Eq.trans (mv_3 rfl) (Eq.trans (id_5 rfl) (id_4 rfl))
                      have hP := wr_Pi e9 hP
                      have hD := wr_Di e9 hD
                      clear e9
                      exact W.vret hx hb hr (fun t9_ ht hW => ⟨⟨(g49265, g50265, g51265, g52265, g53265, g54265, fr2265, pq2265, s2265, p2265, (vi 82), (vi 84)), rfl, by (try dsimp only); exact ⟨f265_0, f265_1, f265_2, f265_3, Or.inr f265_4, by (have h9 := f265_4.fr); omega⟩, by rw [ht]; exact hP, hD⟩, hS.F ht⟩) hS.2.2 dX12_workFrame_357
                    · have ts_13_9 : ¬ ((kN : Nat) : Int) = 9 := toI_neq s_13_9 (nI_toInt (by omega)) (by decide)
                      by_cases s_13_10 : (nI kN) = 10
                      · have ts_13_10 : ((kN : Nat) : Int) = 10 := toI_eq s_13_10 (nI_toInt (by omega)) (by decide)
                        refine lv_tableIn (off := 258) (tgt := 271) hx hb dX12_workFrame_13 (by rw [s_13_10]; decide) (by rw [s_13_10]; decide) (by rw [s_13_10]; decide) (by decide) ?_
                        obtain ⟨cN, dN, hcT, hdT, hwN9⟩ := hNd.e10 (by omega)
                        refine lv_aload_n hx hb dX12_workFrame_271 rfl (lv_at hl 1 rfl) ?_
                        refine lv_iload_n hx hb dX12_workFrame_272 rfl (lv_at hl 2 rfl) ?_
                        refine lv_iload_n hx hb dX12_workFrame_273 rfl (lv_at hl 0 rfl) ?_
                        have hFc := allFree hD hS hA
                        refine va_callv (va_runV (As := [.int (nI fN), .int (nI nN)]) (rest := []) ⟨hx, hb, hml, hown, hts⟩ (r_X12_workJoined l dC dI a k h0 vi vj vF vG nF V wt dp pd nN kN sN la hN pN rN fN fr cN dN (by first | with_reducible assumption | decide | omega | rfl | assumption) (by first | with_reducible assumption | decide | omega | rfl | assumption) (by first | with_reducible assumption | decide | omega | rfl | assumption) (by first | with_reducible assumption | decide | omega | rfl | assumption) hfr9 (by first | with_reducible assumption | decide | omega | rfl | assumption) (by first | with_reducible assumption | decide | omega | rfl | assumption) ((congrFun hn30 nN).trans hcT.1.1) ((congrFun hn31 nN).trans hdT.1.1) (hcT) (hdT) (hwN9) ((show kN = 10 ∨ kN = 11 by omega)) s.heap.size) (cwV 2 hts gwsRX12_workFrame_6 rfl rfl rfl hd_yX12_workJoined_RX12 (by decide +kernel)) (fz_pre (va_recv hK hP (ci := 12) (q0 := 0) rfl rfl) hP hK hD) rfl rfl hl.1 rfl (lv_room (Nat.le_of_ble_eq_true rfl)) dX12_workFrame_274 (by decide +kernel)) hS (fun q _ h => hFc q h) hFc (fun u t9_ H locs ht hvm hw9 hB9 hz1 hk1 hS => ?_)
                        revert u hw9 hB9
                        refine fz_p3 ?_
                        intro g52274 g53274 fr2274 hw9 hB9
                        try dsimp only at hw9 hB9
                        have hP : va_P (dC, dI) vwCl (WR a k h0 (fT vi 89 (nI fr2274)) vj (fT (fT vF 53 g53274) 52 g52274) vG) H := fz_P ht hB9.1
                        have hD := fz_sd hP (hB9.2.weaken (fun _ q _ h => hFc q.1 h)) rfl
                        have f274_0 := hw9
                        try dsimp only at f274_0
                        have f274_0 : StpO nF V wt dp pd nN kN fN hN rN (vF 52) (vF 53) (vF 54) g52274 g53274 (vF 54) fr2274 pN := f274_0
                        refine lv_goto (tgt := 357) hx hb dX12_workFrame_277 (by decide) ?_
                        refine W.widen (k := 0) (n := 0) (by decide +kernel) (by decide +kernel) ?_
                        have e9 : fT (fT (fT (fT (fT (fT vi 21 (vi 21)) 22 (vi 22)) 82 (vi 82)) 81 (nI pN)) 89 (nI fr2274)) 84 (vi 84) = fT vi 89 (nI fr2274) := Eq.trans (mv_5 rfl) (Eq.trans (id_5 rfl) (Eq.trans (mv_4 rfl) (Eq.trans (id_4 rfl) (Eq.trans (mv_3 rfl) (Eq.trans (id_3 rfl) (Eq.trans (mv_2 rfl) (Eq.trans (congrArg (fT _ 81) (show nI pN = vi 81 from (by first | with_reducible rfl | with_reducible assumption | (symm; with_reducible assumption) | rfl | assumption | (symm; assumption) | (subst_vars; rfl)))) (Eq.trans (id_2 rfl) (id_1 rfl)))))))))
                        have hP := wr_Pi e9 hP
                        have hD := wr_Di e9 hD
                        clear e9
                        have e9 : fT (fT (fT (fT (fT (fT vF 49 (vF 49)) 50 (vF 50)) 54 (vF 54)) 53 g53274) 51 (vF 51)) 52 g52274 = fT (fT vF 53 g53274) 52 g52274 := Eq.trans (mv_5 rfl) (Eq.trans (id_5 rfl) (Eq.trans (mv_4 rfl) (Eq.trans (id_4 rfl) (Eq.trans (mv_3 rfl) (Eq.trans (id_3 rfl) (Eq.trans (mv_1 rfl) (id_2 rfl)))))))
                        have hP := wr_PF e9 hP
                        have hD := wr_DF e9 hD
                        clear e9
                        exact W.vret hx hb hr (fun t9_ ht hW => ⟨⟨((vF 49), (vF 50), (vF 51), g52274, g53274, (vF 54), fr2274, pN, (vi 21), (vi 22), (vi 82), (vi 84)), rfl, by (try dsimp only); exact ⟨hRw, hEn, hst0, Or.inl rfl, Or.inr f274_0, by (have h9 := f274_0.fr); omega⟩, by rw [ht]; exact hP, hD⟩, hS.F ht⟩) hS.2.2 dX12_workFrame_357
                      · have ts_13_10 : ¬ ((kN : Nat) : Int) = 10 := toI_neq s_13_10 (nI_toInt (by omega)) (by decide)
                        by_cases s_13_11 : (nI kN) = 11
                        · have ts_13_11 : ((kN : Nat) : Int) = 11 := toI_eq s_13_11 (nI_toInt (by omega)) (by decide)
                          refine lv_tableIn (off := 258) (tgt := 271) hx hb dX12_workFrame_13 (by rw [s_13_11]; decide) (by rw [s_13_11]; decide) (by rw [s_13_11]; decide) (by decide) ?_
                          obtain ⟨cN, dN, hcT, hdT, hwN9⟩ := hNd.e10 (by omega)
                          refine lv_aload_n hx hb dX12_workFrame_271 rfl (lv_at hl 1 rfl) ?_
                          refine lv_iload_n hx hb dX12_workFrame_272 rfl (lv_at hl 2 rfl) ?_
                          refine lv_iload_n hx hb dX12_workFrame_273 rfl (lv_at hl 0 rfl) ?_
                          have hFc := allFree hD hS hA
                          refine va_callv (va_runV (As := [.int (nI fN), .int (nI nN)]) (rest := []) ⟨hx, hb, hml, hown, hts⟩ (r_X12_workJoined l dC dI a k h0 vi vj vF vG nF V wt dp pd nN kN sN la hN pN rN fN fr cN dN (by first | with_reducible assumption | decide | omega | rfl | assumption) (by first | with_reducible assumption | decide | omega | rfl | assumption) (by first | with_reducible assumption | decide | omega | rfl | assumption) (by first | with_reducible assumption | decide | omega | rfl | assumption) hfr9 (by first | with_reducible assumption | decide | omega | rfl | assumption) (by first | with_reducible assumption | decide | omega | rfl | assumption) ((congrFun hn30 nN).trans hcT.1.1) ((congrFun hn31 nN).trans hdT.1.1) (hcT) (hdT) (hwN9) ((show kN = 10 ∨ kN = 11 by omega)) s.heap.size) (cwV 2 hts gwsRX12_workFrame_6 rfl rfl rfl hd_yX12_workJoined_RX12 (by decide +kernel)) (fz_pre (va_recv hK hP (ci := 12) (q0 := 0) rfl rfl) hP hK hD) rfl rfl hl.1 rfl (lv_room (Nat.le_of_ble_eq_true rfl)) dX12_workFrame_274 (by decide +kernel)) hS (fun q _ h => hFc q h) hFc (fun u t9_ H locs ht hvm hw9 hB9 hz1 hk1 hS => ?_)
                          revert u hw9 hB9
                          refine fz_p3 ?_
                          intro g52274_1 g53274_1 fr2274_1 hw9 hB9
                          try dsimp only at hw9 hB9
                          have hP : va_P (dC, dI) vwCl (WR a k h0 (fT vi 89 (nI fr2274_1)) vj (fT (fT vF 53 g53274_1) 52 g52274_1) vG) H := fz_P ht hB9.1
                          have hD := fz_sd hP (hB9.2.weaken (fun _ q _ h => hFc q.1 h)) rfl
                          have f274_1_0 := hw9
                          try dsimp only at f274_1_0
                          have f274_1_0 : StpO nF V wt dp pd nN kN fN hN rN (vF 52) (vF 53) (vF 54) g52274_1 g53274_1 (vF 54) fr2274_1 pN := f274_1_0
                          refine lv_goto (tgt := 357) hx hb dX12_workFrame_277 (by decide) ?_
                          refine W.widen (k := 0) (n := 0) (by decide +kernel) (by decide +kernel) ?_
                          have e9 : fT (fT (fT (fT (fT (fT vi 21 (vi 21)) 22 (vi 22)) 82 (vi 82)) 81 (nI pN)) 89 (nI fr2274_1)) 84 (vi 84) = fT vi 89 (nI fr2274_1) := Eq.trans (mv_5 rfl) (Eq.trans (id_5 rfl) (Eq.trans (mv_4 rfl) (Eq.trans (id_4 rfl) (Eq.trans (mv_3 rfl) (Eq.trans (id_3 rfl) (Eq.trans (mv_2 rfl) (Eq.trans (congrArg (fT _ 81) (show nI pN = vi 81 from (by first | with_reducible rfl | with_reducible assumption | (symm; with_reducible assumption) | rfl | assumption | (symm; assumption) | (subst_vars; rfl)))) (Eq.trans (id_2 rfl) (id_1 rfl)))))))))
                          have hP := wr_Pi e9 hP
                          have hD := wr_Di e9 hD
                          clear e9
                          have e9 : fT (fT (fT (fT (fT (fT vF 49 (vF 49)) 50 (vF 50)) 54 (vF 54)) 53 g53274_1) 51 (vF 51)) 52 g52274_1 = fT (fT vF 53 g53274_1) 52 g52274_1 := Eq.trans (mv_5 rfl) (Eq.trans (id_5 rfl) (Eq.trans (mv_4 rfl) (Eq.trans (id_4 rfl) (Eq.trans (mv_3 rfl) (Eq.trans (id_3 rfl) (Eq.trans (mv_1 rfl) (id_2 rfl)))))))
                          have hP := wr_PF e9 hP
                          have hD := wr_DF e9 hD
                          clear e9
                          exact W.vret hx hb hr (fun t9_ ht hW => ⟨⟨((vF 49), (vF 50), (vF 51), g52274_1, g53274_1, (vF 54), fr2274_1, pN, (vi 21), (vi 22), (vi 82), (vi 84)), rfl, by (try dsimp only); exact ⟨hRw, hEn, hst0, Or.inl rfl, Or.inr f274_1_0, by (have h9 := f274_1_0.fr); omega⟩, by rw [ht]; exact hP, hD⟩, hS.F ht⟩) hS.2.2 dX12_workFrame_357
                        · have ts_13_11 : ¬ ((kN : Nat) : Int) = 11 := toI_neq s_13_11 (nI_toInt (by omega)) (by decide)
                          by_cases s_13_12 : (nI kN) = 12
                          · have ts_13_12 : ((kN : Nat) : Int) = 12 := toI_eq s_13_12 (nI_toInt (by omega)) (by decide)
                            refine lv_tableIn (off := 267) (tgt := 280) hx hb dX12_workFrame_13 (by rw [s_13_12]; decide) (by rw [s_13_12]; decide) (by rw [s_13_12]; decide) (by decide) ?_
                            obtain ⟨cN, hc12, hwN9⟩ := hNd.e12 (by omega)
                            have hsd := hTo.not (by omega)
                            have hq1 := hc12.2.2.2.1
                            refine lv_aload_n hx hb dX12_workFrame_280 rfl (lv_at hl 1 rfl) ?_
                            refine va_get (D := (dC, dI)) (ci := 12) (v := .ref (a 53)) (C := RX12) (T := TX12) (N := 163) (fs := fM (vS a vi vj)) hx hb hts iwsRX12_workFrame_in12 hown hK hP 0 rfl rfl 86 (by decide) (hts _ hm_r_X12_workFrame_5) (fun _ h9 => h9) rfl dX12_workFrame_281 ?_
                            refine lv_iload_n hx hb dX12_workFrame_284 rfl (lv_at hl 2 rfl) ?_
                            refine lv_dup2_11 hx hb dX12_workFrame_285 rfl rfl ?_
                            refine va_iald (cA := k 53) (n := 4300) (f := (vF 53)) hx hb hK hP 54 53 (WR_get 53 (by decide)) (TR_get 53 (by decide)) (vp_in_nI (show fN < 4300 by omega) (by omega)) dX12_workFrame_286 ?_
                            refine lv_topi (fun y42 hy42 => ?_)
                            obtain rfl : ((vF 53) fN) = y42 := (hy42.trans (by rw [nI_clamp (by omega)])).symm
                            refine lv_topi (fun y43 hy43 => ?_)
                            obtain rfl : (nI sN) = y43 := (hy43.trans (hsN)).symm
                            refine lv_iconst (v := 1) hx hb dX12_workFrame_287 (by decide) ?_
                            refine lv_iadd hx hb dX12_workFrame_288 ?_
                            refine lv_topi (fun y44 hy44 => ?_)
                            obtain rfl : (nI (sN + 1)) = y44 := (hy44.trans (nI_add sN 1)).symm
                            refine va_iast (cA := k 53) (n := 4300) (f := (vF 53)) hx hb hK hP hD hS 54 53 (WR_get 53 (by decide)) (TR_get 53 (by decide)) (vp_in_nI (show fN < 4300 by omega) (by omega)) dX12_workFrame_289 (fun H locs hP hD hS => ?_)
                            have hP : va_P (dC, dI) vwCl (WR a k h0 vi vj (fT vF 53 (upd (vF 53) ((nI fN)).toNatClampNeg (nI (sN + 1)))) vG) H := fz_w (WR_F 53 (by decide) _ rfl) hP
                            have hD : va_D A (WR a k h0 vi vj (fT vF 53 (upd (vF 53) ((nI fN)).toNatClampNeg (nI (sN + 1)))) vG) := fz_wD (WR_F 53 (by decide) _ rfl) hD
                            refine lv_aload_n hx hb dX12_workFrame_290 rfl (lv_at hl 1 rfl) ?_
                            refine va_get (D := (dC, dI)) (ci := 12) (v := .ref (a 53)) (C := RX12) (T := TX12) (N := 163) (fs := fM (vS a vi vj)) hx hb hts iwsRX12_workFrame_in12 hown hK hP 0 rfl rfl 86 (by decide) (hts _ hm_r_X12_workFrame_5) (fun _ h9 => h9) rfl dX12_workFrame_291 ?_
                            refine lv_iload_n hx hb dX12_workFrame_294 rfl (lv_at hl 2 rfl) ?_
                            refine va_iald (cA := k 53) (n := 4300) (f := (upd (vF 53) ((nI fN)).toNatClampNeg (nI (sN + 1)))) hx hb hK hP 54 53 (WR_get 53 (by decide)) (TR_get 53 (by decide)) (vp_in_nI (show fN < 4300 by omega) (by omega)) dX12_workFrame_295 ?_
                            refine lv_topi (fun y45 hy45 => ?_)
                            obtain rfl : ((upd (vF 53) ((nI fN)).toNatClampNeg (nI (sN + 1))) fN) = y45 := (hy45.trans (by rw [nI_clamp (by omega)])).symm
                            refine lv_topi (fun y46 hy46 => ?_)
                            obtain rfl : (nI (sN + 1)) = y46 := (hy46.trans ((by rw [upd_at (by omega), if_pos rfl]))).symm
                            refine lv_iconst (v := 1) hx hb dX12_workFrame_296 (by decide) ?_
                            refine lv_icmp_ne (tgt := 313) hx hb dX12_workFrame_297 (by decide) (fun c_297 => ?_) (fun c_297 => ?_)
                            · have t_297 : (((sN + 1) : Nat) : Int) ≠ 1 := toI_ne c_297 (nI_toInt (by omega)) (by decide)
                              refine lv_aload_n hx hb dX12_workFrame_313 rfl (lv_at hl 1 rfl) ?_
                              refine lv_aload_n hx hb dX12_workFrame_314 rfl (lv_at hl 1 rfl) ?_
                              refine va_get (D := (dC, dI)) (ci := 12) (v := .int (vi 84)) (C := RX12) (T := TX12) (N := 163) (fs := fM (vS a vi vj)) hx hb hts iwsRX12_workFrame_in12 hown hK hP 0 rfl rfl 84 (by decide) (hts _ hm_r_X12_workFrame_6) (fun _ h9 => h9) rfl dX12_workFrame_315 ?_
                              refine W.cut (pc := 326) (fun H locs ls stk => ∃ (tv : Int32), (tv = 0 ∨ tv = 1) ∧  stk = [.int tv, .ref h0] ∧ va_P (dC, dI) vwCl (WR a k h0 vi vj (fT vF 53 (upd (vF 53) ((nI fN)).toNatClampNeg (nI (sN + 1)))) vG) H ∧ va_D A (WR a k h0 vi vj (fT vF 53 (upd (vF 53) ((nI fN)).toNatClampNeg (nI (sN + 1)))) vG) ∧ va_S A s.heap H locs ∧ lv_has ls 4 [(2, .int (nI nN)), (0, .ref h0), (1, .int (nI fN))]) (fun join1 => ?_) ?_
                              · refine lv_if_ne (tgt := 325) hx hb dX12_workFrame_318 (by decide) (fun c_318 => ?_) (fun c_318 => ?_)
                                · have t_318 : ((vi 84)).toInt ≠ 0 := toI_ne c_318 rfl (by decide)
                                  refine lv_iconst (v := 0) hx hb dX12_workFrame_325 (by decide) ?_
                                  have hl : lv_has _ _ ([(2, .int (nI nN)), (0, .ref h0), (1, .int (nI fN))]) := lv_sub hl [0, 1, 2] rfl
                                  exact join1 _ _ _ _ ⟨0, by decide, rfl, hP, hD, hS, hl⟩
                                · have t_318 : ((vi 84)).toInt = 0 := toI_nne c_318 rfl (by decide)
                                  refine lv_iconst (v := 1) hx hb dX12_workFrame_321 (by decide) ?_
                                  refine lv_goto (tgt := 326) hx hb dX12_workFrame_322 (by decide) ?_
                                  have hl : lv_has _ _ ([(2, .int (nI nN)), (0, .ref h0), (1, .int (nI fN))]) := lv_sub hl [0, 1, 2] rfl
                                  exact join1 _ _ _ _ ⟨1, by decide, rfl, hP, hD, hS, hl⟩
                              · rintro H locs ls stk ⟨tv, htv, rfl, hP, hD, hS, hl⟩
                                refine va_put (D := (dC, dI)) (ci := 12) (v := .int tv) (ty := .boolean) (C := RX12) (T := TX12) (N := 163) (fs := fM (vS a vi vj)) hx hb hts iwsRX12_workFrame_in12 tyX12 tyX12_ok nmX12 hown hK hP hD hS 0 rfl rfl 84 (by decide) (hts _ hm_r_X12_workFrame_6) (fun _ h9 => h9) rfl (by decide +kernel) (by rcases htv with h9 | h9 <;> (rw [h9]; rfl)) (by rcases htv with h9 | h9 <;> (rw [h9]; rfl)) (Nat.le_of_ble_eq_true rfl) dX12_workFrame_326 (fun H locs hP hD hS => ?_)
                                have hP : va_P (dC, dI) vwCl (WR a k h0 (fT vi 84 tv) vj (fT vF 53 (upd (vF 53) ((nI fN)).toNatClampNeg (nI (sN + 1)))) vG) H := fz_w (WR_i 84 _ rfl) hP
                                have hD : va_D A (WR a k h0 (fT vi 84 tv) vj (fT vF 53 (upd (vF 53) ((nI fN)).toNatClampNeg (nI (sN + 1)))) vG) := fz_wD (WR_i 84 _ rfl) hD
                                refine lv_aload_n hx hb dX12_workFrame_329 rfl (lv_at hl 1 rfl) ?_
                                refine lv_dup hx hb dX12_workFrame_330 rfl ?_
                                refine va_get (D := (dC, dI)) (ci := 12) (v := .int (vi 89)) (C := RX12) (T := TX12) (N := 163) (fs := fM (vS a (fT vi 84 tv) vj)) hx hb hts iwsRX12_workFrame_in12 hown hK hP 0 rfl rfl 89 (by decide) (hts _ hm_r_X12_workFrame_4) (fun _ h9 => h9) rfl dX12_workFrame_331 ?_
                                refine lv_topi (fun y47 hy47 => ?_)
                                obtain rfl : (nI fr) = y47 := (hy47.trans (hfr9)).symm
                                refine lv_iconst (v := 1) hx hb dX12_workFrame_334 (by decide) ?_
                                refine lv_isub hx hb dX12_workFrame_335 ?_
                                refine lv_topi (fun y48 hy48 => ?_)
                                obtain rfl : (nI (fr - 1)) = y48 := (hy48.trans (pk_sub (a := fr) (b := 1) (by omega))).symm
                                refine va_put (D := (dC, dI)) (ci := 12) (v := .int (nI (fr - 1))) (ty := .int) (C := RX12) (T := TX12) (N := 163) (fs := fM (vS a (fT vi 84 tv) vj)) hx hb hts iwsRX12_workFrame_in12 tyX12 tyX12_ok nmX12 hown hK hP hD hS 0 rfl rfl 89 (by decide) (hts _ hm_r_X12_workFrame_4) (fun _ h9 => h9) rfl (by decide +kernel) rfl rfl (Nat.le_of_ble_eq_true rfl) dX12_workFrame_336 (fun H locs hP hD hS => ?_)
                                have hP : va_P (dC, dI) vwCl (WR a k h0 (fT (fT vi 84 tv) 89 (nI (fr - 1))) vj (fT vF 53 (upd (vF 53) ((nI fN)).toNatClampNeg (nI (sN + 1)))) vG) H := fz_w (WR_i 89 _ rfl) hP
                                have hD : va_D A (WR a k h0 (fT (fT vi 84 tv) 89 (nI (fr - 1))) vj (fT vF 53 (upd (vF 53) ((nI fN)).toNatClampNeg (nI (sN + 1)))) vG) := fz_wD (WR_i 89 _ rfl) hD
                                refine lv_goto (tgt := 357) hx hb dX12_workFrame_339 (by decide) ?_
                                refine W.widen (k := 0) (n := 0) (by decide +kernel) (by decide +kernel) ?_
                                have e9 : fT (fT (fT (fT (fT (fT vi 21 (vi 21)) 22 (vi 22)) 82 (vi 82)) 81 (nI pN)) 89 (nI (fr - 1))) 84 tv = fT (fT vi 84 tv) 89 (nI (fr - 1)) := Eq.trans (mv_5 rfl) (Eq.trans (id_5 rfl) (Eq.trans (mv_4 rfl) (Eq.trans (id_4 rfl) (Eq.trans (mv_3 rfl) (Eq.trans (id_3 rfl) (Eq.trans (mv_2 rfl) (Eq.trans (congrArg (fT _ 81) (show nI pN = vi 81 from (by first | with_reducible rfl | with_reducible assumption | (symm; with_reducible assumption) | rfl | assumption | (symm; assumption) | (subst_vars; rfl)))) (Eq.trans (id_2 rfl) (mv_1 rfl)))))))))
                                have hP := wr_Pi e9 hP
                                have hD := wr_Di e9 hD
                                clear e9
                                have e9 : fT (fT (fT (fT (fT (fT vF 49 (vF 49)) 50 (vF 50)) 54 (vF 54)) 53 (upd (vF 53) ((nI fN)).toNatClampNeg (nI (sN + 1)))) 51 (vF 51)) 52 (vF 52) = fT vF 53 (upd (vF 53) ((nI fN)).toNatClampNeg (nI (sN + 1))) := Eq.trans (mv_5 rfl) (Eq.trans (id_5 rfl) (Eq.trans (mv_4 rfl) (Eq.trans (id_4 rfl) (Eq.trans (mv_3 rfl) (Eq.trans (id_3 rfl) (Eq.trans (mv_1 rfl) (Eq.trans (id_2 rfl) (id_1 rfl))))))))
                                have hP := wr_PF e9 hP
                                have hD := wr_DF e9 hD
                                clear e9
                                exact W.vret hx hb hr (fun t9_ ht hW => ⟨⟨((vF 49), (vF 50), (vF 51), (vF 52), (upd (vF 53) ((nI fN)).toNatClampNeg (nI (sN + 1))), (vF 54), (fr - 1), pN, (vi 21), (vi 22), (vi 82), tv), rfl, by (try dsimp only); exact ⟨hRw, hEn, hst0, Or.inl rfl, Or.inr (StpO.pop hfN hfr1 (fun _ _ => rfl) (by rw [if_neg (by omega)]; omega)), by omega⟩, by rw [ht]; exact hP, hD⟩, hS.F ht⟩) hS.2.2 dX12_workFrame_357
                            · have t_297 : (((sN + 1) : Nat) : Int) = 1 := toI_nne c_297 (nI_toInt (by omega)) (by decide)
                              refine lv_aload_n hx hb dX12_workFrame_300 rfl (lv_at hl 1 rfl) ?_
                              refine lv_aload_n hx hb dX12_workFrame_301 rfl (lv_at hl 1 rfl) ?_
                              refine va_get (D := (dC, dI)) (ci := 12) (v := .ref (a 30)) (C := RX12) (T := TX12) (N := 163) (fs := fM (vS a vi vj)) hx hb hts iwsRX12_workFrame_in12 hown hK hP 0 rfl rfl 54 (by decide) (hts _ hm_r_X12_workFrame_3) (fun _ h9 => h9) rfl dX12_workFrame_302 ?_
                              refine lv_iload_n hx hb dX12_workFrame_305 rfl (lv_at hl 0 rfl) ?_
                              refine va_iald (cA := k 30) (n := 4200) (f := (vF 30)) hx hb hK hP 31 30 (WR_get 30 (by decide)) (TR_get 30 (by decide)) (vp_in_nI (show nN < 4200 by omega) (by omega)) dX12_workFrame_306 ?_
                              refine lv_topi (fun y49 hy49 => ?_)
                              obtain rfl : ((vF 30) nN) = y49 := (hy49.trans (by rw [nI_clamp (by omega)])).symm
                              refine lv_topi (fun y50 hy50 => ?_)
                              obtain rfl : (nI cN) = y50 := (hy50.trans ((congrFun hn30 nN).trans hc12.1.1)).symm
                              have hFc := allFree hD hS hA
                              refine va_callv (va_runV (As := [.int (nI cN)]) (rest := []) ⟨hx, hb, hml, hown, hts⟩ (r_X12_call l dC dI a k h0 vi vj (fT vF 53 (upd (vF 53) ((nI fN)).toNatClampNeg (nI (sN + 1)))) vG (nI cN) fr hfr9 (by first | with_reducible assumption | decide | omega | rfl | assumption) H.size) (cwV 1 hts gwsRX12_workFrame_3 rfl rfl rfl hd_yX12_call_RX12 (by decide +kernel)) (fz_pre (va_recv hK hP (ci := 12) (q0 := 0) rfl rfl) hP hK hD) rfl rfl hl.1 rfl (lv_room (Nat.le_of_ble_eq_true rfl)) dX12_workFrame_307 (by decide +kernel)) hS (fun q _ h => hFc q h) hFc (fun u t9_ H locs ht hvm hw9 hB9 hz1 hk1 hS => ?_)
                              have e9F : fT (fT vF 53 (upd (upd (vF 53) ((nI fN)).toNatClampNeg (nI (sN + 1))) (nI fr).toNatClampNeg 0)) 52 (upd (vF 52) (nI fr).toNatClampNeg (nI cN)) = fT (fT (fT vF 53 (upd (vF 53) ((nI fN)).toNatClampNeg (nI (sN + 1)))) 52 (upd (vF 52) (nI fr).toNatClampNeg (nI cN))) 53 (upd (upd (vF 53) ((nI fN)).toNatClampNeg (nI (sN + 1))) (nI fr).toNatClampNeg 0) := ((fT_sw _ _ _ (Nat.ne_of_beq_eq_false rfl)).trans (congrArg (fun g9 => fT g9 52 (upd (vF 52) (nI fr).toNatClampNeg (nI cN))) (fT_sm _ _ _ _))).symm
                              have hP := wr_PF e9F (fz_P ht hB9.1)
                              have hD := wr_DF e9F (hB9.2.weaken (fun _ q _ h => hFc q.1 h))
                              clear e9F
                              refine lv_goto (tgt := 357) hx hb dX12_workFrame_310 (by decide) ?_
                              refine W.widen (k := 0) (n := 0) (by decide +kernel) (by decide +kernel) ?_
                              have e9 : fT (fT (fT (fT (fT (fT vi 21 (vi 21)) 22 (vi 22)) 82 (vi 82)) 81 (nI pN)) 89 (nI (fr + 1))) 84 (vi 84) = fT vi 89 (nI (fr + 1)) := Eq.trans (mv_5 rfl) (Eq.trans (id_5 rfl) (Eq.trans (mv_4 rfl) (Eq.trans (id_4 rfl) (Eq.trans (mv_3 rfl) (Eq.trans (id_3 rfl) (Eq.trans (mv_2 rfl) (Eq.trans (congrArg (fT _ 81) (show nI pN = vi 81 from (by first | with_reducible rfl | with_reducible assumption | (symm; with_reducible assumption) | rfl | assumption | (symm; assumption) | (subst_vars; rfl)))) (Eq.trans (id_2 rfl) (id_1 rfl)))))))))
                              have hP := wr_Pi e9 hP
                              have hD := wr_Di e9 hD
                              clear e9
                              have e9 : fT (fT (fT (fT (fT (fT vF 49 (vF 49)) 50 (vF 50)) 54 (vF 54)) 53 (upd (upd (vF 53) ((nI fN)).toNatClampNeg (nI (sN + 1))) (nI fr).toNatClampNeg 0)) 51 (vF 51)) 52 (upd (vF 52) (nI fr).toNatClampNeg (nI cN)) = fT (fT vF 53 (upd (upd (vF 53) ((nI fN)).toNatClampNeg (nI (sN + 1))) (nI fr).toNatClampNeg 0)) 52 (upd (vF 52) (nI fr).toNatClampNeg (nI cN)) := Eq.trans (mv_5 rfl) (Eq.trans (id_5 rfl) (Eq.trans (mv_4 rfl) (Eq.trans (id_4 rfl) (Eq.trans (mv_3 rfl) (Eq.trans (id_3 rfl) (Eq.trans (mv_1 rfl) (id_2 rfl)))))))
                              have hP := wr_PF e9 hP
                              have hD := wr_DF e9 hD
                              clear e9
                              exact W.vret hx hb hr (fun t9_ ht hW => ⟨⟨((vF 49), (vF 50), (vF 51), (upd (vF 52) (nI fr).toNatClampNeg (nI cN)), (upd (upd (vF 53) ((nI fN)).toNatClampNeg (nI (sN + 1))) (nI fr).toNatClampNeg 0), (vF 54), (fr + 1), pN, (vi 21), (vi 22), (vi 82), (vi 84)), rfl, by (try dsimp only); exact ⟨hRw, hEn, hst0, Or.inl rfl, Or.inr (by (obtain rfl : sN = 0 := by omega); (obtain rfl : kN = 12 := by omega); (obtain rfl : pN = hN := by omega); exact StpO.push 1 la 1 hfN hfr1 (fun _ _ => rfl) (fun h9 => absurd h9 (by omega)) hc12.2.1 hc12.2.2.1 (by omega) (WtO.t1 hc12.2.2.2.2 (Nat.le_refl _)) (by omega)), by omega⟩, by rw [ht]; exact hP, hD⟩, hS.F ht⟩) hS.2.2 dX12_workFrame_357
                          · have ts_13_12 : ¬ ((kN : Nat) : Int) = 12 := toI_neq s_13_12 (nI_toInt (by omega)) (by decide)
                            by_cases s_13_13 : (nI kN) = 13
                            · have ts_13_13 : ((kN : Nat) : Int) = 13 := toI_eq s_13_13 (nI_toInt (by omega)) (by decide)
                              refine lv_tableIn (off := 329) (tgt := 342) hx hb dX12_workFrame_13 (by rw [s_13_13]; decide) (by rw [s_13_13]; decide) (by rw [s_13_13]; decide) (by decide) ?_
                              obtain ⟨hpd9, cN, dN, hcT, hdT, hwN9⟩ := hNd.e5 (by omega)
                              refine lv_aload_n hx hb dX12_workFrame_342 rfl (lv_at hl 1 rfl) ?_
                              refine lv_iload_n hx hb dX12_workFrame_343 rfl (lv_at hl 2 rfl) ?_
                              refine lv_iload_n hx hb dX12_workFrame_344 rfl (lv_at hl 0 rfl) ?_
                              have hFc := allFree hD hS hA
                              refine va_callv (va_runV (As := [.int (nI fN), .int (nI nN)]) (rest := []) ⟨hx, hb, hml, hown, hts⟩ (r_X12_workCompare l dC dI a k h0 vi vj vF vG nF V wt dp pd nN kN sN la hN pN rN fN fr cN dN (by first | with_reducible assumption | decide | omega | rfl | assumption) (by first | with_reducible assumption | decide | omega | rfl | assumption) (by first | with_reducible assumption | decide | omega | rfl | assumption) (by first | with_reducible assumption | decide | omega | rfl | assumption) hfr9 (by first | with_reducible assumption | decide | omega | rfl | assumption) (by first | with_reducible assumption | decide | omega | rfl | assumption) ((congrFun hn30 nN).trans hcT.1.1) ((congrFun hn31 nN).trans hdT.1.1) (hcT) (hdT) (hwN9) ((show (5 ≤ kN ∧ kN ≤ 8) ∨ kN = 13 by omega)) ((by omega)) hpl (by first | with_reducible assumption | decide | omega | rfl | assumption) ((by omega)) (hpd9) (by first | with_reducible assumption | decide | omega | rfl | assumption) s.heap.size) (cwV 2 hts gwsRX12_workFrame_7 rfl rfl rfl hd_yX12_workCompare_RX12 (by decide +kernel)) (fz_pre (va_recv hK hP (ci := 12) (q0 := 0) rfl rfl) hP hK hD) rfl rfl hl.1 rfl (lv_room (Nat.le_of_ble_eq_true rfl)) dX12_workFrame_345 (by decide +kernel)) hS (fun q _ h => hFc q h) hFc (fun u t9_ H locs ht hvm hw9 hB9 hz1 hk1 hS => ?_)
                              revert u hw9 hB9
                              refine fz_p7 ?_
                              intro g52345 g53345 fr2345 pq2345 s2345 p2345 tv2345 hw9 hB9
                              try dsimp only at hw9 hB9
                              have hP : va_P (dC, dI) vwCl (WR a k h0 (fT (fT (fT (fT (fT vi 21 s2345) 22 p2345) 84 tv2345) 81 (nI pq2345)) 89 (nI fr2345)) vj (fT (fT vF 53 g53345) 52 g52345) vG) H := fz_P ht hB9.1
                              have hD := fz_sd hP (hB9.2.weaken (fun _ q _ h => hFc q.1 h)) rfl
                              revert hw9
                              refine fz_a5 ?_
                              intro f345_0 f345_1 f345_2 f345_3 f345_4
                              have f345_1 : s2345 = (vi 21) ∨ 0 < (s2345).toInt := f345_1
                              have f345_2 : 0 < (s2345).toInt ∨ StpO nF V wt dp pd nN kN fN hN rN (vF 52) (vF 53) (vF 54) g52345 g53345 (vF 54) fr2345 pq2345 := f345_2
                              refine lv_goto (tgt := 357) hx hb dX12_workFrame_348 (by decide) ?_
                              refine W.widen (k := 0) (n := 0) (by decide +kernel) (by decide +kernel) ?_
                              have e9 : fT (fT (fT (fT (fT (fT vi 21 s2345) 22 p2345) 82 (vi 82)) 81 (nI pq2345)) 89 (nI fr2345)) 84 tv2345 = fT (fT (fT (fT (fT vi 21 s2345) 22 p2345) 84 tv2345) 81 (nI pq2345)) 89 (nI fr2345) := Eq.trans (mv_3 rfl) (Eq.trans (id_5 rfl) (Eq.trans (mv_2 rfl) (mv_2 rfl)))
                              have hP := wr_Pi e9 hP
                              have hD := wr_Di e9 hD
                              clear e9
                              have e9 : fT (fT (fT (fT (fT (fT vF 49 (vF 49)) 50 (vF 50)) 54 (vF 54)) 53 g53345) 51 (vF 51)) 52 g52345 = fT (fT vF 53 g53345) 52 g52345 := Eq.trans (mv_5 rfl) (Eq.trans (id_5 rfl) (Eq.trans (mv_4 rfl) (Eq.trans (id_4 rfl) (Eq.trans (mv_3 rfl) (Eq.trans (id_3 rfl) (Eq.trans (mv_1 rfl) (id_2 rfl)))))))
                              have hP := wr_PF e9 hP
                              have hD := wr_DF e9 hD
                              clear e9
                              exact W.vret hx hb hr (fun t9_ ht hW => ⟨⟨((vF 49), (vF 50), (vF 51), g52345, g53345, (vF 54), fr2345, pq2345, s2345, p2345, (vi 82), tv2345), rfl, by (try dsimp only); exact ⟨fun v9 h9 => hRw v9 (by (have h8 := f345_3); omega), hEn, f345_0, f345_1, f345_2, f345_4⟩, by rw [ht]; exact hP, hD⟩, hS.F ht⟩) hS.2.2 dX12_workFrame_357
                            · have ts_13_13 : ¬ ((kN : Nat) : Int) = 13 := toI_neq s_13_13 (nI_toInt (by omega)) (by decide)
                              refine lv_tableOut (tgt := 351) hx hb dX12_workFrame_13 (by have := lv_neT s_13_0 (show Int32.toInt 0 = 0 by decide); have := lv_neT s_13_1 (show Int32.toInt 1 = 1 by decide); have := lv_neT s_13_2 (show Int32.toInt 2 = 2 by decide); have := lv_neT s_13_3 (show Int32.toInt 3 = 3 by decide); have := lv_neT s_13_4 (show Int32.toInt 4 = 4 by decide); have := lv_neT s_13_5 (show Int32.toInt 5 = 5 by decide); have := lv_neT s_13_6 (show Int32.toInt 6 = 6 by decide); have := lv_neT s_13_7 (show Int32.toInt 7 = 7 by decide); have := lv_neT s_13_8 (show Int32.toInt 8 = 8 by decide); have := lv_neT s_13_9 (show Int32.toInt 9 = 9 by decide); have := lv_neT s_13_10 (show Int32.toInt 10 = 10 by decide); have := lv_neT s_13_11 (show Int32.toInt 11 = 11 by decide); have := lv_neT s_13_12 (show Int32.toInt 12 = 12 by decide); have := lv_neT s_13_13 (show Int32.toInt 13 = 13 by decide); omega) (by decide) ?_
                              obtain ⟨hpd9, cN, dN, hcT, hdT, hwN9⟩ := hNd.e5 (by omega)
                              refine lv_aload_n hx hb dX12_workFrame_351 rfl (lv_at hl 1 rfl) ?_
                              refine lv_iload_n hx hb dX12_workFrame_352 rfl (lv_at hl 2 rfl) ?_
                              refine lv_iload_n hx hb dX12_workFrame_353 rfl (lv_at hl 0 rfl) ?_
                              have hFc := allFree hD hS hA
                              refine va_callv (va_runV (As := [.int (nI fN), .int (nI nN)]) (rest := []) ⟨hx, hb, hml, hown, hts⟩ (r_X12_workPair l dC dI a k h0 vi vj vF vG nF V wt dp pd nN kN sN la hN pN rN fN fr cN dN (by first | with_reducible assumption | decide | omega | rfl | assumption) (by first | with_reducible assumption | decide | omega | rfl | assumption) (by first | with_reducible assumption | decide | omega | rfl | assumption) (by first | with_reducible assumption | decide | omega | rfl | assumption) hfr9 (by first | with_reducible assumption | decide | omega | rfl | assumption) (by first | with_reducible assumption | decide | omega | rfl | assumption) ((congrFun hn30 nN).trans hcT.1.1) ((congrFun hn31 nN).trans hdT.1.1) (hcT) (hdT) (hwN9) ((show (5 ≤ kN ∧ kN ≤ 8) ∨ kN = 13 by omega)) ((by omega)) hpl (by first | with_reducible assumption | decide | omega | rfl | assumption) ((by omega)) (hpd9) (by first | with_reducible assumption | decide | omega | rfl | assumption) s.heap.size) (cwV 2 hts gwsRX12_workFrame_4 rfl rfl rfl hd_yX12_workPair_RX12 (by decide +kernel)) (fz_pre (va_recv hK hP (ci := 12) (q0 := 0) rfl rfl) hP hK hD) rfl rfl hl.1 rfl (lv_room (Nat.le_of_ble_eq_true rfl)) dX12_workFrame_354 (by decide +kernel)) hS (fun q _ h => hFc q h) hFc (fun u t9_ H locs ht hvm hw9 hB9 hz1 hk1 hS => ?_)
                              revert u hw9 hB9
                              refine fz_p9 ?_
                              intro g49354_4 g50354_4 g52354_4 g53354_4 fr2354_4 pq2354_4 s2354_4 p2354_4 sp2354_4 hw9 hB9
                              try dsimp only at hw9 hB9
                              have hP : va_P (dC, dI) vwCl (WR a k h0 (fT (fT (fT (fT (fT vi 21 s2354_4) 22 p2354_4) 81 (nI pq2354_4)) 89 (nI fr2354_4)) 82 sp2354_4) vj (fT (fT (fT (fT vF 53 g53354_4) 49 g49354_4) 50 g50354_4) 52 g52354_4) vG) H := fz_P ht hB9.1
                              have hD := fz_sd hP (hB9.2.weaken (fun _ q _ h => hFc q.1 h)) rfl
                              revert hw9
                              refine fz_a4 ?_
                              intro f354_4_0 f354_4_1 f354_4_2 f354_4_3
                              have f354_4_2 : s2354_4 = (vi 21) ∨ 0 < (s2354_4).toInt := f354_4_2
                              have f354_4_3 : StpO nF V wt dp pd nN kN fN hN rN (vF 52) (vF 53) (vF 54) g52354_4 g53354_4 (vF 54) fr2354_4 pq2354_4 := f354_4_3
                              refine W.widen (k := 0) (n := 0) (by decide +kernel) (by decide +kernel) ?_
                              have e9 : fT (fT (fT (fT (fT (fT vi 21 s2354_4) 22 p2354_4) 82 sp2354_4) 81 (nI pq2354_4)) 89 (nI fr2354_4)) 84 (vi 84) = fT (fT (fT (fT (fT vi 21 s2354_4) 22 p2354_4) 81 (nI pq2354_4)) 89 (nI fr2354_4)) 82 sp2354_4 := Eq.trans (id_5 rfl) (Eq.trans (mv_1 rfl) (Eq.trans (mv_1 rfl) (mv_2 rfl)))
                              have hP := wr_Pi e9 hP
                              have hD := wr_Di e9 hD
                              clear e9
                              have e9 : fT (fT (fT (fT (fT (fT vF 49 g49354_4) 50 g50354_4) 54 (vF 54)) 53 g53354_4) 51 (vF 51)) 52 g52354_4 = fT (fT (fT (fT vF 53 g53354_4) 49 g49354_4) 50 g50354_4) 52 g52354_4 := Eq.trans (mv_3 rfl) (Eq.trans (id_5 rfl) (Eq.trans (mv_1 rfl) (Eq.trans (id_4 rfl) (Eq.trans (mv_1 rfl) (Eq.trans (mv_3 rfl) (Eq.trans (mv_3 rfl) (mv_3 rfl)))))))
                              have hP := wr_PF e9 hP
                              have hD := wr_DF e9 hD
                              clear e9
                              exact W.vret hx hb hr (fun t9_ ht hW => ⟨⟨(g49354_4, g50354_4, (vF 51), g52354_4, g53354_4, (vF 54), fr2354_4, pq2354_4, s2354_4, p2354_4, sp2354_4, (vi 84)), rfl, by (try dsimp only); exact ⟨f354_4_0, hEn, f354_4_1, f354_4_2, Or.inr f354_4_3, by (have h9 := f354_4_3.fr); omega⟩, by rw [ht]; exact hP, hD⟩, hS.F ht⟩) hS.2.2 dX12_workFrame_357
end
section
theorem hd_yX12_workFrame_RX12 : yX12_workFrame.cls = RX12 ∧ yX12_workFrame.cls ≠ "java/lang/invoke/MethodHandle" ∧ yX12_workFrame.cls ≠ "java/lang/invoke/VarHandle" ∧ (parseMethodDescriptor yX12_workFrame.desc).map (fun d => d.parameters.length) = some 1 := by decide +kernel
theorem dX12_work_0 : decode cX12_work 0 = .ok (.aload_n 0, 1) := dk_42 (by decide +kernel)
theorem dX12_work_1 : decode cX12_work 1 = .ok (.iconst 0, 1) := dk_3 (by decide +kernel)
theorem dX12_work_2 : decode cX12_work 2 = .ok (.putfield 647, 3) := dk_181 (by decide +kernel)
theorem dX12_work_5 : decode cX12_work 5 = .ok (.aload_n 0, 1) := dk_42 (by decide +kernel)
theorem dX12_work_6 : decode cX12_work 6 = .ok (.iload_n 1, 1) := dk_27 (by decide +kernel)
theorem dX12_work_7 : decode cX12_work 7 = .ok (.invokevirtual 650, 3) := dk_182 (by decide +kernel)
theorem dX12_work_10 : decode cX12_work 10 = .ok (.aload_n 0, 1) := dk_42 (by decide +kernel)
theorem dX12_work_11 : decode cX12_work 11 = .ok (.getfield 647, 3) := dk_180 (by decide +kernel)
theorem dX12_work_14 : decode cX12_work 14 = .ok (.ifCond .le 23, 3) := dk_158 (by decide +kernel)
theorem dX12_work_17 : decode cX12_work 17 = .ok (.aload_n 0, 1) := dk_42 (by decide +kernel)
theorem dX12_work_18 : decode cX12_work 18 = .ok (.getfield 515, 3) := dk_180 (by decide +kernel)
theorem dX12_work_21 : decode cX12_work 21 = .ok (.ifCond .ne 16, 3) := dk_154 (by decide +kernel)
theorem dX12_work_24 : decode cX12_work 24 = .ok (.aload_n 0, 1) := dk_42 (by decide +kernel)
theorem dX12_work_25 : decode cX12_work 25 = .ok (.aload_n 0, 1) := dk_42 (by decide +kernel)
theorem dX12_work_26 : decode cX12_work 26 = .ok (.getfield 647, 3) := dk_180 (by decide +kernel)
theorem dX12_work_29 : decode cX12_work 29 = .ok (.iconst 1, 1) := dk_4 (by decide +kernel)
theorem dX12_work_30 : decode cX12_work 30 = .ok (.isub, 1) := dk_100 (by decide +kernel)
theorem dX12_work_31 : decode cX12_work 31 = .ok (.invokevirtual 653, 3) := dk_182 (by decide +kernel)
theorem dX12_work_34 : decode cX12_work 34 = .ok (.goto (-24), 3) := dk_167 (by decide +kernel)
theorem dX12_work_37 : decode cX12_work 37 = .ok (.return_, 1) := dk_177 (by decide +kernel)
def wsRX12_work : List Cond := .code yX12_work cX12_work 2 none :: ([.fieldLink RX12 647 "OptimaWorksModel" "framed" "I", .fieldLink RX12 515 "OptimaWorksModel" "stop" "I"] ++ wsX120 ++ (wsV RX12 650 RX12 yX12_call wsRX12_call) ++ (wsV RX12 653 RX12 yX12_workFrame wsRX12_workFrame))
theorem iwsRX12_work_in12 : ∀ w ∈ wsX120, w ∈ wsRX12_work := fun _ h => List.mem_cons_of_mem _ (List.mem_append_left _ (List.mem_append_left _ (List.mem_append_right _ h)))
theorem gwsRX12_work_0 : GoodIn wsRX12_work (wsV RX12 650 RX12 yX12_call wsRX12_call) := goodIn_sub (fun _ h => List.mem_cons_of_mem _ (List.mem_append_left _ (List.mem_append_right _ h))) (gdV (by decide +kernel) gdwsRX12_call)
theorem gwsRX12_work_1 : GoodIn wsRX12_work (wsV RX12 653 RX12 yX12_workFrame wsRX12_workFrame) := goodIn_sub (fun _ h => List.mem_cons_of_mem _ (List.mem_append_right _ h)) (gdV (by decide +kernel) gdwsRX12_workFrame)
theorem gdwsRX12_work : wsRX12_work.all goodWord = true := gdC rfl (gdA (gdA (gdA (by decide +kernel : ([.fieldLink RX12 647 "OptimaWorksModel" "framed" "I", .fieldLink RX12 515 "OptimaWorksModel" "stop" "I"] : List Cond).all goodWord = true) gdwsX120) (gdV (by decide +kernel) gdwsRX12_call)) (gdV (by decide +kernel) gdwsRX12_workFrame))
theorem hm_r_X12_work_0 : (.fieldLink RX12 647 "OptimaWorksModel" "framed" "I" : Cond) ∈ wsRX12_work := by decide +kernel
set_option maxHeartbeats 4000000 in
set_option maxRecDepth 100000 in
/-- work(n) -/
theorem r_X12_work (l : Launch) (dC : Nat → ClassId) (dI : Nat → Nat → Nat) (a : Nat → Nat) (k : Nat → ClassId) (h0 : Nat) (vi : Nat → Int32) (vj : Nat → Int64) (vF : Nat → Nat → Int32) (vG : Nat → Nat → Int64) (nF : Nat → Nat → Int32) (V : Nat → Prop) (wt : Nat → Nat) (dp : Nat → Nat) (pd : Nat → Nat) (nN : Nat) (hN : Nat) (se : Nat) (hse44 : se ≤ 44) (hSe : SeO (vF 16) (vF 17) se) (hVo : VoK nF V wt dp pd se) (hVn : V nN) (hdp : dp nN ≤ 4200) (hpp : hN + pd nN ≤ 80) (hn17 : vF 17 = nF 17) (hn18 : vF 18 = nF 18) (hn19 : vF 19 = nF 19) (hn20 : vF 20 = nF 20) (hn21 : vF 21 = nF 21) (hn24 : vF 24 = nF 24) (hn25 : vF 25 = nF 25) (hn26 : vF 26 = nF 26) (hn27 : vF 27 = nF 27) (hn29 : vF 29 = nF 29) (hn30 : vF 30 = nF 30) (hn31 : vF 31 = nF 31) (hn32 : vF 32 = nF 32) (hn36 : vF 36 = nF 36) (hn37 : vF 37 = nF 37) (hn38 : vF 38 = nF 38) (hEn : EnO (vF 51)) (hPt : PtO (vF 22) (vF 23) (nuF nF)) (hpl : vi 81 = nI hN) (hRw : ∀ v9, v9 < hN → RowU (vF 49) (vF 50) v9) (hst0 : 0 ≤ (vi 21).toInt) (hst1 : (vi 21).toInt ≤ 0) (sz : Nat) : Met l yX12_work wsRX12_work ({ frames := 5, cells := 0, slots := 0, locals := 141 }) (va_Pc [.ref h0, .int (nI nN)] (fun U => U.heap.size = sz ∧ va_P (dC, dI) vwCl (WR a k h0 vi vj vF vG) U.heap ∧ va_K (dC, dI) vwCl (tX12 k) U ∧ va_D (fun _ => True) (WR a k h0 vi vj vF vG))) (va_Qv (fun (u : (Nat → Int32) × (Nat → Int32) × (Nat → Int32) × (Nat → Int32) × (Nat → Int32) × (Nat → Int32) × (Nat) × (Nat) × (Int32) × (Int32) × (Int32) × (Int32)) => (∀ v9, v9 < (u.2.2.2.2.2.2.2.1) → RowU (u.1) (u.2.1) v9) ∧ (EnO (u.2.2.1)) ∧ (0 ≤ ((u.2.2.2.2.2.2.2.2.1)).toInt) ∧ (0 < ((u.2.2.2.2.2.2.2.2.1)).toInt ∨ ((u.2.2.2.2.2.2.2.1) = hN + 1 ∧ (nF 29 nN).toInt ≤ 9) ∨ ((u.2.2.2.2.2.2.2.1) = hN ∧ ¬ (nF 29 nN).toInt ≤ 9))) (fun (u : (Nat → Int32) × (Nat → Int32) × (Nat → Int32) × (Nat → Int32) × (Nat → Int32) × (Nat → Int32) × (Nat) × (Nat) × (Int32) × (Int32) × (Int32) × (Int32)) t => va_P (dC, dI) vwCl (WR a k h0 (fT (fT (fT (fT (fT (fT vi 89 (nI (u.2.2.2.2.2.2.1))) 81 (nI (u.2.2.2.2.2.2.2.1))) 21 (u.2.2.2.2.2.2.2.2.1)) 22 (u.2.2.2.2.2.2.2.2.2.1)) 82 (u.2.2.2.2.2.2.2.2.2.2.1)) 84 (u.2.2.2.2.2.2.2.2.2.2.2)) vj (fT (fT (fT (fT (fT (fT vF 52 (u.2.2.2.1)) 53 (u.2.2.2.2.1)) 49 (u.1)) 50 (u.2.1)) 51 (u.2.2.1)) 54 (u.2.2.2.2.2.1)) vG) t.heap ∧ va_D (va_A (WR a k h0 vi vj vF vG) sz) (WR a k h0 (fT (fT (fT (fT (fT (fT vi 89 (nI (u.2.2.2.2.2.2.1))) 81 (nI (u.2.2.2.2.2.2.2.1))) 21 (u.2.2.2.2.2.2.2.2.1)) 22 (u.2.2.2.2.2.2.2.2.2.1)) 82 (u.2.2.2.2.2.2.2.2.2.2.1)) 84 (u.2.2.2.2.2.2.2.2.2.2.2)) vj (fT (fT (fT (fT (fT (fT vF 52 (u.2.2.2.1)) 53 (u.2.2.2.2.1)) 49 (u.1)) 50 (u.2.1)) 51 (u.2.2.1)) 54 (u.2.2.2.2.2.1)) vG)) (va_A (WR a k h0 vi vj vF vG) sz)) 0 0 (va_A (WR a k h0 vi vj vF vG) sz) := by
  refine Met.ofW (cc := cX12_work) (maxL := 2) (ret := none) (by decide) rfl ?_
  intro p e s m args below meth c s₁ B hml hv
  obtain ⟨rfl, hsz, hP, hK, hD0⟩ := hv
  have hx := B.exec
  have hb := B.bytes
  have hr := B.returns
  have hts := atoms_spec (ws := wsRX12_work) B.pre
  have hown : s.vm.findClass RX12 = some m.cls := findClass_of_methodNamed B.named
  have hlocks := B.notSynchronized
  subst hsz
  have hD := hD0.self (sz := s.heap.size)
  generalize hAe : va_A (WR a k h0 vi vj vF vG) s.heap.size = A at hD ⊢
  have hA : ∀ q : Nat, s.heap.size ≤ q → A q := fun q h => by rw [← hAe]; exact Or.inr h
  have hS : va_S A s.heap s.heap [] := va_S.rf
  have hl := lv_entry ([.ref h0, .int (nI nN)]) (n := 2) (Nat.le_of_ble_eq_true rfl)
  rw [lg_entry_eq]
  generalize (lg_sl ([.ref h0, .int (nI nN)]) ++ List.replicate (2 - (lg_sl ([.ref h0, .int (nI nN)])).length) Slot.unset).toArray = ls at hl ⊢
  have hl : lv_has ls 2 [(0, .ref h0), (1, .int (nI nN))] := hl
  refine lv_aload_n hx hb dX12_work_0 rfl (lv_at hl 0 rfl) ?_
  refine lv_iconst (v := 0) hx hb dX12_work_1 (by decide) ?_
  refine va_put (D := (dC, dI)) (ci := 12) (v := .int 0) (ty := .int) (C := RX12) (T := TX12) (N := 163) (fs := fM (vS a vi vj)) hx hb hts iwsRX12_work_in12 tyX12 tyX12_ok nmX12 hown hK hP hD hS 0 rfl rfl 89 (by decide) (hts _ hm_r_X12_work_0) (fun _ h9 => h9) rfl (by decide +kernel) rfl rfl (Nat.le_of_ble_eq_true rfl) dX12_work_2 (fun H locs hP hD hS => ?_)
  have hP : va_P (dC, dI) vwCl (WR a k h0 (fT vi 89 0) vj vF vG) H := fz_w (WR_i 89 _ rfl) hP
  have hD : va_D A (WR a k h0 (fT vi 89 0) vj vF vG) := fz_wD (WR_i 89 _ rfl) hD
  refine lv_aload_n hx hb dX12_work_5 rfl (lv_at hl 0 rfl) ?_
  refine lv_iload_n hx hb dX12_work_6 rfl (lv_at hl 1 rfl) ?_
  have hFc := allFree hD hS hA
  refine va_callv (va_runV (As := [.int (nI nN)]) (rest := []) ⟨hx, hb, hml, hown, hts⟩ (r_X12_call l dC dI a k h0 (fT vi 89 0) vj vF vG (nI nN) 0 (nI_0.symm) ((by decide)) H.size) (cwV 1 hts gwsRX12_work_0 rfl rfl rfl hd_yX12_call_RX12 (by decide +kernel)) (fz_pre (va_recv hK hP (ci := 12) (q0 := 0) rfl rfl) hP hK hD) rfl rfl hl.1 rfl (lv_room (Nat.le_of_ble_eq_true rfl)) dX12_work_7 (by decide +kernel)) hS (fun q _ h => hFc q h) hFc (fun u t9_ H locs ht hvm hw9 hB9 hz1 hk1 hS => ?_)
  have e9i : fT vi 89 (nI (0 + 1)) = fT (fT vi 89 0) 89 (nI (0 + 1)) := (fT_sm _ _ _ _).symm
  have hP := wr_Pi e9i (fz_P ht hB9.1)
  have hD := wr_Di e9i (hB9.2.weaken (fun _ q _ h => hFc q.1 h))
  clear e9i
  have e9 : fT (fT (fT (fT (fT (fT vi 89 (nI (0 + 1))) 81 (nI hN)) 21 (vi 21)) 22 (vi 22)) 82 (vi 82)) 84 (vi 84) = fT vi 89 (nI (0 + 1)) := Eq.trans (mv_4 rfl) (Eq.trans (congrArg (fT _ 81) (show nI hN = vi 81 from (by first | with_reducible rfl | with_reducible assumption | (symm; with_reducible assumption) | rfl | assumption | (symm; assumption) | (subst_vars; rfl)))) (Eq.trans (id_5 rfl) (Eq.trans (mv_3 rfl) (Eq.trans (id_4 rfl) (Eq.trans (mv_2 rfl) (Eq.trans (id_3 rfl) (Eq.trans (mv_1 rfl) (Eq.trans (id_2 rfl) (id_1 rfl)))))))))
  have hP := wr_Pi e9 hP
  have hD := wr_Di e9 hD
  clear e9
  have e9 : fT (fT (fT (fT (fT (fT vF 52 (upd (vF 52) (nI 0).toNatClampNeg (nI nN))) 53 (upd (vF 53) (nI 0).toNatClampNeg 0)) 49 (vF 49)) 50 (vF 50)) 51 (vF 51)) 54 (vF 54) = fT (fT vF 52 (upd (vF 52) (nI 0).toNatClampNeg (nI nN))) 53 (upd (vF 53) (nI 0).toNatClampNeg 0) := Eq.trans (mv_3 rfl) (Eq.trans (id_5 rfl) (Eq.trans (mv_2 rfl) (Eq.trans (id_4 rfl) (Eq.trans (mv_1 rfl) (Eq.trans (id_3 rfl) (id_2 rfl))))))
  have hP := wr_PF e9 hP
  have hD := wr_DF e9 hD
  clear e9
  have hl : lv_has _ _ ([(0, .ref h0), (1, .int (nI nN))]) := lv_sub hl [0, 1] rfl
  refine (fun (loop : ∀ (n9 : Nat) (fr5 : Nat) (pq : Nat) (mQ : Nat) (f49x : Nat → Int32) (f50x : Nat → Int32) (f51x : Nat → Int32) (f52x : Nat → Int32) (f53x : Nat → Int32) (f54x : Nat → Int32) (st5 : Int32) (pl5 : Int32) (sp5 : Int32) (tv5 : Int32) (H : Heap) (locs : List Loc) (ls : Array Slot), (fr5 ≤ 4300) → (∀ v9, v9 < pq → RowU f49x f50x v9) → (EnO f51x) → (0 ≤ (st5).toInt) → (0 < (st5).toInt ∨ FrsO nF V wt dp pd f52x f53x f54x 4200 hN nN fr5 pq mQ) →  (mQ < n9) → va_P (dC, dI) vwCl (WR a k h0 (fT (fT (fT (fT (fT (fT vi 89 (nI fr5)) 81 (nI pq)) 21 st5) 22 pl5) 82 sp5) 84 tv5) vj (fT (fT (fT (fT (fT (fT vF 52 f52x) 53 f53x) 49 f49x) 50 f50x) 51 f51x) 54 f54x) vG) H → va_D A (WR a k h0 (fT (fT (fT (fT (fT (fT vi 89 (nI fr5)) 81 (nI pq)) 21 st5) 22 pl5) 82 sp5) 84 tv5) vj (fT (fT (fT (fT (fT (fT vF 52 f52x) 53 f53x) 49 f49x) 50 f50x) 51 f51x) 54 f54x) vG) → va_S A s.heap H locs → lv_has ls 2 [(0, .ref h0), (1, .int (nI nN))] → W p l e _ s m _ below meth c H locs 0 0 _ (F0 m 10 ls [])) => loop ((2 * wt nN + 2)) (0 + 1) hN (2 * wt nN + 1) (vF 49) (vF 50) (vF 51) (upd (vF 52) (nI 0).toNatClampNeg (nI nN)) (upd (vF 53) (nI 0).toNatClampNeg 0) (vF 54) (vi 21) (vi 22) (vi 82) (vi 84) _ _ _ (by omega) (hRw) (hEn) (hst0) (Or.inr (FrsO.first hVo hVn (by rw [upd_at (by omega), if_pos rfl]) (by rw [upd_at (by omega), if_pos rfl]) (by omega) hpp)) (by omega) hP hD hS hl) ?_
  intro n9
  induction n9 with
  | zero => intro fr5 pq mQ f49x f50x f51x f52x f53x f54x st5 pl5 sp5 tv5 H locs ls hfr5 hrx hEx hs50 hfs hf9; exact False.elim (by omega)
  | succ n9 ih10 =>
    intro fr5 pq mQ f49x f50x f51x f52x f53x f54x st5 pl5 sp5 tv5 H locs ls hfr5 hrx hEx hs50 hfs hf10 hP hD hS hl
    refine lv_aload_n hx hb dX12_work_10 rfl (lv_at hl 0 rfl) ?_
    refine va_get (D := (dC, dI)) (ci := 12) (v := .int (nI fr5)) (C := RX12) (T := TX12) (N := 163) (fs := fM (vS a (fT (fT (fT (fT (fT (fT vi 89 (nI fr5)) 81 (nI pq)) 21 st5) 22 pl5) 82 sp5) 84 tv5) vj)) hx hb hts iwsRX12_work_in12 hown hK hP 0 rfl rfl 89 (by decide) (hts _ hm_r_X12_work_0) (fun _ h9 => h9) rfl dX12_work_11 ?_
    refine lv_if_le (tgt := 37) hx hb dX12_work_14 (by decide) (fun c_14 => ?_) (fun c_14 => ?_)
    · have t_14 : ((fr5 : Nat) : Int) ≤ 0 := toI_le c_14 (nI_toInt (by omega)) (by decide)
      refine W.widen (k := 0) (n := 0) (by decide +kernel) (by decide +kernel) ?_
      exact W.vret hx hb hr (fun t9_ ht hW => ⟨⟨(f49x, f50x, f51x, f52x, f53x, f54x, fr5, pq, st5, pl5, sp5, tv5), rfl, by (try dsimp only); exact ⟨hrx, hEx, hs50, by (by_cases h9 : 0 < (st5).toInt); (exact Or.inl h9); (exact Or.inr ((hfs.resolve_left h9).done (by omega)))⟩, by rw [ht]; exact hP, hD⟩, hS.F ht⟩) hS.2.2 dX12_work_37
    · have t_14 : ¬ ((fr5 : Nat) : Int) ≤ 0 := toI_nle c_14 (nI_toInt (by omega)) (by decide)
      refine lv_aload_n hx hb dX12_work_17 rfl (lv_at hl 0 rfl) ?_
      refine va_get (D := (dC, dI)) (ci := 12) (v := .int st5) (C := RX12) (T := TX12) (N := 163) (fs := fM (vS a (fT (fT (fT (fT (fT (fT vi 89 (nI fr5)) 81 (nI pq)) 21 st5) 22 pl5) 82 sp5) 84 tv5) vj)) hx hb hts iwsRX12_work_in12 hown hK hP 0 rfl rfl 21 (by decide) (hts (.fieldLink RX12 515 "OptimaWorksModel" "stop" "I") (by decide +kernel)) (fun _ h9 => h9) rfl dX12_work_18 ?_
      refine lv_if_ne (tgt := 37) hx hb dX12_work_21 (by decide) (fun c_21 => ?_) (fun c_21 => ?_)
      · have t_21 : (st5).toInt ≠ 0 := toI_ne c_21 rfl (by decide)
        refine W.widen (k := 0) (n := 0) (by decide +kernel) (by decide +kernel) ?_
        exact W.vret hx hb hr (fun t9_ ht hW => ⟨⟨(f49x, f50x, f51x, f52x, f53x, f54x, fr5, pq, st5, pl5, sp5, tv5), rfl, by (try dsimp only); exact ⟨hrx, hEx, hs50, by (by_cases h9 : 0 < (st5).toInt); (exact Or.inl h9); (exact Or.inr ((hfs.resolve_left h9).done (by omega)))⟩, by rw [ht]; exact hP, hD⟩, hS.F ht⟩) hS.2.2 dX12_work_37
      · have t_21 : (st5).toInt = 0 := toI_nne c_21 rfl (by decide)
        obtain ⟨fN, n1, k1, s1, la1, h1, r1, R1, hf1, ⟨hv1, hk1a, hk1b⟩, ⟨h52a, h53a, h54a⟩, hTo1, hBe1, ⟨hD1a, hD1b⟩, hm1⟩ := (hfs.resolve_left (by omega)).top (by omega)
        obtain rfl : fN = fr5 - 1 := by omega
        obtain ⟨hn4, k2, hk2, hNd1⟩ := hVo n1 hv1
        obtain rfl : k1 = k2 := nIinj (by omega) (by (have h9 := hNd1.k13); omega) (hk1a.symm.trans hk2)
        refine lv_aload_n hx hb dX12_work_24 rfl (lv_at hl 0 rfl) ?_
        refine lv_aload_n hx hb dX12_work_25 rfl (lv_at hl 0 rfl) ?_
        refine va_get (D := (dC, dI)) (ci := 12) (v := .int (nI fr5)) (C := RX12) (T := TX12) (N := 163) (fs := fM (vS a (fT (fT (fT (fT (fT (fT vi 89 (nI fr5)) 81 (nI pq)) 21 st5) 22 pl5) 82 sp5) 84 tv5) vj)) hx hb hts iwsRX12_work_in12 hown hK hP 0 rfl rfl 89 (by decide) (hts _ hm_r_X12_work_0) (fun _ h9 => h9) rfl dX12_work_26 ?_
        refine lv_iconst (v := 1) hx hb dX12_work_29 (by decide) ?_
        refine lv_isub hx hb dX12_work_30 ?_
        refine lv_topi (fun y1 hy1 => ?_)
        obtain rfl : (nI (fr5 - 1)) = y1 := (hy1.trans (pk_sub (a := fr5) (b := 1) (by omega))).symm
        have hFc := allFree hD hS hA
        refine va_callv (va_runV (As := [.int (nI (fr5 - 1))]) (rest := []) ⟨hx, hb, hml, hown, hts⟩ (r_X12_workFrame l dC dI a k h0 (fT (fT (fT (fT (fT (fT vi 89 (nI fr5)) 81 (nI pq)) 21 st5) 22 pl5) 82 sp5) 84 tv5) vj (fT (fT (fT (fT (fT (fT vF 52 f52x) 53 f53x) 49 f49x) 50 f50x) 51 f51x) 54 f54x) vG nF V wt dp pd n1 k1 s1 la1 h1 pq r1 (fr5 - 1) fr5 se (hn4) ((by omega)) ((congrFun hn29 _).trans hk1a) (h53a) (rfl) (hf1) (hTo1) (by first | with_reducible assumption | decide | omega | rfl | assumption) (by first | with_reducible assumption | decide | omega | rfl | assumption) (h52a) (by first | with_reducible assumption | decide | omega | rfl | assumption) (by first | with_reducible assumption | decide | omega | rfl | assumption) (by first | with_reducible assumption | decide | omega | rfl | assumption) (by first | with_reducible assumption | decide | omega | rfl | assumption) (by first | with_reducible assumption | decide | omega | rfl | assumption) (by first | with_reducible assumption | decide | omega | rfl | assumption) (by first | with_reducible assumption | decide | omega | rfl | assumption) (by first | with_reducible assumption | decide | omega | rfl | assumption) (by first | with_reducible assumption | decide | omega | rfl | assumption) (by first | with_reducible assumption | decide | omega | rfl | assumption) (by first | with_reducible assumption | decide | omega | rfl | assumption) (by first | with_reducible assumption | decide | omega | rfl | assumption) (by first | with_reducible assumption | decide | omega | rfl | assumption) (by first | with_reducible assumption | decide | omega | rfl | assumption) (by first | with_reducible assumption | decide | omega | rfl | assumption) (by first | with_reducible assumption | decide | omega | rfl | assumption) (hNd1) (hEx) (by first | with_reducible assumption | decide | omega | rfl | assumption) (h54a) (rfl) (hrx) (hD1b) (hs50) ((show (st5).toInt ≤ 0 by rw [c_21]; decide)) H.size) (cwV 1 hts gwsRX12_work_1 rfl rfl rfl hd_yX12_workFrame_RX12 (by decide +kernel)) (fz_pre (va_recv hK hP (ci := 12) (q0 := 0) rfl rfl) hP hK hD) rfl rfl hl.1 rfl (lv_room (Nat.le_of_ble_eq_true rfl)) dX12_work_31 (by decide +kernel)) hS (fun q _ h => hFc q h) hFc (fun u t9_ H locs ht hvm hw9 hB9 hz1 hk1 hS => ?_)
        revert u hw9 hB9
        refine fz_p12 ?_
        intro g4931 g5031 g5131 g5231 g5331 g5431 fr231 pq231 s231 p231 sp231 tv231 hw9 hB9
        try dsimp only at hw9 hB9
        have e9i : fT (fT (fT (fT (fT (fT vi 89 (nI fr231)) 81 (nI pq231)) 21 s231) 22 p231) 82 sp231) 84 tv231 = fT (fT (fT (fT (fT (fT (fT (fT (fT (fT (fT (fT vi 89 (nI fr5)) 81 (nI pq)) 21 st5) 22 pl5) 82 sp5) 84 tv5) 21 s231) 22 p231) 82 sp231) 81 (nI pq231)) 89 (nI fr231)) 84 tv231 := Eq.symm (Eq.trans (congrArg (fun g9 => fT g9 84 tv231) (Eq.trans (congrArg (fun g9 => fT g9 89 (nI fr231)) (Eq.trans (congrArg (fun g9 => fT g9 81 (nI pq231)) (Eq.trans (congrArg (fun g9 => fT g9 82 sp231) (Eq.trans (congrArg (fun g9 => fT g9 22 p231) (up_3 rfl)) (up_2 rfl))) (up_1 rfl))) (up_4 rfl))) (up_5 rfl))) (up_0 rfl))
        have e9F : fT (fT (fT (fT (fT (fT vF 52 g5231) 53 g5331) 49 g4931) 50 g5031) 51 g5131) 54 g5431 = fT (fT (fT (fT (fT (fT (fT (fT (fT (fT (fT (fT vF 52 f52x) 53 f53x) 49 f49x) 50 f50x) 51 f51x) 54 f54x) 49 g4931) 50 g5031) 54 g5431) 53 g5331) 51 g5131) 52 g5231 := Eq.symm (Eq.trans (congrArg (fun g9 => fT g9 52 g5231) (Eq.trans (congrArg (fun g9 => fT g9 51 g5131) (Eq.trans (congrArg (fun g9 => fT g9 53 g5331) (Eq.trans (congrArg (fun g9 => fT g9 54 g5431) (Eq.trans (congrArg (fun g9 => fT g9 50 g5031) (up_3 rfl)) (up_2 rfl))) (up_0 rfl))) (up_4 rfl))) (up_1 rfl))) (up_5 rfl))
        have hP := wr_PF e9F (wr_Pi e9i (fz_P ht hB9.1))
        have hD := wr_DF e9F (wr_Di e9i (hB9.2.weaken (fun _ q _ h => hFc q.1 h)))
        clear e9i e9F
        revert hw9
        refine fz_a6 ?_
        intro f31_0 f31_1 f31_2 f31_3 f31_4 f31_5
        have f31_3 : s231 = st5 ∨ 0 < (s231).toInt := f31_3
        have f31_4 : 0 < (s231).toInt ∨ StpO nF V wt dp pd n1 k1 (fr5 - 1) h1 r1 f52x f53x f54x g5231 g5331 g5431 fr231 pq231 := f31_4
        refine lv_goto (tgt := 10) hx hb dX12_work_34 (by decide) ?_
        have hl : lv_has _ _ ([(0, .ref h0), (1, .int (nI nN))]) := lv_sub hl [0, 1] rfl
        exact ih10 fr231 pq231 (mQ - 1) g4931 g5031 g5131 g5231 g5331 g5431 s231 p231 sp231 tv231 _ _ _ (by omega) (f31_0) (f31_1) (f31_2) (f31_4.imp id (fun h9 => FrsO.step hVo hv1 hk1a hk1b h52a hBe1 hD1a hD1b hm1 h9)) (by omega) hP hD hS hl
end

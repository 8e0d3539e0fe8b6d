theorem hd_yX12_sameText_RX12 : yX12_sameText.cls = RX12 ∧ yX12_sameText.cls ≠ "java/lang/invoke/MethodHandle" ∧ yX12_sameText.cls ≠ "java/lang/invoke/VarHandle" ∧ (parseMethodDescriptor yX12_sameText.desc).map (fun d => d.parameters.length) = some 4 := by decide +kernel
theorem hd_yX12_binder_RX12 : yX12_binder.cls = RX12 ∧ yX12_binder.cls ≠ "java/lang/invoke/MethodHandle" ∧ yX12_binder.cls ≠ "java/lang/invoke/VarHandle" ∧ (parseMethodDescriptor yX12_binder.desc).map (fun d => d.parameters.length) = some 0 := by decide +kernel
theorem hd_yX12_needKey_RX12 : yX12_needKey.cls = RX12 ∧ yX12_needKey.cls ≠ "java/lang/invoke/MethodHandle" ∧ yX12_needKey.cls ≠ "java/lang/invoke/VarHandle" ∧ (parseMethodDescriptor yX12_needKey.desc).map (fun d => d.parameters.length) = some 1 := by decide +kernel
theorem hd_yX12_readSet_RX12 : yX12_readSet.cls = RX12 ∧ yX12_readSet.cls ≠ "java/lang/invoke/MethodHandle" ∧ yX12_readSet.cls ≠ "java/lang/invoke/VarHandle" ∧ (parseMethodDescriptor yX12_readSet.desc).map (fun d => d.parameters.length) = some 0 := by decide +kernel
theorem hd_yX12_readBinder_RX12 : yX12_readBinder.cls = RX12 ∧ yX12_readBinder.cls ≠ "java/lang/invoke/MethodHandle" ∧ yX12_readBinder.cls ≠ "java/lang/invoke/VarHandle" ∧ (parseMethodDescriptor yX12_readBinder.desc).map (fun d => d.parameters.length) = some 0 := by decide +kernel
theorem hd_yX12_hasVariables_RX12 : yX12_hasVariables.cls = RX12 ∧ yX12_hasVariables.cls ≠ "java/lang/invoke/MethodHandle" ∧ yX12_hasVariables.cls ≠ "java/lang/invoke/VarHandle" ∧ (parseMethodDescriptor yX12_hasVariables.desc).map (fun d => d.parameters.length) = some 1 := by decide +kernel
theorem dX12_readBinder_0 : decode cX12_readBinder 0 = .ok (.aload_n 0, 1) := dk_42 (by decide +kernel)
theorem dX12_readBinder_1 : decode cX12_readBinder 1 = .ok (.getfield 494, 3) := dk_180 (by decide +kernel)
theorem dX12_readBinder_4 : decode cX12_readBinder 4 = .ok (.iconst 1, 1) := dk_4 (by decide +kernel)
theorem dX12_readBinder_5 : decode cX12_readBinder 5 = .ok (.if_icmp .eq 9, 3) := dk_159 (by decide +kernel)
theorem dX12_readBinder_8 : decode cX12_readBinder 8 = .ok (.aload_n 0, 1) := dk_42 (by decide +kernel)
theorem dX12_readBinder_9 : decode cX12_readBinder 9 = .ok (.invokevirtual 527, 3) := dk_182 (by decide +kernel)
theorem dX12_readBinder_12 : decode cX12_readBinder 12 = .ok (.iconst 0, 1) := dk_3 (by decide +kernel)
theorem dX12_readBinder_13 : decode cX12_readBinder 13 = .ok (.ireturn, 1) := dk_172 (by decide +kernel)
theorem dX12_readBinder_14 : decode cX12_readBinder 14 = .ok (.aload_n 0, 1) := dk_42 (by decide +kernel)
theorem dX12_readBinder_15 : decode cX12_readBinder 15 = .ok (.getfield 68, 3) := dk_180 (by decide +kernel)
theorem dX12_readBinder_18 : decode cX12_readBinder 18 = .ok (.iconst (-1), 1) := dk_2 (by decide +kernel)
theorem dX12_readBinder_19 : decode cX12_readBinder 19 = .ok (.if_icmp .eq 35, 3) := dk_159 (by decide +kernel)
theorem dX12_readBinder_22 : decode cX12_readBinder 22 = .ok (.aload_n 0, 1) := dk_42 (by decide +kernel)
theorem dX12_readBinder_23 : decode cX12_readBinder 23 = .ok (.aload_n 0, 1) := dk_42 (by decide +kernel)
theorem dX12_readBinder_24 : decode cX12_readBinder 24 = .ok (.getfield 68, 3) := dk_180 (by decide +kernel)
theorem dX12_readBinder_27 : decode cX12_readBinder 27 = .ok (.aload_n 0, 1) := dk_42 (by decide +kernel)
theorem dX12_readBinder_28 : decode cX12_readBinder 28 = .ok (.getfield 552, 3) := dk_180 (by decide +kernel)
theorem dX12_readBinder_31 : decode cX12_readBinder 31 = .ok (.aload_n 0, 1) := dk_42 (by decide +kernel)
theorem dX12_readBinder_32 : decode cX12_readBinder 32 = .ok (.getfield 488, 3) := dk_180 (by decide +kernel)
theorem dX12_readBinder_35 : decode cX12_readBinder 35 = .ok (.aload_n 0, 1) := dk_42 (by decide +kernel)
theorem dX12_readBinder_36 : decode cX12_readBinder 36 = .ok (.getfield 485, 3) := dk_180 (by decide +kernel)
theorem dX12_readBinder_39 : decode cX12_readBinder 39 = .ok (.aload_n 0, 1) := dk_42 (by decide +kernel)
theorem dX12_readBinder_40 : decode cX12_readBinder 40 = .ok (.getfield 488, 3) := dk_180 (by decide +kernel)
theorem dX12_readBinder_43 : decode cX12_readBinder 43 = .ok (.isub, 1) := dk_100 (by decide +kernel)
theorem dX12_readBinder_44 : decode cX12_readBinder 44 = .ok (.invokevirtual 536, 3) := dk_182 (by decide +kernel)
theorem dX12_readBinder_47 : decode cX12_readBinder 47 = .ok (.ifCond .eq 7, 3) := dk_153 (by decide +kernel)
theorem dX12_readBinder_50 : decode cX12_readBinder 50 = .ok (.iconst 1, 1) := dk_4 (by decide +kernel)
theorem dX12_readBinder_51 : decode cX12_readBinder 51 = .ok (.goto 4, 3) := dk_167 (by decide +kernel)
theorem dX12_readBinder_54 : decode cX12_readBinder 54 = .ok (.iconst 0, 1) := dk_3 (by decide +kernel)
theorem dX12_readBinder_55 : decode cX12_readBinder 55 = .ok (.istore_n 1, 1) := dk_60 (by decide +kernel)
theorem dX12_readBinder_56 : decode cX12_readBinder 56 = .ok (.aload_n 0, 1) := dk_42 (by decide +kernel)
theorem dX12_readBinder_57 : decode cX12_readBinder 57 = .ok (.invokevirtual 555, 3) := dk_182 (by decide +kernel)
theorem dX12_readBinder_60 : decode cX12_readBinder 60 = .ok (.iconst (-1), 1) := dk_2 (by decide +kernel)
theorem dX12_readBinder_61 : decode cX12_readBinder 61 = .ok (.if_icmp .ne 15, 3) := dk_160 (by decide +kernel)
theorem dX12_readBinder_64 : decode cX12_readBinder 64 = .ok (.iload_n 1, 1) := dk_27 (by decide +kernel)
theorem dX12_readBinder_65 : decode cX12_readBinder 65 = .ok (.ifCond .ne 11, 3) := dk_154 (by decide +kernel)
theorem dX12_readBinder_68 : decode cX12_readBinder 68 = .ok (.aload_n 0, 1) := dk_42 (by decide +kernel)
theorem dX12_readBinder_69 : decode cX12_readBinder 69 = .ok (.invokevirtual 558, 3) := dk_182 (by decide +kernel)
theorem dX12_readBinder_72 : decode cX12_readBinder 72 = .ok (.iconst (-1), 1) := dk_2 (by decide +kernel)
theorem dX12_readBinder_73 : decode cX12_readBinder 73 = .ok (.if_icmp .eq 13, 3) := dk_159 (by decide +kernel)
theorem dX12_readBinder_76 : decode cX12_readBinder 76 = .ok (.aload_n 0, 1) := dk_42 (by decide +kernel)
theorem dX12_readBinder_77 : decode cX12_readBinder 77 = .ok (.bipush 10, 2) := dk_16 (by decide +kernel)
theorem dX12_readBinder_79 : decode cX12_readBinder 79 = .ok (.aload_n 0, 1) := dk_42 (by decide +kernel)
theorem dX12_readBinder_80 : decode cX12_readBinder 80 = .ok (.getfield 488, 3) := dk_180 (by decide +kernel)
theorem dX12_readBinder_83 : decode cX12_readBinder 83 = .ok (.invokevirtual 518, 3) := dk_182 (by decide +kernel)
theorem dX12_readBinder_86 : decode cX12_readBinder 86 = .ok (.aload_n 0, 1) := dk_42 (by decide +kernel)
theorem dX12_readBinder_87 : decode cX12_readBinder 87 = .ok (.getfield 515, 3) := dk_180 (by decide +kernel)
theorem dX12_readBinder_90 : decode cX12_readBinder 90 = .ok (.ifCond .le 5, 3) := dk_158 (by decide +kernel)
theorem dX12_readBinder_93 : decode cX12_readBinder 93 = .ok (.iconst 0, 1) := dk_3 (by decide +kernel)
theorem dX12_readBinder_94 : decode cX12_readBinder 94 = .ok (.ireturn, 1) := dk_172 (by decide +kernel)
theorem dX12_readBinder_95 : decode cX12_readBinder 95 = .ok (.aload_n 0, 1) := dk_42 (by decide +kernel)
theorem dX12_readBinder_96 : decode cX12_readBinder 96 = .ok (.getfield 488, 3) := dk_180 (by decide +kernel)
theorem dX12_readBinder_99 : decode cX12_readBinder 99 = .ok (.istore_n 2, 1) := dk_61 (by decide +kernel)
theorem dX12_readBinder_100 : decode cX12_readBinder 100 = .ok (.aload_n 0, 1) := dk_42 (by decide +kernel)
theorem dX12_readBinder_101 : decode cX12_readBinder 101 = .ok (.getfield 485, 3) := dk_180 (by decide +kernel)
theorem dX12_readBinder_104 : decode cX12_readBinder 104 = .ok (.aload_n 0, 1) := dk_42 (by decide +kernel)
theorem dX12_readBinder_105 : decode cX12_readBinder 105 = .ok (.getfield 488, 3) := dk_180 (by decide +kernel)
theorem dX12_readBinder_108 : decode cX12_readBinder 108 = .ok (.isub, 1) := dk_100 (by decide +kernel)
theorem dX12_readBinder_109 : decode cX12_readBinder 109 = .ok (.istore_n 3, 1) := dk_62 (by decide +kernel)
theorem dX12_readBinder_110 : decode cX12_readBinder 110 = .ok (.aload_n 0, 1) := dk_42 (by decide +kernel)
theorem dX12_readBinder_111 : decode cX12_readBinder 111 = .ok (.invokevirtual 524, 3) := dk_182 (by decide +kernel)
theorem dX12_readBinder_114 : decode cX12_readBinder 114 = .ok (.aload_n 0, 1) := dk_42 (by decide +kernel)
theorem dX12_readBinder_115 : decode cX12_readBinder 115 = .ok (.bipush 11, 2) := dk_16 (by decide +kernel)
theorem dX12_readBinder_117 : decode cX12_readBinder 117 = .ok (.invokevirtual 561, 3) := dk_182 (by decide +kernel)
theorem dX12_readBinder_120 : decode cX12_readBinder 120 = .ok (.ifCond .ne 5, 3) := dk_154 (by decide +kernel)
theorem dX12_readBinder_123 : decode cX12_readBinder 123 = .ok (.iconst 0, 1) := dk_3 (by decide +kernel)
theorem dX12_readBinder_124 : decode cX12_readBinder 124 = .ok (.ireturn, 1) := dk_172 (by decide +kernel)
theorem dX12_readBinder_125 : decode cX12_readBinder 125 = .ok (.aload_n 0, 1) := dk_42 (by decide +kernel)
theorem dX12_readBinder_126 : decode cX12_readBinder 126 = .ok (.invokevirtual 564, 3) := dk_182 (by decide +kernel)
theorem dX12_readBinder_129 : decode cX12_readBinder 129 = .ok (.istore 4, 2) := dk_54 (by decide +kernel)
theorem dX12_readBinder_131 : decode cX12_readBinder 131 = .ok (.aload_n 0, 1) := dk_42 (by decide +kernel)
theorem dX12_readBinder_132 : decode cX12_readBinder 132 = .ok (.getfield 62, 3) := dk_180 (by decide +kernel)
theorem dX12_readBinder_135 : decode cX12_readBinder 135 = .ok (.aload_n 0, 1) := dk_42 (by decide +kernel)
theorem dX12_readBinder_136 : decode cX12_readBinder 136 = .ok (.getfield 540, 3) := dk_180 (by decide +kernel)
theorem dX12_readBinder_139 : decode cX12_readBinder 139 = .ok (.iload_n 2, 1) := dk_28 (by decide +kernel)
theorem dX12_readBinder_140 : decode cX12_readBinder 140 = .ok (.iastore, 1) := dk_79 (by decide +kernel)
theorem dX12_readBinder_141 : decode cX12_readBinder 141 = .ok (.aload_n 0, 1) := dk_42 (by decide +kernel)
theorem dX12_readBinder_142 : decode cX12_readBinder 142 = .ok (.getfield 65, 3) := dk_180 (by decide +kernel)
theorem dX12_readBinder_145 : decode cX12_readBinder 145 = .ok (.aload_n 0, 1) := dk_42 (by decide +kernel)
theorem dX12_readBinder_146 : decode cX12_readBinder 146 = .ok (.getfield 540, 3) := dk_180 (by decide +kernel)
theorem dX12_readBinder_149 : decode cX12_readBinder 149 = .ok (.iload_n 3, 1) := dk_29 (by decide +kernel)
theorem dX12_readBinder_150 : decode cX12_readBinder 150 = .ok (.iastore, 1) := dk_79 (by decide +kernel)
theorem dX12_readBinder_151 : decode cX12_readBinder 151 = .ok (.aload_n 0, 1) := dk_42 (by decide +kernel)
theorem dX12_readBinder_152 : decode cX12_readBinder 152 = .ok (.dup, 1) := dk_89 (by decide +kernel)
theorem dX12_readBinder_153 : decode cX12_readBinder 153 = .ok (.getfield 540, 3) := dk_180 (by decide +kernel)
theorem dX12_readBinder_156 : decode cX12_readBinder 156 = .ok (.iconst 1, 1) := dk_4 (by decide +kernel)
theorem dX12_readBinder_157 : decode cX12_readBinder 157 = .ok (.iadd, 1) := dk_96 (by decide +kernel)
theorem dX12_readBinder_158 : decode cX12_readBinder 158 = .ok (.putfield 540, 3) := dk_181 (by decide +kernel)
theorem dX12_readBinder_161 : decode cX12_readBinder 161 = .ok (.iload 4, 2) := dk_21 (by decide +kernel)
theorem dX12_readBinder_163 : decode cX12_readBinder 163 = .ok (.ireturn, 1) := dk_172 (by decide +kernel)
def wsRX12_readBinder : List Cond := .code yX12_readBinder cX12_readBinder 5 (some .int) :: ([.fieldLink RX12 494 "OptimaWorksModel" "word" "I", .fieldLink RX12 68 "OptimaWorksModel" "ownFrom" "I", .fieldLink RX12 552 "OptimaWorksModel" "ownLong" "I", .fieldLink RX12 488 "OptimaWorksModel" "from" "I", .fieldLink RX12 485 "OptimaWorksModel" "at0" "I", .fieldLink RX12 515 "OptimaWorksModel" "stop" "I", .fieldLink RX12 62 "OptimaWorksModel" "binderFrom" "[I", .fieldLink RX12 540 "OptimaWorksModel" "binders" "I", .fieldLink RX12 65 "OptimaWorksModel" "binderLong" "[I"] ++ wsX120 ++ (wsV RX12 536 RX12 yX12_sameText wsRX12_sameText) ++ (wsV RX12 555 RX12 yX12_declared wsRX12_declared) ++ (wsV RX12 518 RX12 yX12_faultAt wsRX12_faultAt) ++ (wsV RX12 558 RX12 yX12_binder wsRX12_binder) ++ (wsV RX12 524 RX12 yX12_next wsRX12_next) ++ (wsV RX12 561 RX12 yX12_needKey wsRX12_needKey) ++ (wsV RX12 564 RX12 yX12_readSet wsRX12_readSet) ++ (wsV RX12 527 RX12 yX12_wrong wsRX12_wrong))
theorem iwsRX12_readBinder_in12 : ∀ w ∈ wsX120, w ∈ wsRX12_readBinder := fun _ h => List.mem_cons_of_mem _ (List.mem_append_left _ (List.mem_append_left _ (List.mem_append_left _ (List.mem_append_left _ (List.mem_append_left _ (List.mem_append_left _ (List.mem_append_left _ (List.mem_append_left _ (List.mem_append_right _ h)))))))))
theorem gwsRX12_readBinder_0 : GoodIn wsRX12_readBinder (wsV RX12 536 RX12 yX12_sameText wsRX12_sameText) := goodIn_sub (fun _ h => List.mem_cons_of_mem _ (List.mem_append_left _ (List.mem_append_left _ (List.mem_append_left _ (List.mem_append_left _ (List.mem_append_left _ (List.mem_append_left _ (List.mem_append_left _ (List.mem_append_right _ h))))))))) (gdV (by decide +kernel) gdwsRX12_sameText)
theorem gwsRX12_readBinder_1 : GoodIn wsRX12_readBinder (wsV RX12 555 RX12 yX12_declared wsRX12_declared) := goodIn_sub (fun _ h => List.mem_cons_of_mem _ (List.mem_append_left _ (List.mem_append_left _ (List.mem_append_left _ (List.mem_append_left _ (List.mem_append_left _ (List.mem_append_left _ (List.mem_append_right _ h)))))))) (gdV (by decide +kernel) gdwsRX12_declared)
theorem gwsRX12_readBinder_2 : GoodIn wsRX12_readBinder (wsV RX12 518 RX12 yX12_faultAt wsRX12_faultAt) := goodIn_sub (fun _ h => List.mem_cons_of_mem _ (List.mem_append_left _ (List.mem_append_left _ (List.mem_append_left _ (List.mem_append_left _ (List.mem_append_left _ (List.mem_append_right _ h))))))) (gdV (by decide +kernel) gdwsRX12_faultAt)
theorem gwsRX12_readBinder_3 : GoodIn wsRX12_readBinder (wsV RX12 558 RX12 yX12_binder wsRX12_binder) := goodIn_sub (fun _ h => List.mem_cons_of_mem _ (List.mem_append_left _ (List.mem_append_left _ (List.mem_append_left _ (List.mem_append_left _ (List.mem_append_right _ h)))))) (gdV (by decide +kernel) gdwsRX12_binder)
theorem gwsRX12_readBinder_4 : GoodIn wsRX12_readBinder (wsV RX12 524 RX12 yX12_next wsRX12_next) := goodIn_sub (fun _ h => List.mem_cons_of_mem _ (List.mem_append_left _ (List.mem_append_left _ (List.mem_append_left _ (List.mem_append_right _ h))))) (gdV (by decide +kernel) gdwsRX12_next)
theorem gwsRX12_readBinder_5 : GoodIn wsRX12_readBinder (wsV RX12 561 RX12 yX12_needKey wsRX12_needKey) := goodIn_sub (fun _ h => List.mem_cons_of_mem _ (List.mem_append_left _ (List.mem_append_left _ (List.mem_append_right _ h)))) (gdV (by decide +kernel) gdwsRX12_needKey)
theorem gwsRX12_readBinder_6 : GoodIn wsRX12_readBinder (wsV RX12 564 RX12 yX12_readSet wsRX12_readSet) := goodIn_sub (fun _ h => List.mem_cons_of_mem _ (List.mem_append_left _ (List.mem_append_right _ h))) (gdV (by decide +kernel) gdwsRX12_readSet)
theorem gwsRX12_readBinder_7 : GoodIn wsRX12_readBinder (wsV RX12 527 RX12 yX12_wrong wsRX12_wrong) := goodIn_sub (fun _ h => List.mem_cons_of_mem _ (List.mem_append_right _ h)) (gdV (by decide +kernel) gdwsRX12_wrong)
theorem gdwsRX12_readBinder : wsRX12_readBinder.all goodWord = true := gdC rfl (gdA (gdA (gdA (gdA (gdA (gdA (gdA (gdA (gdA (by decide +kernel : ([.fieldLink RX12 494 "OptimaWorksModel" "word" "I", .fieldLink RX12 68 "OptimaWorksModel" "ownFrom" "I", .fieldLink RX12 552 "OptimaWorksModel" "ownLong" "I", .fieldLink RX12 488 "OptimaWorksModel" "from" "I", .fieldLink RX12 485 "OptimaWorksModel" "at0" "I", .fieldLink RX12 515 "OptimaWorksModel" "stop" "I", .fieldLink RX12 62 "OptimaWorksModel" "binderFrom" "[I", .fieldLink RX12 540 "OptimaWorksModel" "binders" "I", .fieldLink RX12 65 "OptimaWorksModel" "binderLong" "[I"] : List Cond).all goodWord = true) gdwsX120) (gdV (by decide +kernel) gdwsRX12_sameText)) (gdV (by decide +kernel) gdwsRX12_declared)) (gdV (by decide +kernel) gdwsRX12_faultAt)) (gdV (by decide +kernel) gdwsRX12_binder)) (gdV (by decide +kernel) gdwsRX12_next)) (gdV (by decide +kernel) gdwsRX12_needKey)) (gdV (by decide +kernel) gdwsRX12_readSet)) (gdV (by decide +kernel) gdwsRX12_wrong))
set_option maxHeartbeats 4000000 in
set_option maxRecDepth 100000 in
/-- readBinder() -/
theorem r_X12_readBinder (l : Launch) (dC : Nat → ClassId) (dI : Nat → Nat → Nat) (a : Nat → Nat) (k : Nat → ClassId) (h0 : Nat) (vi : Nat → Int32) (vj : Nat → Int64) (vF : Nat → Nat → Int32) (vG : Nat → Nat → Int64) (tp : Nat) (an : Nat) (fn : Nat) (nm : Nat) (se : Nat) (pa : Nat) (va : Nat) (bd : Nat) (hTp : vi 16 = nI tp) (htp : tp ≤ 4000) (ha0 : vi 17 = nI an) (hfr : vi 19 = nI fn) (hLx : LxO tp fn an (vi 18) (vi 20)) (hst0 : 0 ≤ (vi 21).toInt) (hnm : vi 25 = nI nm) (hnm40 : nm ≤ 40) (hno : NmO (vF 11) (vF 12) nm) (hNk : NkO (vF 10) (vF 13) nm se pa va) (hbd : vi 30 = nI bd) (hbd58 : bd ≤ 57) (hbo : NmO (vF 14) (vF 15) 60) (hOw : OwO (vi 33) (vi 34)) (sz : Nat) : Met l yX12_readBinder wsRX12_readBinder ({ frames := 9, cells := 0, slots := 0, locals := 194 }) (va_Pc [.ref h0] (fun U => U.heap.size = sz ∧ va_P (dC, dI) vwCl (WR a k h0 vi vj vF vG) U.heap ∧ va_K (dC, dI) vwCl (tX12 k) U ∧ va_D (fun _ => True) (WR a k h0 vi vj vF vG) ∧ StrA (va_A (WR a k h0 vi vj vF vG) sz) U U.heap)) (va_Qi (fun (r : Int32) (u : (Nat) × (Nat) × (Int32) × (Int32) × (Int32) × (Int32) × (Nat) × (Nat → Int32) × (Nat → Int32)) => (LxO tp (u.2.1) (u.1) (u.2.2.2.1) (u.2.2.1)) ∧ (fn ≤ (u.2.1)) ∧ (0 ≤ ((u.2.2.2.2.1)).toInt) ∧ ((u.2.2.2.2.2.2.1) ≤ bd + 1 ∧ bd ≤ (u.2.2.2.2.2.2.1)) ∧ (NmO (u.2.2.2.2.2.2.2.1) (u.2.2.2.2.2.2.2.2) 60) ∧ ((0 < ((u.2.2.2.2.1)).toInt) ∨ ((u.2.2.2.2.1) = 0 ∧ fn + 2 < (u.2.1) ∧ (u.2.2.2.2.2.2.1) = bd + 1 ∧ ∃ o, o < se ∧ (r) = nI o))) (fun (u : (Nat) × (Nat) × (Int32) × (Int32) × (Int32) × (Int32) × (Nat) × (Nat → Int32) × (Nat → Int32)) t => va_P (dC, dI) vwCl (WR a k h0 (fT (fT (fT (fT (fT (fT (fT vi 21 (u.2.2.2.2.1)) 22 (u.2.2.2.2.2.1)) 17 (nI (u.1))) 19 (nI (u.2.1))) 20 (u.2.2.1)) 18 (u.2.2.2.1)) 30 (nI (u.2.2.2.2.2.2.1))) vj (fT (fT vF 14 (u.2.2.2.2.2.2.2.1)) 15 (u.2.2.2.2.2.2.2.2)) vG) t.heap ∧ va_D (va_A (WR a k h0 vi vj vF vG) sz) (WR a k h0 (fT (fT (fT (fT (fT (fT (fT vi 21 (u.2.2.2.2.1)) 22 (u.2.2.2.2.2.1)) 17 (nI (u.1))) 19 (nI (u.2.1))) 20 (u.2.2.1)) 18 (u.2.2.2.1)) 30 (nI (u.2.2.2.2.2.2.1))) vj (fT (fT vF 14 (u.2.2.2.2.2.2.2.1)) 15 (u.2.2.2.2.2.2.2.2)) vG)) (va_A (WR a k h0 vi vj vF vG) sz)) 0 0 (va_A (WR a k h0 vi vj vF vG) sz) := by
  refine Met.ofW (cc := cX12_readBinder) (maxL := 5) (ret := (some .int)) (by decide) rfl ?_
  intro p e s m args below meth c s₁ B hml hv
  obtain ⟨rfl, hsz, hP, hK, hD0, hE⟩ := hv
  have hx := B.exec
  have hb := B.bytes
  have hr := B.returns
  have hts := atoms_spec (ws := wsRX12_readBinder) B.pre
  have hown : s.vm.findClass RX12 = some m.cls := findClass_of_methodNamed B.named
  have hlocks := B.notSynchronized
  subst hsz
  have hD := hD0.self (sz := s.heap.size)
  generalize hAe : va_A (WR a k h0 vi vj vF vG) s.heap.size = A at hD hE ⊢
  have hA : ∀ q : Nat, s.heap.size ≤ q → A q := fun q h => by rw [← hAe]; exact Or.inr h
  have hS : va_S A s.heap s.heap [] := va_S.rf
  have hl := lv_entry ([.ref h0]) (n := 5) (Nat.le_of_ble_eq_true rfl)
  rw [lg_entry_eq]
  generalize (lg_sl ([.ref h0]) ++ List.replicate (5 - (lg_sl ([.ref h0])).length) Slot.unset).toArray = ls at hl ⊢
  have hl : lv_has ls 5 [(0, .ref h0)] := hl
  have hfa := hLx.1
  have han := hLx.2.1
  have han4 : an ≤ 4000 := by omega
  refine lv_aload_n hx hb dX12_readBinder_0 rfl (lv_at hl 0 rfl) ?_
  refine va_get (D := (dC, dI)) (ci := 12) (v := .int (vi 18)) (C := RX12) (T := TX12) (N := 163) (fs := fM (vS a vi vj)) hx hb hts iwsRX12_readBinder_in12 hown hK hP 0 rfl rfl 18 (by decide) (hts (.fieldLink RX12 494 "OptimaWorksModel" "word" "I") (by decide +kernel)) (fun _ h9 => h9) rfl dX12_readBinder_1 ?_
  refine lv_iconst (v := 1) hx hb dX12_readBinder_4 (by decide) ?_
  refine lv_icmp_eq (tgt := 14) hx hb dX12_readBinder_5 (by decide) (fun c_5 => ?_) (fun c_5 => ?_)
  · have t_5 : ((vi 18)).toInt = 1 := toI_eq c_5 rfl (by decide)
    refine lv_aload_n hx hb dX12_readBinder_14 rfl (lv_at hl 0 rfl) ?_
    refine va_get (D := (dC, dI)) (ci := 12) (v := .int (vi 33)) (C := RX12) (T := TX12) (N := 163) (fs := fM (vS a vi vj)) hx hb hts iwsRX12_readBinder_in12 hown hK hP 0 rfl rfl 33 (by decide) (hts (.fieldLink RX12 68 "OptimaWorksModel" "ownFrom" "I") (by decide +kernel)) (fun _ h9 => h9) rfl dX12_readBinder_15 ?_
    refine lv_iconst (v := (-1)) hx hb dX12_readBinder_18 (by decide) ?_
    refine W.cut (pc := 55) (fun H locs ls stk => ∃ (j1_s0 : Int32),  stk = [.int j1_s0] ∧ va_P (dC, dI) vwCl (WR a k h0 vi vj vF vG) H ∧ va_D A (WR a k h0 vi vj vF vG) ∧ va_S A s.heap H locs ∧ lv_has ls 5 [(0, .ref h0)]) (fun join1 => ?_) ?_
    · refine lv_icmp_eq (tgt := 54) hx hb dX12_readBinder_19 (by decide) (fun c_19 => ?_) (fun c_19 => ?_)
      · have t_19 : ((vi 33)).toInt = -1 := toI_eq c_19 rfl (by decide)
        refine lv_iconst (v := 0) hx hb dX12_readBinder_54 (by decide) ?_
        have hl : lv_has _ _ ([(0, .ref h0)]) := lv_sub hl [0] rfl
        exact join1 _ _ _ _ ⟨0, rfl, hP, hD, hS, hl⟩
      · have t_19 : ¬ ((vi 33)).toInt = -1 := toI_neq c_19 rfl (by decide)
        obtain ⟨xO, zO, exO, ezO, hxz⟩ := hOw.resolve_left c_19
        refine lv_aload_n hx hb dX12_readBinder_22 rfl (lv_at hl 0 rfl) ?_
        refine lv_aload_n hx hb dX12_readBinder_23 rfl (lv_at hl 0 rfl) ?_
        refine va_get (D := (dC, dI)) (ci := 12) (v := .int (vi 33)) (C := RX12) (T := TX12) (N := 163) (fs := fM (vS a vi vj)) hx hb hts iwsRX12_readBinder_in12 hown hK hP 0 rfl rfl 33 (by decide) (hts (.fieldLink RX12 68 "OptimaWorksModel" "ownFrom" "I") (by decide +kernel)) (fun _ h9 => h9) rfl dX12_readBinder_24 ?_
        refine lv_topi (fun y1 hy1 => ?_)
        obtain rfl : (nI xO) = y1 := (hy1.trans (exO)).symm
        refine lv_aload_n hx hb dX12_readBinder_27 rfl (lv_at hl 0 rfl) ?_
        refine va_get (D := (dC, dI)) (ci := 12) (v := .int (vi 34)) (C := RX12) (T := TX12) (N := 163) (fs := fM (vS a vi vj)) hx hb hts iwsRX12_readBinder_in12 hown hK hP 0 rfl rfl 34 (by decide) (hts (.fieldLink RX12 552 "OptimaWorksModel" "ownLong" "I") (by decide +kernel)) (fun _ h9 => h9) rfl dX12_readBinder_28 ?_
        refine lv_topi (fun y2 hy2 => ?_)
        obtain rfl : (nI zO) = y2 := (hy2.trans (ezO)).symm
        refine lv_aload_n hx hb dX12_readBinder_31 rfl (lv_at hl 0 rfl) ?_
        refine va_get (D := (dC, dI)) (ci := 12) (v := .int (vi 19)) (C := RX12) (T := TX12) (N := 163) (fs := fM (vS a vi vj)) hx hb hts iwsRX12_readBinder_in12 hown hK hP 0 rfl rfl 19 (by decide) (hts (.fieldLink RX12 488 "OptimaWorksModel" "from" "I") (by decide +kernel)) (fun _ h9 => h9) rfl dX12_readBinder_32 ?_
        refine lv_topi (fun y3 hy3 => ?_)
        obtain rfl : (nI fn) = y3 := (hy3.trans (hfr)).symm
        refine lv_aload_n hx hb dX12_readBinder_35 rfl (lv_at hl 0 rfl) ?_
        refine va_get (D := (dC, dI)) (ci := 12) (v := .int (vi 17)) (C := RX12) (T := TX12) (N := 163) (fs := fM (vS a vi vj)) hx hb hts iwsRX12_readBinder_in12 hown hK hP 0 rfl rfl 17 (by decide) (hts (.fieldLink RX12 485 "OptimaWorksModel" "at0" "I") (by decide +kernel)) (fun _ h9 => h9) rfl dX12_readBinder_36 ?_
        refine lv_topi (fun y4 hy4 => ?_)
        obtain rfl : (nI an) = y4 := (hy4.trans (ha0)).symm
        refine lv_aload_n hx hb dX12_readBinder_39 rfl (lv_at hl 0 rfl) ?_
        refine va_get (D := (dC, dI)) (ci := 12) (v := .int (vi 19)) (C := RX12) (T := TX12) (N := 163) (fs := fM (vS a vi vj)) hx hb hts iwsRX12_readBinder_in12 hown hK hP 0 rfl rfl 19 (by decide) (hts (.fieldLink RX12 488 "OptimaWorksModel" "from" "I") (by decide +kernel)) (fun _ h9 => h9) rfl dX12_readBinder_40 ?_
        refine lv_topi (fun y5 hy5 => ?_)
        obtain rfl : (nI fn) = y5 := (hy5.trans (hfr)).symm
        refine lv_isub hx hb dX12_readBinder_43 ?_
        refine lv_topi (fun y6 hy6 => ?_)
        obtain rfl : (nI (an - fn)) = y6 := (hy6.trans (pk_sub (a := an) (b := fn) (by omega))).symm
        have hFc := allFree hD hS hA
        refine va_calli (va_runV (As := [.int (nI xO), .int (nI zO), .int (nI fn), .int (nI (an - fn))]) (rest := []) ⟨hx, hb, hml, hown, hts⟩ (r_X12_sameText l dC dI a k h0 vi vj vF vG xO zO fn (an - fn) (by first | assumption | decide | omega | rfl) (by first | assumption | decide | omega | rfl) s.heap.size) (cwV 4 hts gwsRX12_readBinder_0 rfl rfl rfl hd_yX12_sameText_RX12 (by decide +kernel)) (fz_pre (va_recv hK hP (ci := 12) (q0 := 0) rfl rfl) hP hK hD) rfl rfl hl.1 rfl (lv_room (Nat.le_of_ble_eq_true rfl)) dX12_readBinder_44 (by decide +kernel)) hS (fun q _ h => hFc q h) hFc (fun r44 u t9_ H locs ht hvm hw9 hB9 hz1 hk1 hS => ?_)
        have hP : va_P (dC, dI) vwCl (WR a k h0 vi vj vF vG) H := fz_P ht hB9.1
        have hD : va_D A (WR a k h0 vi vj vF vG) := hB9.2.weaken (fun _ q _ h => hFc q.1 h)
        have f44_0 := hw9
        try dsimp only at f44_0
        refine lv_if_eq (tgt := 54) hx hb dX12_readBinder_47 (by decide) (fun c_47 => ?_) (fun c_47 => ?_)
        · have t_47 : (r44).toInt = 0 := toI_eq c_47 rfl (by decide)
          refine lv_iconst (v := 0) hx hb dX12_readBinder_54 (by decide) ?_
          have hl : lv_has _ _ ([(0, .ref h0)]) := lv_sub hl [0] rfl
          exact join1 _ _ _ _ ⟨0, rfl, hP, hD, hS, hl⟩
        · have t_47 : ¬ (r44).toInt = 0 := toI_neq c_47 rfl (by decide)
          refine lv_iconst (v := 1) hx hb dX12_readBinder_50 (by decide) ?_
          refine lv_goto (tgt := 55) hx hb dX12_readBinder_51 (by decide) ?_
          have hl : lv_has _ _ ([(0, .ref h0)]) := lv_sub hl [0] rfl
          exact join1 _ _ _ _ ⟨1, rfl, hP, hD, hS, hl⟩
    · rintro H locs ls stk ⟨j1_s0, rfl, hP, hD, hS, hl⟩
      refine lv_istore_n hx hb dX12_readBinder_55 rfl hl (by decide) rfl (fun ls (hl : lv_has ls _ ([(1, .int j1_s0), (0, .ref h0)])) => ?_)
      refine W.cut (pc := 86) (fun H locs ls stk => ∃ (j2_i21 : Int32) (j2_i22 : Int32), (0 ≤ (j2_i21).toInt) ∧  stk = [] ∧ va_P (dC, dI) vwCl (WR a k h0 (fT (fT vi 21 j2_i21) 22 j2_i22) vj vF vG) H ∧ va_D A (WR a k h0 (fT (fT vi 21 j2_i21) 22 j2_i22) vj vF vG) ∧ va_S A s.heap H locs ∧ lv_has ls 5 [(1, .int j1_s0), (0, .ref h0)]) (fun join2 => ?_) ?_
      · refine lv_aload_n hx hb dX12_readBinder_56 rfl (lv_at hl 1 rfl) ?_
        have hFc := allFree hD hS hA
        refine va_calli (va_runV (As := []) (rest := []) ⟨hx, hb, hml, hown, hts⟩ (r_X12_declared l dC dI a k h0 vi vj vF vG an fn nm ha0 hfr (by first | assumption | decide | omega | rfl) (by first | assumption | decide | omega | rfl) hnm (by first | assumption | decide | omega | rfl) (by first | assumption | decide | omega | rfl) H.size) (cwV 0 hts gwsRX12_readBinder_1 rfl rfl rfl hd_yX12_declared_RX12 (by decide +kernel)) (fz_pre (va_recv hK hP (ci := 12) (q0 := 0) rfl rfl) hP hK hD) rfl rfl hl.1 rfl (lv_room (Nat.le_of_ble_eq_true rfl)) dX12_readBinder_57 (by decide +kernel)) hS (fun q _ h => hFc q h) hFc (fun r57 u t9_ H locs ht hvm hw9 hB9 hz1 hk1 hS => ?_)
        obtain ⟨kx57, hwit57⟩ : ∃ w9, w9 = u := ⟨u, rfl⟩
        subst hwit57
        have hP : va_P (dC, dI) vwCl (WR a k h0 vi vj vF vG) H := fz_P ht hB9.1
        have hD : va_D A (WR a k h0 vi vj vF vG) := hB9.2.weaken (fun _ q _ h => hFc q.1 h)
        rcases hw9 with rfl | ⟨rfl, f57_0⟩
        · refine lv_iconst (v := (-1)) hx hb dX12_readBinder_60 (by decide) ?_
          refine lv_icmp_ne (tgt := 76) hx hb dX12_readBinder_61 (by decide) (fun c9 => absurd c9 (by decide)) (fun _ => ?_)
          refine lv_iload_n hx hb dX12_readBinder_64 rfl (lv_at hl 0 rfl) ?_
          refine lv_if_ne (tgt := 76) hx hb dX12_readBinder_65 (by decide) (fun c_65 => ?_) (fun c_65 => ?_)
          · have t_65 : (j1_s0).toInt ≠ 0 := toI_ne c_65 rfl (by decide)
            refine lv_aload_n hx hb dX12_readBinder_76 rfl (lv_at hl 1 rfl) ?_
            refine lv_bipush (v := 10) hx hb dX12_readBinder_77 (by decide) ?_
            refine lv_aload_n hx hb dX12_readBinder_79 rfl (lv_at hl 1 rfl) ?_
            refine va_get (D := (dC, dI)) (ci := 12) (v := .int (vi 19)) (C := RX12) (T := TX12) (N := 163) (fs := fM (vS a vi vj)) hx hb hts iwsRX12_readBinder_in12 hown hK hP 0 rfl rfl 19 (by decide) (hts (.fieldLink RX12 488 "OptimaWorksModel" "from" "I") (by decide +kernel)) (fun _ h9 => h9) rfl dX12_readBinder_80 ?_
            refine lv_topi (fun y7 hy7 => ?_)
            obtain rfl : (nI fn) = y7 := (hy7.trans (hfr)).symm
            have hFc := allFree hD hS hA
            refine va_callv (va_runV (As := [.int 10, .int (nI fn)]) (rest := []) ⟨hx, hb, hml, hown, hts⟩ (r_X12_faultAt l dC dI a k h0 vi vj vF vG 10 (nI fn) (by first | assumption | decide | omega | rfl) H.size) (cwV 2 hts gwsRX12_readBinder_2 rfl rfl rfl hd_yX12_faultAt_RX12 (by decide +kernel)) (fz_pre (va_recv hK hP (ci := 12) (q0 := 0) rfl rfl) hP hK hD) rfl rfl hl.1 rfl (lv_room (Nat.le_of_ble_eq_true rfl)) dX12_readBinder_83 (by decide +kernel)) hS (fun q _ h => hFc q h) hFc (fun u t9_ H locs ht hvm hw9 hB9 hz1 hk1 hS => ?_)
            obtain ⟨s283, p283⟩ := u
            try dsimp only at hw9 hB9
            have hP : va_P (dC, dI) vwCl (WR a k h0 (fT (fT vi 21 s283) 22 p283) vj vF vG) H := fz_P ht hB9.1
            have hD : va_D A (WR a k h0 (fT (fT vi 21 s283) 22 p283) vj vF vG) := hB9.2.weaken (fun _ q _ h => hFc q.1 h)
            obtain ⟨f83_0, f83_1⟩ := hw9
            have f83_0 : (0 < (vi 21).toInt ∧ s283 = (vi 21) ∧ p283 = (vi 22)) ∨ (¬ 0 < (vi 21).toInt ∧ s283 = 10 ∧ p283 = (nI fn)) := f83_0
            have hl : lv_has _ _ ([(1, .int j1_s0), (0, .ref h0)]) := lv_sub hl [0, 1] rfl
            exact join2 _ _ _ _ ⟨s283, p283, by first | assumption | omega, rfl, hP, hD, hS, hl⟩
          · have t_65 : (j1_s0).toInt = 0 := toI_nne c_65 rfl (by decide)
            refine lv_aload_n hx hb dX12_readBinder_68 rfl (lv_at hl 1 rfl) ?_
            have hFc := allFree hD hS hA
            refine va_calli (va_runV (As := []) (rest := []) ⟨hx, hb, hml, hown, hts⟩ (r_X12_binder l dC dI a k h0 vi vj vF vG an fn bd ha0 hfr (by first | assumption | decide | omega | rfl) (by first | assumption | decide | omega | rfl) hbd (by first | assumption | decide | omega | rfl) ((fun k9 h9 => hbo k9 (by omega))) H.size) (cwV 0 hts gwsRX12_readBinder_3 rfl rfl rfl hd_yX12_binder_RX12 (by decide +kernel)) (fz_pre (va_recv hK hP (ci := 12) (q0 := 0) rfl rfl) hP hK hD) rfl rfl hl.1 rfl (lv_room (Nat.le_of_ble_eq_true rfl)) dX12_readBinder_69 (by decide +kernel)) hS (fun q _ h => hFc q h) hFc (fun r69 u t9_ H locs ht hvm hw9 hB9 hz1 hk1 hS => ?_)
            obtain ⟨kx69, hwit69⟩ : ∃ w9, w9 = u := ⟨u, rfl⟩
            subst hwit69
            have hP : va_P (dC, dI) vwCl (WR a k h0 vi vj vF vG) H := fz_P ht hB9.1
            have hD : va_D A (WR a k h0 vi vj vF vG) := hB9.2.weaken (fun _ q _ h => hFc q.1 h)
            rcases hw9 with rfl | ⟨rfl, f69_0⟩
            · refine lv_iconst (v := (-1)) hx hb dX12_readBinder_72 (by decide) ?_
              refine lv_icmp_eq (tgt := 86) hx hb dX12_readBinder_73 (by decide) (fun _ => ?_) (fun c9 => absurd (by decide) c9)
              have e9 : fT (fT vi 21 (vi 21)) 22 (vi 22) = vi := by funext q9; by_cases h9_21 : q9 = 21; (subst h9_21; exact ((fT_ne _ _ (Nat.ne_of_beq_eq_false rfl)).trans (fT_eq _ _ _)).trans (Eq.trans (by first | rfl | assumption | (symm; assumption) | (subst_vars; rfl)) (Eq.refl _).symm)); by_cases h9_22 : q9 = 22; (subst h9_22; exact (fT_eq _ _ _).trans (Eq.trans (by first | rfl | assumption | (symm; assumption) | (subst_vars; rfl)) (Eq.refl _).symm)); exact ((fT_ne _ _ h9_22).trans (fT_ne _ _ h9_21)).trans (Eq.refl _).symm
              have hP : va_P (dC, dI) vwCl (WR a k h0 (fT (fT vi 21 (vi 21)) 22 (vi 22)) vj vF vG) H := by rw [e9]; exact hP
              have hD : va_D A (WR a k h0 (fT (fT vi 21 (vi 21)) 22 (vi 22)) vj vF vG) := by rw [e9]; exact hD
              clear e9
              have hl : lv_has _ _ ([(1, .int j1_s0), (0, .ref h0)]) := lv_sub hl [0, 1] rfl
              exact join2 _ _ _ _ ⟨(vi 21), (vi 22), by first | assumption | omega, rfl, hP, hD, hS, hl⟩
            · refine lv_iconst (v := (-1)) hx hb dX12_readBinder_72 (by decide) ?_
              refine lv_icmp_eq (tgt := 86) hx hb dX12_readBinder_73 (by decide) (fun c_73 => ?_) (fun c_73 => ?_)
              · have t_73 : ((kx69 : Nat) : Int) = -1 := toI_eq c_73 (nI_toInt (by omega)) (by decide)
                have e9 : fT (fT vi 21 (vi 21)) 22 (vi 22) = vi := by funext q9; by_cases h9_21 : q9 = 21; (subst h9_21; exact ((fT_ne _ _ (Nat.ne_of_beq_eq_false rfl)).trans (fT_eq _ _ _)).trans (Eq.trans (by first | rfl | assumption | (symm; assumption) | (subst_vars; rfl)) (Eq.refl _).symm)); by_cases h9_22 : q9 = 22; (subst h9_22; exact (fT_eq _ _ _).trans (Eq.trans (by first | rfl | assumption | (symm; assumption) | (subst_vars; rfl)) (Eq.refl _).symm)); exact ((fT_ne _ _ h9_22).trans (fT_ne _ _ h9_21)).trans (Eq.refl _).symm
                have hP : va_P (dC, dI) vwCl (WR a k h0 (fT (fT vi 21 (vi 21)) 22 (vi 22)) vj vF vG) H := by rw [e9]; exact hP
                have hD : va_D A (WR a k h0 (fT (fT vi 21 (vi 21)) 22 (vi 22)) vj vF vG) := by rw [e9]; exact hD
                clear e9
                have hl : lv_has _ _ ([(1, .int j1_s0), (0, .ref h0)]) := lv_sub hl [0, 1] rfl
                exact join2 _ _ _ _ ⟨(vi 21), (vi 22), by first | assumption | omega, rfl, hP, hD, hS, hl⟩
              · have t_73 : ¬ ((kx69 : Nat) : Int) = -1 := toI_neq c_73 (nI_toInt (by omega)) (by decide)
                refine lv_aload_n hx hb dX12_readBinder_76 rfl (lv_at hl 1 rfl) ?_
                refine lv_bipush (v := 10) hx hb dX12_readBinder_77 (by decide) ?_
                refine lv_aload_n hx hb dX12_readBinder_79 rfl (lv_at hl 1 rfl) ?_
                refine va_get (D := (dC, dI)) (ci := 12) (v := .int (vi 19)) (C := RX12) (T := TX12) (N := 163) (fs := fM (vS a vi vj)) hx hb hts iwsRX12_readBinder_in12 hown hK hP 0 rfl rfl 19 (by decide) (hts (.fieldLink RX12 488 "OptimaWorksModel" "from" "I") (by decide +kernel)) (fun _ h9 => h9) rfl dX12_readBinder_80 ?_
                refine lv_topi (fun y8 hy8 => ?_)
                obtain rfl : (nI fn) = y8 := (hy8.trans (hfr)).symm
                have hFc := allFree hD hS hA
                refine va_callv (va_runV (As := [.int 10, .int (nI fn)]) (rest := []) ⟨hx, hb, hml, hown, hts⟩ (r_X12_faultAt l dC dI a k h0 vi vj vF vG 10 (nI fn) (by first | assumption | decide | omega | rfl) H.size) (cwV 2 hts gwsRX12_readBinder_2 rfl rfl rfl hd_yX12_faultAt_RX12 (by decide +kernel)) (fz_pre (va_recv hK hP (ci := 12) (q0 := 0) rfl rfl) hP hK hD) rfl rfl hl.1 rfl (lv_room (Nat.le_of_ble_eq_true rfl)) dX12_readBinder_83 (by decide +kernel)) hS (fun q _ h => hFc q h) hFc (fun u t9_ H locs ht hvm hw9 hB9 hz1 hk1 hS => ?_)
                obtain ⟨s283_1, p283_1⟩ := u
                try dsimp only at hw9 hB9
                have hP : va_P (dC, dI) vwCl (WR a k h0 (fT (fT vi 21 s283_1) 22 p283_1) vj vF vG) H := fz_P ht hB9.1
                have hD : va_D A (WR a k h0 (fT (fT vi 21 s283_1) 22 p283_1) vj vF vG) := hB9.2.weaken (fun _ q _ h => hFc q.1 h)
                obtain ⟨f83_1_0, f83_1_1⟩ := hw9
                have f83_1_0 : (0 < (vi 21).toInt ∧ s283_1 = (vi 21) ∧ p283_1 = (vi 22)) ∨ (¬ 0 < (vi 21).toInt ∧ s283_1 = 10 ∧ p283_1 = (nI fn)) := f83_1_0
                have hl : lv_has _ _ ([(1, .int j1_s0), (0, .ref h0)]) := lv_sub hl [0, 1] rfl
                exact join2 _ _ _ _ ⟨s283_1, p283_1, by first | assumption | omega, rfl, hP, hD, hS, hl⟩
        · refine lv_iconst (v := (-1)) hx hb dX12_readBinder_60 (by decide) ?_
          refine lv_icmp_ne (tgt := 76) hx hb dX12_readBinder_61 (by decide) (fun c_61 => ?_) (fun c_61 => ?_)
          · have t_61 : ((kx57 : Nat) : Int) ≠ -1 := toI_ne c_61 (nI_toInt (by omega)) (by decide)
            refine lv_aload_n hx hb dX12_readBinder_76 rfl (lv_at hl 1 rfl) ?_
            refine lv_bipush (v := 10) hx hb dX12_readBinder_77 (by decide) ?_
            refine lv_aload_n hx hb dX12_readBinder_79 rfl (lv_at hl 1 rfl) ?_
            refine va_get (D := (dC, dI)) (ci := 12) (v := .int (vi 19)) (C := RX12) (T := TX12) (N := 163) (fs := fM (vS a vi vj)) hx hb hts iwsRX12_readBinder_in12 hown hK hP 0 rfl rfl 19 (by decide) (hts (.fieldLink RX12 488 "OptimaWorksModel" "from" "I") (by decide +kernel)) (fun _ h9 => h9) rfl dX12_readBinder_80 ?_
            refine lv_topi (fun y9 hy9 => ?_)
            obtain rfl : (nI fn) = y9 := (hy9.trans (hfr)).symm
            have hFc := allFree hD hS hA
            refine va_callv (va_runV (As := [.int 10, .int (nI fn)]) (rest := []) ⟨hx, hb, hml, hown, hts⟩ (r_X12_faultAt l dC dI a k h0 vi vj vF vG 10 (nI fn) (by first | assumption | decide | omega | rfl) H.size) (cwV 2 hts gwsRX12_readBinder_2 rfl rfl rfl hd_yX12_faultAt_RX12 (by decide +kernel)) (fz_pre (va_recv hK hP (ci := 12) (q0 := 0) rfl rfl) hP hK hD) rfl rfl hl.1 rfl (lv_room (Nat.le_of_ble_eq_true rfl)) dX12_readBinder_83 (by decide +kernel)) hS (fun q _ h => hFc q h) hFc (fun u t9_ H locs ht hvm hw9 hB9 hz1 hk1 hS => ?_)
            obtain ⟨s283_2, p283_2⟩ := u
            try dsimp only at hw9 hB9
            have hP : va_P (dC, dI) vwCl (WR a k h0 (fT (fT vi 21 s283_2) 22 p283_2) vj vF vG) H := fz_P ht hB9.1
            have hD : va_D A (WR a k h0 (fT (fT vi 21 s283_2) 22 p283_2) vj vF vG) := hB9.2.weaken (fun _ q _ h => hFc q.1 h)
            obtain ⟨f83_2_0, f83_2_1⟩ := hw9
            have f83_2_0 : (0 < (vi 21).toInt ∧ s283_2 = (vi 21) ∧ p283_2 = (vi 22)) ∨ (¬ 0 < (vi 21).toInt ∧ s283_2 = 10 ∧ p283_2 = (nI fn)) := f83_2_0
            have hl : lv_has _ _ ([(1, .int j1_s0), (0, .ref h0)]) := lv_sub hl [0, 1] rfl
            exact join2 _ _ _ _ ⟨s283_2, p283_2, by first | assumption | omega, rfl, hP, hD, hS, hl⟩
          · have t_61 : ((kx57 : Nat) : Int) = -1 := toI_nne c_61 (nI_toInt (by omega)) (by decide)
            refine lv_iload_n hx hb dX12_readBinder_64 rfl (lv_at hl 0 rfl) ?_
            refine lv_if_ne (tgt := 76) hx hb dX12_readBinder_65 (by decide) (fun c_65 => ?_) (fun c_65 => ?_)
            · have t_65 : (j1_s0).toInt ≠ 0 := toI_ne c_65 rfl (by decide)
              refine lv_aload_n hx hb dX12_readBinder_76 rfl (lv_at hl 1 rfl) ?_
              refine lv_bipush (v := 10) hx hb dX12_readBinder_77 (by decide) ?_
              refine lv_aload_n hx hb dX12_readBinder_79 rfl (lv_at hl 1 rfl) ?_
              refine va_get (D := (dC, dI)) (ci := 12) (v := .int (vi 19)) (C := RX12) (T := TX12) (N := 163) (fs := fM (vS a vi vj)) hx hb hts iwsRX12_readBinder_in12 hown hK hP 0 rfl rfl 19 (by decide) (hts (.fieldLink RX12 488 "OptimaWorksModel" "from" "I") (by decide +kernel)) (fun _ h9 => h9) rfl dX12_readBinder_80 ?_
              refine lv_topi (fun y10 hy10 => ?_)
              obtain rfl : (nI fn) = y10 := (hy10.trans (hfr)).symm
              have hFc := allFree hD hS hA
              refine va_callv (va_runV (As := [.int 10, .int (nI fn)]) (rest := []) ⟨hx, hb, hml, hown, hts⟩ (r_X12_faultAt l dC dI a k h0 vi vj vF vG 10 (nI fn) (by first | assumption | decide | omega | rfl) H.size) (cwV 2 hts gwsRX12_readBinder_2 rfl rfl rfl hd_yX12_faultAt_RX12 (by decide +kernel)) (fz_pre (va_recv hK hP (ci := 12) (q0 := 0) rfl rfl) hP hK hD) rfl rfl hl.1 rfl (lv_room (Nat.le_of_ble_eq_true rfl)) dX12_readBinder_83 (by decide +kernel)) hS (fun q _ h => hFc q h) hFc (fun u t9_ H locs ht hvm hw9 hB9 hz1 hk1 hS => ?_)
              obtain ⟨s283_3, p283_3⟩ := u
              try dsimp only at hw9 hB9
              have hP : va_P (dC, dI) vwCl (WR a k h0 (fT (fT vi 21 s283_3) 22 p283_3) vj vF vG) H := fz_P ht hB9.1
              have hD : va_D A (WR a k h0 (fT (fT vi 21 s283_3) 22 p283_3) vj vF vG) := hB9.2.weaken (fun _ q _ h => hFc q.1 h)
              obtain ⟨f83_3_0, f83_3_1⟩ := hw9
              have f83_3_0 : (0 < (vi 21).toInt ∧ s283_3 = (vi 21) ∧ p283_3 = (vi 22)) ∨ (¬ 0 < (vi 21).toInt ∧ s283_3 = 10 ∧ p283_3 = (nI fn)) := f83_3_0
              have hl : lv_has _ _ ([(1, .int j1_s0), (0, .ref h0)]) := lv_sub hl [0, 1] rfl
              exact join2 _ _ _ _ ⟨s283_3, p283_3, by first | assumption | omega, rfl, hP, hD, hS, hl⟩
            · have t_65 : (j1_s0).toInt = 0 := toI_nne c_65 rfl (by decide)
              refine lv_aload_n hx hb dX12_readBinder_68 rfl (lv_at hl 1 rfl) ?_
              have hFc := allFree hD hS hA
              refine va_calli (va_runV (As := []) (rest := []) ⟨hx, hb, hml, hown, hts⟩ (r_X12_binder l dC dI a k h0 vi vj vF vG an fn bd ha0 hfr (by first | assumption | decide | omega | rfl) (by first | assumption | decide | omega | rfl) hbd (by first | assumption | decide | omega | rfl) ((fun k9 h9 => hbo k9 (by omega))) H.size) (cwV 0 hts gwsRX12_readBinder_3 rfl rfl rfl hd_yX12_binder_RX12 (by decide +kernel)) (fz_pre (va_recv hK hP (ci := 12) (q0 := 0) rfl rfl) hP hK hD) rfl rfl hl.1 rfl (lv_room (Nat.le_of_ble_eq_true rfl)) dX12_readBinder_69 (by decide +kernel)) hS (fun q _ h => hFc q h) hFc (fun r69_1 u t9_ H locs ht hvm hw9 hB9 hz1 hk1 hS => ?_)
              obtain ⟨kx69_1, hwit69_1⟩ : ∃ w9, w9 = u := ⟨u, rfl⟩
              subst hwit69_1
              have hP : va_P (dC, dI) vwCl (WR a k h0 vi vj vF vG) H := fz_P ht hB9.1
              have hD : va_D A (WR a k h0 vi vj vF vG) := hB9.2.weaken (fun _ q _ h => hFc q.1 h)
              rcases hw9 with rfl | ⟨rfl, f69_1_0⟩
              · refine lv_iconst (v := (-1)) hx hb dX12_readBinder_72 (by decide) ?_
                refine lv_icmp_eq (tgt := 86) hx hb dX12_readBinder_73 (by decide) (fun _ => ?_) (fun c9 => absurd (by decide) c9)
                have e9 : fT (fT vi 21 (vi 21)) 22 (vi 22) = vi := by funext q9; by_cases h9_21 : q9 = 21; (subst h9_21; exact ((fT_ne _ _ (Nat.ne_of_beq_eq_false rfl)).trans (fT_eq _ _ _)).trans (Eq.trans (by first | rfl | assumption | (symm; assumption) | (subst_vars; rfl)) (Eq.refl _).symm)); by_cases h9_22 : q9 = 22; (subst h9_22; exact (fT_eq _ _ _).trans (Eq.trans (by first | rfl | assumption | (symm; assumption) | (subst_vars; rfl)) (Eq.refl _).symm)); exact ((fT_ne _ _ h9_22).trans (fT_ne _ _ h9_21)).trans (Eq.refl _).symm
                have hP : va_P (dC, dI) vwCl (WR a k h0 (fT (fT vi 21 (vi 21)) 22 (vi 22)) vj vF vG) H := by rw [e9]; exact hP
                have hD : va_D A (WR a k h0 (fT (fT vi 21 (vi 21)) 22 (vi 22)) vj vF vG) := by rw [e9]; exact hD
                clear e9
                have hl : lv_has _ _ ([(1, .int j1_s0), (0, .ref h0)]) := lv_sub hl [0, 1] rfl
                exact join2 _ _ _ _ ⟨(vi 21), (vi 22), by first | assumption | omega, rfl, hP, hD, hS, hl⟩
              · refine lv_iconst (v := (-1)) hx hb dX12_readBinder_72 (by decide) ?_
                refine lv_icmp_eq (tgt := 86) hx hb dX12_readBinder_73 (by decide) (fun c_73 => ?_) (fun c_73 => ?_)
                · have t_73 : ((kx69_1 : Nat) : Int) = -1 := toI_eq c_73 (nI_toInt (by omega)) (by decide)
                  have e9 : fT (fT vi 21 (vi 21)) 22 (vi 22) = vi := by funext q9; by_cases h9_21 : q9 = 21; (subst h9_21; exact ((fT_ne _ _ (Nat.ne_of_beq_eq_false rfl)).trans (fT_eq _ _ _)).trans (Eq.trans (by first | rfl | assumption | (symm; assumption) | (subst_vars; rfl)) (Eq.refl _).symm)); by_cases h9_22 : q9 = 22; (subst h9_22; exact (fT_eq _ _ _).trans (Eq.trans (by first | rfl | assumption | (symm; assumption) | (subst_vars; rfl)) (Eq.refl _).symm)); exact ((fT_ne _ _ h9_22).trans (fT_ne _ _ h9_21)).trans (Eq.refl _).symm
                  have hP : va_P (dC, dI) vwCl (WR a k h0 (fT (fT vi 21 (vi 21)) 22 (vi 22)) vj vF vG) H := by rw [e9]; exact hP
                  have hD : va_D A (WR a k h0 (fT (fT vi 21 (vi 21)) 22 (vi 22)) vj vF vG) := by rw [e9]; exact hD
                  clear e9
                  have hl : lv_has _ _ ([(1, .int j1_s0), (0, .ref h0)]) := lv_sub hl [0, 1] rfl
                  exact join2 _ _ _ _ ⟨(vi 21), (vi 22), by first | assumption | omega, rfl, hP, hD, hS, hl⟩
                · have t_73 : ¬ ((kx69_1 : Nat) : Int) = -1 := toI_neq c_73 (nI_toInt (by omega)) (by decide)
                  refine lv_aload_n hx hb dX12_readBinder_76 rfl (lv_at hl 1 rfl) ?_
                  refine lv_bipush (v := 10) hx hb dX12_readBinder_77 (by decide) ?_
                  refine lv_aload_n hx hb dX12_readBinder_79 rfl (lv_at hl 1 rfl) ?_
                  refine va_get (D := (dC, dI)) (ci := 12) (v := .int (vi 19)) (C := RX12) (T := TX12) (N := 163) (fs := fM (vS a vi vj)) hx hb hts iwsRX12_readBinder_in12 hown hK hP 0 rfl rfl 19 (by decide) (hts (.fieldLink RX12 488 "OptimaWorksModel" "from" "I") (by decide +kernel)) (fun _ h9 => h9) rfl dX12_readBinder_80 ?_
                  refine lv_topi (fun y11 hy11 => ?_)
                  obtain rfl : (nI fn) = y11 := (hy11.trans (hfr)).symm
                  have hFc := allFree hD hS hA
                  refine va_callv (va_runV (As := [.int 10, .int (nI fn)]) (rest := []) ⟨hx, hb, hml, hown, hts⟩ (r_X12_faultAt l dC dI a k h0 vi vj vF vG 10 (nI fn) (by first | assumption | decide | omega | rfl) H.size) (cwV 2 hts gwsRX12_readBinder_2 rfl rfl rfl hd_yX12_faultAt_RX12 (by decide +kernel)) (fz_pre (va_recv hK hP (ci := 12) (q0 := 0) rfl rfl) hP hK hD) rfl rfl hl.1 rfl (lv_room (Nat.le_of_ble_eq_true rfl)) dX12_readBinder_83 (by decide +kernel)) hS (fun q _ h => hFc q h) hFc (fun u t9_ H locs ht hvm hw9 hB9 hz1 hk1 hS => ?_)
                  obtain ⟨s283_4, p283_4⟩ := u
                  try dsimp only at hw9 hB9
                  have hP : va_P (dC, dI) vwCl (WR a k h0 (fT (fT vi 21 s283_4) 22 p283_4) vj vF vG) H := fz_P ht hB9.1
                  have hD : va_D A (WR a k h0 (fT (fT vi 21 s283_4) 22 p283_4) vj vF vG) := hB9.2.weaken (fun _ q _ h => hFc q.1 h)
                  obtain ⟨f83_4_0, f83_4_1⟩ := hw9
                  have f83_4_0 : (0 < (vi 21).toInt ∧ s283_4 = (vi 21) ∧ p283_4 = (vi 22)) ∨ (¬ 0 < (vi 21).toInt ∧ s283_4 = 10 ∧ p283_4 = (nI fn)) := f83_4_0
                  have hl : lv_has _ _ ([(1, .int j1_s0), (0, .ref h0)]) := lv_sub hl [0, 1] rfl
                  exact join2 _ _ _ _ ⟨s283_4, p283_4, by first | assumption | omega, rfl, hP, hD, hS, hl⟩
      · rintro H locs ls stk ⟨j2_i21, j2_i22, hj2_i21, rfl, hP, hD, hS, hl⟩
        refine lv_aload_n hx hb dX12_readBinder_86 rfl (lv_at hl 1 rfl) ?_
        refine va_get (D := (dC, dI)) (ci := 12) (v := .int j2_i21) (C := RX12) (T := TX12) (N := 163) (fs := fM (vS a (fT (fT vi 21 j2_i21) 22 j2_i22) vj)) hx hb hts iwsRX12_readBinder_in12 hown hK hP 0 rfl rfl 21 (by decide) (hts (.fieldLink RX12 515 "OptimaWorksModel" "stop" "I") (by decide +kernel)) (fun _ h9 => h9) rfl dX12_readBinder_87 ?_
        refine lv_if_le (tgt := 95) hx hb dX12_readBinder_90 (by decide) (fun c_90 => ?_) (fun c_90 => ?_)
        · have t_90 : (j2_i21).toInt ≤ 0 := toI_le c_90 rfl (by decide)
          have hfl := hLx.2.2.1.resolve_left (fun h => by rw [h] at c_5; exact absurd c_5 (by decide))
          refine lv_aload_n hx hb dX12_readBinder_95 rfl (lv_at hl 1 rfl) ?_
          refine va_get (D := (dC, dI)) (ci := 12) (v := .int (vi 19)) (C := RX12) (T := TX12) (N := 163) (fs := fM (vS a (fT (fT vi 21 j2_i21) 22 j2_i22) vj)) hx hb hts iwsRX12_readBinder_in12 hown hK hP 0 rfl rfl 19 (by decide) (hts (.fieldLink RX12 488 "OptimaWorksModel" "from" "I") (by decide +kernel)) (fun _ h9 => h9) rfl dX12_readBinder_96 ?_
          refine lv_topi (fun y12 hy12 => ?_)
          obtain rfl : (nI fn) = y12 := (hy12.trans (hfr)).symm
          refine lv_istore_n hx hb dX12_readBinder_99 rfl hl (by decide) rfl (fun ls (hl : lv_has ls _ ([(2, .int (nI fn)), (1, .int j1_s0), (0, .ref h0)])) => ?_)
          refine lv_aload_n hx hb dX12_readBinder_100 rfl (lv_at hl 2 rfl) ?_
          refine va_get (D := (dC, dI)) (ci := 12) (v := .int (vi 17)) (C := RX12) (T := TX12) (N := 163) (fs := fM (vS a (fT (fT vi 21 j2_i21) 22 j2_i22) vj)) hx hb hts iwsRX12_readBinder_in12 hown hK hP 0 rfl rfl 17 (by decide) (hts (.fieldLink RX12 485 "OptimaWorksModel" "at0" "I") (by decide +kernel)) (fun _ h9 => h9) rfl dX12_readBinder_101 ?_
          refine lv_topi (fun y13 hy13 => ?_)
          obtain rfl : (nI an) = y13 := (hy13.trans (ha0)).symm
          refine lv_aload_n hx hb dX12_readBinder_104 rfl (lv_at hl 2 rfl) ?_
          refine va_get (D := (dC, dI)) (ci := 12) (v := .int (vi 19)) (C := RX12) (T := TX12) (N := 163) (fs := fM (vS a (fT (fT vi 21 j2_i21) 22 j2_i22) vj)) hx hb hts iwsRX12_readBinder_in12 hown hK hP 0 rfl rfl 19 (by decide) (hts (.fieldLink RX12 488 "OptimaWorksModel" "from" "I") (by decide +kernel)) (fun _ h9 => h9) rfl dX12_readBinder_105 ?_
          refine lv_topi (fun y14 hy14 => ?_)
          obtain rfl : (nI fn) = y14 := (hy14.trans (hfr)).symm
          refine lv_isub hx hb dX12_readBinder_108 ?_
          refine lv_topi (fun y15 hy15 => ?_)
          obtain rfl : (nI (an - fn)) = y15 := (hy15.trans (pk_sub (a := an) (b := fn) (by omega))).symm
          refine lv_istore_n hx hb dX12_readBinder_109 rfl hl (by decide) rfl (fun ls (hl : lv_has ls _ ([(3, .int (nI (an - fn))), (2, .int (nI fn)), (1, .int j1_s0), (0, .ref h0)])) => ?_)
          refine lv_aload_n hx hb dX12_readBinder_110 rfl (lv_at hl 3 rfl) ?_
          have hFc := allFree hD hS hA
          refine va_callv (va_runV (As := []) (rest := []) ⟨hx, hb, hml, hown, hts⟩ (r_X12_next l dC dI a k h0 (fT (fT vi 21 j2_i21) 22 j2_i22) vj vF vG tp an hTp (by first | assumption | decide | omega | rfl) ha0 (by first | assumption | decide | omega | rfl) H.size) (cwV 0 hts gwsRX12_readBinder_4 rfl rfl rfl hd_yX12_next_RX12 (by decide +kernel)) (fz_preE (va_recv hK hP (ci := 12) (q0 := 0) rfl rfl) hP hK hD (fun a U g mk qE => qE.same rfl) (fun U hU9 hW => by rw [hU9]; exact (((hE : StrA A s s.heap).kept hS.2.1).narrow (fun q h => hFc q h)).warm hW)) rfl rfl hl.1 rfl (lv_room (Nat.le_of_ble_eq_true rfl)) dX12_readBinder_111 (by decide +kernel)) hS (fun q _ h => hFc q h) hFc (fun u t9_ H locs ht hvm hw9 hB9 hz1 hk1 hS => ?_)
          obtain ⟨a2111, f2111, sg111, wd111⟩ := u
          try dsimp only at hw9 hB9
          have hP : va_P (dC, dI) vwCl (WR a k h0 (fT (fT (fT (fT (fT (fT vi 21 j2_i21) 22 j2_i22) 17 (nI a2111)) 19 (nI f2111)) 20 sg111) 18 wd111) vj vF vG) H := fz_P ht hB9.1
          have hD : va_D A (WR a k h0 (fT (fT (fT (fT (fT (fT vi 21 j2_i21) 22 j2_i22) 17 (nI a2111)) 19 (nI f2111)) 20 sg111) 18 wd111) vj vF vG) := hB9.2.weaken (fun _ q _ h => hFc q.1 h)
          obtain ⟨f111_0, f111_1⟩ := hw9
          refine lv_aload_n hx hb dX12_readBinder_114 rfl (lv_at hl 3 rfl) ?_
          refine lv_bipush (v := 11) hx hb dX12_readBinder_115 (by decide) ?_
          have hFc := allFree hD hS hA
          refine va_calli (va_runV (As := [.int 11]) (rest := []) ⟨hx, hb, hml, hown, hts⟩ (r_X12_needKey l dC dI a k h0 (fT (fT (fT (fT (fT (fT vi 21 j2_i21) 22 j2_i22) 17 (nI a2111)) 19 (nI f2111)) 20 sg111) 18 wd111) vj vF vG 11 tp a2111 f2111 hTp (by first | assumption | decide | omega | rfl) rfl rfl (f111_0) (by first | assumption | decide | omega | rfl) H.size) (cwV 1 hts gwsRX12_readBinder_5 rfl rfl rfl hd_yX12_needKey_RX12 (by decide +kernel)) (fz_preE (va_recv hK hP (ci := 12) (q0 := 0) rfl rfl) hP hK hD (fun a U g mk qE => qE.same rfl) (fun U hU9 hW => by rw [hU9]; exact (((hE : StrA A s s.heap).kept hS.2.1).narrow (fun q h => hFc q h)).warm hW)) rfl rfl hl.1 rfl (lv_room (Nat.le_of_ble_eq_true rfl)) dX12_readBinder_117 (by decide +kernel)) hS (fun q _ h => hFc q h) hFc (fun r117 u t9_ H locs ht hvm hw9 hB9 hz1 hk1 hS => ?_)
          obtain ⟨a2117, f2117, sg117, wd117, s2117, p2117⟩ := u
          try dsimp only at hw9 hB9
          have hP : va_P (dC, dI) vwCl (WR a k h0 (fT (fT (fT (fT (fT (fT (fT (fT (fT (fT (fT (fT vi 21 j2_i21) 22 j2_i22) 17 (nI a2111)) 19 (nI f2111)) 20 sg111) 18 wd111) 17 (nI a2117)) 19 (nI f2117)) 20 sg117) 18 wd117) 21 s2117) 22 p2117) vj vF vG) H := fz_P ht hB9.1
          have hD : va_D A (WR a k h0 (fT (fT (fT (fT (fT (fT (fT (fT (fT (fT (fT (fT vi 21 j2_i21) 22 j2_i22) 17 (nI a2111)) 19 (nI f2111)) 20 sg111) 18 wd111) 17 (nI a2117)) 19 (nI f2117)) 20 sg117) 18 wd117) 21 s2117) 22 p2117) vj vF vG) := hB9.2.weaken (fun _ q _ h => hFc q.1 h)
          have e9 : fT (fT (fT (fT (fT (fT vi 21 s2117) 22 p2117) 17 (nI a2117)) 19 (nI f2117)) 20 sg117) 18 wd117 = fT (fT (fT (fT (fT (fT (fT (fT (fT (fT (fT (fT vi 21 j2_i21) 22 j2_i22) 17 (nI a2111)) 19 (nI f2111)) 20 sg111) 18 wd111) 17 (nI a2117)) 19 (nI f2117)) 20 sg117) 18 wd117) 21 s2117) 22 p2117 := ((congrArg (fun g9 => fT (fT (fT (fT (fT g9 19 (nI f2117)) 20 sg117) 18 wd117) 21 s2117) 22 p2117) ((fT_sw _ _ _ (Nat.ne_of_beq_eq_false rfl)).trans (congrArg (fun g9 => fT g9 18 wd111) ((fT_sw _ _ _ (Nat.ne_of_beq_eq_false rfl)).trans (congrArg (fun g9 => fT g9 20 sg111) ((fT_sw _ _ _ (Nat.ne_of_beq_eq_false rfl)).trans (congrArg (fun g9 => fT g9 19 (nI f2111)) (fT_sm _ _ _ _)))))))).trans ((congrArg (fun g9 => fT (fT (fT (fT g9 20 sg117) 18 wd117) 21 s2117) 22 p2117) ((fT_sw _ _ _ (Nat.ne_of_beq_eq_false rfl)).trans (congrArg (fun g9 => fT g9 18 wd111) ((fT_sw _ _ _ (Nat.ne_of_beq_eq_false rfl)).trans (congrArg (fun g9 => fT g9 20 sg111) (fT_sm _ _ _ _)))))).trans ((congrArg (fun g9 => fT (fT (fT g9 18 wd117) 21 s2117) 22 p2117) ((fT_sw _ _ _ (Nat.ne_of_beq_eq_false rfl)).trans (congrArg (fun g9 => fT g9 18 wd111) (fT_sm _ _ _ _)))).trans ((congrArg (fun g9 => fT (fT g9 21 s2117) 22 p2117) (fT_sm _ _ _ _)).trans ((congrArg (fun g9 => fT g9 22 p2117) ((fT_sw _ _ _ (Nat.ne_of_beq_eq_false rfl)).trans (congrArg (fun g9 => fT g9 18 wd117) ((fT_sw _ _ _ (Nat.ne_of_beq_eq_false rfl)).trans (congrArg (fun g9 => fT g9 20 sg117) ((fT_sw _ _ _ (Nat.ne_of_beq_eq_false rfl)).trans (congrArg (fun g9 => fT g9 19 (nI f2117)) ((fT_sw _ _ _ (Nat.ne_of_beq_eq_false rfl)).trans (congrArg (fun g9 => fT g9 17 (nI a2117)) ((fT_sw _ _ _ (Nat.ne_of_beq_eq_false rfl)).trans (congrArg (fun g9 => fT g9 22 j2_i22) (fT_sm _ _ _ _)))))))))))).trans ((fT_sw _ _ _ (Nat.ne_of_beq_eq_false rfl)).trans (congrArg (fun g9 => fT g9 18 wd117) ((fT_sw _ _ _ (Nat.ne_of_beq_eq_false rfl)).trans (congrArg (fun g9 => fT g9 20 sg117) ((fT_sw _ _ _ (Nat.ne_of_beq_eq_false rfl)).trans (congrArg (fun g9 => fT g9 19 (nI f2117)) ((fT_sw _ _ _ (Nat.ne_of_beq_eq_false rfl)).trans (congrArg (fun g9 => fT g9 17 (nI a2117)) (fT_sm _ _ _ _)))))))))))))).symm
          rw [← e9] at hP hD
          clear e9
          have hP : va_P (dC, dI) vwCl (WR a k h0 (fT (fT (fT (fT (fT (fT vi 21 s2117) 22 p2117) 17 (nI a2117)) 19 (nI f2117)) 20 sg117) 18 wd117) vj vF vG) H := hP
          have hD : va_D A (WR a k h0 (fT (fT (fT (fT (fT (fT vi 21 s2117) 22 p2117) 17 (nI a2117)) 19 (nI f2117)) 20 sg117) 18 wd117) vj vF vG) := hD
          rcases hw9 with ⟨rfl, f117_0, f117_1, f117_2, f117_3⟩ | ⟨rfl, f117_0, f117_1, f117_2⟩
          · have f117_3 : j2_i21 = 0 := f117_3
            refine lv_if_ne (tgt := 125) hx hb dX12_readBinder_120 (by decide) (fun _ => ?_) (fun c9 => absurd c9 (by decide))
            refine lv_aload_n hx hb dX12_readBinder_125 rfl (lv_at hl 3 rfl) ?_
            have hFc := allFree hD hS hA
            refine va_calli (va_runV (As := []) (rest := []) ⟨hx, hb, hml, hown, hts⟩ (r_X12_readSet l dC dI a k h0 (fT (fT (fT (fT (fT (fT vi 21 s2117) 22 p2117) 17 (nI a2117)) 19 (nI f2117)) 20 sg117) 18 wd117) vj vF vG tp a2117 f2117 nm se pa va hTp (by first | assumption | decide | omega | rfl) rfl rfl (f117_1) (by (have h9 : (s2117).toInt = 0 := by rw [f117_0]; decide); show 0 ≤ (s2117).toInt; omega) hnm (by first | assumption | decide | omega | rfl) (by first | assumption | decide | omega | rfl) (by first | assumption | decide | omega | rfl) H.size) (cwV 0 hts gwsRX12_readBinder_6 rfl rfl rfl hd_yX12_readSet_RX12 (by decide +kernel)) (fz_preE (va_recv hK hP (ci := 12) (q0 := 0) rfl rfl) hP hK hD (fun a U g mk qE => qE.same rfl) (fun U hU9 hW => by rw [hU9]; exact (((hE : StrA A s s.heap).kept hS.2.1).narrow (fun q h => hFc q h)).warm hW)) rfl rfl hl.1 rfl (lv_room (Nat.le_of_ble_eq_true rfl)) dX12_readBinder_126 (by decide +kernel)) hS (fun q _ h => hFc q h) hFc (fun r126 u t9_ H locs ht hvm hw9 hB9 hz1 hk1 hS => ?_)
            obtain ⟨a2126, f2126, sg126, wd126, s2126, p2126⟩ := u
            try dsimp only at hw9 hB9
            have hP : va_P (dC, dI) vwCl (WR a k h0 (fT (fT (fT (fT (fT (fT (fT (fT (fT (fT (fT (fT vi 21 s2117) 22 p2117) 17 (nI a2117)) 19 (nI f2117)) 20 sg117) 18 wd117) 17 (nI a2126)) 19 (nI f2126)) 20 sg126) 18 wd126) 21 s2126) 22 p2126) vj vF vG) H := fz_P ht hB9.1
            have hD : va_D A (WR a k h0 (fT (fT (fT (fT (fT (fT (fT (fT (fT (fT (fT (fT vi 21 s2117) 22 p2117) 17 (nI a2117)) 19 (nI f2117)) 20 sg117) 18 wd117) 17 (nI a2126)) 19 (nI f2126)) 20 sg126) 18 wd126) 21 s2126) 22 p2126) vj vF vG) := hB9.2.weaken (fun _ q _ h => hFc q.1 h)
            have e9 : fT (fT (fT (fT (fT (fT vi 21 s2126) 22 p2126) 17 (nI a2126)) 19 (nI f2126)) 20 sg126) 18 wd126 = fT (fT (fT (fT (fT (fT (fT (fT (fT (fT (fT (fT vi 21 s2117) 22 p2117) 17 (nI a2117)) 19 (nI f2117)) 20 sg117) 18 wd117) 17 (nI a2126)) 19 (nI f2126)) 20 sg126) 18 wd126) 21 s2126) 22 p2126 := ((congrArg (fun g9 => fT (fT (fT (fT (fT g9 19 (nI f2126)) 20 sg126) 18 wd126) 21 s2126) 22 p2126) ((fT_sw _ _ _ (Nat.ne_of_beq_eq_false rfl)).trans (congrArg (fun g9 => fT g9 18 wd117) ((fT_sw _ _ _ (Nat.ne_of_beq_eq_false rfl)).trans (congrArg (fun g9 => fT g9 20 sg117) ((fT_sw _ _ _ (Nat.ne_of_beq_eq_false rfl)).trans (congrArg (fun g9 => fT g9 19 (nI f2117)) (fT_sm _ _ _ _)))))))).trans ((congrArg (fun g9 => fT (fT (fT (fT g9 20 sg126) 18 wd126) 21 s2126) 22 p2126) ((fT_sw _ _ _ (Nat.ne_of_beq_eq_false rfl)).trans (congrArg (fun g9 => fT g9 18 wd117) ((fT_sw _ _ _ (Nat.ne_of_beq_eq_false rfl)).trans (congrArg (fun g9 => fT g9 20 sg117) (fT_sm _ _ _ _)))))).trans ((congrArg (fun g9 => fT (fT (fT g9 18 wd126) 21 s2126) 22 p2126) ((fT_sw _ _ _ (Nat.ne_of_beq_eq_false rfl)).trans (congrArg (fun g9 => fT g9 18 wd117) (fT_sm _ _ _ _)))).trans ((congrArg (fun g9 => fT (fT g9 21 s2126) 22 p2126) (fT_sm _ _ _ _)).trans ((congrArg (fun g9 => fT g9 22 p2126) ((fT_sw _ _ _ (Nat.ne_of_beq_eq_false rfl)).trans (congrArg (fun g9 => fT g9 18 wd126) ((fT_sw _ _ _ (Nat.ne_of_beq_eq_false rfl)).trans (congrArg (fun g9 => fT g9 20 sg126) ((fT_sw _ _ _ (Nat.ne_of_beq_eq_false rfl)).trans (congrArg (fun g9 => fT g9 19 (nI f2126)) ((fT_sw _ _ _ (Nat.ne_of_beq_eq_false rfl)).trans (congrArg (fun g9 => fT g9 17 (nI a2126)) ((fT_sw _ _ _ (Nat.ne_of_beq_eq_false rfl)).trans (congrArg (fun g9 => fT g9 22 p2117) (fT_sm _ _ _ _)))))))))))).trans ((fT_sw _ _ _ (Nat.ne_of_beq_eq_false rfl)).trans (congrArg (fun g9 => fT g9 18 wd126) ((fT_sw _ _ _ (Nat.ne_of_beq_eq_false rfl)).trans (congrArg (fun g9 => fT g9 20 sg126) ((fT_sw _ _ _ (Nat.ne_of_beq_eq_false rfl)).trans (congrArg (fun g9 => fT g9 19 (nI f2126)) ((fT_sw _ _ _ (Nat.ne_of_beq_eq_false rfl)).trans (congrArg (fun g9 => fT g9 17 (nI a2126)) (fT_sm _ _ _ _)))))))))))))).symm
            rw [← e9] at hP hD
            clear e9
            have hP : va_P (dC, dI) vwCl (WR a k h0 (fT (fT (fT (fT (fT (fT vi 21 s2126) 22 p2126) 17 (nI a2126)) 19 (nI f2126)) 20 sg126) 18 wd126) vj vF vG) H := hP
            have hD : va_D A (WR a k h0 (fT (fT (fT (fT (fT (fT vi 21 s2126) 22 p2126) 17 (nI a2126)) 19 (nI f2126)) 20 sg126) 18 wd126) vj vF vG) := hD
            obtain ⟨f126_0, f126_1, f126_2, f126_3⟩ := hw9
            refine lv_istore hx hb dX12_readBinder_129 hl (by decide) rfl (fun ls (hl : lv_has ls _ ([(4, .int r126), (3, .int (nI (an - fn))), (2, .int (nI fn)), (1, .int j1_s0), (0, .ref h0)])) => ?_)
            refine lv_aload_n hx hb dX12_readBinder_131 rfl (lv_at hl 4 rfl) ?_
            refine va_get (D := (dC, dI)) (ci := 12) (v := .ref (a 14)) (C := RX12) (T := TX12) (N := 163) (fs := fM (vS a (fT (fT (fT (fT (fT (fT vi 21 s2126) 22 p2126) 17 (nI a2126)) 19 (nI f2126)) 20 sg126) 18 wd126) vj)) hx hb hts iwsRX12_readBinder_in12 hown hK hP 0 rfl rfl 31 (by decide) (hts (.fieldLink RX12 62 "OptimaWorksModel" "binderFrom" "[I") (by decide +kernel)) (fun _ h9 => h9) rfl dX12_readBinder_132 ?_
            refine lv_aload_n hx hb dX12_readBinder_135 rfl (lv_at hl 4 rfl) ?_
            refine va_get (D := (dC, dI)) (ci := 12) (v := .int (vi 30)) (C := RX12) (T := TX12) (N := 163) (fs := fM (vS a (fT (fT (fT (fT (fT (fT vi 21 s2126) 22 p2126) 17 (nI a2126)) 19 (nI f2126)) 20 sg126) 18 wd126) vj)) hx hb hts iwsRX12_readBinder_in12 hown hK hP 0 rfl rfl 30 (by decide) (hts (.fieldLink RX12 540 "OptimaWorksModel" "binders" "I") (by decide +kernel)) (fun _ h9 => h9) rfl dX12_readBinder_136 ?_
            refine lv_topi (fun y16 hy16 => ?_)
            obtain rfl : (nI bd) = y16 := (hy16.trans (hbd)).symm
            refine lv_iload_n hx hb dX12_readBinder_139 rfl (lv_at hl 2 rfl) ?_
            refine va_iast (cA := k 14) (n := 60) (f := (vF 14)) hx hb hK hP hD hS 15 14 (WR_get 14 (by decide)) (TR_get 14 (by decide)) (vp_in_nI (show bd < 60 by omega) (by omega)) dX12_readBinder_140 (fun H locs hP hD hS => ?_)
            have hP : va_P (dC, dI) vwCl (WR a k h0 (fT (fT (fT (fT (fT (fT vi 21 s2126) 22 p2126) 17 (nI a2126)) 19 (nI f2126)) 20 sg126) 18 wd126) vj (fT vF 14 (upd (vF 14) ((nI bd)).toNatClampNeg (nI fn))) vG) H := by rw [← WR_F 14 (by decide) _ rfl]; exact hP
            have hD : va_D A (WR a k h0 (fT (fT (fT (fT (fT (fT vi 21 s2126) 22 p2126) 17 (nI a2126)) 19 (nI f2126)) 20 sg126) 18 wd126) vj (fT vF 14 (upd (vF 14) ((nI bd)).toNatClampNeg (nI fn))) vG) := by rw [← WR_F 14 (by decide) _ rfl]; exact hD
            refine lv_aload_n hx hb dX12_readBinder_141 rfl (lv_at hl 4 rfl) ?_
            refine va_get (D := (dC, dI)) (ci := 12) (v := .ref (a 15)) (C := RX12) (T := TX12) (N := 163) (fs := fM (vS a (fT (fT (fT (fT (fT (fT vi 21 s2126) 22 p2126) 17 (nI a2126)) 19 (nI f2126)) 20 sg126) 18 wd126) vj)) hx hb hts iwsRX12_readBinder_in12 hown hK hP 0 rfl rfl 32 (by decide) (hts (.fieldLink RX12 65 "OptimaWorksModel" "binderLong" "[I") (by decide +kernel)) (fun _ h9 => h9) rfl dX12_readBinder_142 ?_
            refine lv_aload_n hx hb dX12_readBinder_145 rfl (lv_at hl 4 rfl) ?_
            refine va_get (D := (dC, dI)) (ci := 12) (v := .int (vi 30)) (C := RX12) (T := TX12) (N := 163) (fs := fM (vS a (fT (fT (fT (fT (fT (fT vi 21 s2126) 22 p2126) 17 (nI a2126)) 19 (nI f2126)) 20 sg126) 18 wd126) vj)) hx hb hts iwsRX12_readBinder_in12 hown hK hP 0 rfl rfl 30 (by decide) (hts (.fieldLink RX12 540 "OptimaWorksModel" "binders" "I") (by decide +kernel)) (fun _ h9 => h9) rfl dX12_readBinder_146 ?_
            refine lv_topi (fun y17 hy17 => ?_)
            obtain rfl : (nI bd) = y17 := (hy17.trans (hbd)).symm
            refine lv_iload_n hx hb dX12_readBinder_149 rfl (lv_at hl 1 rfl) ?_
            refine va_iast (cA := k 15) (n := 60) (f := (vF 15)) hx hb hK hP hD hS 16 15 (WR_get 15 (by decide)) (TR_get 15 (by decide)) (vp_in_nI (show bd < 60 by omega) (by omega)) dX12_readBinder_150 (fun H locs hP hD hS => ?_)
            have hP : va_P (dC, dI) vwCl (WR a k h0 (fT (fT (fT (fT (fT (fT vi 21 s2126) 22 p2126) 17 (nI a2126)) 19 (nI f2126)) 20 sg126) 18 wd126) vj (fT (fT vF 14 (upd (vF 14) ((nI bd)).toNatClampNeg (nI fn))) 15 (upd (vF 15) ((nI bd)).toNatClampNeg (nI (an - fn)))) vG) H := by rw [← WR_F 15 (by decide) _ rfl]; exact hP
            have hD : va_D A (WR a k h0 (fT (fT (fT (fT (fT (fT vi 21 s2126) 22 p2126) 17 (nI a2126)) 19 (nI f2126)) 20 sg126) 18 wd126) vj (fT (fT vF 14 (upd (vF 14) ((nI bd)).toNatClampNeg (nI fn))) 15 (upd (vF 15) ((nI bd)).toNatClampNeg (nI (an - fn)))) vG) := by rw [← WR_F 15 (by decide) _ rfl]; exact hD
            refine lv_aload_n hx hb dX12_readBinder_151 rfl (lv_at hl 4 rfl) ?_
            refine lv_dup hx hb dX12_readBinder_152 rfl ?_
            refine va_get (D := (dC, dI)) (ci := 12) (v := .int (vi 30)) (C := RX12) (T := TX12) (N := 163) (fs := fM (vS a (fT (fT (fT (fT (fT (fT vi 21 s2126) 22 p2126) 17 (nI a2126)) 19 (nI f2126)) 20 sg126) 18 wd126) vj)) hx hb hts iwsRX12_readBinder_in12 hown hK hP 0 rfl rfl 30 (by decide) (hts (.fieldLink RX12 540 "OptimaWorksModel" "binders" "I") (by decide +kernel)) (fun _ h9 => h9) rfl dX12_readBinder_153 ?_
            refine lv_topi (fun y18 hy18 => ?_)
            obtain rfl : (nI bd) = y18 := (hy18.trans (hbd)).symm
            refine lv_iconst (v := 1) hx hb dX12_readBinder_156 (by decide) ?_
            refine lv_iadd hx hb dX12_readBinder_157 ?_
            refine lv_topi (fun y19 hy19 => ?_)
            obtain rfl : (nI (bd + 1)) = y19 := (hy19.trans (nI_add bd 1)).symm
            refine va_put (D := (dC, dI)) (ci := 12) (v := .int (nI (bd + 1))) (ty := .int) (C := RX12) (T := TX12) (N := 163) (fs := fM (vS a (fT (fT (fT (fT (fT (fT vi 21 s2126) 22 p2126) 17 (nI a2126)) 19 (nI f2126)) 20 sg126) 18 wd126) vj)) hx hb hts iwsRX12_readBinder_in12 tyX12 tyX12_ok nmX12 hown hK hP hD hS 0 rfl rfl 30 (by decide) (hts (.fieldLink RX12 540 "OptimaWorksModel" "binders" "I") (by decide +kernel)) (fun _ h9 => h9) rfl (by decide +kernel) rfl rfl (Nat.le_of_ble_eq_true rfl) dX12_readBinder_158 (fun H locs hP hD hS => ?_)
            have hP : va_P (dC, dI) vwCl (WR a k h0 (fT (fT (fT (fT (fT (fT (fT vi 21 s2126) 22 p2126) 17 (nI a2126)) 19 (nI f2126)) 20 sg126) 18 wd126) 30 (nI (bd + 1))) vj (fT (fT vF 14 (upd (vF 14) ((nI bd)).toNatClampNeg (nI fn))) 15 (upd (vF 15) ((nI bd)).toNatClampNeg (nI (an - fn)))) vG) H := by rw [← WR_i 30 _ rfl]; exact hP
            have hD : va_D A (WR a k h0 (fT (fT (fT (fT (fT (fT (fT vi 21 s2126) 22 p2126) 17 (nI a2126)) 19 (nI f2126)) 20 sg126) 18 wd126) 30 (nI (bd + 1))) vj (fT (fT vF 14 (upd (vF 14) ((nI bd)).toNatClampNeg (nI fn))) 15 (upd (vF 15) ((nI bd)).toNatClampNeg (nI (an - fn)))) vG) := by rw [← WR_i 30 _ rfl]; exact hD
            refine lv_iload hx hb dX12_readBinder_161 (lv_at hl 0 rfl) ?_
            refine W.widen (k := 0) (n := 0) (by decide +kernel) (by decide +kernel) ?_
            exact W.iret (v := r126) hx hb hr (fun t9_ ht hW => ⟨⟨r126, (a2126, f2126, sg126, wd126, s2126, p2126, (bd + 1), (upd (vF 14) ((nI bd)).toNatClampNeg (nI fn)), (upd (vF 15) ((nI bd)).toNatClampNeg (nI (an - fn)))), rfl, by (try dsimp only); exact ⟨f126_0, by omega, f126_2, by omega, (fun k hk => by rw [upd_at (by omega), upd_at (by omega)]; by_cases e9 : k = bd; (rw [if_pos e9, if_pos e9]; exact ⟨fn, an - fn, rfl, rfl, by omega⟩); (rw [if_neg e9, if_neg e9]; exact hbo k (by omega))), by rcases f126_3 with h9 | ⟨h9, h8, o, h7, h6⟩; (exact Or.inl h9); (exact Or.inr ⟨h9, by omega, rfl, o, h7, h6⟩)⟩, by rw [ht]; exact hP, hD⟩, hS.F ht⟩) hS.2.2 dX12_readBinder_163
          · refine lv_if_ne (tgt := 125) hx hb dX12_readBinder_120 (by decide) (fun c9 => absurd c9 (by decide)) (fun _ => ?_)
            refine lv_iconst (v := 0) hx hb dX12_readBinder_123 (by decide) ?_
            refine W.widen (k := 0) (n := 0) (by decide +kernel) (by decide +kernel) ?_
            have e9 : fT (fT (fT (fT (fT (fT (fT vi 21 s2117) 22 p2117) 17 (nI a2117)) 19 (nI f2117)) 20 sg117) 18 wd117) 30 (nI bd) = fT (fT (fT (fT (fT (fT vi 21 s2117) 22 p2117) 17 (nI a2117)) 19 (nI f2117)) 20 sg117) 18 wd117 := by funext q9; by_cases h9_21 : q9 = 21; (subst h9_21; exact ((fT_ne _ _ (Nat.ne_of_beq_eq_false rfl)).trans ((fT_ne _ _ (Nat.ne_of_beq_eq_false rfl)).trans ((fT_ne _ _ (Nat.ne_of_beq_eq_false rfl)).trans ((fT_ne _ _ (Nat.ne_of_beq_eq_false rfl)).trans ((fT_ne _ _ (Nat.ne_of_beq_eq_false rfl)).trans ((fT_ne _ _ (Nat.ne_of_beq_eq_false rfl)).trans (fT_eq _ _ _))))))).trans (Eq.trans (by first | rfl | assumption | (symm; assumption) | (subst_vars; rfl)) ((fT_ne _ _ (Nat.ne_of_beq_eq_false rfl)).trans ((fT_ne _ _ (Nat.ne_of_beq_eq_false rfl)).trans ((fT_ne _ _ (Nat.ne_of_beq_eq_false rfl)).trans ((fT_ne _ _ (Nat.ne_of_beq_eq_false rfl)).trans ((fT_ne _ _ (Nat.ne_of_beq_eq_false rfl)).trans (fT_eq _ _ _)))))).symm)); by_cases h9_22 : q9 = 22; (subst h9_22; exact ((fT_ne _ _ (Nat.ne_of_beq_eq_false rfl)).trans ((fT_ne _ _ (Nat.ne_of_beq_eq_false rfl)).trans ((fT_ne _ _ (Nat.ne_of_beq_eq_false rfl)).trans ((fT_ne _ _ (Nat.ne_of_beq_eq_false rfl)).trans ((fT_ne _ _ (Nat.ne_of_beq_eq_false rfl)).trans (fT_eq _ _ _)))))).trans (Eq.trans (by first | rfl | assumption | (symm; assumption) | (subst_vars; rfl)) ((fT_ne _ _ (Nat.ne_of_beq_eq_false rfl)).trans ((fT_ne _ _ (Nat.ne_of_beq_eq_false rfl)).trans ((fT_ne _ _ (Nat.ne_of_beq_eq_false rfl)).trans ((fT_ne _ _ (Nat.ne_of_beq_eq_false rfl)).trans (fT_eq _ _ _))))).symm)); by_cases h9_17 : q9 = 17; (subst h9_17; exact ((fT_ne _ _ (Nat.ne_of_beq_eq_false rfl)).trans ((fT_ne _ _ (Nat.ne_of_beq_eq_false rfl)).trans ((fT_ne _ _ (Nat.ne_of_beq_eq_false rfl)).trans ((fT_ne _ _ (Nat.ne_of_beq_eq_false rfl)).trans (fT_eq _ _ _))))).trans (Eq.trans (by first | rfl | assumption | (symm; assumption) | (subst_vars; rfl)) ((fT_ne _ _ (Nat.ne_of_beq_eq_false rfl)).trans ((fT_ne _ _ (Nat.ne_of_beq_eq_false rfl)).trans ((fT_ne _ _ (Nat.ne_of_beq_eq_false rfl)).trans (fT_eq _ _ _)))).symm)); by_cases h9_19 : q9 = 19; (subst h9_19; exact ((fT_ne _ _ (Nat.ne_of_beq_eq_false rfl)).trans ((fT_ne _ _ (Nat.ne_of_beq_eq_false rfl)).trans ((fT_ne _ _ (Nat.ne_of_beq_eq_false rfl)).trans (fT_eq _ _ _)))).trans (Eq.trans (by first | rfl | assumption | (symm; assumption) | (subst_vars; rfl)) ((fT_ne _ _ (Nat.ne_of_beq_eq_false rfl)).trans ((fT_ne _ _ (Nat.ne_of_beq_eq_false rfl)).trans (fT_eq _ _ _))).symm)); by_cases h9_20 : q9 = 20; (subst h9_20; exact ((fT_ne _ _ (Nat.ne_of_beq_eq_false rfl)).trans ((fT_ne _ _ (Nat.ne_of_beq_eq_false rfl)).trans (fT_eq _ _ _))).trans (Eq.trans (by first | rfl | assumption | (symm; assumption) | (subst_vars; rfl)) ((fT_ne _ _ (Nat.ne_of_beq_eq_false rfl)).trans (fT_eq _ _ _)).symm)); by_cases h9_18 : q9 = 18; (subst h9_18; exact ((fT_ne _ _ (Nat.ne_of_beq_eq_false rfl)).trans (fT_eq _ _ _)).trans (Eq.trans (by first | rfl | assumption | (symm; assumption) | (subst_vars; rfl)) (fT_eq _ _ _).symm)); by_cases h9_30 : q9 = 30; (subst h9_30; exact (fT_eq _ _ _).trans (Eq.trans (by first | rfl | assumption | (symm; assumption) | (subst_vars; rfl)) ((fT_ne _ _ (Nat.ne_of_beq_eq_false rfl)).trans ((fT_ne _ _ (Nat.ne_of_beq_eq_false rfl)).trans ((fT_ne _ _ (Nat.ne_of_beq_eq_false rfl)).trans ((fT_ne _ _ (Nat.ne_of_beq_eq_false rfl)).trans ((fT_ne _ _ (Nat.ne_of_beq_eq_false rfl)).trans (fT_ne _ _ (Nat.ne_of_beq_eq_false rfl))))))).symm)); exact ((fT_ne _ _ h9_30).trans ((fT_ne _ _ h9_18).trans ((fT_ne _ _ h9_20).trans ((fT_ne _ _ h9_19).trans ((fT_ne _ _ h9_17).trans ((fT_ne _ _ h9_22).trans (fT_ne _ _ h9_21))))))).trans ((fT_ne _ _ h9_18).trans ((fT_ne _ _ h9_20).trans ((fT_ne _ _ h9_19).trans ((fT_ne _ _ h9_17).trans ((fT_ne _ _ h9_22).trans (fT_ne _ _ h9_21)))))).symm
            have hP : va_P (dC, dI) vwCl (WR a k h0 (fT (fT (fT (fT (fT (fT (fT vi 21 s2117) 22 p2117) 17 (nI a2117)) 19 (nI f2117)) 20 sg117) 18 wd117) 30 (nI bd)) vj vF vG) H := by rw [e9]; exact hP
            have hD : va_D A (WR a k h0 (fT (fT (fT (fT (fT (fT (fT vi 21 s2117) 22 p2117) 17 (nI a2117)) 19 (nI f2117)) 20 sg117) 18 wd117) 30 (nI bd)) vj vF vG) := by rw [e9]; exact hD
            clear e9
            have e9 : fT (fT vF 14 (vF 14)) 15 (vF 15) = vF := (fT_id _ _ (fT_ne _ _ (Nat.ne_of_beq_eq_false rfl))).trans (fT_id _ _ (rfl))
            have hP : va_P (dC, dI) vwCl (WR a k h0 (fT (fT (fT (fT (fT (fT (fT vi 21 s2117) 22 p2117) 17 (nI a2117)) 19 (nI f2117)) 20 sg117) 18 wd117) 30 (nI bd)) vj (fT (fT vF 14 (vF 14)) 15 (vF 15)) vG) H := by rw [e9]; exact hP
            have hD : va_D A (WR a k h0 (fT (fT (fT (fT (fT (fT (fT vi 21 s2117) 22 p2117) 17 (nI a2117)) 19 (nI f2117)) 20 sg117) 18 wd117) 30 (nI bd)) vj (fT (fT vF 14 (vF 14)) 15 (vF 15)) vG) := by rw [e9]; exact hD
            clear e9
            exact W.iret (v := 0) hx hb hr (fun t9_ ht hW => ⟨⟨0, (a2117, f2117, sg117, wd117, s2117, p2117, bd, (vF 14), (vF 15)), rfl, by (try dsimp only); exact ⟨f117_1, by omega, by omega, by omega, hbo, Or.inl f117_0⟩, by rw [ht]; exact hP, hD⟩, hS.F ht⟩) hS.2.2 dX12_readBinder_124
        · have t_90 : ¬ (j2_i21).toInt ≤ 0 := toI_nle c_90 rfl (by decide)
          refine lv_iconst (v := 0) hx hb dX12_readBinder_93 (by decide) ?_
          refine W.widen (k := 0) (n := 0) (by decide +kernel) (by decide +kernel) ?_
          have e9 : fT (fT (fT (fT (fT (fT (fT vi 21 j2_i21) 22 j2_i22) 17 (nI an)) 19 (nI fn)) 20 (vi 20)) 18 (vi 18)) 30 (nI bd) = fT (fT vi 21 j2_i21) 22 j2_i22 := by funext q9; by_cases h9_21 : q9 = 21; (subst h9_21; exact ((fT_ne _ _ (Nat.ne_of_beq_eq_false rfl)).trans ((fT_ne _ _ (Nat.ne_of_beq_eq_false rfl)).trans ((fT_ne _ _ (Nat.ne_of_beq_eq_false rfl)).trans ((fT_ne _ _ (Nat.ne_of_beq_eq_false rfl)).trans ((fT_ne _ _ (Nat.ne_of_beq_eq_false rfl)).trans ((fT_ne _ _ (Nat.ne_of_beq_eq_false rfl)).trans (fT_eq _ _ _))))))).trans (Eq.trans (by first | rfl | assumption | (symm; assumption) | (subst_vars; rfl)) ((fT_ne _ _ (Nat.ne_of_beq_eq_false rfl)).trans (fT_eq _ _ _)).symm)); by_cases h9_22 : q9 = 22; (subst h9_22; exact ((fT_ne _ _ (Nat.ne_of_beq_eq_false rfl)).trans ((fT_ne _ _ (Nat.ne_of_beq_eq_false rfl)).trans ((fT_ne _ _ (Nat.ne_of_beq_eq_false rfl)).trans ((fT_ne _ _ (Nat.ne_of_beq_eq_false rfl)).trans ((fT_ne _ _ (Nat.ne_of_beq_eq_false rfl)).trans (fT_eq _ _ _)))))).trans (Eq.trans (by first | rfl | assumption | (symm; assumption) | (subst_vars; rfl)) (fT_eq _ _ _).symm)); by_cases h9_17 : q9 = 17; (subst h9_17; exact ((fT_ne _ _ (Nat.ne_of_beq_eq_false rfl)).trans ((fT_ne _ _ (Nat.ne_of_beq_eq_false rfl)).trans ((fT_ne _ _ (Nat.ne_of_beq_eq_false rfl)).trans ((fT_ne _ _ (Nat.ne_of_beq_eq_false rfl)).trans (fT_eq _ _ _))))).trans (Eq.trans (by first | rfl | assumption | (symm; assumption) | (subst_vars; rfl)) ((fT_ne _ _ (Nat.ne_of_beq_eq_false rfl)).trans (fT_ne _ _ (Nat.ne_of_beq_eq_false rfl))).symm)); by_cases h9_19 : q9 = 19; (subst h9_19; exact ((fT_ne _ _ (Nat.ne_of_beq_eq_false rfl)).trans ((fT_ne _ _ (Nat.ne_of_beq_eq_false rfl)).trans ((fT_ne _ _ (Nat.ne_of_beq_eq_false rfl)).trans (fT_eq _ _ _)))).trans (Eq.trans (by first | rfl | assumption | (symm; assumption) | (subst_vars; rfl)) ((fT_ne _ _ (Nat.ne_of_beq_eq_false rfl)).trans (fT_ne _ _ (Nat.ne_of_beq_eq_false rfl))).symm)); by_cases h9_20 : q9 = 20; (subst h9_20; exact ((fT_ne _ _ (Nat.ne_of_beq_eq_false rfl)).trans ((fT_ne _ _ (Nat.ne_of_beq_eq_false rfl)).trans (fT_eq _ _ _))).trans (Eq.trans (by first | rfl | assumption | (symm; assumption) | (subst_vars; rfl)) ((fT_ne _ _ (Nat.ne_of_beq_eq_false rfl)).trans (fT_ne _ _ (Nat.ne_of_beq_eq_false rfl))).symm)); by_cases h9_18 : q9 = 18; (subst h9_18; exact ((fT_ne _ _ (Nat.ne_of_beq_eq_false rfl)).trans (fT_eq _ _ _)).trans (Eq.trans (by first | rfl | assumption | (symm; assumption) | (subst_vars; rfl)) ((fT_ne _ _ (Nat.ne_of_beq_eq_false rfl)).trans (fT_ne _ _ (Nat.ne_of_beq_eq_false rfl))).symm)); by_cases h9_30 : q9 = 30; (subst h9_30; exact (fT_eq _ _ _).trans (Eq.trans (by first | rfl | assumption | (symm; assumption) | (subst_vars; rfl)) ((fT_ne _ _ (Nat.ne_of_beq_eq_false rfl)).trans (fT_ne _ _ (Nat.ne_of_beq_eq_false rfl))).symm)); exact ((fT_ne _ _ h9_30).trans ((fT_ne _ _ h9_18).trans ((fT_ne _ _ h9_20).trans ((fT_ne _ _ h9_19).trans ((fT_ne _ _ h9_17).trans ((fT_ne _ _ h9_22).trans (fT_ne _ _ h9_21))))))).trans ((fT_ne _ _ h9_22).trans (fT_ne _ _ h9_21)).symm
          have hP : va_P (dC, dI) vwCl (WR a k h0 (fT (fT (fT (fT (fT (fT (fT vi 21 j2_i21) 22 j2_i22) 17 (nI an)) 19 (nI fn)) 20 (vi 20)) 18 (vi 18)) 30 (nI bd)) vj vF vG) H := by rw [e9]; exact hP
          have hD : va_D A (WR a k h0 (fT (fT (fT (fT (fT (fT (fT vi 21 j2_i21) 22 j2_i22) 17 (nI an)) 19 (nI fn)) 20 (vi 20)) 18 (vi 18)) 30 (nI bd)) vj vF vG) := by rw [e9]; exact hD
          clear e9
          have e9 : fT (fT vF 14 (vF 14)) 15 (vF 15) = vF := (fT_id _ _ (fT_ne _ _ (Nat.ne_of_beq_eq_false rfl))).trans (fT_id _ _ (rfl))
          have hP : va_P (dC, dI) vwCl (WR a k h0 (fT (fT (fT (fT (fT (fT (fT vi 21 j2_i21) 22 j2_i22) 17 (nI an)) 19 (nI fn)) 20 (vi 20)) 18 (vi 18)) 30 (nI bd)) vj (fT (fT vF 14 (vF 14)) 15 (vF 15)) vG) H := by rw [e9]; exact hP
          have hD : va_D A (WR a k h0 (fT (fT (fT (fT (fT (fT (fT vi 21 j2_i21) 22 j2_i22) 17 (nI an)) 19 (nI fn)) 20 (vi 20)) 18 (vi 18)) 30 (nI bd)) vj (fT (fT vF 14 (vF 14)) 15 (vF 15)) vG) := by rw [e9]; exact hD
          clear e9
          exact W.iret (v := 0) hx hb hr (fun t9_ ht hW => ⟨⟨0, (an, fn, (vi 20), (vi 18), j2_i21, j2_i22, bd, (vF 14), (vF 15)), rfl, by (try dsimp only); exact ⟨hLx, Nat.le_refl _, by omega, by omega, hbo, Or.inl (by omega)⟩, by rw [ht]; exact hP, hD⟩, hS.F ht⟩) hS.2.2 dX12_readBinder_94
  · have t_5 : ¬ ((vi 18)).toInt = 1 := toI_neq c_5 rfl (by decide)
    refine lv_aload_n hx hb dX12_readBinder_8 rfl (lv_at hl 0 rfl) ?_
    have hFc := allFree hD hS hA
    refine va_callv (va_runV (As := []) (rest := []) ⟨hx, hb, hml, hown, hts⟩ (r_X12_wrong l dC dI a k h0 vi vj vF vG s.heap.size) (cwV 0 hts gwsRX12_readBinder_7 rfl rfl rfl hd_yX12_wrong_RX12 (by decide +kernel)) (fz_pre (va_recv hK hP (ci := 12) (q0 := 0) rfl rfl) hP hK hD) rfl rfl hl.1 rfl (lv_room (Nat.le_of_ble_eq_true rfl)) dX12_readBinder_9 (by decide +kernel)) hS (fun q _ h => hFc q h) hFc (fun u t9_ H locs ht hvm hw9 hB9 hz1 hk1 hS => ?_)
    obtain ⟨s29, p29⟩ := u
    try dsimp only at hw9 hB9
    have hP : va_P (dC, dI) vwCl (WR a k h0 (fT (fT vi 21 s29) 22 p29) vj vF vG) H := fz_P ht hB9.1
    have hD : va_D A (WR a k h0 (fT (fT vi 21 s29) 22 p29) vj vF vG) := hB9.2.weaken (fun _ q _ h => hFc q.1 h)
    obtain ⟨f9_0, f9_1⟩ := hw9
    have f9_0 : (0 < (vi 21).toInt ∧ s29 = (vi 21) ∧ p29 = (vi 22)) ∨ (¬ 0 < (vi 21).toInt ∧ (s29 = 1 ∨ s29 = 2) ∧ p29 = (vi 19)) := f9_0
    refine lv_iconst (v := 0) hx hb dX12_readBinder_12 (by decide) ?_
    refine W.widen (k := 0) (n := 0) (by decide +kernel) (by decide +kernel) ?_
    have e9 : fT (fT (fT (fT (fT (fT (fT vi 21 s29) 22 p29) 17 (nI an)) 19 (nI fn)) 20 (vi 20)) 18 (vi 18)) 30 (nI bd) = fT (fT vi 21 s29) 22 p29 := by funext q9; by_cases h9_21 : q9 = 21; (subst h9_21; exact ((fT_ne _ _ (Nat.ne_of_beq_eq_false rfl)).trans ((fT_ne _ _ (Nat.ne_of_beq_eq_false rfl)).trans ((fT_ne _ _ (Nat.ne_of_beq_eq_false rfl)).trans ((fT_ne _ _ (Nat.ne_of_beq_eq_false rfl)).trans ((fT_ne _ _ (Nat.ne_of_beq_eq_false rfl)).trans ((fT_ne _ _ (Nat.ne_of_beq_eq_false rfl)).trans (fT_eq _ _ _))))))).trans (Eq.trans (by first | rfl | assumption | (symm; assumption) | (subst_vars; rfl)) ((fT_ne _ _ (Nat.ne_of_beq_eq_false rfl)).trans (fT_eq _ _ _)).symm)); by_cases h9_22 : q9 = 22; (subst h9_22; exact ((fT_ne _ _ (Nat.ne_of_beq_eq_false rfl)).trans ((fT_ne _ _ (Nat.ne_of_beq_eq_false rfl)).trans ((fT_ne _ _ (Nat.ne_of_beq_eq_false rfl)).trans ((fT_ne _ _ (Nat.ne_of_beq_eq_false rfl)).trans ((fT_ne _ _ (Nat.ne_of_beq_eq_false rfl)).trans (fT_eq _ _ _)))))).trans (Eq.trans (by first | rfl | assumption | (symm; assumption) | (subst_vars; rfl)) (fT_eq _ _ _).symm)); by_cases h9_17 : q9 = 17; (subst h9_17; exact ((fT_ne _ _ (Nat.ne_of_beq_eq_false rfl)).trans ((fT_ne _ _ (Nat.ne_of_beq_eq_false rfl)).trans ((fT_ne _ _ (Nat.ne_of_beq_eq_false rfl)).trans ((fT_ne _ _ (Nat.ne_of_beq_eq_false rfl)).trans (fT_eq _ _ _))))).trans (Eq.trans (by first | rfl | assumption | (symm; assumption) | (subst_vars; rfl)) ((fT_ne _ _ (Nat.ne_of_beq_eq_false rfl)).trans (fT_ne _ _ (Nat.ne_of_beq_eq_false rfl))).symm)); by_cases h9_19 : q9 = 19; (subst h9_19; exact ((fT_ne _ _ (Nat.ne_of_beq_eq_false rfl)).trans ((fT_ne _ _ (Nat.ne_of_beq_eq_false rfl)).trans ((fT_ne _ _ (Nat.ne_of_beq_eq_false rfl)).trans (fT_eq _ _ _)))).trans (Eq.trans (by first | rfl | assumption | (symm; assumption) | (subst_vars; rfl)) ((fT_ne _ _ (Nat.ne_of_beq_eq_false rfl)).trans (fT_ne _ _ (Nat.ne_of_beq_eq_false rfl))).symm)); by_cases h9_20 : q9 = 20; (subst h9_20; exact ((fT_ne _ _ (Nat.ne_of_beq_eq_false rfl)).trans ((fT_ne _ _ (Nat.ne_of_beq_eq_false rfl)).trans (fT_eq _ _ _))).trans (Eq.trans (by first | rfl | assumption | (symm; assumption) | (subst_vars; rfl)) ((fT_ne _ _ (Nat.ne_of_beq_eq_false rfl)).trans (fT_ne _ _ (Nat.ne_of_beq_eq_false rfl))).symm)); by_cases h9_18 : q9 = 18; (subst h9_18; exact ((fT_ne _ _ (Nat.ne_of_beq_eq_false rfl)).trans (fT_eq _ _ _)).trans (Eq.trans (by first | rfl | assumption | (symm; assumption) | (subst_vars; rfl)) ((fT_ne _ _ (Nat.ne_of_beq_eq_false rfl)).trans (fT_ne _ _ (Nat.ne_of_beq_eq_false rfl))).symm)); by_cases h9_30 : q9 = 30; (subst h9_30; exact (fT_eq _ _ _).trans (Eq.trans (by first | rfl | assumption | (symm; assumption) | (subst_vars; rfl)) ((fT_ne _ _ (Nat.ne_of_beq_eq_false rfl)).trans (fT_ne _ _ (Nat.ne_of_beq_eq_false rfl))).symm)); exact ((fT_ne _ _ h9_30).trans ((fT_ne _ _ h9_18).trans ((fT_ne _ _ h9_20).trans ((fT_ne _ _ h9_19).trans ((fT_ne _ _ h9_17).trans ((fT_ne _ _ h9_22).trans (fT_ne _ _ h9_21))))))).trans ((fT_ne _ _ h9_22).trans (fT_ne _ _ h9_21)).symm
    have hP : va_P (dC, dI) vwCl (WR a k h0 (fT (fT (fT (fT (fT (fT (fT vi 21 s29) 22 p29) 17 (nI an)) 19 (nI fn)) 20 (vi 20)) 18 (vi 18)) 30 (nI bd)) vj vF vG) H := by rw [e9]; exact hP
    have hD : va_D A (WR a k h0 (fT (fT (fT (fT (fT (fT (fT vi 21 s29) 22 p29) 17 (nI an)) 19 (nI fn)) 20 (vi 20)) 18 (vi 18)) 30 (nI bd)) vj vF vG) := by rw [e9]; exact hD
    clear e9
    have e9 : fT (fT vF 14 (vF 14)) 15 (vF 15) = vF := (fT_id _ _ (fT_ne _ _ (Nat.ne_of_beq_eq_false rfl))).trans (fT_id _ _ (rfl))
    have hP : va_P (dC, dI) vwCl (WR a k h0 (fT (fT (fT (fT (fT (fT (fT vi 21 s29) 22 p29) 17 (nI an)) 19 (nI fn)) 20 (vi 20)) 18 (vi 18)) 30 (nI bd)) vj (fT (fT vF 14 (vF 14)) 15 (vF 15)) vG) H := by rw [e9]; exact hP
    have hD : va_D A (WR a k h0 (fT (fT (fT (fT (fT (fT (fT vi 21 s29) 22 p29) 17 (nI an)) 19 (nI fn)) 20 (vi 20)) 18 (vi 18)) 30 (nI bd)) vj (fT (fT vF 14 (vF 14)) 15 (vF 15)) vG) := by rw [e9]; exact hD
    clear e9
    exact W.iret (v := 0) hx hb hr (fun t9_ ht hW => ⟨⟨0, (an, fn, (vi 20), (vi 18), s29, p29, bd, (vF 14), (vF 15)), rfl, by (try dsimp only); exact ⟨hLx, Nat.le_refl _, by omega, by omega, hbo, Or.inl f9_1⟩, by rw [ht]; exact hP, hD⟩, hS.F ht⟩) hS.2.2 dX12_readBinder_13
theorem dX12_readBinding_0 : decode cX12_readBinding 0 = .ok (.aload_n 0, 1) := dk_42 (by decide +kernel)
theorem dX12_readBinding_1 : decode cX12_readBinding 1 = .ok (.getfield 546, 3) := dk_180 (by decide +kernel)
theorem dX12_readBinding_4 : decode cX12_readBinding 4 = .ok (.istore_n 1, 1) := dk_60 (by decide +kernel)
theorem dX12_readBinding_5 : decode cX12_readBinding 5 = .ok (.aload_n 0, 1) := dk_42 (by decide +kernel)
theorem dX12_readBinding_6 : decode cX12_readBinding 6 = .ok (.dup, 1) := dk_89 (by decide +kernel)
theorem dX12_readBinding_7 : decode cX12_readBinding 7 = .ok (.getfield 546, 3) := dk_180 (by decide +kernel)
theorem dX12_readBinding_10 : decode cX12_readBinding 10 = .ok (.iconst 1, 1) := dk_4 (by decide +kernel)
theorem dX12_readBinding_11 : decode cX12_readBinding 11 = .ok (.iadd, 1) := dk_96 (by decide +kernel)
theorem dX12_readBinding_12 : decode cX12_readBinding 12 = .ok (.putfield 546, 3) := dk_181 (by decide +kernel)
theorem dX12_readBinding_15 : decode cX12_readBinding 15 = .ok (.aload_n 0, 1) := dk_42 (by decide +kernel)
theorem dX12_readBinding_16 : decode cX12_readBinding 16 = .ok (.getfield 137, 3) := dk_180 (by decide +kernel)
theorem dX12_readBinding_19 : decode cX12_readBinding 19 = .ok (.iload_n 1, 1) := dk_27 (by decide +kernel)
theorem dX12_readBinding_20 : decode cX12_readBinding 20 = .ok (.aload_n 0, 1) := dk_42 (by decide +kernel)
theorem dX12_readBinding_21 : decode cX12_readBinding 21 = .ok (.getfield 540, 3) := dk_180 (by decide +kernel)
theorem dX12_readBinding_24 : decode cX12_readBinding 24 = .ok (.iastore, 1) := dk_79 (by decide +kernel)
theorem dX12_readBinding_25 : decode cX12_readBinding 25 = .ok (.aload_n 0, 1) := dk_42 (by decide +kernel)
theorem dX12_readBinding_26 : decode cX12_readBinding 26 = .ok (.getfield 134, 3) := dk_180 (by decide +kernel)
theorem dX12_readBinding_29 : decode cX12_readBinding 29 = .ok (.iload_n 1, 1) := dk_27 (by decide +kernel)
theorem dX12_readBinding_30 : decode cX12_readBinding 30 = .ok (.iconst (-1), 1) := dk_2 (by decide +kernel)
theorem dX12_readBinding_31 : decode cX12_readBinding 31 = .ok (.iastore, 1) := dk_79 (by decide +kernel)
theorem dX12_readBinding_32 : decode cX12_readBinding 32 = .ok (.aload_n 0, 1) := dk_42 (by decide +kernel)
theorem dX12_readBinding_33 : decode cX12_readBinding 33 = .ok (.getfield 131, 3) := dk_180 (by decide +kernel)
theorem dX12_readBinding_36 : decode cX12_readBinding 36 = .ok (.iload_n 1, 1) := dk_27 (by decide +kernel)
theorem dX12_readBinding_37 : decode cX12_readBinding 37 = .ok (.aload_n 0, 1) := dk_42 (by decide +kernel)
theorem dX12_readBinding_38 : decode cX12_readBinding 38 = .ok (.invokevirtual 549, 3) := dk_182 (by decide +kernel)
theorem dX12_readBinding_41 : decode cX12_readBinding 41 = .ok (.iastore, 1) := dk_79 (by decide +kernel)
theorem dX12_readBinding_42 : decode cX12_readBinding 42 = .ok (.aload_n 0, 1) := dk_42 (by decide +kernel)
theorem dX12_readBinding_43 : decode cX12_readBinding 43 = .ok (.getfield 515, 3) := dk_180 (by decide +kernel)
theorem dX12_readBinding_46 : decode cX12_readBinding 46 = .ok (.ifCond .ne 26, 3) := dk_154 (by decide +kernel)
theorem dX12_readBinding_49 : decode cX12_readBinding 49 = .ok (.aload_n 0, 1) := dk_42 (by decide +kernel)
theorem dX12_readBinding_50 : decode cX12_readBinding 50 = .ok (.bipush 44, 2) := dk_16 (by decide +kernel)
theorem dX12_readBinding_52 : decode cX12_readBinding 52 = .ok (.invokevirtual 521, 3) := dk_182 (by decide +kernel)
theorem dX12_readBinding_55 : decode cX12_readBinding 55 = .ok (.ifCond .eq 17, 3) := dk_153 (by decide +kernel)
theorem dX12_readBinding_58 : decode cX12_readBinding 58 = .ok (.aload_n 0, 1) := dk_42 (by decide +kernel)
theorem dX12_readBinding_59 : decode cX12_readBinding 59 = .ok (.invokevirtual 524, 3) := dk_182 (by decide +kernel)
theorem dX12_readBinding_62 : decode cX12_readBinding 62 = .ok (.aload_n 0, 1) := dk_42 (by decide +kernel)
theorem dX12_readBinding_63 : decode cX12_readBinding 63 = .ok (.getfield 134, 3) := dk_180 (by decide +kernel)
theorem dX12_readBinding_66 : decode cX12_readBinding 66 = .ok (.iload_n 1, 1) := dk_27 (by decide +kernel)
theorem dX12_readBinding_67 : decode cX12_readBinding 67 = .ok (.aload_n 0, 1) := dk_42 (by decide +kernel)
theorem dX12_readBinding_68 : decode cX12_readBinding 68 = .ok (.invokevirtual 549, 3) := dk_182 (by decide +kernel)
theorem dX12_readBinding_71 : decode cX12_readBinding 71 = .ok (.iastore, 1) := dk_79 (by decide +kernel)
theorem dX12_readBinding_72 : decode cX12_readBinding 72 = .ok (.iload_n 1, 1) := dk_27 (by decide +kernel)
theorem dX12_readBinding_73 : decode cX12_readBinding 73 = .ok (.ireturn, 1) := dk_172 (by decide +kernel)
def wsRX12_readBinding : List Cond := .code yX12_readBinding cX12_readBinding 2 (some .int) :: ([.fieldLink RX12 546 "OptimaWorksModel" "bindings" "I", .fieldLink RX12 137 "OptimaWorksModel" "bindAt" "[I", .fieldLink RX12 540 "OptimaWorksModel" "binders" "I", .fieldLink RX12 134 "OptimaWorksModel" "bindTwo" "[I", .fieldLink RX12 131 "OptimaWorksModel" "bindOne" "[I", .fieldLink RX12 515 "OptimaWorksModel" "stop" "I"] ++ wsX120 ++ (wsV RX12 549 RX12 yX12_readBinder wsRX12_readBinder) ++ (wsV RX12 521 RX12 yX12_isSign wsRX12_isSign) ++ (wsV RX12 524 RX12 yX12_next wsRX12_next))
theorem iwsRX12_readBinding_in12 : ∀ w ∈ wsX120, w ∈ wsRX12_readBinding := fun _ h => List.mem_cons_of_mem _ (List.mem_append_left _ (List.mem_append_left _ (List.mem_append_left _ (List.mem_append_right _ h))))
theorem gwsRX12_readBinding_0 : GoodIn wsRX12_readBinding (wsV RX12 549 RX12 yX12_readBinder wsRX12_readBinder) := goodIn_sub (fun _ h => List.mem_cons_of_mem _ (List.mem_append_left _ (List.mem_append_left _ (List.mem_append_right _ h)))) (gdV (by decide +kernel) gdwsRX12_readBinder)
theorem gwsRX12_readBinding_1 : GoodIn wsRX12_readBinding (wsV RX12 521 RX12 yX12_isSign wsRX12_isSign) := goodIn_sub (fun _ h => List.mem_cons_of_mem _ (List.mem_append_left _ (List.mem_append_right _ h))) (gdV (by decide +kernel) gdwsRX12_isSign)
theorem gwsRX12_readBinding_2 : GoodIn wsRX12_readBinding (wsV RX12 524 RX12 yX12_next wsRX12_next) := goodIn_sub (fun _ h => List.mem_cons_of_mem _ (List.mem_append_right _ h)) (gdV (by decide +kernel) gdwsRX12_next)
theorem gdwsRX12_readBinding : wsRX12_readBinding.all goodWord = true := gdC rfl (gdA (gdA (gdA (gdA (by decide +kernel : ([.fieldLink RX12 546 "OptimaWorksModel" "bindings" "I", .fieldLink RX12 137 "OptimaWorksModel" "bindAt" "[I", .fieldLink RX12 540 "OptimaWorksModel" "binders" "I", .fieldLink RX12 134 "OptimaWorksModel" "bindTwo" "[I", .fieldLink RX12 131 "OptimaWorksModel" "bindOne" "[I", .fieldLink RX12 515 "OptimaWorksModel" "stop" "I"] : List Cond).all goodWord = true) gdwsX120) (gdV (by decide +kernel) gdwsRX12_readBinder)) (gdV (by decide +kernel) gdwsRX12_isSign)) (gdV (by decide +kernel) gdwsRX12_next))
set_option maxHeartbeats 4000000 in
set_option maxRecDepth 100000 in
/-- readBinding() -/
theorem r_X12_readBinding (l : Launch) (dC : Nat → ClassId) (dI : Nat → Nat → Nat) (a : Nat → Nat) (k : Nat → ClassId) (h0 : Nat) (vi : Nat → Int32) (vj : Nat → Int64) (vF : Nat → Nat → Int32) (vG : Nat → Nat → Int64) (tp : Nat) (an : Nat) (fn : Nat) (nm : Nat) (se : Nat) (pa : Nat) (va : Nat) (bd : Nat) (bs : Nat) (hTp : vi 16 = nI tp) (htp : tp ≤ 4000) (ha0 : vi 17 = nI an) (hfr : vi 19 = nI fn) (hLx : LxO tp fn an (vi 18) (vi 20)) (hst0 : 0 ≤ (vi 21).toInt) (hnm : vi 25 = nI nm) (hnm40 : nm ≤ 40) (hno : NmO (vF 11) (vF 12) nm) (hNk : NkO (vF 10) (vF 13) nm se pa va) (hbd : vi 30 = nI bd) (hbd56 : bd ≤ 56) (hbo : NmO (vF 14) (vF 15) 60) (hOw : OwO (vi 33) (vi 34)) (hbs : vi 60 = nI bs) (hbs9 : bs < 900) (sz : Nat) : Met l yX12_readBinding wsRX12_readBinding ({ frames := 10, cells := 0, slots := 0, locals := 218 }) (va_Pc [.ref h0] (fun U => U.heap.size = sz ∧ va_P (dC, dI) vwCl (WR a k h0 vi vj vF vG) U.heap ∧ va_K (dC, dI) vwCl (tX12 k) U ∧ va_D (fun _ => True) (WR a k h0 vi vj vF vG) ∧ StrA (va_A (WR a k h0 vi vj vF vG) sz) U U.heap)) (va_Qi (fun (r : Int32) (u : (Nat) × (Nat) × (Int32) × (Int32) × (Int32) × (Int32) × (Nat) × (Nat → Int32) × (Nat → Int32) × (Nat → Int32) × (Nat → Int32) × (Nat → Int32)) => r = (nI bs) ∧ (LxO tp (u.2.1) (u.1) (u.2.2.2.1) (u.2.2.1)) ∧ (fn ≤ (u.2.1)) ∧ (0 ≤ ((u.2.2.2.2.1)).toInt) ∧ ((u.2.2.2.2.2.2.1) ≤ bd + 2 ∧ bd ≤ (u.2.2.2.2.2.2.1)) ∧ (NmO (u.2.2.2.2.2.2.2.1) (u.2.2.2.2.2.2.2.2.1) 60) ∧ (∀ b, b ≠ bs → (u.2.2.2.2.2.2.2.2.2.1) b = vF 36 b ∧ (u.2.2.2.2.2.2.2.2.2.2.1) b = vF 37 b ∧ (u.2.2.2.2.2.2.2.2.2.2.2) b = vF 38 b) ∧ ((0 < ((u.2.2.2.2.1)).toInt) ∨ ((u.2.2.2.2.1) = 0 ∧ fn + 2 < (u.2.1) ∧ bd < (u.2.2.2.2.2.2.1) ∧ BnO (u.2.2.2.2.2.2.2.2.2.1) (u.2.2.2.2.2.2.2.2.2.2.1) (u.2.2.2.2.2.2.2.2.2.2.2) se bs ∧ (u.2.2.2.2.2.2.2.2.2.2.2) bs = nI bd))) (fun (u : (Nat) × (Nat) × (Int32) × (Int32) × (Int32) × (Int32) × (Nat) × (Nat → Int32) × (Nat → Int32) × (Nat → Int32) × (Nat → Int32) × (Nat → Int32)) t => va_P (dC, dI) vwCl (WR a k h0 (fT (fT (fT (fT (fT (fT (fT (fT vi 60 (nI (bs + 1))) 21 (u.2.2.2.2.1)) 22 (u.2.2.2.2.2.1)) 17 (nI (u.1))) 19 (nI (u.2.1))) 20 (u.2.2.1)) 18 (u.2.2.2.1)) 30 (nI (u.2.2.2.2.2.2.1))) vj (fT (fT (fT (fT (fT vF 38 (u.2.2.2.2.2.2.2.2.2.2.2)) 37 (u.2.2.2.2.2.2.2.2.2.2.1)) 14 (u.2.2.2.2.2.2.2.1)) 15 (u.2.2.2.2.2.2.2.2.1)) 36 (u.2.2.2.2.2.2.2.2.2.1)) vG) t.heap ∧ va_D (va_A (WR a k h0 vi vj vF vG) sz) (WR a k h0 (fT (fT (fT (fT (fT (fT (fT (fT vi 60 (nI (bs + 1))) 21 (u.2.2.2.2.1)) 22 (u.2.2.2.2.2.1)) 17 (nI (u.1))) 19 (nI (u.2.1))) 20 (u.2.2.1)) 18 (u.2.2.2.1)) 30 (nI (u.2.2.2.2.2.2.1))) vj (fT (fT (fT (fT (fT vF 38 (u.2.2.2.2.2.2.2.2.2.2.2)) 37 (u.2.2.2.2.2.2.2.2.2.2.1)) 14 (u.2.2.2.2.2.2.2.1)) 15 (u.2.2.2.2.2.2.2.2.1)) 36 (u.2.2.2.2.2.2.2.2.2.1)) vG)) (va_A (WR a k h0 vi vj vF vG) sz)) 0 0 (va_A (WR a k h0 vi vj vF vG) sz) := by
  refine Met.ofW (cc := cX12_readBinding) (maxL := 2) (ret := (some .int)) (by decide) rfl ?_
  intro p e s m args below meth c s₁ B hml hv
  obtain ⟨rfl, hsz, hP, hK, hD0, hE⟩ := hv
  have hx := B.exec
  have hb := B.bytes
  have hr := B.returns
  have hts := atoms_spec (ws := wsRX12_readBinding) B.pre
  have hown : s.vm.findClass RX12 = some m.cls := findClass_of_methodNamed B.named
  have hlocks := B.notSynchronized
  subst hsz
  have hD := hD0.self (sz := s.heap.size)
  generalize hAe : va_A (WR a k h0 vi vj vF vG) s.heap.size = A at hD hE ⊢
  have hA : ∀ q : Nat, s.heap.size ≤ q → A q := fun q h => by rw [← hAe]; exact Or.inr h
  have hS : va_S A s.heap s.heap [] := va_S.rf
  have hl := lv_entry ([.ref h0]) (n := 2) (Nat.le_of_ble_eq_true rfl)
  rw [lg_entry_eq]
  generalize (lg_sl ([.ref h0]) ++ List.replicate (2 - (lg_sl ([.ref h0])).length) Slot.unset).toArray = ls at hl ⊢
  have hl : lv_has ls 2 [(0, .ref h0)] := hl
  have hfa := hLx.1
  have han := hLx.2.1
  have han4 : an ≤ 4000 := by omega
  refine lv_aload_n hx hb dX12_readBinding_0 rfl (lv_at hl 0 rfl) ?_
  refine va_get (D := (dC, dI)) (ci := 12) (v := .int (vi 60)) (C := RX12) (T := TX12) (N := 163) (fs := fM (vS a vi vj)) hx hb hts iwsRX12_readBinding_in12 hown hK hP 0 rfl rfl 60 (by decide) (hts (.fieldLink RX12 546 "OptimaWorksModel" "bindings" "I") (by decide +kernel)) (fun _ h9 => h9) rfl dX12_readBinding_1 ?_
  refine lv_topi (fun y1 hy1 => ?_)
  obtain rfl : (nI bs) = y1 := (hy1.trans (hbs)).symm
  refine lv_istore_n hx hb dX12_readBinding_4 rfl hl (by decide) rfl (fun ls (hl : lv_has ls _ ([(1, .int (nI bs)), (0, .ref h0)])) => ?_)
  refine lv_aload_n hx hb dX12_readBinding_5 rfl (lv_at hl 1 rfl) ?_
  refine lv_dup hx hb dX12_readBinding_6 rfl ?_
  refine va_get (D := (dC, dI)) (ci := 12) (v := .int (vi 60)) (C := RX12) (T := TX12) (N := 163) (fs := fM (vS a vi vj)) hx hb hts iwsRX12_readBinding_in12 hown hK hP 0 rfl rfl 60 (by decide) (hts (.fieldLink RX12 546 "OptimaWorksModel" "bindings" "I") (by decide +kernel)) (fun _ h9 => h9) rfl dX12_readBinding_7 ?_
  refine lv_topi (fun y2 hy2 => ?_)
  obtain rfl : (nI bs) = y2 := (hy2.trans (hbs)).symm
  refine lv_iconst (v := 1) hx hb dX12_readBinding_10 (by decide) ?_
  refine lv_iadd hx hb dX12_readBinding_11 ?_
  refine lv_topi (fun y3 hy3 => ?_)
  obtain rfl : (nI (bs + 1)) = y3 := (hy3.trans (nI_add bs 1)).symm
  refine va_put (D := (dC, dI)) (ci := 12) (v := .int (nI (bs + 1))) (ty := .int) (C := RX12) (T := TX12) (N := 163) (fs := fM (vS a vi vj)) hx hb hts iwsRX12_readBinding_in12 tyX12 tyX12_ok nmX12 hown hK hP hD hS 0 rfl rfl 60 (by decide) (hts (.fieldLink RX12 546 "OptimaWorksModel" "bindings" "I") (by decide +kernel)) (fun _ h9 => h9) rfl (by decide +kernel) rfl rfl (Nat.le_of_ble_eq_true rfl) dX12_readBinding_12 (fun H locs hP hD hS => ?_)
  have hP : va_P (dC, dI) vwCl (WR a k h0 (fT vi 60 (nI (bs + 1))) vj vF vG) H := by rw [← WR_i 60 _ rfl]; exact hP
  have hD : va_D A (WR a k h0 (fT vi 60 (nI (bs + 1))) vj vF vG) := by rw [← WR_i 60 _ rfl]; exact hD
  refine lv_aload_n hx hb dX12_readBinding_15 rfl (lv_at hl 1 rfl) ?_
  refine va_get (D := (dC, dI)) (ci := 12) (v := .ref (a 38)) (C := RX12) (T := TX12) (N := 163) (fs := fM (vS a (fT vi 60 (nI (bs + 1))) vj)) hx hb hts iwsRX12_readBinding_in12 hown hK hP 0 rfl rfl 63 (by decide) (hts (.fieldLink RX12 137 "OptimaWorksModel" "bindAt" "[I") (by decide +kernel)) (fun _ h9 => h9) rfl dX12_readBinding_16 ?_
  refine lv_iload_n hx hb dX12_readBinding_19 rfl (lv_at hl 0 rfl) ?_
  refine lv_aload_n hx hb dX12_readBinding_20 rfl (lv_at hl 1 rfl) ?_
  refine va_get (D := (dC, dI)) (ci := 12) (v := .int (vi 30)) (C := RX12) (T := TX12) (N := 163) (fs := fM (vS a (fT vi 60 (nI (bs + 1))) vj)) hx hb hts iwsRX12_readBinding_in12 hown hK hP 0 rfl rfl 30 (by decide) (hts (.fieldLink RX12 540 "OptimaWorksModel" "binders" "I") (by decide +kernel)) (fun _ h9 => h9) rfl dX12_readBinding_21 ?_
  refine lv_topi (fun y4 hy4 => ?_)
  obtain rfl : (nI bd) = y4 := (hy4.trans (hbd)).symm
  refine va_iast (cA := k 38) (n := 900) (f := (vF 38)) hx hb hK hP hD hS 39 38 (WR_get 38 (by decide)) (TR_get 38 (by decide)) (vp_in_nI (show bs < 900 by omega) (by omega)) dX12_readBinding_24 (fun H locs hP hD hS => ?_)
  have hP : va_P (dC, dI) vwCl (WR a k h0 (fT vi 60 (nI (bs + 1))) vj (fT vF 38 (upd (vF 38) ((nI bs)).toNatClampNeg (nI bd))) vG) H := by rw [← WR_F 38 (by decide) _ rfl]; exact hP
  have hD : va_D A (WR a k h0 (fT vi 60 (nI (bs + 1))) vj (fT vF 38 (upd (vF 38) ((nI bs)).toNatClampNeg (nI bd))) vG) := by rw [← WR_F 38 (by decide) _ rfl]; exact hD
  refine lv_aload_n hx hb dX12_readBinding_25 rfl (lv_at hl 1 rfl) ?_
  refine va_get (D := (dC, dI)) (ci := 12) (v := .ref (a 37)) (C := RX12) (T := TX12) (N := 163) (fs := fM (vS a (fT vi 60 (nI (bs + 1))) vj)) hx hb hts iwsRX12_readBinding_in12 hown hK hP 0 rfl rfl 62 (by decide) (hts (.fieldLink RX12 134 "OptimaWorksModel" "bindTwo" "[I") (by decide +kernel)) (fun _ h9 => h9) rfl dX12_readBinding_26 ?_
  refine lv_iload_n hx hb dX12_readBinding_29 rfl (lv_at hl 0 rfl) ?_
  refine lv_iconst (v := (-1)) hx hb dX12_readBinding_30 (by decide) ?_
  refine va_iast (cA := k 37) (n := 900) (f := (vF 37)) hx hb hK hP hD hS 38 37 (WR_get 37 (by decide)) (TR_get 37 (by decide)) (vp_in_nI (show bs < 900 by omega) (by omega)) dX12_readBinding_31 (fun H locs hP hD hS => ?_)
  have hP : va_P (dC, dI) vwCl (WR a k h0 (fT vi 60 (nI (bs + 1))) vj (fT (fT vF 38 (upd (vF 38) ((nI bs)).toNatClampNeg (nI bd))) 37 (upd (vF 37) ((nI bs)).toNatClampNeg (-1))) vG) H := by rw [← WR_F 37 (by decide) _ rfl]; exact hP
  have hD : va_D A (WR a k h0 (fT vi 60 (nI (bs + 1))) vj (fT (fT vF 38 (upd (vF 38) ((nI bs)).toNatClampNeg (nI bd))) 37 (upd (vF 37) ((nI bs)).toNatClampNeg (-1))) vG) := by rw [← WR_F 37 (by decide) _ rfl]; exact hD
  refine lv_aload_n hx hb dX12_readBinding_32 rfl (lv_at hl 1 rfl) ?_
  refine va_get (D := (dC, dI)) (ci := 12) (v := .ref (a 36)) (C := RX12) (T := TX12) (N := 163) (fs := fM (vS a (fT vi 60 (nI (bs + 1))) vj)) hx hb hts iwsRX12_readBinding_in12 hown hK hP 0 rfl rfl 61 (by decide) (hts (.fieldLink RX12 131 "OptimaWorksModel" "bindOne" "[I") (by decide +kernel)) (fun _ h9 => h9) rfl dX12_readBinding_33 ?_
  refine lv_iload_n hx hb dX12_readBinding_36 rfl (lv_at hl 0 rfl) ?_
  refine lv_aload_n hx hb dX12_readBinding_37 rfl (lv_at hl 1 rfl) ?_
  have hFc := allFree hD hS hA
  refine va_calli (va_runV (As := []) (rest := [.int (nI bs), .ref (a 36)]) ⟨hx, hb, hml, hown, hts⟩ (r_X12_readBinder l dC dI a k h0 (fT vi 60 (nI (bs + 1))) vj (fT (fT vF 38 (upd (vF 38) ((nI bs)).toNatClampNeg (nI bd))) 37 (upd (vF 37) ((nI bs)).toNatClampNeg (-1))) vG tp an fn nm se pa va bd hTp (by first | assumption | decide | omega | rfl) ha0 hfr (by first | assumption | decide | omega | rfl) (by first | assumption | decide | omega | rfl) hnm (by first | assumption | decide | omega | rfl) (by first | assumption | decide | omega | rfl) (by first | assumption | decide | omega | rfl) hbd (by first | assumption | decide | omega | rfl) (by first | assumption | decide | omega | rfl) (by first | assumption | decide | omega | rfl) H.size) (cwV 0 hts gwsRX12_readBinding_0 rfl rfl rfl hd_yX12_readBinder_RX12 (by decide +kernel)) (fz_preE (va_recv hK hP (ci := 12) (q0 := 0) rfl rfl) hP hK hD (fun a U g mk qE => qE.same rfl) (fun U hU9 hW => by rw [hU9]; exact (((hE : StrA A s s.heap).kept hS.2.1).narrow (fun q h => hFc q h)).warm hW)) rfl rfl hl.1 rfl (lv_room (Nat.le_of_ble_eq_true rfl)) dX12_readBinding_38 (by decide +kernel)) hS (fun q _ h => hFc q h) hFc (fun r38 u t9_ H locs ht hvm hw9 hB9 hz1 hk1 hS => ?_)
  obtain ⟨a238, f238, sg38, wd38, s238, p238, b238, g1438, g1538⟩ := u
  try dsimp only at hw9 hB9
  have hP : va_P (dC, dI) vwCl (WR a k h0 (fT (fT (fT (fT (fT (fT (fT (fT vi 60 (nI (bs + 1))) 21 s238) 22 p238) 17 (nI a238)) 19 (nI f238)) 20 sg38) 18 wd38) 30 (nI b238)) vj (fT (fT (fT (fT vF 38 (upd (vF 38) ((nI bs)).toNatClampNeg (nI bd))) 37 (upd (vF 37) ((nI bs)).toNatClampNeg (-1))) 14 g1438) 15 g1538) vG) H := fz_P ht hB9.1
  have hD : va_D A (WR a k h0 (fT (fT (fT (fT (fT (fT (fT (fT vi 60 (nI (bs + 1))) 21 s238) 22 p238) 17 (nI a238)) 19 (nI f238)) 20 sg38) 18 wd38) 30 (nI b238)) vj (fT (fT (fT (fT vF 38 (upd (vF 38) ((nI bs)).toNatClampNeg (nI bd))) 37 (upd (vF 37) ((nI bs)).toNatClampNeg (-1))) 14 g1438) 15 g1538) vG) := hB9.2.weaken (fun _ q _ h => hFc q.1 h)
  obtain ⟨f38_0, f38_1, f38_2, f38_3, f38_4, f38_5⟩ := hw9
  refine va_iast (cA := k 36) (n := 900) (f := (vF 36)) hx hb hK hP hD hS 37 36 (WR_get 36 (by decide)) (TR_get 36 (by decide)) (vp_in_nI (show bs < 900 by omega) (by omega)) dX12_readBinding_41 (fun H locs hP hD hS => ?_)
  have hP : va_P (dC, dI) vwCl (WR a k h0 (fT (fT (fT (fT (fT (fT (fT (fT vi 60 (nI (bs + 1))) 21 s238) 22 p238) 17 (nI a238)) 19 (nI f238)) 20 sg38) 18 wd38) 30 (nI b238)) vj (fT (fT (fT (fT (fT vF 38 (upd (vF 38) ((nI bs)).toNatClampNeg (nI bd))) 37 (upd (vF 37) ((nI bs)).toNatClampNeg (-1))) 14 g1438) 15 g1538) 36 (upd (vF 36) ((nI bs)).toNatClampNeg r38)) vG) H := by rw [← WR_F 36 (by decide) _ rfl]; exact hP
  have hD : va_D A (WR a k h0 (fT (fT (fT (fT (fT (fT (fT (fT vi 60 (nI (bs + 1))) 21 s238) 22 p238) 17 (nI a238)) 19 (nI f238)) 20 sg38) 18 wd38) 30 (nI b238)) vj (fT (fT (fT (fT (fT vF 38 (upd (vF 38) ((nI bs)).toNatClampNeg (nI bd))) 37 (upd (vF 37) ((nI bs)).toNatClampNeg (-1))) 14 g1438) 15 g1538) 36 (upd (vF 36) ((nI bs)).toNatClampNeg r38)) vG) := by rw [← WR_F 36 (by decide) _ rfl]; exact hD
  refine lv_aload_n hx hb dX12_readBinding_42 rfl (lv_at hl 1 rfl) ?_
  refine va_get (D := (dC, dI)) (ci := 12) (v := .int s238) (C := RX12) (T := TX12) (N := 163) (fs := fM (vS a (fT (fT (fT (fT (fT (fT (fT (fT vi 60 (nI (bs + 1))) 21 s238) 22 p238) 17 (nI a238)) 19 (nI f238)) 20 sg38) 18 wd38) 30 (nI b238)) vj)) hx hb hts iwsRX12_readBinding_in12 hown hK hP 0 rfl rfl 21 (by decide) (hts (.fieldLink RX12 515 "OptimaWorksModel" "stop" "I") (by decide +kernel)) (fun _ h9 => h9) rfl dX12_readBinding_43 ?_
  refine lv_if_ne (tgt := 72) hx hb dX12_readBinding_46 (by decide) (fun c_46 => ?_) (fun c_46 => ?_)
  · have t_46 : (s238).toInt ≠ 0 := toI_ne c_46 rfl (by decide)
    refine lv_iload_n hx hb dX12_readBinding_72 rfl (lv_at hl 0 rfl) ?_
    refine W.widen (k := 0) (n := 0) (by decide +kernel) (by decide +kernel) ?_
    exact W.iret (v := (nI bs)) hx hb hr (fun t9_ ht hW => ⟨⟨(nI bs), (a238, f238, sg38, wd38, s238, p238, b238, g1438, g1538, (upd (vF 36) ((nI bs)).toNatClampNeg r38), (upd (vF 37) ((nI bs)).toNatClampNeg (-1)), (upd (vF 38) ((nI bs)).toNatClampNeg (nI bd))), rfl, by (try dsimp only); exact ⟨rfl, f38_0, f38_1, f38_2, by omega, f38_4, fun b hb9 => ⟨by rw [upd_at (by omega), if_neg hb9], by rw [upd_at (by omega), if_neg hb9], by rw [upd_at (by omega), if_neg hb9]⟩, by rcases f38_5 with h9 | ⟨h9, h8, h5, o, h7, h6⟩; (exact Or.inl h9); (exact Or.inr ⟨h9, h8, by omega, ⟨⟨o, h7, by rw [upd_at (by omega), if_pos rfl]; exact h6⟩, Or.inl (by rw [upd_at (by omega), if_pos rfl]), ⟨bd, by omega, by rw [upd_at (by omega), if_pos rfl]⟩⟩, by rw [upd_at (by omega), if_pos rfl]⟩)⟩, by rw [ht]; exact hP, hD⟩, hS.F ht⟩) hS.2.2 dX12_readBinding_73
  · have t_46 : (s238).toInt = 0 := toI_nne c_46 rfl (by decide)
    have hz38 : (s238).toInt = 0 := by rw [c_46]; decide
    refine lv_aload_n hx hb dX12_readBinding_49 rfl (lv_at hl 1 rfl) ?_
    refine lv_bipush (v := 44) hx hb dX12_readBinding_50 (by decide) ?_
    have hFc := allFree hD hS hA
    refine va_calli (va_runV (As := [.int 44]) (rest := []) ⟨hx, hb, hml, hown, hts⟩ (r_X12_isSign l dC dI a k h0 (fT (fT (fT (fT (fT (fT (fT (fT vi 60 (nI (bs + 1))) 21 s238) 22 p238) 17 (nI a238)) 19 (nI f238)) 20 sg38) 18 wd38) 30 (nI b238)) vj (fT (fT (fT (fT (fT vF 38 (upd (vF 38) ((nI bs)).toNatClampNeg (nI bd))) 37 (upd (vF 37) ((nI bs)).toNatClampNeg (-1))) 14 g1438) 15 g1538) 36 (upd (vF 36) ((nI bs)).toNatClampNeg r38)) vG 44 H.size) (cwV 1 hts gwsRX12_readBinding_1 rfl rfl rfl hd_yX12_isSign_RX12 (by decide +kernel)) (fz_pre (va_recv hK hP (ci := 12) (q0 := 0) rfl rfl) hP hK hD) rfl rfl hl.1 rfl (lv_room (Nat.le_of_ble_eq_true rfl)) dX12_readBinding_52 (by decide +kernel)) hS (fun q _ h => hFc q h) hFc (fun r52 u t9_ H locs ht hvm hw9 hB9 hz1 hk1 hS => ?_)
    have hP : va_P (dC, dI) vwCl (WR a k h0 (fT (fT (fT (fT (fT (fT (fT (fT vi 60 (nI (bs + 1))) 21 s238) 22 p238) 17 (nI a238)) 19 (nI f238)) 20 sg38) 18 wd38) 30 (nI b238)) vj (fT (fT (fT (fT (fT vF 38 (upd (vF 38) ((nI bs)).toNatClampNeg (nI bd))) 37 (upd (vF 37) ((nI bs)).toNatClampNeg (-1))) 14 g1438) 15 g1538) 36 (upd (vF 36) ((nI bs)).toNatClampNeg r38)) vG) H := fz_P ht hB9.1
    have hD : va_D A (WR a k h0 (fT (fT (fT (fT (fT (fT (fT (fT vi 60 (nI (bs + 1))) 21 s238) 22 p238) 17 (nI a238)) 19 (nI f238)) 20 sg38) 18 wd38) 30 (nI b238)) vj (fT (fT (fT (fT (fT vF 38 (upd (vF 38) ((nI bs)).toNatClampNeg (nI bd))) 37 (upd (vF 37) ((nI bs)).toNatClampNeg (-1))) 14 g1438) 15 g1538) 36 (upd (vF 36) ((nI bs)).toNatClampNeg r38)) vG) := hB9.2.weaken (fun _ q _ h => hFc q.1 h)
    rcases hw9 with ⟨rfl, f52_0, f52_1⟩ | ⟨rfl, f52_0⟩
    · have f52_0 : wd38.toInt = 4 := f52_0
      have f52_1 : sg38 = 44 := f52_1
      refine lv_if_eq (tgt := 72) hx hb dX12_readBinding_55 (by decide) (fun c9 => absurd c9 (by decide)) (fun _ => ?_)
      refine lv_aload_n hx hb dX12_readBinding_58 rfl (lv_at hl 1 rfl) ?_
      have hFc := allFree hD hS hA
      refine va_callv (va_runV (As := []) (rest := []) ⟨hx, hb, hml, hown, hts⟩ (r_X12_next l dC dI a k h0 (fT (fT (fT (fT (fT (fT (fT (fT vi 60 (nI (bs + 1))) 21 s238) 22 p238) 17 (nI a238)) 19 (nI f238)) 20 sg38) 18 wd38) 30 (nI b238)) vj (fT (fT (fT (fT (fT vF 38 (upd (vF 38) ((nI bs)).toNatClampNeg (nI bd))) 37 (upd (vF 37) ((nI bs)).toNatClampNeg (-1))) 14 g1438) 15 g1538) 36 (upd (vF 36) ((nI bs)).toNatClampNeg r38)) vG tp a238 hTp (by first | assumption | decide | omega | rfl) rfl (f38_0.2.1) H.size) (cwV 0 hts gwsRX12_readBinding_2 rfl rfl rfl hd_yX12_next_RX12 (by decide +kernel)) (fz_preE (va_recv hK hP (ci := 12) (q0 := 0) rfl rfl) hP hK hD (fun a U g mk qE => qE.same rfl) (fun U hU9 hW => by rw [hU9]; exact (((hE : StrA A s s.heap).kept hS.2.1).narrow (fun q h => hFc q h)).warm hW)) rfl rfl hl.1 rfl (lv_room (Nat.le_of_ble_eq_true rfl)) dX12_readBinding_59 (by decide +kernel)) hS (fun q _ h => hFc q h) hFc (fun u t9_ H locs ht hvm hw9 hB9 hz1 hk1 hS => ?_)
      obtain ⟨a259, f259, sg59, wd59⟩ := u
      try dsimp only at hw9 hB9
      have hP : va_P (dC, dI) vwCl (WR a k h0 (fT (fT (fT (fT (fT (fT (fT (fT (fT (fT (fT (fT vi 60 (nI (bs + 1))) 21 s238) 22 p238) 17 (nI a238)) 19 (nI f238)) 20 sg38) 18 wd38) 30 (nI b238)) 17 (nI a259)) 19 (nI f259)) 20 sg59) 18 wd59) vj (fT (fT (fT (fT (fT vF 38 (upd (vF 38) ((nI bs)).toNatClampNeg (nI bd))) 37 (upd (vF 37) ((nI bs)).toNatClampNeg (-1))) 14 g1438) 15 g1538) 36 (upd (vF 36) ((nI bs)).toNatClampNeg r38)) vG) H := fz_P ht hB9.1
      have hD : va_D A (WR a k h0 (fT (fT (fT (fT (fT (fT (fT (fT (fT (fT (fT (fT vi 60 (nI (bs + 1))) 21 s238) 22 p238) 17 (nI a238)) 19 (nI f238)) 20 sg38) 18 wd38) 30 (nI b238)) 17 (nI a259)) 19 (nI f259)) 20 sg59) 18 wd59) vj (fT (fT (fT (fT (fT vF 38 (upd (vF 38) ((nI bs)).toNatClampNeg (nI bd))) 37 (upd (vF 37) ((nI bs)).toNatClampNeg (-1))) 14 g1438) 15 g1538) 36 (upd (vF 36) ((nI bs)).toNatClampNeg r38)) vG) := hB9.2.weaken (fun _ q _ h => hFc q.1 h)
      have e9 : fT (fT (fT (fT (fT (fT (fT (fT vi 60 (nI (bs + 1))) 21 s238) 22 p238) 17 (nI a259)) 19 (nI f259)) 20 sg59) 18 wd59) 30 (nI b238) = fT (fT (fT (fT (fT (fT (fT (fT (fT (fT (fT (fT vi 60 (nI (bs + 1))) 21 s238) 22 p238) 17 (nI a238)) 19 (nI f238)) 20 sg38) 18 wd38) 30 (nI b238)) 17 (nI a259)) 19 (nI f259)) 20 sg59) 18 wd59 := ((congrArg (fun g9 => fT (fT (fT g9 19 (nI f259)) 20 sg59) 18 wd59) ((fT_sw _ _ _ (Nat.ne_of_beq_eq_false rfl)).trans (congrArg (fun g9 => fT g9 30 (nI b238)) ((fT_sw _ _ _ (Nat.ne_of_beq_eq_false rfl)).trans (congrArg (fun g9 => fT g9 18 wd38) ((fT_sw _ _ _ (Nat.ne_of_beq_eq_false rfl)).trans (congrArg (fun g9 => fT g9 20 sg38) ((fT_sw _ _ _ (Nat.ne_of_beq_eq_false rfl)).trans (congrArg (fun g9 => fT g9 19 (nI f238)) (fT_sm _ _ _ _)))))))))).trans ((congrArg (fun g9 => fT (fT g9 20 sg59) 18 wd59) ((fT_sw _ _ _ (Nat.ne_of_beq_eq_false rfl)).trans (congrArg (fun g9 => fT g9 30 (nI b238)) ((fT_sw _ _ _ (Nat.ne_of_beq_eq_false rfl)).trans (congrArg (fun g9 => fT g9 18 wd38) ((fT_sw _ _ _ (Nat.ne_of_beq_eq_false rfl)).trans (congrArg (fun g9 => fT g9 20 sg38) (fT_sm _ _ _ _)))))))).trans ((congrArg (fun g9 => fT g9 18 wd59) ((fT_sw _ _ _ (Nat.ne_of_beq_eq_false rfl)).trans (congrArg (fun g9 => fT g9 30 (nI b238)) ((fT_sw _ _ _ (Nat.ne_of_beq_eq_false rfl)).trans (congrArg (fun g9 => fT g9 18 wd38) (fT_sm _ _ _ _)))))).trans ((fT_sw _ _ _ (Nat.ne_of_beq_eq_false rfl)).trans (congrArg (fun g9 => fT g9 30 (nI b238)) (fT_sm _ _ _ _)))))).symm
      rw [← e9] at hP hD
      clear e9
      have hP : va_P (dC, dI) vwCl (WR a k h0 (fT (fT (fT (fT (fT (fT (fT (fT vi 60 (nI (bs + 1))) 21 s238) 22 p238) 17 (nI a259)) 19 (nI f259)) 20 sg59) 18 wd59) 30 (nI b238)) vj (fT (fT (fT (fT (fT vF 38 (upd (vF 38) ((nI bs)).toNatClampNeg (nI bd))) 37 (upd (vF 37) ((nI bs)).toNatClampNeg (-1))) 14 g1438) 15 g1538) 36 (upd (vF 36) ((nI bs)).toNatClampNeg r38)) vG) H := hP
      have hD : va_D A (WR a k h0 (fT (fT (fT (fT (fT (fT (fT (fT vi 60 (nI (bs + 1))) 21 s238) 22 p238) 17 (nI a259)) 19 (nI f259)) 20 sg59) 18 wd59) 30 (nI b238)) vj (fT (fT (fT (fT (fT vF 38 (upd (vF 38) ((nI bs)).toNatClampNeg (nI bd))) 37 (upd (vF 37) ((nI bs)).toNatClampNeg (-1))) 14 g1438) 15 g1538) 36 (upd (vF 36) ((nI bs)).toNatClampNeg r38)) vG) := hD
      obtain ⟨f59_0, f59_1⟩ := hw9
      have hbA := f59_0.1
      have hbB := f38_0.1
      refine lv_aload_n hx hb dX12_readBinding_62 rfl (lv_at hl 1 rfl) ?_
      refine va_get (D := (dC, dI)) (ci := 12) (v := .ref (a 37)) (C := RX12) (T := TX12) (N := 163) (fs := fM (vS a (fT (fT (fT (fT (fT (fT (fT (fT vi 60 (nI (bs + 1))) 21 s238) 22 p238) 17 (nI a259)) 19 (nI f259)) 20 sg59) 18 wd59) 30 (nI b238)) vj)) hx hb hts iwsRX12_readBinding_in12 hown hK hP 0 rfl rfl 62 (by decide) (hts (.fieldLink RX12 134 "OptimaWorksModel" "bindTwo" "[I") (by decide +kernel)) (fun _ h9 => h9) rfl dX12_readBinding_63 ?_
      refine lv_iload_n hx hb dX12_readBinding_66 rfl (lv_at hl 0 rfl) ?_
      refine lv_aload_n hx hb dX12_readBinding_67 rfl (lv_at hl 1 rfl) ?_
      have hFc := allFree hD hS hA
      refine va_calli (va_runV (As := []) (rest := [.int (nI bs), .ref (a 37)]) ⟨hx, hb, hml, hown, hts⟩ (r_X12_readBinder l dC dI a k h0 (fT (fT (fT (fT (fT (fT (fT (fT vi 60 (nI (bs + 1))) 21 s238) 22 p238) 17 (nI a259)) 19 (nI f259)) 20 sg59) 18 wd59) 30 (nI b238)) vj (fT (fT (fT (fT (fT vF 38 (upd (vF 38) ((nI bs)).toNatClampNeg (nI bd))) 37 (upd (vF 37) ((nI bs)).toNatClampNeg (-1))) 14 g1438) 15 g1538) 36 (upd (vF 36) ((nI bs)).toNatClampNeg r38)) vG tp a259 f259 nm se pa va b238 hTp (by first | assumption | decide | omega | rfl) rfl rfl (f59_0) (f38_2) hnm (by first | assumption | decide | omega | rfl) (by first | assumption | decide | omega | rfl) (by first | assumption | decide | omega | rfl) rfl (by omega) (f38_4) (hOw) H.size) (cwV 0 hts gwsRX12_readBinding_0 rfl rfl rfl hd_yX12_readBinder_RX12 (by decide +kernel)) (fz_preE (va_recv hK hP (ci := 12) (q0 := 0) rfl rfl) hP hK hD (fun a U g mk qE => qE.same rfl) (fun U hU9 hW => by rw [hU9]; exact (((hE : StrA A s s.heap).kept hS.2.1).narrow (fun q h => hFc q h)).warm hW)) rfl rfl hl.1 rfl (lv_room (Nat.le_of_ble_eq_true rfl)) dX12_readBinding_68 (by decide +kernel)) hS (fun q _ h => hFc q h) hFc (fun r68 u t9_ H locs ht hvm hw9 hB9 hz1 hk1 hS => ?_)
      obtain ⟨a268, f268, sg68, wd68, s268, p268, b268, g1468, g1568⟩ := u
      try dsimp only at hw9 hB9
      have hP : va_P (dC, dI) vwCl (WR a k h0 (fT (fT (fT (fT (fT (fT (fT (fT (fT (fT (fT (fT (fT (fT (fT vi 60 (nI (bs + 1))) 21 s238) 22 p238) 17 (nI a259)) 19 (nI f259)) 20 sg59) 18 wd59) 30 (nI b238)) 21 s268) 22 p268) 17 (nI a268)) 19 (nI f268)) 20 sg68) 18 wd68) 30 (nI b268)) vj (fT (fT (fT (fT (fT (fT (fT vF 38 (upd (vF 38) ((nI bs)).toNatClampNeg (nI bd))) 37 (upd (vF 37) ((nI bs)).toNatClampNeg (-1))) 14 g1438) 15 g1538) 36 (upd (vF 36) ((nI bs)).toNatClampNeg r38)) 14 g1468) 15 g1568) vG) H := fz_P ht hB9.1
      have hD : va_D A (WR a k h0 (fT (fT (fT (fT (fT (fT (fT (fT (fT (fT (fT (fT (fT (fT (fT vi 60 (nI (bs + 1))) 21 s238) 22 p238) 17 (nI a259)) 19 (nI f259)) 20 sg59) 18 wd59) 30 (nI b238)) 21 s268) 22 p268) 17 (nI a268)) 19 (nI f268)) 20 sg68) 18 wd68) 30 (nI b268)) vj (fT (fT (fT (fT (fT (fT (fT vF 38 (upd (vF 38) ((nI bs)).toNatClampNeg (nI bd))) 37 (upd (vF 37) ((nI bs)).toNatClampNeg (-1))) 14 g1438) 15 g1538) 36 (upd (vF 36) ((nI bs)).toNatClampNeg r38)) 14 g1468) 15 g1568) vG) := hB9.2.weaken (fun _ q _ h => hFc q.1 h)
      have e9 : fT (fT (fT (fT (fT (fT (fT (fT vi 60 (nI (bs + 1))) 21 s268) 22 p268) 17 (nI a268)) 19 (nI f268)) 20 sg68) 18 wd68) 30 (nI b268) = fT (fT (fT (fT (fT (fT (fT (fT (fT (fT (fT (fT (fT (fT (fT vi 60 (nI (bs + 1))) 21 s238) 22 p238) 17 (nI a259)) 19 (nI f259)) 20 sg59) 18 wd59) 30 (nI b238)) 21 s268) 22 p268) 17 (nI a268)) 19 (nI f268)) 20 sg68) 18 wd68) 30 (nI b268) := ((congrArg (fun g9 => fT (fT (fT (fT (fT (fT g9 22 p268) 17 (nI a268)) 19 (nI f268)) 20 sg68) 18 wd68) 30 (nI b268)) ((fT_sw _ _ _ (Nat.ne_of_beq_eq_false rfl)).trans (congrArg (fun g9 => fT g9 30 (nI b238)) ((fT_sw _ _ _ (Nat.ne_of_beq_eq_false rfl)).trans (congrArg (fun g9 => fT g9 18 wd59) ((fT_sw _ _ _ (Nat.ne_of_beq_eq_false rfl)).trans (congrArg (fun g9 => fT g9 20 sg59) ((fT_sw _ _ _ (Nat.ne_of_beq_eq_false rfl)).trans (congrArg (fun g9 => fT g9 19 (nI f259)) ((fT_sw _ _ _ (Nat.ne_of_beq_eq_false rfl)).trans (congrArg (fun g9 => fT g9 17 (nI a259)) ((fT_sw _ _ _ (Nat.ne_of_beq_eq_false rfl)).trans (congrArg (fun g9 => fT g9 22 p238) (fT_sm _ _ _ _)))))))))))))).trans ((congrArg (fun g9 => fT (fT (fT (fT (fT g9 17 (nI a268)) 19 (nI f268)) 20 sg68) 18 wd68) 30 (nI b268)) ((fT_sw _ _ _ (Nat.ne_of_beq_eq_false rfl)).trans (congrArg (fun g9 => fT g9 30 (nI b238)) ((fT_sw _ _ _ (Nat.ne_of_beq_eq_false rfl)).trans (congrArg (fun g9 => fT g9 18 wd59) ((fT_sw _ _ _ (Nat.ne_of_beq_eq_false rfl)).trans (congrArg (fun g9 => fT g9 20 sg59) ((fT_sw _ _ _ (Nat.ne_of_beq_eq_false rfl)).trans (congrArg (fun g9 => fT g9 19 (nI f259)) ((fT_sw _ _ _ (Nat.ne_of_beq_eq_false rfl)).trans (congrArg (fun g9 => fT g9 17 (nI a259)) (fT_sm _ _ _ _)))))))))))).trans ((congrArg (fun g9 => fT (fT (fT (fT g9 19 (nI f268)) 20 sg68) 18 wd68) 30 (nI b268)) ((fT_sw _ _ _ (Nat.ne_of_beq_eq_false rfl)).trans (congrArg (fun g9 => fT g9 30 (nI b238)) ((fT_sw _ _ _ (Nat.ne_of_beq_eq_false rfl)).trans (congrArg (fun g9 => fT g9 18 wd59) ((fT_sw _ _ _ (Nat.ne_of_beq_eq_false rfl)).trans (congrArg (fun g9 => fT g9 20 sg59) ((fT_sw _ _ _ (Nat.ne_of_beq_eq_false rfl)).trans (congrArg (fun g9 => fT g9 19 (nI f259)) (fT_sm _ _ _ _)))))))))).trans ((congrArg (fun g9 => fT (fT (fT g9 20 sg68) 18 wd68) 30 (nI b268)) ((fT_sw _ _ _ (Nat.ne_of_beq_eq_false rfl)).trans (congrArg (fun g9 => fT g9 30 (nI b238)) ((fT_sw _ _ _ (Nat.ne_of_beq_eq_false rfl)).trans (congrArg (fun g9 => fT g9 18 wd59) ((fT_sw _ _ _ (Nat.ne_of_beq_eq_false rfl)).trans (congrArg (fun g9 => fT g9 20 sg59) (fT_sm _ _ _ _)))))))).trans ((congrArg (fun g9 => fT (fT g9 18 wd68) 30 (nI b268)) ((fT_sw _ _ _ (Nat.ne_of_beq_eq_false rfl)).trans (congrArg (fun g9 => fT g9 30 (nI b238)) ((fT_sw _ _ _ (Nat.ne_of_beq_eq_false rfl)).trans (congrArg (fun g9 => fT g9 18 wd59) (fT_sm _ _ _ _)))))).trans ((congrArg (fun g9 => fT g9 30 (nI b268)) ((fT_sw _ _ _ (Nat.ne_of_beq_eq_false rfl)).trans (congrArg (fun g9 => fT g9 30 (nI b238)) (fT_sm _ _ _ _)))).trans (fT_sm _ _ _ _))))))).symm
      rw [← e9] at hP hD
      clear e9
      have e9 : fT (fT (fT (fT (fT vF 38 (upd (vF 38) ((nI bs)).toNatClampNeg (nI bd))) 37 (upd (vF 37) ((nI bs)).toNatClampNeg (-1))) 14 g1468) 15 g1568) 36 (upd (vF 36) ((nI bs)).toNatClampNeg r38) = fT (fT (fT (fT (fT (fT (fT vF 38 (upd (vF 38) ((nI bs)).toNatClampNeg (nI bd))) 37 (upd (vF 37) ((nI bs)).toNatClampNeg (-1))) 14 g1438) 15 g1538) 36 (upd (vF 36) ((nI bs)).toNatClampNeg r38)) 14 g1468) 15 g1568 := ((congrArg (fun g9 => fT g9 15 g1568) ((fT_sw _ _ _ (Nat.ne_of_beq_eq_false rfl)).trans (congrArg (fun g9 => fT g9 36 (upd (vF 36) ((nI bs)).toNatClampNeg r38)) ((fT_sw _ _ _ (Nat.ne_of_beq_eq_false rfl)).trans (congrArg (fun g9 => fT g9 15 g1538) (fT_sm _ _ _ _)))))).trans ((fT_sw _ _ _ (Nat.ne_of_beq_eq_false rfl)).trans (congrArg (fun g9 => fT g9 36 (upd (vF 36) ((nI bs)).toNatClampNeg r38)) (fT_sm _ _ _ _)))).symm
      rw [← e9] at hP hD
      clear e9
      have hP : va_P (dC, dI) vwCl (WR a k h0 (fT (fT (fT (fT (fT (fT (fT (fT vi 60 (nI (bs + 1))) 21 s268) 22 p268) 17 (nI a268)) 19 (nI f268)) 20 sg68) 18 wd68) 30 (nI b268)) vj (fT (fT (fT (fT (fT vF 38 (upd (vF 38) ((nI bs)).toNatClampNeg (nI bd))) 37 (upd (vF 37) ((nI bs)).toNatClampNeg (-1))) 14 g1468) 15 g1568) 36 (upd (vF 36) ((nI bs)).toNatClampNeg r38)) vG) H := hP
      have hD : va_D A (WR a k h0 (fT (fT (fT (fT (fT (fT (fT (fT vi 60 (nI (bs + 1))) 21 s268) 22 p268) 17 (nI a268)) 19 (nI f268)) 20 sg68) 18 wd68) 30 (nI b268)) vj (fT (fT (fT (fT (fT vF 38 (upd (vF 38) ((nI bs)).toNatClampNeg (nI bd))) 37 (upd (vF 37) ((nI bs)).toNatClampNeg (-1))) 14 g1468) 15 g1568) 36 (upd (vF 36) ((nI bs)).toNatClampNeg r38)) vG) := hD
      obtain ⟨f68_0, f68_1, f68_2, f68_3, f68_4, f68_5⟩ := hw9
      refine va_iast (cA := k 37) (n := 900) (f := (upd (vF 37) ((nI bs)).toNatClampNeg (-1))) hx hb hK hP hD hS 38 37 (WR_get 37 (by decide)) (TR_get 37 (by decide)) (vp_in_nI (show bs < 900 by omega) (by omega)) dX12_readBinding_71 (fun H locs hP hD hS => ?_)
      have e9 : fT (fT (fT (fT (fT vF 38 (upd (vF 38) ((nI bs)).toNatClampNeg (nI bd))) 37 (upd (upd (vF 37) ((nI bs)).toNatClampNeg (-1)) ((nI bs)).toNatClampNeg r68)) 14 g1468) 15 g1568) 36 (upd (vF 36) ((nI bs)).toNatClampNeg r38) = fT (fT (fT (fT (fT (fT vF 38 (upd (vF 38) ((nI bs)).toNatClampNeg (nI bd))) 37 (upd (vF 37) ((nI bs)).toNatClampNeg (-1))) 14 g1468) 15 g1568) 36 (upd (vF 36) ((nI bs)).toNatClampNeg r38)) 37 (upd (upd (vF 37) ((nI bs)).toNatClampNeg (-1)) ((nI bs)).toNatClampNeg r68) := ((fT_sw _ _ _ (Nat.ne_of_beq_eq_false rfl)).trans (congrArg (fun g9 => fT g9 36 (upd (vF 36) ((nI bs)).toNatClampNeg r38)) ((fT_sw _ _ _ (Nat.ne_of_beq_eq_false rfl)).trans (congrArg (fun g9 => fT g9 15 g1568) ((fT_sw _ _ _ (Nat.ne_of_beq_eq_false rfl)).trans (congrArg (fun g9 => fT g9 14 g1468) (fT_sm _ _ _ _))))))).symm
      have hP : va_P (dC, dI) vwCl (WR a k h0 (fT (fT (fT (fT (fT (fT (fT (fT vi 60 (nI (bs + 1))) 21 s268) 22 p268) 17 (nI a268)) 19 (nI f268)) 20 sg68) 18 wd68) 30 (nI b268)) vj (fT (fT (fT (fT (fT vF 38 (upd (vF 38) ((nI bs)).toNatClampNeg (nI bd))) 37 (upd (upd (vF 37) ((nI bs)).toNatClampNeg (-1)) ((nI bs)).toNatClampNeg r68)) 14 g1468) 15 g1568) 36 (upd (vF 36) ((nI bs)).toNatClampNeg r38)) vG) H := by rw [e9, ← WR_F 37 (by decide) _ rfl]; exact hP
      have hD : va_D A (WR a k h0 (fT (fT (fT (fT (fT (fT (fT (fT vi 60 (nI (bs + 1))) 21 s268) 22 p268) 17 (nI a268)) 19 (nI f268)) 20 sg68) 18 wd68) 30 (nI b268)) vj (fT (fT (fT (fT (fT vF 38 (upd (vF 38) ((nI bs)).toNatClampNeg (nI bd))) 37 (upd (upd (vF 37) ((nI bs)).toNatClampNeg (-1)) ((nI bs)).toNatClampNeg r68)) 14 g1468) 15 g1568) 36 (upd (vF 36) ((nI bs)).toNatClampNeg r38)) vG) := by rw [e9, ← WR_F 37 (by decide) _ rfl]; exact hD
      clear e9
      refine lv_iload_n hx hb dX12_readBinding_72 rfl (lv_at hl 0 rfl) ?_
      refine W.widen (k := 0) (n := 0) (by decide +kernel) (by decide +kernel) ?_
      exact W.iret (v := (nI bs)) hx hb hr (fun t9_ ht hW => ⟨⟨(nI bs), (a268, f268, sg68, wd68, s268, p268, b268, g1468, g1568, (upd (vF 36) ((nI bs)).toNatClampNeg r38), (upd (upd (vF 37) ((nI bs)).toNatClampNeg (-1)) ((nI bs)).toNatClampNeg r68), (upd (vF 38) ((nI bs)).toNatClampNeg (nI bd))), rfl, by (try dsimp only); exact ⟨rfl, f68_0, by omega, f68_2, by omega, f68_4, fun b hb9 => ⟨by rw [upd_at (by omega), if_neg hb9], by rw [upd_at (by omega), if_neg hb9, upd_at (by omega), if_neg hb9], by rw [upd_at (by omega), if_neg hb9]⟩, by rcases f68_5 with h9 | ⟨h9, h8, h5, o2, h72, h62⟩; (exact Or.inl h9); (obtain ⟨_, h8a, h5a, o, h7, h6⟩ := f38_5.resolve_left (fun h => by omega); exact Or.inr ⟨h9, by omega, by omega, ⟨⟨o, h7, by rw [upd_at (by omega), if_pos rfl]; exact h6⟩, Or.inr ⟨o2, h72, by rw [upd_at (by omega), if_pos rfl]; exact h62⟩, ⟨bd, by omega, by rw [upd_at (by omega), if_pos rfl]⟩⟩, by rw [upd_at (by omega), if_pos rfl]⟩)⟩, by rw [ht]; exact hP, hD⟩, hS.F ht⟩) hS.2.2 dX12_readBinding_73
    · have f52_0 : ¬ (wd38.toInt = 4 ∧ sg38 = 44) := f52_0
      refine lv_if_eq (tgt := 72) hx hb dX12_readBinding_55 (by decide) (fun _ => ?_) (fun c9 => absurd (by decide) c9)
      refine lv_iload_n hx hb dX12_readBinding_72 rfl (lv_at hl 0 rfl) ?_
      refine W.widen (k := 0) (n := 0) (by decide +kernel) (by decide +kernel) ?_
      exact W.iret (v := (nI bs)) hx hb hr (fun t9_ ht hW => ⟨⟨(nI bs), (a238, f238, sg38, wd38, s238, p238, b238, g1438, g1538, (upd (vF 36) ((nI bs)).toNatClampNeg r38), (upd (vF 37) ((nI bs)).toNatClampNeg (-1)), (upd (vF 38) ((nI bs)).toNatClampNeg (nI bd))), rfl, by (try dsimp only); exact ⟨rfl, f38_0, f38_1, f38_2, by omega, f38_4, fun b hb9 => ⟨by rw [upd_at (by omega), if_neg hb9], by rw [upd_at (by omega), if_neg hb9], by rw [upd_at (by omega), if_neg hb9]⟩, by rcases f38_5 with h9 | ⟨h9, h8, h5, o, h7, h6⟩; (exact Or.inl h9); (exact Or.inr ⟨h9, h8, by omega, ⟨⟨o, h7, by rw [upd_at (by omega), if_pos rfl]; exact h6⟩, Or.inl (by rw [upd_at (by omega), if_pos rfl]), ⟨bd, by omega, by rw [upd_at (by omega), if_pos rfl]⟩⟩, by rw [upd_at (by omega), if_pos rfl]⟩)⟩, by rw [ht]; exact hP, hD⟩, hS.F ht⟩) hS.2.2 dX12_readBinding_73
theorem dX12_end1_0 : decode cX12_end1 0 = .ok (.aload_n 0, 1) := dk_42 (by decide +kernel)
theorem dX12_end1_1 : decode cX12_end1 1 = .ok (.dup, 1) := dk_89 (by decide +kernel)
theorem dX12_end1_2 : decode cX12_end1 2 = .ok (.getfield 577, 3) := dk_180 (by decide +kernel)
theorem dX12_end1_5 : decode cX12_end1 5 = .ok (.iconst 1, 1) := dk_4 (by decide +kernel)
theorem dX12_end1_6 : decode cX12_end1 6 = .ok (.isub, 1) := dk_100 (by decide +kernel)
theorem dX12_end1_7 : decode cX12_end1 7 = .ok (.putfield 577, 3) := dk_181 (by decide +kernel)
theorem dX12_end1_10 : decode cX12_end1 10 = .ok (.aload_n 0, 1) := dk_42 (by decide +kernel)
theorem dX12_end1_11 : decode cX12_end1 11 = .ok (.dup, 1) := dk_89 (by decide +kernel)
theorem dX12_end1_12 : decode cX12_end1 12 = .ok (.getfield 570, 3) := dk_180 (by decide +kernel)
theorem dX12_end1_15 : decode cX12_end1 15 = .ok (.aload_n 0, 1) := dk_42 (by decide +kernel)
theorem dX12_end1_16 : decode cX12_end1 16 = .ok (.getfield 167, 3) := dk_180 (by decide +kernel)
theorem dX12_end1_19 : decode cX12_end1 19 = .ok (.aload_n 0, 1) := dk_42 (by decide +kernel)
theorem dX12_end1_20 : decode cX12_end1 20 = .ok (.getfield 577, 3) := dk_180 (by decide +kernel)
theorem dX12_end1_23 : decode cX12_end1 23 = .ok (.iaload, 1) := dk_46 (by decide +kernel)
theorem dX12_end1_24 : decode cX12_end1 24 = .ok (.isub, 1) := dk_100 (by decide +kernel)
theorem dX12_end1_25 : decode cX12_end1 25 = .ok (.putfield 570, 3) := dk_181 (by decide +kernel)
theorem dX12_end1_28 : decode cX12_end1 28 = .ok (.aload_n 0, 1) := dk_42 (by decide +kernel)
theorem dX12_end1_29 : decode cX12_end1 29 = .ok (.iload_n 1, 1) := dk_27 (by decide +kernel)
theorem dX12_end1_30 : decode cX12_end1 30 = .ok (.putfield 580, 3) := dk_181 (by decide +kernel)
theorem dX12_end1_33 : decode cX12_end1 33 = .ok (.aload_n 0, 1) := dk_42 (by decide +kernel)
theorem dX12_end1_34 : decode cX12_end1 34 = .ok (.aload_n 0, 1) := dk_42 (by decide +kernel)
theorem dX12_end1_35 : decode cX12_end1 35 = .ok (.getfield 164, 3) := dk_180 (by decide +kernel)
theorem dX12_end1_38 : decode cX12_end1 38 = .ok (.aload_n 0, 1) := dk_42 (by decide +kernel)
theorem dX12_end1_39 : decode cX12_end1 39 = .ok (.getfield 577, 3) := dk_180 (by decide +kernel)
theorem dX12_end1_42 : decode cX12_end1 42 = .ok (.iaload, 1) := dk_46 (by decide +kernel)
theorem dX12_end1_43 : decode cX12_end1 43 = .ok (.putfield 583, 3) := dk_181 (by decide +kernel)
theorem dX12_end1_46 : decode cX12_end1 46 = .ok (.return_, 1) := dk_177 (by decide +kernel)
def wsRX12_end1 : List Cond := .code yX12_end1 cX12_end1 2 none :: ([.fieldLink RX12 577 "OptimaWorksModel" "deep" "I", .fieldLink RX12 570 "OptimaWorksModel" "within" "I", .fieldLink RX12 167 "OptimaWorksModel" "extra" "[I", .fieldLink RX12 580 "OptimaWorksModel" "result" "I", .fieldLink RX12 164 "OptimaWorksModel" "begins" "[I", .fieldLink RX12 583 "OptimaWorksModel" "resultFirst" "I"] ++ wsX120)
theorem iwsRX12_end1_in12 : ∀ w ∈ wsX120, w ∈ wsRX12_end1 := fun _ h => List.mem_cons_of_mem _ (List.mem_append_right _ h)
theorem gdwsRX12_end1 : wsRX12_end1.all goodWord = true := gdC rfl (gdA (by decide +kernel : ([.fieldLink RX12 577 "OptimaWorksModel" "deep" "I", .fieldLink RX12 570 "OptimaWorksModel" "within" "I", .fieldLink RX12 167 "OptimaWorksModel" "extra" "[I", .fieldLink RX12 580 "OptimaWorksModel" "result" "I", .fieldLink RX12 164 "OptimaWorksModel" "begins" "[I", .fieldLink RX12 583 "OptimaWorksModel" "resultFirst" "I"] : List Cond).all goodWord = true) gdwsX120)
set_option maxHeartbeats 4000000 in
set_option maxRecDepth 100000 in
/-- end1(r) -/
theorem r_X12_end1 (l : Launch) (dC : Nat → ClassId) (dI : Nat → Nat → Nat) (a : Nat → Nat) (k : Nat → ClassId) (h0 : Nat) (vi : Nat → Int32) (vj : Nat → Int64) (vF : Nat → Nat → Int32) (vG : Nat → Nat → Int64) (rv : Int32) (dp : Nat) (hdp : vi 74 = nI (dp + 1)) (hdp9 : dp < 120) (sz : Nat) : Met l yX12_end1 wsRX12_end1 ({ frames := 0, cells := 0, slots := 0, locals := 0 }) (va_Pc [.ref h0, .int rv] (fun U => U.heap.size = sz ∧ va_P (dC, dI) vwCl (WR a k h0 vi vj vF vG) U.heap ∧ va_K (dC, dI) vwCl (tX12 k) U ∧ va_D (fun _ => True) (WR a k h0 vi vj vF vG))) (va_Qv (fun (u : Int32) => True) (fun (u : Int32) t => va_P (dC, dI) vwCl (WR a k h0 (fT (fT (fT (fT vi 74 (nI dp)) 75 u) 76 rv) 77 (vF 47 dp)) vj vF vG) t.heap ∧ va_D (va_A (WR a k h0 vi vj vF vG) sz) (WR a k h0 (fT (fT (fT (fT vi 74 (nI dp)) 75 u) 76 rv) 77 (vF 47 dp)) vj vF vG)) (va_A (WR a k h0 vi vj vF vG) sz)) 0 0 (va_A (WR a k h0 vi vj vF vG) sz) := by
  refine Met.ofW (cc := cX12_end1) (maxL := 2) (ret := none) (by decide) rfl ?_
  intro p e s m args below meth c s₁ B hml hv
  obtain ⟨rfl, hsz, hP, hK, hD0⟩ := hv
  have hx := B.exec
  have hb := B.bytes
  have hr := B.returns
  have hts := atoms_spec (ws := wsRX12_end1) B.pre
  have hown : s.vm.findClass RX12 = some m.cls := findClass_of_methodNamed B.named
  have hlocks := B.notSynchronized
  subst hsz
  have hD := hD0.self (sz := s.heap.size)
  generalize hAe : va_A (WR a k h0 vi vj vF vG) s.heap.size = A at hD ⊢
  have hA : ∀ q : Nat, s.heap.size ≤ q → A q := fun q h => by rw [← hAe]; exact Or.inr h
  have hS : va_S A s.heap s.heap [] := va_S.rf
  have hl := lv_entry ([.ref h0, .int rv]) (n := 2) (Nat.le_of_ble_eq_true rfl)
  rw [lg_entry_eq]
  generalize (lg_sl ([.ref h0, .int rv]) ++ List.replicate (2 - (lg_sl ([.ref h0, .int rv])).length) Slot.unset).toArray = ls at hl ⊢
  have hl : lv_has ls 2 [(0, .ref h0), (1, .int rv)] := hl
  refine lv_aload_n hx hb dX12_end1_0 rfl (lv_at hl 0 rfl) ?_
  refine lv_dup hx hb dX12_end1_1 rfl ?_
  refine va_get (D := (dC, dI)) (ci := 12) (v := .int (vi 74)) (C := RX12) (T := TX12) (N := 163) (fs := fM (vS a vi vj)) hx hb hts iwsRX12_end1_in12 hown hK hP 0 rfl rfl 74 (by decide) (hts (.fieldLink RX12 577 "OptimaWorksModel" "deep" "I") (by decide +kernel)) (fun _ h9 => h9) rfl dX12_end1_2 ?_
  refine lv_topi (fun y1 hy1 => ?_)
  obtain rfl : (nI (dp + 1)) = y1 := (hy1.trans (hdp)).symm
  refine lv_iconst (v := 1) hx hb dX12_end1_5 (by decide) ?_
  refine lv_isub hx hb dX12_end1_6 ?_
  refine lv_topi (fun y2 hy2 => ?_)
  obtain rfl : (nI ((dp + 1) - 1)) = y2 := (hy2.trans (pk_sub (a := (dp + 1)) (b := 1) (by omega))).symm
  refine va_put (D := (dC, dI)) (ci := 12) (v := .int (nI ((dp + 1) - 1))) (ty := .int) (C := RX12) (T := TX12) (N := 163) (fs := fM (vS a vi vj)) hx hb hts iwsRX12_end1_in12 tyX12 tyX12_ok nmX12 hown hK hP hD hS 0 rfl rfl 74 (by decide) (hts (.fieldLink RX12 577 "OptimaWorksModel" "deep" "I") (by decide +kernel)) (fun _ h9 => h9) rfl (by decide +kernel) rfl rfl (Nat.le_of_ble_eq_true rfl) dX12_end1_7 (fun H locs hP hD hS => ?_)
  have hP : va_P (dC, dI) vwCl (WR a k h0 (fT vi 74 (nI ((dp + 1) - 1))) vj vF vG) H := by rw [← WR_i 74 _ rfl]; exact hP
  have hD : va_D A (WR a k h0 (fT vi 74 (nI ((dp + 1) - 1))) vj vF vG) := by rw [← WR_i 74 _ rfl]; exact hD
  refine lv_aload_n hx hb dX12_end1_10 rfl (lv_at hl 0 rfl) ?_
  refine lv_dup hx hb dX12_end1_11 rfl ?_
  refine va_get (D := (dC, dI)) (ci := 12) (v := .int (vi 75)) (C := RX12) (T := TX12) (N := 163) (fs := fM (vS a (fT vi 74 (nI ((dp + 1) - 1))) vj)) hx hb hts iwsRX12_end1_in12 hown hK hP 0 rfl rfl 75 (by decide) (hts (.fieldLink RX12 570 "OptimaWorksModel" "within" "I") (by decide +kernel)) (fun _ h9 => h9) rfl dX12_end1_12 ?_
  refine lv_aload_n hx hb dX12_end1_15 rfl (lv_at hl 0 rfl) ?_
  refine va_get (D := (dC, dI)) (ci := 12) (v := .ref (a 48)) (C := RX12) (T := TX12) (N := 163) (fs := fM (vS a (fT vi 74 (nI ((dp + 1) - 1))) vj)) hx hb hts iwsRX12_end1_in12 hown hK hP 0 rfl rfl 73 (by decide) (hts (.fieldLink RX12 167 "OptimaWorksModel" "extra" "[I") (by decide +kernel)) (fun _ h9 => h9) rfl dX12_end1_16 ?_
  refine lv_aload_n hx hb dX12_end1_19 rfl (lv_at hl 0 rfl) ?_
  refine va_get (D := (dC, dI)) (ci := 12) (v := .int (nI ((dp + 1) - 1))) (C := RX12) (T := TX12) (N := 163) (fs := fM (vS a (fT vi 74 (nI ((dp + 1) - 1))) vj)) hx hb hts iwsRX12_end1_in12 hown hK hP 0 rfl rfl 74 (by decide) (hts (.fieldLink RX12 577 "OptimaWorksModel" "deep" "I") (by decide +kernel)) (fun _ h9 => h9) rfl dX12_end1_20 ?_
  refine va_iald (cA := k 48) (n := 120) (f := (vF 48)) hx hb hK hP 49 48 (WR_get 48 (by decide)) (TR_get 48 (by decide)) (vp_in_nI (show ((dp + 1) - 1) < 120 by omega) (by omega)) dX12_end1_23 ?_
  refine lv_topi (fun y3 hy3 => ?_)
  obtain rfl : ((vF 48) ((dp + 1) - 1)) = y3 := (hy3.trans (by rw [nI_clamp (by omega)])).symm
  refine lv_isub hx hb dX12_end1_24 ?_
  refine va_put (D := (dC, dI)) (ci := 12) (v := .int ((vi 75) - ((vF 48) ((dp + 1) - 1)))) (ty := .int) (C := RX12) (T := TX12) (N := 163) (fs := fM (vS a (fT vi 74 (nI ((dp + 1) - 1))) vj)) hx hb hts iwsRX12_end1_in12 tyX12 tyX12_ok nmX12 hown hK hP hD hS 0 rfl rfl 75 (by decide) (hts (.fieldLink RX12 570 "OptimaWorksModel" "within" "I") (by decide +kernel)) (fun _ h9 => h9) rfl (by decide +kernel) rfl rfl (Nat.le_of_ble_eq_true rfl) dX12_end1_25 (fun H locs hP hD hS => ?_)
  have hP : va_P (dC, dI) vwCl (WR a k h0 (fT (fT vi 74 (nI ((dp + 1) - 1))) 75 ((vi 75) - ((vF 48) ((dp + 1) - 1)))) vj vF vG) H := by rw [← WR_i 75 _ rfl]; exact hP
  have hD : va_D A (WR a k h0 (fT (fT vi 74 (nI ((dp + 1) - 1))) 75 ((vi 75) - ((vF 48) ((dp + 1) - 1)))) vj vF vG) := by rw [← WR_i 75 _ rfl]; exact hD
  refine lv_aload_n hx hb dX12_end1_28 rfl (lv_at hl 0 rfl) ?_
  refine lv_iload_n hx hb dX12_end1_29 rfl (lv_at hl 1 rfl) ?_
  refine va_put (D := (dC, dI)) (ci := 12) (v := .int rv) (ty := .int) (C := RX12) (T := TX12) (N := 163) (fs := fM (vS a (fT (fT vi 74 (nI ((dp + 1) - 1))) 75 ((vi 75) - ((vF 48) ((dp + 1) - 1)))) vj)) hx hb hts iwsRX12_end1_in12 tyX12 tyX12_ok nmX12 hown hK hP hD hS 0 rfl rfl 76 (by decide) (hts (.fieldLink RX12 580 "OptimaWorksModel" "result" "I") (by decide +kernel)) (fun _ h9 => h9) rfl (by decide +kernel) rfl rfl (Nat.le_of_ble_eq_true rfl) dX12_end1_30 (fun H locs hP hD hS => ?_)
  have hP : va_P (dC, dI) vwCl (WR a k h0 (fT (fT (fT vi 74 (nI ((dp + 1) - 1))) 75 ((vi 75) - ((vF 48) ((dp + 1) - 1)))) 76 rv) vj vF vG) H := by rw [← WR_i 76 _ rfl]; exact hP
  have hD : va_D A (WR a k h0 (fT (fT (fT vi 74 (nI ((dp + 1) - 1))) 75 ((vi 75) - ((vF 48) ((dp + 1) - 1)))) 76 rv) vj vF vG) := by rw [← WR_i 76 _ rfl]; exact hD
  refine lv_aload_n hx hb dX12_end1_33 rfl (lv_at hl 0 rfl) ?_
  refine lv_aload_n hx hb dX12_end1_34 rfl (lv_at hl 0 rfl) ?_
  refine va_get (D := (dC, dI)) (ci := 12) (v := .ref (a 47)) (C := RX12) (T := TX12) (N := 163) (fs := fM (vS a (fT (fT (fT vi 74 (nI ((dp + 1) - 1))) 75 ((vi 75) - ((vF 48) ((dp + 1) - 1)))) 76 rv) vj)) hx hb hts iwsRX12_end1_in12 hown hK hP 0 rfl rfl 72 (by decide) (hts (.fieldLink RX12 164 "OptimaWorksModel" "begins" "[I") (by decide +kernel)) (fun _ h9 => h9) rfl dX12_end1_35 ?_
  refine lv_aload_n hx hb dX12_end1_38 rfl (lv_at hl 0 rfl) ?_
  refine va_get (D := (dC, dI)) (ci := 12) (v := .int (nI ((dp + 1) - 1))) (C := RX12) (T := TX12) (N := 163) (fs := fM (vS a (fT (fT (fT vi 74 (nI ((dp + 1) - 1))) 75 ((vi 75) - ((vF 48) ((dp + 1) - 1)))) 76 rv) vj)) hx hb hts iwsRX12_end1_in12 hown hK hP 0 rfl rfl 74 (by decide) (hts (.fieldLink RX12 577 "OptimaWorksModel" "deep" "I") (by decide +kernel)) (fun _ h9 => h9) rfl dX12_end1_39 ?_
  refine va_iald (cA := k 47) (n := 120) (f := (vF 47)) hx hb hK hP 48 47 (WR_get 47 (by decide)) (TR_get 47 (by decide)) (vp_in_nI (show ((dp + 1) - 1) < 120 by omega) (by omega)) dX12_end1_42 ?_
  refine lv_topi (fun y4 hy4 => ?_)
  obtain rfl : ((vF 47) ((dp + 1) - 1)) = y4 := (hy4.trans (by rw [nI_clamp (by omega)])).symm
  refine va_put (D := (dC, dI)) (ci := 12) (v := .int ((vF 47) ((dp + 1) - 1))) (ty := .int) (C := RX12) (T := TX12) (N := 163) (fs := fM (vS a (fT (fT (fT vi 74 (nI ((dp + 1) - 1))) 75 ((vi 75) - ((vF 48) ((dp + 1) - 1)))) 76 rv) vj)) hx hb hts iwsRX12_end1_in12 tyX12 tyX12_ok nmX12 hown hK hP hD hS 0 rfl rfl 77 (by decide) (hts (.fieldLink RX12 583 "OptimaWorksModel" "resultFirst" "I") (by decide +kernel)) (fun _ h9 => h9) rfl (by decide +kernel) rfl rfl (Nat.le_of_ble_eq_true rfl) dX12_end1_43 (fun H locs hP hD hS => ?_)
  have hP : va_P (dC, dI) vwCl (WR a k h0 (fT (fT (fT (fT vi 74 (nI ((dp + 1) - 1))) 75 ((vi 75) - ((vF 48) ((dp + 1) - 1)))) 76 rv) 77 ((vF 47) ((dp + 1) - 1))) vj vF vG) H := by rw [← WR_i 77 _ rfl]; exact hP
  have hD : va_D A (WR a k h0 (fT (fT (fT (fT vi 74 (nI ((dp + 1) - 1))) 75 ((vi 75) - ((vF 48) ((dp + 1) - 1)))) 76 rv) 77 ((vF 47) ((dp + 1) - 1))) vj vF vG) := by rw [← WR_i 77 _ rfl]; exact hD
  refine W.widen (k := 0) (n := 0) (by decide +kernel) (by decide +kernel) ?_
  have e9 : fT (fT (fT (fT vi 74 (nI dp)) 75 ((vi 75) - ((vF 48) ((dp + 1) - 1)))) 76 rv) 77 (vF 47 dp) = fT (fT (fT (fT vi 74 (nI ((dp + 1) - 1))) 75 ((vi 75) - ((vF 48) ((dp + 1) - 1)))) 76 rv) 77 ((vF 47) ((dp + 1) - 1)) := by funext q9; by_cases h9_74 : q9 = 74; (subst h9_74; exact ((fT_ne _ _ (Nat.ne_of_beq_eq_false rfl)).trans ((fT_ne _ _ (Nat.ne_of_beq_eq_false rfl)).trans ((fT_ne _ _ (Nat.ne_of_beq_eq_false rfl)).trans (fT_eq _ _ _)))).trans (Eq.trans (by first | rfl | assumption | (symm; assumption) | (subst_vars; rfl)) ((fT_ne _ _ (Nat.ne_of_beq_eq_false rfl)).trans ((fT_ne _ _ (Nat.ne_of_beq_eq_false rfl)).trans ((fT_ne _ _ (Nat.ne_of_beq_eq_false rfl)).trans (fT_eq _ _ _)))).symm)); by_cases h9_75 : q9 = 75; (subst h9_75; exact ((fT_ne _ _ (Nat.ne_of_beq_eq_false rfl)).trans ((fT_ne _ _ (Nat.ne_of_beq_eq_false rfl)).trans (fT_eq _ _ _))).trans (Eq.trans (by first | rfl | assumption | (symm; assumption) | (subst_vars; rfl)) ((fT_ne _ _ (Nat.ne_of_beq_eq_false rfl)).trans ((fT_ne _ _ (Nat.ne_of_beq_eq_false rfl)).trans (fT_eq _ _ _))).symm)); by_cases h9_76 : q9 = 76; (subst h9_76; exact ((fT_ne _ _ (Nat.ne_of_beq_eq_false rfl)).trans (fT_eq _ _ _)).trans (Eq.trans (by first | rfl | assumption | (symm; assumption) | (subst_vars; rfl)) ((fT_ne _ _ (Nat.ne_of_beq_eq_false rfl)).trans (fT_eq _ _ _)).symm)); by_cases h9_77 : q9 = 77; (subst h9_77; exact (fT_eq _ _ _).trans (Eq.trans (by first | rfl | assumption | (symm; assumption) | (subst_vars; rfl)) (fT_eq _ _ _).symm)); exact ((fT_ne _ _ h9_77).trans ((fT_ne _ _ h9_76).trans ((fT_ne _ _ h9_75).trans (fT_ne _ _ h9_74)))).trans ((fT_ne _ _ h9_77).trans ((fT_ne _ _ h9_76).trans ((fT_ne _ _ h9_75).trans (fT_ne _ _ h9_74)))).symm
  have hP : va_P (dC, dI) vwCl (WR a k h0 (fT (fT (fT (fT vi 74 (nI dp)) 75 ((vi 75) - ((vF 48) ((dp + 1) - 1)))) 76 rv) 77 (vF 47 dp)) vj vF vG) H := by rw [e9]; exact hP
  have hD : va_D A (WR a k h0 (fT (fT (fT (fT vi 74 (nI dp)) 75 ((vi 75) - ((vF 48) ((dp + 1) - 1)))) 76 rv) 77 (vF 47 dp)) vj vF vG) := by rw [e9]; exact hD
  clear e9
  exact W.vret hx hb hr (fun t9_ ht hW => ⟨⟨((vi 75) - ((vF 48) ((dp + 1) - 1))), rfl, trivial, by rw [ht]; exact hP, hD⟩, hS.F ht⟩) hS.2.2 dX12_end1_46
theorem dX12_member_0 : decode cX12_member 0 = .ok (.aload_n 0, 1) := dk_42 (by decide +kernel)
theorem dX12_member_1 : decode cX12_member 1 = .ok (.getfield 515, 3) := dk_180 (by decide +kernel)
theorem dX12_member_4 : decode cX12_member 4 = .ok (.ifCond .le 5, 3) := dk_158 (by decide +kernel)
theorem dX12_member_9 : decode cX12_member 9 = .ok (.aload_n 0, 1) := dk_42 (by decide +kernel)
theorem dX12_member_10 : decode cX12_member 10 = .ok (.getfield 659, 3) := dk_180 (by decide +kernel)
theorem dX12_member_13 : decode cX12_member 13 = .ok (.iconst 1, 1) := dk_4 (by decide +kernel)
theorem dX12_member_14 : decode cX12_member 14 = .ok (.isub, 1) := dk_100 (by decide +kernel)
theorem dX12_member_15 : decode cX12_member 15 = .ok (.istore_n 3, 1) := dk_62 (by decide +kernel)
theorem dX12_member_16 : decode cX12_member 16 = .ok (.aload_n 0, 1) := dk_42 (by decide +kernel)
theorem dX12_member_17 : decode cX12_member 17 = .ok (.dup, 1) := dk_89 (by decide +kernel)
theorem dX12_member_18 : decode cX12_member 18 = .ok (.getfield 659, 3) := dk_180 (by decide +kernel)
theorem dX12_member_21 : decode cX12_member 21 = .ok (.iconst 1, 1) := dk_4 (by decide +kernel)
theorem dX12_member_22 : decode cX12_member 22 = .ok (.isub, 1) := dk_100 (by decide +kernel)
theorem dX12_member_23 : decode cX12_member 23 = .ok (.putfield 659, 3) := dk_181 (by decide +kernel)
theorem dX12_member_26 : decode cX12_member 26 = .ok (.aload_n 0, 1) := dk_42 (by decide +kernel)
theorem dX12_member_27 : decode cX12_member 27 = .ok (.iload_n 3, 1) := dk_29 (by decide +kernel)
theorem dX12_member_28 : decode cX12_member 28 = .ok (.invokevirtual 638, 3) := dk_182 (by decide +kernel)
theorem dX12_member_31 : decode cX12_member 31 = .ok (.ifCond .eq 13, 3) := dk_153 (by decide +kernel)
theorem dX12_member_34 : decode cX12_member 34 = .ok (.aload_n 0, 1) := dk_42 (by decide +kernel)
theorem dX12_member_35 : decode cX12_member 35 = .ok (.bipush 7, 2) := dk_16 (by decide +kernel)
theorem dX12_member_37 : decode cX12_member 37 = .ok (.iload_n 2, 1) := dk_28 (by decide +kernel)
theorem dX12_member_38 : decode cX12_member 38 = .ok (.invokevirtual 518, 3) := dk_182 (by decide +kernel)
theorem dX12_member_41 : decode cX12_member 41 = .ok (.goto 66, 3) := dk_167 (by decide +kernel)
theorem dX12_member_44 : decode cX12_member 44 = .ok (.aload_n 0, 1) := dk_42 (by decide +kernel)
theorem dX12_member_45 : decode cX12_member 45 = .ok (.getfield 173, 3) := dk_180 (by decide +kernel)
theorem dX12_member_48 : decode cX12_member 48 = .ok (.bipush 9, 2) := dk_16 (by decide +kernel)
theorem dX12_member_50 : decode cX12_member 50 = .ok (.iload_n 3, 1) := dk_29 (by decide +kernel)
theorem dX12_member_51 : decode cX12_member 51 = .ok (.imul, 1) := dk_104 (by decide +kernel)
theorem dX12_member_52 : decode cX12_member 52 = .ok (.iaload, 1) := dk_46 (by decide +kernel)
theorem dX12_member_53 : decode cX12_member 53 = .ok (.iconst 1, 1) := dk_4 (by decide +kernel)
theorem dX12_member_54 : decode cX12_member 54 = .ok (.if_icmp .ne 46, 3) := dk_160 (by decide +kernel)
theorem dX12_member_57 : decode cX12_member 57 = .ok (.aload_n 0, 1) := dk_42 (by decide +kernel)
theorem dX12_member_58 : decode cX12_member 58 = .ok (.getfield 170, 3) := dk_180 (by decide +kernel)
theorem dX12_member_61 : decode cX12_member 61 = .ok (.bipush 9, 2) := dk_16 (by decide +kernel)
theorem dX12_member_63 : decode cX12_member 63 = .ok (.iload_n 3, 1) := dk_29 (by decide +kernel)
theorem dX12_member_64 : decode cX12_member 64 = .ok (.imul, 1) := dk_104 (by decide +kernel)
theorem dX12_member_65 : decode cX12_member 65 = .ok (.iaload, 1) := dk_46 (by decide +kernel)
theorem dX12_member_66 : decode cX12_member 66 = .ok (.aload_n 0, 1) := dk_42 (by decide +kernel)
theorem dX12_member_67 : decode cX12_member 67 = .ok (.getfield 71, 3) := dk_180 (by decide +kernel)
theorem dX12_member_70 : decode cX12_member 70 = .ok (.iload_n 1, 1) := dk_27 (by decide +kernel)
theorem dX12_member_71 : decode cX12_member 71 = .ok (.iaload, 1) := dk_46 (by decide +kernel)
theorem dX12_member_72 : decode cX12_member 72 = .ok (.if_icmp .lt 28, 3) := dk_161 (by decide +kernel)
theorem dX12_member_75 : decode cX12_member 75 = .ok (.aload_n 0, 1) := dk_42 (by decide +kernel)
theorem dX12_member_76 : decode cX12_member 76 = .ok (.getfield 170, 3) := dk_180 (by decide +kernel)
theorem dX12_member_79 : decode cX12_member 79 = .ok (.bipush 9, 2) := dk_16 (by decide +kernel)
theorem dX12_member_81 : decode cX12_member 81 = .ok (.iload_n 3, 1) := dk_29 (by decide +kernel)
theorem dX12_member_82 : decode cX12_member 82 = .ok (.imul, 1) := dk_104 (by decide +kernel)
theorem dX12_member_83 : decode cX12_member 83 = .ok (.iaload, 1) := dk_46 (by decide +kernel)
theorem dX12_member_84 : decode cX12_member 84 = .ok (.aload_n 0, 1) := dk_42 (by decide +kernel)
theorem dX12_member_85 : decode cX12_member 85 = .ok (.getfield 71, 3) := dk_180 (by decide +kernel)
theorem dX12_member_88 : decode cX12_member 88 = .ok (.iload_n 1, 1) := dk_27 (by decide +kernel)
theorem dX12_member_89 : decode cX12_member 89 = .ok (.iaload, 1) := dk_46 (by decide +kernel)
theorem dX12_member_90 : decode cX12_member 90 = .ok (.aload_n 0, 1) := dk_42 (by decide +kernel)
theorem dX12_member_91 : decode cX12_member 91 = .ok (.getfield 74, 3) := dk_180 (by decide +kernel)
theorem dX12_member_94 : decode cX12_member 94 = .ok (.iload_n 1, 1) := dk_27 (by decide +kernel)
theorem dX12_member_95 : decode cX12_member 95 = .ok (.iaload, 1) := dk_46 (by decide +kernel)
theorem dX12_member_96 : decode cX12_member 96 = .ok (.iadd, 1) := dk_96 (by decide +kernel)
theorem dX12_member_97 : decode cX12_member 97 = .ok (.if_icmp .lt 10, 3) := dk_161 (by decide +kernel)
theorem dX12_member_100 : decode cX12_member 100 = .ok (.aload_n 0, 1) := dk_42 (by decide +kernel)
theorem dX12_member_101 : decode cX12_member 101 = .ok (.bipush 8, 2) := dk_16 (by decide +kernel)
theorem dX12_member_103 : decode cX12_member 103 = .ok (.iload_n 2, 1) := dk_28 (by decide +kernel)
theorem dX12_member_104 : decode cX12_member 104 = .ok (.invokevirtual 518, 3) := dk_182 (by decide +kernel)
theorem dX12_member_107 : decode cX12_member 107 = .ok (.aload_n 0, 1) := dk_42 (by decide +kernel)
theorem dX12_member_108 : decode cX12_member 108 = .ok (.getfield 515, 3) := dk_180 (by decide +kernel)
theorem dX12_member_111 : decode cX12_member 111 = .ok (.ifCond .le 7, 3) := dk_158 (by decide +kernel)
theorem dX12_member_114 : decode cX12_member 114 = .ok (.iconst 0, 1) := dk_3 (by decide +kernel)
theorem dX12_member_115 : decode cX12_member 115 = .ok (.goto 19, 3) := dk_167 (by decide +kernel)
theorem dX12_member_118 : decode cX12_member 118 = .ok (.aload_n 0, 1) := dk_42 (by decide +kernel)
theorem dX12_member_119 : decode cX12_member 119 = .ok (.getfield 170, 3) := dk_180 (by decide +kernel)
theorem dX12_member_122 : decode cX12_member 122 = .ok (.bipush 9, 2) := dk_16 (by decide +kernel)
theorem dX12_member_124 : decode cX12_member 124 = .ok (.iload_n 3, 1) := dk_29 (by decide +kernel)
theorem dX12_member_125 : decode cX12_member 125 = .ok (.imul, 1) := dk_104 (by decide +kernel)
theorem dX12_member_126 : decode cX12_member 126 = .ok (.iaload, 1) := dk_46 (by decide +kernel)
theorem dX12_member_127 : decode cX12_member 127 = .ok (.aload_n 0, 1) := dk_42 (by decide +kernel)
theorem dX12_member_128 : decode cX12_member 128 = .ok (.getfield 71, 3) := dk_180 (by decide +kernel)
theorem dX12_member_131 : decode cX12_member 131 = .ok (.iload_n 1, 1) := dk_27 (by decide +kernel)
theorem dX12_member_132 : decode cX12_member 132 = .ok (.iaload, 1) := dk_46 (by decide +kernel)
theorem dX12_member_133 : decode cX12_member 133 = .ok (.isub, 1) := dk_100 (by decide +kernel)
theorem dX12_member_134 : decode cX12_member 134 = .ok (.ireturn, 1) := dk_172 (by decide +kernel)
def wsRX12_member : List Cond := .code yX12_member cX12_member 4 (some .int) :: ([.fieldLink RX12 515 "OptimaWorksModel" "stop" "I", .fieldLink RX12 659 "OptimaWorksModel" "piled" "I", .fieldLink RX12 173 "OptimaWorksModel" "under" "[I", .fieldLink RX12 170 "OptimaWorksModel" "top" "[I", .fieldLink RX12 71 "OptimaWorksModel" "setLow" "[I", .fieldLink RX12 74 "OptimaWorksModel" "setMany" "[I"] ++ wsX120 ++ (wsV RX12 638 RX12 yX12_hasVariables wsRX12_hasVariables) ++ (wsV RX12 518 RX12 yX12_faultAt wsRX12_faultAt))
theorem iwsRX12_member_in12 : ∀ w ∈ wsX120, w ∈ wsRX12_member := fun _ h => List.mem_cons_of_mem _ (List.mem_append_left _ (List.mem_append_left _ (List.mem_append_right _ h)))
theorem gwsRX12_member_0 : GoodIn wsRX12_member (wsV RX12 638 RX12 yX12_hasVariables wsRX12_hasVariables) := goodIn_sub (fun _ h => List.mem_cons_of_mem _ (List.mem_append_left _ (List.mem_append_right _ h))) (gdV (by decide +kernel) gdwsRX12_hasVariables)
theorem gwsRX12_member_1 : GoodIn wsRX12_member (wsV RX12 518 RX12 yX12_faultAt wsRX12_faultAt) := goodIn_sub (fun _ h => List.mem_cons_of_mem _ (List.mem_append_right _ h)) (gdV (by decide +kernel) gdwsRX12_faultAt)
theorem gdwsRX12_member : wsRX12_member.all goodWord = true := gdC rfl (gdA (gdA (gdA (by decide +kernel : ([.fieldLink RX12 515 "OptimaWorksModel" "stop" "I", .fieldLink RX12 659 "OptimaWorksModel" "piled" "I", .fieldLink RX12 173 "OptimaWorksModel" "under" "[I", .fieldLink RX12 170 "OptimaWorksModel" "top" "[I", .fieldLink RX12 71 "OptimaWorksModel" "setLow" "[I", .fieldLink RX12 74 "OptimaWorksModel" "setMany" "[I"] : List Cond).all goodWord = true) gdwsX120) (gdV (by decide +kernel) gdwsRX12_hasVariables)) (gdV (by decide +kernel) gdwsRX12_faultAt))
set_option maxHeartbeats 4000000 in
set_option maxRecDepth 100000 in
/-- member(set, p) -/
theorem r_X12_member (l : Launch) (dC : Nat → ClassId) (dI : Nat → Nat → Nat) (a : Nat → Nat) (k : Nat → ClassId) (h0 : Nat) (vi : Nat → Int32) (vj : Nat → Int64) (vF : Nat → Nat → Int32) (vG : Nat → Nat → Int64) (oN : Nat) (pI : Int32) (se : Nat) (mN : Nat) (pi : Nat) (hse44 : se ≤ 44) (hSe : SeO (vF 16) (vF 17) se) (hoN : oN < se) (emN : vF 17 oN = nI mN) (hmN : 1 ≤ mN ∧ mN ≤ 12) (hpi : vi 81 = nI (pi + 1)) (hpi9 : pi < 100) (hRw : RowU (vF 49) (vF 50) pi) (hst0 : 0 ≤ (vi 21).toInt) (hst1 : (vi 21).toInt ≤ 0) (sz : Nat) : Met l yX12_member wsRX12_member ({ frames := 1, cells := 0, slots := 0, locals := 23 }) (va_Pc [.ref h0, .int (nI oN), .int pI] (fun U => U.heap.size = sz ∧ va_P (dC, dI) vwCl (WR a k h0 vi vj vF vG) U.heap ∧ va_K (dC, dI) vwCl (tX12 k) U ∧ va_D (fun _ => True) (WR a k h0 vi vj vF vG))) (va_Qi (fun (r : Int32) (u : (Int32) × (Int32)) => (0 ≤ ((u.1)).toInt) ∧ ((0 < ((u.1)).toInt) ∨ ((u.1) = vi 21 ∧ ∃ k, k < 12 ∧ (r) = nI k ∧ vF 17 oN = nI mN ∧ k < mN))) (fun (u : (Int32) × (Int32)) t => va_P (dC, dI) vwCl (WR a k h0 (fT (fT (fT vi 81 (nI pi)) 21 (u.1)) 22 (u.2)) vj vF vG) t.heap ∧ va_D (va_A (WR a k h0 vi vj vF vG) sz) (WR a k h0 (fT (fT (fT vi 81 (nI pi)) 21 (u.1)) 22 (u.2)) vj vF vG)) (va_A (WR a k h0 vi vj vF vG) sz)) 0 0 (va_A (WR a k h0 vi vj vF vG) sz) := by
  refine Met.ofW (cc := cX12_member) (maxL := 4) (ret := (some .int)) (by decide) rfl ?_
  intro p e s m args below meth c s₁ B hml hv
  obtain ⟨rfl, hsz, hP, hK, hD0⟩ := hv
  have hx := B.exec
  have hb := B.bytes
  have hr := B.returns
  have hts := atoms_spec (ws := wsRX12_member) B.pre
  have hown : s.vm.findClass RX12 = some m.cls := findClass_of_methodNamed B.named
  have hlocks := B.notSynchronized
  subst hsz
  have hD := hD0.self (sz := s.heap.size)
  generalize hAe : va_A (WR a k h0 vi vj vF vG) s.heap.size = A at hD ⊢
  have hA : ∀ q : Nat, s.heap.size ≤ q → A q := fun q h => by rw [← hAe]; exact Or.inr h
  have hS : va_S A s.heap s.heap [] := va_S.rf
  have hl := lv_entry ([.ref h0, .int (nI oN), .int pI]) (n := 4) (Nat.le_of_ble_eq_true rfl)
  rw [lg_entry_eq]
  generalize (lg_sl ([.ref h0, .int (nI oN), .int pI]) ++ List.replicate (4 - (lg_sl ([.ref h0, .int (nI oN), .int pI])).length) Slot.unset).toArray = ls at hl ⊢
  have hl : lv_has ls 4 [(0, .ref h0), (1, .int (nI oN)), (2, .int pI)] := hl
  have hl1 := (hSe oN hoN).2
  refine lv_aload_n hx hb dX12_member_0 rfl (lv_at hl 0 rfl) ?_
  refine va_get (D := (dC, dI)) (ci := 12) (v := .int (vi 21)) (C := RX12) (T := TX12) (N := 163) (fs := fM (vS a vi vj)) hx hb hts iwsRX12_member_in12 hown hK hP 0 rfl rfl 21 (by decide) (hts (.fieldLink RX12 515 "OptimaWorksModel" "stop" "I") (by decide +kernel)) (fun _ h9 => h9) rfl dX12_member_1 ?_
  refine lv_if_le (tgt := 9) hx hb dX12_member_4 (by decide) (fun c_4 => ?_) (fun c9 => False.elim (by have t9 : ¬ ((vi 21)).toInt ≤ 0 := toI_nle c9 rfl (by decide); omega))
  have t_4 : ((vi 21)).toInt ≤ 0 := toI_le c_4 rfl (by decide)
  refine lv_aload_n hx hb dX12_member_9 rfl (lv_at hl 0 rfl) ?_
  refine va_get (D := (dC, dI)) (ci := 12) (v := .int (vi 81)) (C := RX12) (T := TX12) (N := 163) (fs := fM (vS a vi vj)) hx hb hts iwsRX12_member_in12 hown hK hP 0 rfl rfl 81 (by decide) (hts (.fieldLink RX12 659 "OptimaWorksModel" "piled" "I") (by decide +kernel)) (fun _ h9 => h9) rfl dX12_member_10 ?_
  refine lv_topi (fun y1 hy1 => ?_)
  obtain rfl : (nI (pi + 1)) = y1 := (hy1.trans (hpi)).symm
  refine lv_iconst (v := 1) hx hb dX12_member_13 (by decide) ?_
  refine lv_isub hx hb dX12_member_14 ?_
  refine lv_topi (fun y2 hy2 => ?_)
  obtain rfl : (nI pi) = y2 := (hy2.trans (pk_sub (a := pi + 1) (b := 1) (by omega))).symm
  refine lv_istore_n hx hb dX12_member_15 rfl hl (by decide) rfl (fun ls (hl : lv_has ls _ ([(3, .int (nI pi)), (0, .ref h0), (1, .int (nI oN)), (2, .int pI)])) => ?_)
  refine lv_aload_n hx hb dX12_member_16 rfl (lv_at hl 1 rfl) ?_
  refine lv_dup hx hb dX12_member_17 rfl ?_
  refine va_get (D := (dC, dI)) (ci := 12) (v := .int (vi 81)) (C := RX12) (T := TX12) (N := 163) (fs := fM (vS a vi vj)) hx hb hts iwsRX12_member_in12 hown hK hP 0 rfl rfl 81 (by decide) (hts (.fieldLink RX12 659 "OptimaWorksModel" "piled" "I") (by decide +kernel)) (fun _ h9 => h9) rfl dX12_member_18 ?_
  refine lv_topi (fun y3 hy3 => ?_)
  obtain rfl : (nI (pi + 1)) = y3 := (hy3.trans (hpi)).symm
  refine lv_iconst (v := 1) hx hb dX12_member_21 (by decide) ?_
  refine lv_isub hx hb dX12_member_22 ?_
  refine lv_topi (fun y4 hy4 => ?_)
  obtain rfl : (nI pi) = y4 := (hy4.trans (pk_sub (a := pi + 1) (b := 1) (by omega))).symm
  refine va_put (D := (dC, dI)) (ci := 12) (v := .int (nI pi)) (ty := .int) (C := RX12) (T := TX12) (N := 163) (fs := fM (vS a vi vj)) hx hb hts iwsRX12_member_in12 tyX12 tyX12_ok nmX12 hown hK hP hD hS 0 rfl rfl 81 (by decide) (hts (.fieldLink RX12 659 "OptimaWorksModel" "piled" "I") (by decide +kernel)) (fun _ h9 => h9) rfl (by decide +kernel) rfl rfl (Nat.le_of_ble_eq_true rfl) dX12_member_23 (fun H locs hP hD hS => ?_)
  have hP : va_P (dC, dI) vwCl (WR a k h0 (fT vi 81 (nI pi)) vj vF vG) H := by rw [← WR_i 81 _ rfl]; exact hP
  have hD : va_D A (WR a k h0 (fT vi 81 (nI pi)) vj vF vG) := by rw [← WR_i 81 _ rfl]; exact hD
  refine lv_aload_n hx hb dX12_member_26 rfl (lv_at hl 1 rfl) ?_
  refine lv_iload_n hx hb dX12_member_27 rfl (lv_at hl 0 rfl) ?_
  have hFc := allFree hD hS hA
  refine va_calli (va_runV (As := [.int (nI pi)]) (rest := []) ⟨hx, hb, hml, hown, hts⟩ (r_X12_hasVariables l dC dI a k h0 (fT vi 81 (nI pi)) vj vF vG pi (by first | assumption | decide | omega | rfl) H.size) (cwV 1 hts gwsRX12_member_0 rfl rfl rfl hd_yX12_hasVariables_RX12 (by decide +kernel)) (fz_pre (va_recv hK hP (ci := 12) (q0 := 0) rfl rfl) hP hK hD) rfl rfl hl.1 rfl (lv_room (Nat.le_of_ble_eq_true rfl)) dX12_member_28 (by decide +kernel)) hS (fun q _ h => hFc q h) hFc (fun r28 u t9_ H locs ht hvm hw9 hB9 hz1 hk1 hS => ?_)
  have hP : va_P (dC, dI) vwCl (WR a k h0 (fT vi 81 (nI pi)) vj vF vG) H := fz_P ht hB9.1
  have hD : va_D A (WR a k h0 (fT vi 81 (nI pi)) vj vF vG) := hB9.2.weaken (fun _ q _ h => hFc q.1 h)
  have f28_0 := hw9
  try dsimp only at f28_0
  have f28_0 : ((r28) = 0 ∧ ∀ q, 1 ≤ q → q < 9 → (vF 49) (9 * pi + q) = 0) ∨ ((r28) = 1 ∧ ∃ q, 1 ≤ q ∧ q < 9 ∧ (vF 49) (9 * pi + q) ≠ 0) := f28_0
  refine lv_if_eq (tgt := 44) hx hb dX12_member_31 (by decide) (fun c_31 => ?_) (fun c_31 => ?_)
  · have t_31 : (r28).toInt = 0 := toI_eq c_31 rfl (by decide)
    have hr0 := hRw 0 (by omega)
    simp only [Nat.add_zero] at hr0
    refine lv_aload_n hx hb dX12_member_44 rfl (lv_at hl 1 rfl) ?_
    refine va_get (D := (dC, dI)) (ci := 12) (v := .ref (a 50)) (C := RX12) (T := TX12) (N := 163) (fs := fM (vS a (fT vi 81 (nI pi)) vj)) hx hb hts iwsRX12_member_in12 hown hK hP 0 rfl rfl 79 (by decide) (hts (.fieldLink RX12 173 "OptimaWorksModel" "under" "[I") (by decide +kernel)) (fun _ h9 => h9) rfl dX12_member_45 ?_
    refine lv_bipush (v := 9) hx hb dX12_member_48 (by decide) ?_
    refine lv_iload_n hx hb dX12_member_50 rfl (lv_at hl 0 rfl) ?_
    refine lv_imul hx hb dX12_member_51 ?_
    refine lv_topi (fun y5 hy5 => ?_)
    obtain rfl : (nI (9 * pi)) = y5 := (hy5.trans (pk_mul 9 pi)).symm
    refine va_iald (cA := k 50) (n := 900) (f := (vF 50)) hx hb hK hP 51 50 (WR_get 50 (by decide)) (TR_get 50 (by decide)) (vp_in_nI (show (9 * pi) < 900 by omega) (by omega)) dX12_member_52 ?_
    refine lv_topi (fun y6 hy6 => ?_)
    obtain rfl : ((vF 50) (9 * pi)) = y6 := (hy6.trans (by rw [nI_clamp (by omega)])).symm
    refine lv_iconst (v := 1) hx hb dX12_member_53 (by decide) ?_
    refine lv_icmp_ne (tgt := 100) hx hb dX12_member_54 (by decide) (fun c_54 => ?_) (fun c_54 => ?_)
    · have t_54 : (((vF 50) (9 * pi))).toInt ≠ 1 := toI_ne c_54 rfl (by decide)
      refine lv_aload_n hx hb dX12_member_100 rfl (lv_at hl 1 rfl) ?_
      refine lv_bipush (v := 8) hx hb dX12_member_101 (by decide) ?_
      refine lv_iload_n hx hb dX12_member_103 rfl (lv_at hl 3 rfl) ?_
      have hFc := allFree hD hS hA
      refine va_callv (va_runV (As := [.int 8, .int pI]) (rest := []) ⟨hx, hb, hml, hown, hts⟩ (r_X12_faultAt l dC dI a k h0 (fT vi 81 (nI pi)) vj vF vG 8 pI (by first | assumption | decide | omega | rfl) H.size) (cwV 2 hts gwsRX12_member_1 rfl rfl rfl hd_yX12_faultAt_RX12 (by decide +kernel)) (fz_pre (va_recv hK hP (ci := 12) (q0 := 0) rfl rfl) hP hK hD) rfl rfl hl.1 rfl (lv_room (Nat.le_of_ble_eq_true rfl)) dX12_member_104 (by decide +kernel)) hS (fun q _ h => hFc q h) hFc (fun u t9_ H locs ht hvm hw9 hB9 hz1 hk1 hS => ?_)
      obtain ⟨s2104, p2104⟩ := u
      try dsimp only at hw9 hB9
      have hP : va_P (dC, dI) vwCl (WR a k h0 (fT (fT (fT vi 81 (nI pi)) 21 s2104) 22 p2104) vj vF vG) H := fz_P ht hB9.1
      have hD : va_D A (WR a k h0 (fT (fT (fT vi 81 (nI pi)) 21 s2104) 22 p2104) vj vF vG) := hB9.2.weaken (fun _ q _ h => hFc q.1 h)
      obtain ⟨f104_0, f104_1⟩ := hw9
      have f104_0 : (0 < (vi 21).toInt ∧ s2104 = (vi 21) ∧ p2104 = (vi 22)) ∨ (¬ 0 < (vi 21).toInt ∧ s2104 = 8 ∧ p2104 = pI) := f104_0
      refine lv_aload_n hx hb dX12_member_107 rfl (lv_at hl 1 rfl) ?_
      refine va_get (D := (dC, dI)) (ci := 12) (v := .int s2104) (C := RX12) (T := TX12) (N := 163) (fs := fM (vS a (fT (fT (fT vi 81 (nI pi)) 21 s2104) 22 p2104) vj)) hx hb hts iwsRX12_member_in12 hown hK hP 0 rfl rfl 21 (by decide) (hts (.fieldLink RX12 515 "OptimaWorksModel" "stop" "I") (by decide +kernel)) (fun _ h9 => h9) rfl dX12_member_108 ?_
      refine lv_if_le (tgt := 118) hx hb dX12_member_111 (by decide) (fun c9 => False.elim (by have t9 : (s2104).toInt ≤ 0 := toI_le c9 rfl (by decide); omega)) (fun c_111 => ?_)
      have t_111 : ¬ (s2104).toInt ≤ 0 := toI_nle c_111 rfl (by decide)
      refine lv_iconst (v := 0) hx hb dX12_member_114 (by decide) ?_
      refine lv_goto (tgt := 134) hx hb dX12_member_115 (by decide) ?_
      refine W.widen (k := 0) (n := 0) (by decide +kernel) (by decide +kernel) ?_
      exact W.iret (v := 0) hx hb hr (fun t9_ ht hW => ⟨⟨0, (s2104, p2104), rfl, by (try dsimp only); exact ⟨by (have h9 := f104_1); omega, Or.inl f104_1⟩, by rw [ht]; exact hP, hD⟩, hS.F ht⟩) hS.2.2 dX12_member_134
    · have t_54 : (((vF 50) (9 * pi))).toInt = 1 := toI_nne c_54 rfl (by decide)
      refine lv_aload_n hx hb dX12_member_57 rfl (lv_at hl 1 rfl) ?_
      refine va_get (D := (dC, dI)) (ci := 12) (v := .ref (a 49)) (C := RX12) (T := TX12) (N := 163) (fs := fM (vS a (fT vi 81 (nI pi)) vj)) hx hb hts iwsRX12_member_in12 hown hK hP 0 rfl rfl 78 (by decide) (hts (.fieldLink RX12 170 "OptimaWorksModel" "top" "[I") (by decide +kernel)) (fun _ h9 => h9) rfl dX12_member_58 ?_
      refine lv_bipush (v := 9) hx hb dX12_member_61 (by decide) ?_
      refine lv_iload_n hx hb dX12_member_63 rfl (lv_at hl 0 rfl) ?_
      refine lv_imul hx hb dX12_member_64 ?_
      refine lv_topi (fun y7 hy7 => ?_)
      obtain rfl : (nI (9 * pi)) = y7 := (hy7.trans (pk_mul 9 pi)).symm
      refine va_iald (cA := k 49) (n := 900) (f := (vF 49)) hx hb hK hP 50 49 (WR_get 49 (by decide)) (TR_get 49 (by decide)) (vp_in_nI (show (9 * pi) < 900 by omega) (by omega)) dX12_member_65 ?_
      refine lv_topi (fun y8 hy8 => ?_)
      obtain rfl : ((vF 49) (9 * pi)) = y8 := (hy8.trans (by rw [nI_clamp (by omega)])).symm
      refine lv_aload_n hx hb dX12_member_66 rfl (lv_at hl 1 rfl) ?_
      refine va_get (D := (dC, dI)) (ci := 12) (v := .ref (a 16)) (C := RX12) (T := TX12) (N := 163) (fs := fM (vS a (fT vi 81 (nI pi)) vj)) hx hb hts iwsRX12_member_in12 hown hK hP 0 rfl rfl 39 (by decide) (hts (.fieldLink RX12 71 "OptimaWorksModel" "setLow" "[I") (by decide +kernel)) (fun _ h9 => h9) rfl dX12_member_67 ?_
      refine lv_iload_n hx hb dX12_member_70 rfl (lv_at hl 2 rfl) ?_
      refine va_iald (cA := k 16) (n := 44) (f := (vF 16)) hx hb hK hP 17 16 (WR_get 16 (by decide)) (TR_get 16 (by decide)) (vp_in_nI (show oN < 44 by omega) (by omega)) dX12_member_71 ?_
      refine lv_topi (fun y9 hy9 => ?_)
      obtain rfl : ((vF 16) oN) = y9 := (hy9.trans (by rw [nI_clamp (by omega)])).symm
      refine lv_icmp_lt (tgt := 100) hx hb dX12_member_72 (by decide) (fun c_72 => ?_) (fun c_72 => ?_)
      · have t_72 : (((vF 49) (9 * pi))).toInt < (((vF 16) oN)).toInt := toI_lt c_72 rfl rfl
        refine lv_aload_n hx hb dX12_member_100 rfl (lv_at hl 1 rfl) ?_
        refine lv_bipush (v := 8) hx hb dX12_member_101 (by decide) ?_
        refine lv_iload_n hx hb dX12_member_103 rfl (lv_at hl 3 rfl) ?_
        have hFc := allFree hD hS hA
        refine va_callv (va_runV (As := [.int 8, .int pI]) (rest := []) ⟨hx, hb, hml, hown, hts⟩ (r_X12_faultAt l dC dI a k h0 (fT vi 81 (nI pi)) vj vF vG 8 pI (by first | assumption | decide | omega | rfl) H.size) (cwV 2 hts gwsRX12_member_1 rfl rfl rfl hd_yX12_faultAt_RX12 (by decide +kernel)) (fz_pre (va_recv hK hP (ci := 12) (q0 := 0) rfl rfl) hP hK hD) rfl rfl hl.1 rfl (lv_room (Nat.le_of_ble_eq_true rfl)) dX12_member_104 (by decide +kernel)) hS (fun q _ h => hFc q h) hFc (fun u t9_ H locs ht hvm hw9 hB9 hz1 hk1 hS => ?_)
        obtain ⟨s2104_1, p2104_1⟩ := u
        try dsimp only at hw9 hB9
        have hP : va_P (dC, dI) vwCl (WR a k h0 (fT (fT (fT vi 81 (nI pi)) 21 s2104_1) 22 p2104_1) vj vF vG) H := fz_P ht hB9.1
        have hD : va_D A (WR a k h0 (fT (fT (fT vi 81 (nI pi)) 21 s2104_1) 22 p2104_1) vj vF vG) := hB9.2.weaken (fun _ q _ h => hFc q.1 h)
        obtain ⟨f104_1_0, f104_1_1⟩ := hw9
        have f104_1_0 : (0 < (vi 21).toInt ∧ s2104_1 = (vi 21) ∧ p2104_1 = (vi 22)) ∨ (¬ 0 < (vi 21).toInt ∧ s2104_1 = 8 ∧ p2104_1 = pI) := f104_1_0
        refine lv_aload_n hx hb dX12_member_107 rfl (lv_at hl 1 rfl) ?_
        refine va_get (D := (dC, dI)) (ci := 12) (v := .int s2104_1) (C := RX12) (T := TX12) (N := 163) (fs := fM (vS a (fT (fT (fT vi 81 (nI pi)) 21 s2104_1) 22 p2104_1) vj)) hx hb hts iwsRX12_member_in12 hown hK hP 0 rfl rfl 21 (by decide) (hts (.fieldLink RX12 515 "OptimaWorksModel" "stop" "I") (by decide +kernel)) (fun _ h9 => h9) rfl dX12_member_108 ?_
        refine lv_if_le (tgt := 118) hx hb dX12_member_111 (by decide) (fun c9 => False.elim (by have t9 : (s2104_1).toInt ≤ 0 := toI_le c9 rfl (by decide); omega)) (fun c_111 => ?_)
        have t_111 : ¬ (s2104_1).toInt ≤ 0 := toI_nle c_111 rfl (by decide)
        refine lv_iconst (v := 0) hx hb dX12_member_114 (by decide) ?_
        refine lv_goto (tgt := 134) hx hb dX12_member_115 (by decide) ?_
        refine W.widen (k := 0) (n := 0) (by decide +kernel) (by decide +kernel) ?_
        exact W.iret (v := 0) hx hb hr (fun t9_ ht hW => ⟨⟨0, (s2104_1, p2104_1), rfl, by (try dsimp only); exact ⟨by (have h9 := f104_1_1); omega, Or.inl f104_1_1⟩, by rw [ht]; exact hP, hD⟩, hS.F ht⟩) hS.2.2 dX12_member_134
      · have t_72 : ¬ (((vF 49) (9 * pi))).toInt < (((vF 16) oN)).toInt := toI_nlt c_72 rfl rfl
        refine lv_aload_n hx hb dX12_member_75 rfl (lv_at hl 1 rfl) ?_
        refine va_get (D := (dC, dI)) (ci := 12) (v := .ref (a 49)) (C := RX12) (T := TX12) (N := 163) (fs := fM (vS a (fT vi 81 (nI pi)) vj)) hx hb hts iwsRX12_member_in12 hown hK hP 0 rfl rfl 78 (by decide) (hts (.fieldLink RX12 170 "OptimaWorksModel" "top" "[I") (by decide +kernel)) (fun _ h9 => h9) rfl dX12_member_76 ?_
        refine lv_bipush (v := 9) hx hb dX12_member_79 (by decide) ?_
        refine lv_iload_n hx hb dX12_member_81 rfl (lv_at hl 0 rfl) ?_
        refine lv_imul hx hb dX12_member_82 ?_
        refine lv_topi (fun y10 hy10 => ?_)
        obtain rfl : (nI (9 * pi)) = y10 := (hy10.trans (pk_mul 9 pi)).symm
        refine va_iald (cA := k 49) (n := 900) (f := (vF 49)) hx hb hK hP 50 49 (WR_get 49 (by decide)) (TR_get 49 (by decide)) (vp_in_nI (show (9 * pi) < 900 by omega) (by omega)) dX12_member_83 ?_
        refine lv_topi (fun y11 hy11 => ?_)
        obtain rfl : ((vF 49) (9 * pi)) = y11 := (hy11.trans (by rw [nI_clamp (by omega)])).symm
        refine lv_aload_n hx hb dX12_member_84 rfl (lv_at hl 1 rfl) ?_
        refine va_get (D := (dC, dI)) (ci := 12) (v := .ref (a 16)) (C := RX12) (T := TX12) (N := 163) (fs := fM (vS a (fT vi 81 (nI pi)) vj)) hx hb hts iwsRX12_member_in12 hown hK hP 0 rfl rfl 39 (by decide) (hts (.fieldLink RX12 71 "OptimaWorksModel" "setLow" "[I") (by decide +kernel)) (fun _ h9 => h9) rfl dX12_member_85 ?_
        refine lv_iload_n hx hb dX12_member_88 rfl (lv_at hl 2 rfl) ?_
        refine va_iald (cA := k 16) (n := 44) (f := (vF 16)) hx hb hK hP 17 16 (WR_get 16 (by decide)) (TR_get 16 (by decide)) (vp_in_nI (show oN < 44 by omega) (by omega)) dX12_member_89 ?_
        refine lv_topi (fun y12 hy12 => ?_)
        obtain rfl : ((vF 16) oN) = y12 := (hy12.trans (by rw [nI_clamp (by omega)])).symm
        refine lv_aload_n hx hb dX12_member_90 rfl (lv_at hl 1 rfl) ?_
        refine va_get (D := (dC, dI)) (ci := 12) (v := .ref (a 17)) (C := RX12) (T := TX12) (N := 163) (fs := fM (vS a (fT vi 81 (nI pi)) vj)) hx hb hts iwsRX12_member_in12 hown hK hP 0 rfl rfl 40 (by decide) (hts (.fieldLink RX12 74 "OptimaWorksModel" "setMany" "[I") (by decide +kernel)) (fun _ h9 => h9) rfl dX12_member_91 ?_
        refine lv_iload_n hx hb dX12_member_94 rfl (lv_at hl 2 rfl) ?_
        refine va_iald (cA := k 17) (n := 44) (f := (vF 17)) hx hb hK hP 18 17 (WR_get 17 (by decide)) (TR_get 17 (by decide)) (vp_in_nI (show oN < 44 by omega) (by omega)) dX12_member_95 ?_
        refine lv_topi (fun y13 hy13 => ?_)
        obtain rfl : ((vF 17) oN) = y13 := (hy13.trans (by rw [nI_clamp (by omega)])).symm
        refine lv_topi (fun y14 hy14 => ?_)
        obtain rfl : (nI mN) = y14 := (hy14.trans (emN)).symm
        refine lv_iadd hx hb dX12_member_96 ?_
        have e97 : (vF 16 oN + nI mN).toInt = (vF 16 oN).toInt + (mN : Int) := by rw [addB (by omega) (by rw [nI_toInt (by omega)]; omega), nI_toInt (by omega)]
        refine lv_icmp_lt (tgt := 107) hx hb dX12_member_97 (by decide) (fun c_97 => ?_) (fun c_97 => ?_)
        · have t_97 : (((vF 49) (9 * pi))).toInt < ((((vF 16) oN) + (nI mN))).toInt := toI_lt c_97 rfl rfl
          refine lv_aload_n hx hb dX12_member_107 rfl (lv_at hl 1 rfl) ?_
          refine va_get (D := (dC, dI)) (ci := 12) (v := .int (vi 21)) (C := RX12) (T := TX12) (N := 163) (fs := fM (vS a (fT vi 81 (nI pi)) vj)) hx hb hts iwsRX12_member_in12 hown hK hP 0 rfl rfl 21 (by decide) (hts (.fieldLink RX12 515 "OptimaWorksModel" "stop" "I") (by decide +kernel)) (fun _ h9 => h9) rfl dX12_member_108 ?_
          refine lv_if_le (tgt := 118) hx hb dX12_member_111 (by decide) (fun c_111 => ?_) (fun c9 => False.elim (by have t9 : ¬ ((vi 21)).toInt ≤ 0 := toI_nle c9 rfl (by decide); omega))
          have t_111 : ((vi 21)).toInt ≤ 0 := toI_le c_111 rfl (by decide)
          have e118 : (vF 49 (9 * pi) - vF 16 oN).toInt = (vF 49 (9 * pi)).toInt - (vF 16 oN).toInt := subB (by omega) (by omega)
          refine lv_aload_n hx hb dX12_member_118 rfl (lv_at hl 1 rfl) ?_
          refine va_get (D := (dC, dI)) (ci := 12) (v := .ref (a 49)) (C := RX12) (T := TX12) (N := 163) (fs := fM (vS a (fT vi 81 (nI pi)) vj)) hx hb hts iwsRX12_member_in12 hown hK hP 0 rfl rfl 78 (by decide) (hts (.fieldLink RX12 170 "OptimaWorksModel" "top" "[I") (by decide +kernel)) (fun _ h9 => h9) rfl dX12_member_119 ?_
          refine lv_bipush (v := 9) hx hb dX12_member_122 (by decide) ?_
          refine lv_iload_n hx hb dX12_member_124 rfl (lv_at hl 0 rfl) ?_
          refine lv_imul hx hb dX12_member_125 ?_
          refine lv_topi (fun y15 hy15 => ?_)
          obtain rfl : (nI (9 * pi)) = y15 := (hy15.trans (pk_mul 9 pi)).symm
          refine va_iald (cA := k 49) (n := 900) (f := (vF 49)) hx hb hK hP 50 49 (WR_get 49 (by decide)) (TR_get 49 (by decide)) (vp_in_nI (show (9 * pi) < 900 by omega) (by omega)) dX12_member_126 ?_
          refine lv_topi (fun y16 hy16 => ?_)
          obtain rfl : ((vF 49) (9 * pi)) = y16 := (hy16.trans (by rw [nI_clamp (by omega)])).symm
          refine lv_aload_n hx hb dX12_member_127 rfl (lv_at hl 1 rfl) ?_
          refine va_get (D := (dC, dI)) (ci := 12) (v := .ref (a 16)) (C := RX12) (T := TX12) (N := 163) (fs := fM (vS a (fT vi 81 (nI pi)) vj)) hx hb hts iwsRX12_member_in12 hown hK hP 0 rfl rfl 39 (by decide) (hts (.fieldLink RX12 71 "OptimaWorksModel" "setLow" "[I") (by decide +kernel)) (fun _ h9 => h9) rfl dX12_member_128 ?_
          refine lv_iload_n hx hb dX12_member_131 rfl (lv_at hl 2 rfl) ?_
          refine va_iald (cA := k 16) (n := 44) (f := (vF 16)) hx hb hK hP 17 16 (WR_get 16 (by decide)) (TR_get 16 (by decide)) (vp_in_nI (show oN < 44 by omega) (by omega)) dX12_member_132 ?_
          refine lv_topi (fun y17 hy17 => ?_)
          obtain rfl : ((vF 16) oN) = y17 := (hy17.trans (by rw [nI_clamp (by omega)])).symm
          refine lv_isub hx hb dX12_member_133 ?_
          refine W.widen (k := 0) (n := 0) (by decide +kernel) (by decide +kernel) ?_
          have e9 : fT (fT (fT vi 81 (nI pi)) 21 (vi 21)) 22 (vi 22) = fT vi 81 (nI pi) := (fT_id _ _ ((fT_ne _ _ (Nat.ne_of_beq_eq_false rfl)).trans (fT_ne _ _ (Nat.ne_of_beq_eq_false rfl)))).trans (fT_id _ _ (fT_ne _ _ (Nat.ne_of_beq_eq_false rfl)))
          have hP : va_P (dC, dI) vwCl (WR a k h0 (fT (fT (fT vi 81 (nI pi)) 21 (vi 21)) 22 (vi 22)) vj vF vG) H := by rw [e9]; exact hP
          have hD : va_D A (WR a k h0 (fT (fT (fT vi 81 (nI pi)) 21 (vi 21)) 22 (vi 22)) vj vF vG) := by rw [e9]; exact hD
          clear e9
          exact W.iret (v := (((vF 49) (9 * pi)) - ((vF 16) oN))) hx hb hr (fun t9_ ht hW => ⟨⟨(((vF 49) (9 * pi)) - ((vF 16) oN)), ((vi 21), (vi 22)), rfl, by (try dsimp only); exact ⟨hst0, Or.inr ⟨rfl, by obtain ⟨j5, hj5, ej5⟩ := of_toInt (x := vF 49 (9 * pi) - vF 16 oN) (k := mN) (by omega) (by omega); exact ⟨j5, by omega, ej5, emN, hj5⟩⟩⟩, by rw [ht]; exact hP, hD⟩, hS.F ht⟩) hS.2.2 dX12_member_134
        · have t_97 : ¬ (((vF 49) (9 * pi))).toInt < ((((vF 16) oN) + (nI mN))).toInt := toI_nlt c_97 rfl rfl
          refine lv_aload_n hx hb dX12_member_100 rfl (lv_at hl 1 rfl) ?_
          refine lv_bipush (v := 8) hx hb dX12_member_101 (by decide) ?_
          refine lv_iload_n hx hb dX12_member_103 rfl (lv_at hl 3 rfl) ?_
          have hFc := allFree hD hS hA
          refine va_callv (va_runV (As := [.int 8, .int pI]) (rest := []) ⟨hx, hb, hml, hown, hts⟩ (r_X12_faultAt l dC dI a k h0 (fT vi 81 (nI pi)) vj vF vG 8 pI (by first | assumption | decide | omega | rfl) H.size) (cwV 2 hts gwsRX12_member_1 rfl rfl rfl hd_yX12_faultAt_RX12 (by decide +kernel)) (fz_pre (va_recv hK hP (ci := 12) (q0 := 0) rfl rfl) hP hK hD) rfl rfl hl.1 rfl (lv_room (Nat.le_of_ble_eq_true rfl)) dX12_member_104 (by decide +kernel)) hS (fun q _ h => hFc q h) hFc (fun u t9_ H locs ht hvm hw9 hB9 hz1 hk1 hS => ?_)
          obtain ⟨s2104_2, p2104_2⟩ := u
          try dsimp only at hw9 hB9
          have hP : va_P (dC, dI) vwCl (WR a k h0 (fT (fT (fT vi 81 (nI pi)) 21 s2104_2) 22 p2104_2) vj vF vG) H := fz_P ht hB9.1
          have hD : va_D A (WR a k h0 (fT (fT (fT vi 81 (nI pi)) 21 s2104_2) 22 p2104_2) vj vF vG) := hB9.2.weaken (fun _ q _ h => hFc q.1 h)
          obtain ⟨f104_2_0, f104_2_1⟩ := hw9
          have f104_2_0 : (0 < (vi 21).toInt ∧ s2104_2 = (vi 21) ∧ p2104_2 = (vi 22)) ∨ (¬ 0 < (vi 21).toInt ∧ s2104_2 = 8 ∧ p2104_2 = pI) := f104_2_0
          refine lv_aload_n hx hb dX12_member_107 rfl (lv_at hl 1 rfl) ?_
          refine va_get (D := (dC, dI)) (ci := 12) (v := .int s2104_2) (C := RX12) (T := TX12) (N := 163) (fs := fM (vS a (fT (fT (fT vi 81 (nI pi)) 21 s2104_2) 22 p2104_2) vj)) hx hb hts iwsRX12_member_in12 hown hK hP 0 rfl rfl 21 (by decide) (hts (.fieldLink RX12 515 "OptimaWorksModel" "stop" "I") (by decide +kernel)) (fun _ h9 => h9) rfl dX12_member_108 ?_
          refine lv_if_le (tgt := 118) hx hb dX12_member_111 (by decide) (fun c9 => False.elim (by have t9 : (s2104_2).toInt ≤ 0 := toI_le c9 rfl (by decide); omega)) (fun c_111 => ?_)
          have t_111 : ¬ (s2104_2).toInt ≤ 0 := toI_nle c_111 rfl (by decide)
          refine lv_iconst (v := 0) hx hb dX12_member_114 (by decide) ?_
          refine lv_goto (tgt := 134) hx hb dX12_member_115 (by decide) ?_
          refine W.widen (k := 0) (n := 0) (by decide +kernel) (by decide +kernel) ?_
          exact W.iret (v := 0) hx hb hr (fun t9_ ht hW => ⟨⟨0, (s2104_2, p2104_2), rfl, by (try dsimp only); exact ⟨by (have h9 := f104_2_1); omega, Or.inl f104_2_1⟩, by rw [ht]; exact hP, hD⟩, hS.F ht⟩) hS.2.2 dX12_member_134
  · have t_31 : ¬ (r28).toInt = 0 := toI_neq c_31 rfl (by decide)
    refine lv_aload_n hx hb dX12_member_34 rfl (lv_at hl 1 rfl) ?_
    refine lv_bipush (v := 7) hx hb dX12_member_35 (by decide) ?_
    refine lv_iload_n hx hb dX12_member_37 rfl (lv_at hl 3 rfl) ?_
    have hFc := allFree hD hS hA
    refine va_callv (va_runV (As := [.int 7, .int pI]) (rest := []) ⟨hx, hb, hml, hown, hts⟩ (r_X12_faultAt l dC dI a k h0 (fT vi 81 (nI pi)) vj vF vG 7 pI (by first | assumption | decide | omega | rfl) H.size) (cwV 2 hts gwsRX12_member_1 rfl rfl rfl hd_yX12_faultAt_RX12 (by decide +kernel)) (fz_pre (va_recv hK hP (ci := 12) (q0 := 0) rfl rfl) hP hK hD) rfl rfl hl.1 rfl (lv_room (Nat.le_of_ble_eq_true rfl)) dX12_member_38 (by decide +kernel)) hS (fun q _ h => hFc q h) hFc (fun u t9_ H locs ht hvm hw9 hB9 hz1 hk1 hS => ?_)
    obtain ⟨s238, p238⟩ := u
    try dsimp only at hw9 hB9
    have hP : va_P (dC, dI) vwCl (WR a k h0 (fT (fT (fT vi 81 (nI pi)) 21 s238) 22 p238) vj vF vG) H := fz_P ht hB9.1
    have hD : va_D A (WR a k h0 (fT (fT (fT vi 81 (nI pi)) 21 s238) 22 p238) vj vF vG) := hB9.2.weaken (fun _ q _ h => hFc q.1 h)
    obtain ⟨f38_0, f38_1⟩ := hw9
    have f38_0 : (0 < (vi 21).toInt ∧ s238 = (vi 21) ∧ p238 = (vi 22)) ∨ (¬ 0 < (vi 21).toInt ∧ s238 = 7 ∧ p238 = pI) := f38_0
    refine lv_goto (tgt := 107) hx hb dX12_member_41 (by decide) ?_
    refine lv_aload_n hx hb dX12_member_107 rfl (lv_at hl 1 rfl) ?_
    refine va_get (D := (dC, dI)) (ci := 12) (v := .int s238) (C := RX12) (T := TX12) (N := 163) (fs := fM (vS a (fT (fT (fT vi 81 (nI pi)) 21 s238) 22 p238) vj)) hx hb hts iwsRX12_member_in12 hown hK hP 0 rfl rfl 21 (by decide) (hts (.fieldLink RX12 515 "OptimaWorksModel" "stop" "I") (by decide +kernel)) (fun _ h9 => h9) rfl dX12_member_108 ?_
    refine lv_if_le (tgt := 118) hx hb dX12_member_111 (by decide) (fun c9 => False.elim (by have t9 : (s238).toInt ≤ 0 := toI_le c9 rfl (by decide); omega)) (fun c_111 => ?_)
    have t_111 : ¬ (s238).toInt ≤ 0 := toI_nle c_111 rfl (by decide)
    refine lv_iconst (v := 0) hx hb dX12_member_114 (by decide) ?_
    refine lv_goto (tgt := 134) hx hb dX12_member_115 (by decide) ?_
    refine W.widen (k := 0) (n := 0) (by decide +kernel) (by decide +kernel) ?_
    exact W.iret (v := 0) hx hb hr (fun t9_ ht hW => ⟨⟨0, (s238, p238), rfl, by (try dsimp only); exact ⟨by (have h9 := f38_1); omega, Or.inl f38_1⟩, by rw [ht]; exact hP, hD⟩, hS.F ht⟩) hS.2.2 dX12_member_134

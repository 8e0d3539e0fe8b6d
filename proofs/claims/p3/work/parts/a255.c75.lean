theorem dX12_readSetOf_0 : decode cX12_readSetOf 0 = .ok (.aload_n 0, 1) := by decide +kernel
theorem dX12_readSetOf_1 : decode cX12_readSetOf 1 = .ok (.invokevirtual 524, 3) := by decide +kernel
theorem dX12_readSetOf_4 : decode cX12_readSetOf 4 = .ok (.aload_n 0, 1) := by decide +kernel
theorem dX12_readSetOf_5 : decode cX12_readSetOf 5 = .ok (.invokevirtual 735, 3) := by decide +kernel
theorem dX12_readSetOf_8 : decode cX12_readSetOf 8 = .ok (.aload_n 0, 1) := by decide +kernel
theorem dX12_readSetOf_9 : decode cX12_readSetOf 9 = .ok (.bipush 61, 2) := by decide +kernel
theorem dX12_readSetOf_11 : decode cX12_readSetOf 11 = .ok (.invokevirtual 611, 3) := by decide +kernel
theorem dX12_readSetOf_14 : decode cX12_readSetOf 14 = .ok (.pop, 1) := by decide +kernel
theorem dX12_readSetOf_15 : decode cX12_readSetOf 15 = .ok (.aload_n 0, 1) := by decide +kernel
theorem dX12_readSetOf_16 : decode cX12_readSetOf 16 = .ok (.invokevirtual 738, 3) := by decide +kernel
theorem dX12_readSetOf_19 : decode cX12_readSetOf 19 = .ok (.istore_n 1, 1) := by decide +kernel
theorem dX12_readSetOf_20 : decode cX12_readSetOf 20 = .ok (.aload_n 0, 1) := by decide +kernel
theorem dX12_readSetOf_21 : decode cX12_readSetOf 21 = .ok (.bipush 46, 2) := by decide +kernel
theorem dX12_readSetOf_23 : decode cX12_readSetOf 23 = .ok (.invokevirtual 611, 3) := by decide +kernel
theorem dX12_readSetOf_26 : decode cX12_readSetOf 26 = .ok (.pop, 1) := by decide +kernel
theorem dX12_readSetOf_27 : decode cX12_readSetOf 27 = .ok (.aload_n 0, 1) := by decide +kernel
theorem dX12_readSetOf_28 : decode cX12_readSetOf 28 = .ok (.getfield 488, 3) := by decide +kernel
theorem dX12_readSetOf_31 : decode cX12_readSetOf 31 = .ok (.istore_n 2, 1) := by decide +kernel
theorem dX12_readSetOf_32 : decode cX12_readSetOf 32 = .ok (.aload_n 0, 1) := by decide +kernel
theorem dX12_readSetOf_33 : decode cX12_readSetOf 33 = .ok (.getfield 515, 3) := by decide +kernel
theorem dX12_readSetOf_36 : decode cX12_readSetOf 36 = .ok (.ifCond .ne 16, 3) := by decide +kernel
theorem dX12_readSetOf_39 : decode cX12_readSetOf 39 = .ok (.aload_n 0, 1) := by decide +kernel
theorem dX12_readSetOf_40 : decode cX12_readSetOf 40 = .ok (.bipush 45, 2) := by decide +kernel
theorem dX12_readSetOf_42 : decode cX12_readSetOf 42 = .ok (.invokevirtual 521, 3) := by decide +kernel
theorem dX12_readSetOf_45 : decode cX12_readSetOf 45 = .ok (.ifCond .eq 7, 3) := by decide +kernel
theorem dX12_readSetOf_48 : decode cX12_readSetOf 48 = .ok (.iconst 1, 1) := by decide +kernel
theorem dX12_readSetOf_49 : decode cX12_readSetOf 49 = .ok (.goto 4, 3) := by decide +kernel
theorem dX12_readSetOf_52 : decode cX12_readSetOf 52 = .ok (.iconst 0, 1) := by decide +kernel
theorem dX12_readSetOf_53 : decode cX12_readSetOf 53 = .ok (.istore_n 3, 1) := by decide +kernel
theorem dX12_readSetOf_54 : decode cX12_readSetOf 54 = .ok (.iload_n 3, 1) := by decide +kernel
theorem dX12_readSetOf_55 : decode cX12_readSetOf 55 = .ok (.ifCond .eq 7, 3) := by decide +kernel
theorem dX12_readSetOf_58 : decode cX12_readSetOf 58 = .ok (.aload_n 0, 1) := by decide +kernel
theorem dX12_readSetOf_59 : decode cX12_readSetOf 59 = .ok (.invokevirtual 524, 3) := by decide +kernel
theorem dX12_readSetOf_62 : decode cX12_readSetOf 62 = .ok (.aload_n 0, 1) := by decide +kernel
theorem dX12_readSetOf_63 : decode cX12_readSetOf 63 = .ok (.getfield 515, 3) := by decide +kernel
theorem dX12_readSetOf_66 : decode cX12_readSetOf 66 = .ok (.ifCond .ne 15, 3) := by decide +kernel
theorem dX12_readSetOf_69 : decode cX12_readSetOf 69 = .ok (.aload_n 0, 1) := by decide +kernel
theorem dX12_readSetOf_70 : decode cX12_readSetOf 70 = .ok (.getfield 494, 3) := by decide +kernel
theorem dX12_readSetOf_73 : decode cX12_readSetOf 73 = .ok (.iconst 3, 1) := by decide +kernel
theorem dX12_readSetOf_74 : decode cX12_readSetOf 74 = .ok (.if_icmp .eq 7, 3) := by decide +kernel
theorem dX12_readSetOf_77 : decode cX12_readSetOf 77 = .ok (.aload_n 0, 1) := by decide +kernel
theorem dX12_readSetOf_78 : decode cX12_readSetOf 78 = .ok (.invokevirtual 527, 3) := by decide +kernel
theorem dX12_readSetOf_81 : decode cX12_readSetOf 81 = .ok (.iload_n 3, 1) := by decide +kernel
theorem dX12_readSetOf_82 : decode cX12_readSetOf 82 = .ok (.ifCond .eq 11, 3) := by decide +kernel
theorem dX12_readSetOf_85 : decode cX12_readSetOf 85 = .ok (.aload_n 0, 1) := by decide +kernel
theorem dX12_readSetOf_86 : decode cX12_readSetOf 86 = .ok (.getfield 491, 3) := by decide +kernel
theorem dX12_readSetOf_89 : decode cX12_readSetOf 89 = .ok (.ineg, 1) := by decide +kernel
theorem dX12_readSetOf_90 : decode cX12_readSetOf 90 = .ok (.goto 7, 3) := by decide +kernel
theorem dX12_readSetOf_93 : decode cX12_readSetOf 93 = .ok (.aload_n 0, 1) := by decide +kernel
theorem dX12_readSetOf_94 : decode cX12_readSetOf 94 = .ok (.getfield 491, 3) := by decide +kernel
theorem dX12_readSetOf_97 : decode cX12_readSetOf 97 = .ok (.istore 4, 2) := by decide +kernel
theorem dX12_readSetOf_99 : decode cX12_readSetOf 99 = .ok (.aload_n 0, 1) := by decide +kernel
theorem dX12_readSetOf_100 : decode cX12_readSetOf 100 = .ok (.getfield 515, 3) := by decide +kernel
theorem dX12_readSetOf_103 : decode cX12_readSetOf 103 = .ok (.ifCond .ne 24, 3) := by decide +kernel
theorem dX12_readSetOf_106 : decode cX12_readSetOf 106 = .ok (.iload 4, 2) := by decide +kernel
theorem dX12_readSetOf_108 : decode cX12_readSetOf 108 = .ok (.iload_n 1, 1) := by decide +kernel
theorem dX12_readSetOf_109 : decode cX12_readSetOf 109 = .ok (.if_icmp .lt 12, 3) := by decide +kernel
theorem dX12_readSetOf_112 : decode cX12_readSetOf 112 = .ok (.iload 4, 2) := by decide +kernel
theorem dX12_readSetOf_114 : decode cX12_readSetOf 114 = .ok (.iload_n 1, 1) := by decide +kernel
theorem dX12_readSetOf_115 : decode cX12_readSetOf 115 = .ok (.bipush 11, 2) := by decide +kernel
theorem dX12_readSetOf_117 : decode cX12_readSetOf 117 = .ok (.iadd, 1) := by decide +kernel
theorem dX12_readSetOf_118 : decode cX12_readSetOf 118 = .ok (.if_icmp .le 9, 3) := by decide +kernel
theorem dX12_readSetOf_121 : decode cX12_readSetOf 121 = .ok (.aload_n 0, 1) := by decide +kernel
theorem dX12_readSetOf_122 : decode cX12_readSetOf 122 = .ok (.iconst 4, 1) := by decide +kernel
theorem dX12_readSetOf_123 : decode cX12_readSetOf 123 = .ok (.iload_n 2, 1) := by decide +kernel
theorem dX12_readSetOf_124 : decode cX12_readSetOf 124 = .ok (.invokevirtual 518, 3) := by decide +kernel
theorem dX12_readSetOf_127 : decode cX12_readSetOf 127 = .ok (.aload_n 0, 1) := by decide +kernel
theorem dX12_readSetOf_128 : decode cX12_readSetOf 128 = .ok (.getfield 515, 3) := by decide +kernel
theorem dX12_readSetOf_131 : decode cX12_readSetOf 131 = .ok (.ifCond .le 4, 3) := by decide +kernel
theorem dX12_readSetOf_134 : decode cX12_readSetOf 134 = .ok (.return_, 1) := by decide +kernel
theorem dX12_readSetOf_135 : decode cX12_readSetOf 135 = .ok (.aload_n 0, 1) := by decide +kernel
theorem dX12_readSetOf_136 : decode cX12_readSetOf 136 = .ok (.invokevirtual 524, 3) := by decide +kernel
theorem dX12_readSetOf_139 : decode cX12_readSetOf 139 = .ok (.aload_n 0, 1) := by decide +kernel
theorem dX12_readSetOf_140 : decode cX12_readSetOf 140 = .ok (.bipush 59, 2) := by decide +kernel
theorem dX12_readSetOf_142 : decode cX12_readSetOf 142 = .ok (.invokevirtual 611, 3) := by decide +kernel
theorem dX12_readSetOf_145 : decode cX12_readSetOf 145 = .ok (.ifCond .ne 4, 3) := by decide +kernel
theorem dX12_readSetOf_148 : decode cX12_readSetOf 148 = .ok (.return_, 1) := by decide +kernel
theorem dX12_readSetOf_149 : decode cX12_readSetOf 149 = .ok (.aload_n 0, 1) := by decide +kernel
theorem dX12_readSetOf_150 : decode cX12_readSetOf 150 = .ok (.getfield 71, 3) := by decide +kernel
theorem dX12_readSetOf_153 : decode cX12_readSetOf 153 = .ok (.aload_n 0, 1) := by decide +kernel
theorem dX12_readSetOf_154 : decode cX12_readSetOf 154 = .ok (.getfield 741, 3) := by decide +kernel
theorem dX12_readSetOf_157 : decode cX12_readSetOf 157 = .ok (.iload_n 1, 1) := by decide +kernel
theorem dX12_readSetOf_158 : decode cX12_readSetOf 158 = .ok (.iastore, 1) := by decide +kernel
theorem dX12_readSetOf_159 : decode cX12_readSetOf 159 = .ok (.aload_n 0, 1) := by decide +kernel
theorem dX12_readSetOf_160 : decode cX12_readSetOf 160 = .ok (.getfield 74, 3) := by decide +kernel
theorem dX12_readSetOf_163 : decode cX12_readSetOf 163 = .ok (.aload_n 0, 1) := by decide +kernel
theorem dX12_readSetOf_164 : decode cX12_readSetOf 164 = .ok (.getfield 741, 3) := by decide +kernel
theorem dX12_readSetOf_167 : decode cX12_readSetOf 167 = .ok (.iload 4, 2) := by decide +kernel
theorem dX12_readSetOf_169 : decode cX12_readSetOf 169 = .ok (.iload_n 1, 1) := by decide +kernel
theorem dX12_readSetOf_170 : decode cX12_readSetOf 170 = .ok (.isub, 1) := by decide +kernel
theorem dX12_readSetOf_171 : decode cX12_readSetOf 171 = .ok (.iconst 1, 1) := by decide +kernel
theorem dX12_readSetOf_172 : decode cX12_readSetOf 172 = .ok (.iadd, 1) := by decide +kernel
theorem dX12_readSetOf_173 : decode cX12_readSetOf 173 = .ok (.iastore, 1) := by decide +kernel
theorem dX12_readSetOf_174 : decode cX12_readSetOf 174 = .ok (.aload_n 0, 1) := by decide +kernel
theorem dX12_readSetOf_175 : decode cX12_readSetOf 175 = .ok (.iconst 1, 1) := by decide +kernel
theorem dX12_readSetOf_176 : decode cX12_readSetOf 176 = .ok (.aload_n 0, 1) := by decide +kernel
theorem dX12_readSetOf_177 : decode cX12_readSetOf 177 = .ok (.getfield 741, 3) := by decide +kernel
theorem dX12_readSetOf_180 : decode cX12_readSetOf 180 = .ok (.invokevirtual 744, 3) := by decide +kernel
theorem dX12_readSetOf_183 : decode cX12_readSetOf 183 = .ok (.aload_n 0, 1) := by decide +kernel
theorem dX12_readSetOf_184 : decode cX12_readSetOf 184 = .ok (.dup, 1) := by decide +kernel
theorem dX12_readSetOf_185 : decode cX12_readSetOf 185 = .ok (.getfield 741, 3) := by decide +kernel
theorem dX12_readSetOf_188 : decode cX12_readSetOf 188 = .ok (.iconst 1, 1) := by decide +kernel
theorem dX12_readSetOf_189 : decode cX12_readSetOf 189 = .ok (.iadd, 1) := by decide +kernel
theorem dX12_readSetOf_190 : decode cX12_readSetOf 190 = .ok (.putfield 741, 3) := by decide +kernel
theorem dX12_readSetOf_193 : decode cX12_readSetOf 193 = .ok (.return_, 1) := by decide +kernel
def wsRX12_readSetOf : List Cond := .code yX12_readSetOf cX12_readSetOf 5 none :: ([.fieldLink RX12 488 "OptimaWorksModel" "from" "I", .fieldLink RX12 515 "OptimaWorksModel" "stop" "I", .fieldLink RX12 494 "OptimaWorksModel" "word" "I", .fieldLink RX12 491 "OptimaWorksModel" "sign0" "I", .fieldLink RX12 71 "OptimaWorksModel" "setLow" "[I", .fieldLink RX12 741 "OptimaWorksModel" "sets" "I", .fieldLink RX12 74 "OptimaWorksModel" "setMany" "[I"] ++ wsX120 ++ (wsV RX12 524 RX12 yX12_next wsRX12_next) ++ (wsV RX12 735 RX12 yX12_readOwn wsRX12_readOwn) ++ (wsV RX12 611 RX12 yX12_needSign wsRX12_needSign) ++ (wsV RX12 738 RX12 yX12_readWhole wsRX12_readWhole) ++ (wsV RX12 521 RX12 yX12_isSign wsRX12_isSign) ++ (wsV RX12 527 RX12 yX12_wrong wsRX12_wrong) ++ (wsV RX12 518 RX12 yX12_faultAt wsRX12_faultAt) ++ (wsV RX12 744 RX12 yX12_declare wsRX12_declare))
theorem iwsRX12_readSetOf_in12 : ∀ w ∈ wsX120, w ∈ wsRX12_readSetOf := fun _ h => List.mem_cons_of_mem _ (List.mem_append_left _ (List.mem_append_left _ (List.mem_append_left _ (List.mem_append_left _ (List.mem_append_left _ (List.mem_append_left _ (List.mem_append_left _ (List.mem_append_left _ (List.mem_append_right _ h)))))))))
theorem gwsRX12_readSetOf_0 : GoodIn wsRX12_readSetOf (wsV RX12 524 RX12 yX12_next wsRX12_next) := goodIn_sub (fun _ h => List.mem_cons_of_mem _ (List.mem_append_left _ (List.mem_append_left _ (List.mem_append_left _ (List.mem_append_left _ (List.mem_append_left _ (List.mem_append_left _ (List.mem_append_left _ (List.mem_append_right _ h))))))))) (gdV (by decide +kernel) gdwsRX12_next)
theorem gwsRX12_readSetOf_1 : GoodIn wsRX12_readSetOf (wsV RX12 735 RX12 yX12_readOwn wsRX12_readOwn) := goodIn_sub (fun _ h => List.mem_cons_of_mem _ (List.mem_append_left _ (List.mem_append_left _ (List.mem_append_left _ (List.mem_append_left _ (List.mem_append_left _ (List.mem_append_left _ (List.mem_append_right _ h)))))))) (gdV (by decide +kernel) gdwsRX12_readOwn)
theorem gwsRX12_readSetOf_2 : GoodIn wsRX12_readSetOf (wsV RX12 611 RX12 yX12_needSign wsRX12_needSign) := goodIn_sub (fun _ h => List.mem_cons_of_mem _ (List.mem_append_left _ (List.mem_append_left _ (List.mem_append_left _ (List.mem_append_left _ (List.mem_append_left _ (List.mem_append_right _ h))))))) (gdV (by decide +kernel) gdwsRX12_needSign)
theorem gwsRX12_readSetOf_3 : GoodIn wsRX12_readSetOf (wsV RX12 738 RX12 yX12_readWhole wsRX12_readWhole) := goodIn_sub (fun _ h => List.mem_cons_of_mem _ (List.mem_append_left _ (List.mem_append_left _ (List.mem_append_left _ (List.mem_append_left _ (List.mem_append_right _ h)))))) (gdV (by decide +kernel) gdwsRX12_readWhole)
theorem gwsRX12_readSetOf_4 : GoodIn wsRX12_readSetOf (wsV RX12 521 RX12 yX12_isSign wsRX12_isSign) := goodIn_sub (fun _ h => List.mem_cons_of_mem _ (List.mem_append_left _ (List.mem_append_left _ (List.mem_append_left _ (List.mem_append_right _ h))))) (gdV (by decide +kernel) gdwsRX12_isSign)
theorem gwsRX12_readSetOf_5 : GoodIn wsRX12_readSetOf (wsV RX12 527 RX12 yX12_wrong wsRX12_wrong) := goodIn_sub (fun _ h => List.mem_cons_of_mem _ (List.mem_append_left _ (List.mem_append_left _ (List.mem_append_right _ h)))) (gdV (by decide +kernel) gdwsRX12_wrong)
theorem gwsRX12_readSetOf_6 : GoodIn wsRX12_readSetOf (wsV RX12 518 RX12 yX12_faultAt wsRX12_faultAt) := goodIn_sub (fun _ h => List.mem_cons_of_mem _ (List.mem_append_left _ (List.mem_append_right _ h))) (gdV (by decide +kernel) gdwsRX12_faultAt)
theorem gwsRX12_readSetOf_7 : GoodIn wsRX12_readSetOf (wsV RX12 744 RX12 yX12_declare wsRX12_declare) := goodIn_sub (fun _ h => List.mem_cons_of_mem _ (List.mem_append_right _ h)) (gdV (by decide +kernel) gdwsRX12_declare)
theorem gdwsRX12_readSetOf : wsRX12_readSetOf.all goodWord = true := gdC rfl (gdA (gdA (gdA (gdA (gdA (gdA (gdA (gdA (gdA (by decide +kernel : ([.fieldLink RX12 488 "OptimaWorksModel" "from" "I", .fieldLink RX12 515 "OptimaWorksModel" "stop" "I", .fieldLink RX12 494 "OptimaWorksModel" "word" "I", .fieldLink RX12 491 "OptimaWorksModel" "sign0" "I", .fieldLink RX12 71 "OptimaWorksModel" "setLow" "[I", .fieldLink RX12 741 "OptimaWorksModel" "sets" "I", .fieldLink RX12 74 "OptimaWorksModel" "setMany" "[I"] : List Cond).all goodWord = true) gdwsX120) (gdV (by decide +kernel) gdwsRX12_next)) (gdV (by decide +kernel) gdwsRX12_readOwn)) (gdV (by decide +kernel) gdwsRX12_needSign)) (gdV (by decide +kernel) gdwsRX12_readWhole)) (gdV (by decide +kernel) gdwsRX12_isSign)) (gdV (by decide +kernel) gdwsRX12_wrong)) (gdV (by decide +kernel) gdwsRX12_faultAt)) (gdV (by decide +kernel) gdwsRX12_declare))
set_option maxHeartbeats 4000000 in
set_option maxRecDepth 100000 in
/-- readSetOf() -/
theorem r_X12_readSetOf (l : Launch) (dC : Nat → ClassId) (dI : Nat → Nat → Nat) (a : Nat → Nat) (k : Nat → ClassId) (h0 : Nat) (vi : Nat → Int32) (vj : Nat → Int64) (vF : Nat → Nat → Int32) (vG : Nat → Nat → Int64) (tp : Nat) (an : Nat) (fn : Nat) (nm : Nat) (se : Nat) (pa : Nat) (va : Nat) (nu : Nat) (hTp : vi 16 = nI tp) (htp : tp ≤ 4000) (ha0 : vi 17 = nI an) (hfr : vi 19 = nI fn) (hLx : LxO tp fn an (vi 18) (vi 20)) (hst0 : 0 ≤ (vi 21).toInt) (hnm : vi 25 = nI nm) (hse9 : vi 35 = nI se) (hpa9 : vi 36 = nI pa) (hva9 : vi 37 = nI va) (hnu9 : vi 38 = nI nu) (hGl : GlbR (vF 10) (vF 11) (vF 12) (vF 13) (vF 16) (vF 17) (vF 18) (vF 19) (vF 20) (vF 21) (vF 22) (vF 23) (vF 24) (vF 25) (vF 26) (vF 27) nm se pa va nu) (hfl : fn < an) (sz : Nat) : Met l yX12_readSetOf wsRX12_readSetOf ({ frames := 9, cells := 0, slots := 0, locals := 195 }) (va_Pc [.ref h0] (fun U => U.heap.size = sz ∧ va_P (dC, dI) vwCl (WR a k h0 vi vj vF vG) U.heap ∧ va_K (dC, dI) vwCl (tX12 k) U ∧ va_D (fun _ => True) (WR a k h0 vi vj vF vG) ∧ StrA (va_A (WR a k h0 vi vj vF vG) sz) U U.heap)) (va_Qv (fun (u : (Nat) × (Nat) × (Int32) × (Int32) × (Int32) × (Int32) × (Int32) × (Int32) × (Nat → Int32) × (Nat → Int32) × (Nat → Int32) × (Nat → Int32) × (Nat → Int32) × (Nat → Int32) × (Nat) × (Nat)) => (LxO tp (u.2.1) (u.1) (u.2.2.2.1) (u.2.2.1)) ∧ (fn ≤ (u.2.1)) ∧ (0 ≤ ((u.2.2.2.2.1)).toInt) ∧ (0 < ((u.2.2.2.2.1)).toInt ∨ (fn < (u.2.1) ∧ GlbR (u.2.2.2.2.2.2.2.2.1) (u.2.2.2.2.2.2.2.2.2.1) (u.2.2.2.2.2.2.2.2.2.2.1) (u.2.2.2.2.2.2.2.2.2.2.2.1) (u.2.2.2.2.2.2.2.2.2.2.2.2.1) (u.2.2.2.2.2.2.2.2.2.2.2.2.2.1) (vF 18) (vF 19) (vF 20) (vF 21) (vF 22) (vF 23) (vF 24) (vF 25) (vF 26) (vF 27) (u.2.2.2.2.2.2.2.2.2.2.2.2.2.2.1) (u.2.2.2.2.2.2.2.2.2.2.2.2.2.2.2) pa va nu))) (fun (u : (Nat) × (Nat) × (Int32) × (Int32) × (Int32) × (Int32) × (Int32) × (Int32) × (Nat → Int32) × (Nat → Int32) × (Nat → Int32) × (Nat → Int32) × (Nat → Int32) × (Nat → Int32) × (Nat) × (Nat)) t => va_P (dC, dI) vwCl (WR a k h0 (fT (fT (fT (fT (fT (fT (fT (fT (fT (fT vi 17 (nI (u.1))) 19 (nI (u.2.1))) 20 (u.2.2.1)) 18 (u.2.2.2.1)) 33 (u.2.2.2.2.2.2.1)) 34 (u.2.2.2.2.2.2.2.1)) 21 (u.2.2.2.2.1)) 22 (u.2.2.2.2.2.1)) 25 (nI (u.2.2.2.2.2.2.2.2.2.2.2.2.2.2.1))) 35 (nI (u.2.2.2.2.2.2.2.2.2.2.2.2.2.2.2))) vj (fT (fT (fT (fT (fT (fT vF 16 (u.2.2.2.2.2.2.2.2.2.2.2.2.1)) 17 (u.2.2.2.2.2.2.2.2.2.2.2.2.2.1)) 10 (u.2.2.2.2.2.2.2.2.1)) 11 (u.2.2.2.2.2.2.2.2.2.1)) 12 (u.2.2.2.2.2.2.2.2.2.2.1)) 13 (u.2.2.2.2.2.2.2.2.2.2.2.1)) vG) t.heap ∧ va_D (va_A (WR a k h0 vi vj vF vG) sz) (WR a k h0 (fT (fT (fT (fT (fT (fT (fT (fT (fT (fT vi 17 (nI (u.1))) 19 (nI (u.2.1))) 20 (u.2.2.1)) 18 (u.2.2.2.1)) 33 (u.2.2.2.2.2.2.1)) 34 (u.2.2.2.2.2.2.2.1)) 21 (u.2.2.2.2.1)) 22 (u.2.2.2.2.2.1)) 25 (nI (u.2.2.2.2.2.2.2.2.2.2.2.2.2.2.1))) 35 (nI (u.2.2.2.2.2.2.2.2.2.2.2.2.2.2.2))) vj (fT (fT (fT (fT (fT (fT vF 16 (u.2.2.2.2.2.2.2.2.2.2.2.2.1)) 17 (u.2.2.2.2.2.2.2.2.2.2.2.2.2.1)) 10 (u.2.2.2.2.2.2.2.2.1)) 11 (u.2.2.2.2.2.2.2.2.2.1)) 12 (u.2.2.2.2.2.2.2.2.2.2.1)) 13 (u.2.2.2.2.2.2.2.2.2.2.2.1)) vG)) (va_A (WR a k h0 vi vj vF vG) sz)) 0 0 (va_A (WR a k h0 vi vj vF vG) sz) := by
  refine Met.ofW (cc := cX12_readSetOf) (maxL := 5) (ret := none) (by decide) rfl ?_
  intro p e s m args below meth c s₁ B hml hv
  obtain ⟨rfl, hsz, hP, hK, hD0, hE⟩ := hv
  have hx := B.exec
  have hb := B.bytes
  have hr := B.returns
  have hts := atoms_spec (ws := wsRX12_readSetOf) B.pre
  have hown : s.vm.findClass RX12 = some m.cls := findClass_of_methodNamed B.named
  have hlocks := B.notSynchronized
  subst hsz
  have hD := hD0.self (sz := s.heap.size)
  generalize hAe : va_A (WR a k h0 vi vj vF vG) s.heap.size = A at hD hE ⊢
  have hA : ∀ q : Nat, s.heap.size ≤ q → A q := fun q h => by rw [← hAe]; exact Or.inr h
  have hS : va_S A s.heap s.heap [] := va_S.rf
  have hl := lv_entry ([.ref h0]) (n := 5) (Nat.le_of_ble_eq_true rfl)
  rw [lg_entry_eq]
  generalize (lg_sl ([.ref h0]) ++ List.replicate (5 - (lg_sl ([.ref h0])).length) Slot.unset).toArray = ls at hl ⊢
  have hl : lv_has ls 5 [(0, .ref h0)] := hl
  have hfa := hLx.1
  have han := hLx.2.1
  have han4 : an ≤ 4000 := by omega
  obtain ⟨⟨hnm40, hsum, hnu1⟩, hno, hNk, hSe, hPt, hDc⟩ := id hGl
  have hse44 : se ≤ 44 := by omega
  refine lv_aload_n hx hb dX12_readSetOf_0 rfl (lv_at hl 0 rfl) ?_
  have hFc := allFree hD hS hA
  refine va_callv (va_runV (As := []) (rest := []) ⟨hx, hb, hml, hown, hts⟩ (r_X12_next l dC dI a k h0 vi vj vF vG tp an hTp (by first | assumption | decide | omega | rfl) ha0 (by first | assumption | decide | omega | rfl) s.heap.size) (cwV 0 hts gwsRX12_readSetOf_0 rfl rfl rfl (by decide +kernel) ⟨by decide +kernel, by decide +kernel⟩) ⟨fun a U g mk q => by obtain ⟨q0, q1, qP, qK, qD, qE⟩ := q; exact ⟨q0, q1, qP, va_K.moved (u := U) (U := U.calling g mk a) (Vm.Alike.refl U.vm) qK, qD, qE.same rfl⟩, va_recv hK hP (ci := 12) (q0 := 0) rfl rfl, fun U hU9 hW => ⟨rfl, by rw [hU9], by rw [hU9]; exact hP, va_K.moved hW.alike hK, hD.weaken (fun _ _ _ _ => trivial), by rw [hU9]; exact (((hE : StrA A s s.heap).kept hS.2.1).narrow (fun q h => hFc q h)).warm hW⟩⟩ rfl rfl hl.1 rfl (lv_room (Nat.le_of_ble_eq_true rfl)) dX12_readSetOf_1 ⟨by decide +kernel, by decide +kernel⟩) hS (fun q _ h => hFc q h) hFc (fun u t9_ H1 locs ht hvm hw9 hB9 hz1 hk1 hS => ?_)
  obtain ⟨a21, f21, sg1, wd1⟩ := u
  try dsimp only at hw9 hB9
  obtain ⟨hP1, hD1⟩ := hB9
  rw [ht] at hP1
  have hP := hP1
  have hD := hD1.weaken (fun _ q _ h => hFc q.1 h)
  generalize H1 = H at hP hS ⊢
  have hP : va_P (dC, dI) vwCl (WR a k h0 (fT (fT (fT (fT vi 17 (nI a21)) 19 (nI f21)) 20 sg1) 18 wd1) vj vF vG) H := hP
  have hD : va_D A (WR a k h0 (fT (fT (fT (fT vi 17 (nI a21)) 19 (nI f21)) 20 sg1) 18 wd1) vj vF vG) := hD
  obtain ⟨f1_0, f1_1⟩ := hw9
  have hf1 := f1_0.1
  have hf2_ := f1_0.2.1
  refine lv_aload_n hx hb dX12_readSetOf_4 rfl (lv_at hl 0 rfl) ?_
  have hFc := allFree hD hS hA
  refine va_callv (va_runV (As := []) (rest := []) ⟨hx, hb, hml, hown, hts⟩ (r_X12_readOwn l dC dI a k h0 (fT (fT (fT (fT vi 17 (nI a21)) 19 (nI f21)) 20 sg1) 18 wd1) vj vF vG tp a21 f21 nm se pa va hTp (by first | assumption | decide | omega | rfl) rfl rfl (f1_0) (by first | assumption | decide | omega | rfl) hnm (by first | assumption | decide | omega | rfl) (by first | assumption | decide | omega | rfl) (by first | assumption | decide | omega | rfl) H.size) (cwV 0 hts gwsRX12_readSetOf_1 rfl rfl rfl (by decide +kernel) ⟨by decide +kernel, by decide +kernel⟩) ⟨fun a U g mk q => by obtain ⟨q0, q1, qP, qK, qD, qE⟩ := q; exact ⟨q0, q1, qP, va_K.moved (u := U) (U := U.calling g mk a) (Vm.Alike.refl U.vm) qK, qD, qE.same rfl⟩, va_recv hK hP (ci := 12) (q0 := 0) rfl rfl, fun U hU9 hW => ⟨rfl, by rw [hU9], by rw [hU9]; exact hP, va_K.moved hW.alike hK, hD.weaken (fun _ _ _ _ => trivial), by rw [hU9]; exact (((hE : StrA A s s.heap).kept hS.2.1).narrow (fun q h => hFc q h)).warm hW⟩⟩ rfl rfl hl.1 rfl (lv_room (Nat.le_of_ble_eq_true rfl)) dX12_readSetOf_5 ⟨by decide +kernel, by decide +kernel⟩) hS (fun q _ h => hFc q h) hFc (fun u t9_ H1 locs ht hvm hw9 hB9 hz1 hk1 hS => ?_)
  obtain ⟨a25, f25, sg5, wd5, s25, p25, ow5, ol5⟩ := u
  try dsimp only at hw9 hB9
  obtain ⟨hP1, hD1⟩ := hB9
  rw [ht] at hP1
  have hP := hP1
  have hD := hD1.weaken (fun _ q _ h => hFc q.1 h)
  generalize H1 = H at hP hS ⊢
  have hP : va_P (dC, dI) vwCl (WR a k h0 (fT (fT (fT (fT (fT (fT (fT (fT (fT (fT (fT (fT vi 17 (nI a21)) 19 (nI f21)) 20 sg1) 18 wd1) 33 ow5) 34 ol5) 17 (nI a25)) 19 (nI f25)) 20 sg5) 18 wd5) 21 s25) 22 p25) vj vF vG) H := hP
  have hD : va_D A (WR a k h0 (fT (fT (fT (fT (fT (fT (fT (fT (fT (fT (fT (fT vi 17 (nI a21)) 19 (nI f21)) 20 sg1) 18 wd1) 33 ow5) 34 ol5) 17 (nI a25)) 19 (nI f25)) 20 sg5) 18 wd5) 21 s25) 22 p25) vj vF vG) := hD
  have e9 : fT (fT (fT (fT (fT (fT (fT (fT vi 17 (nI a25)) 19 (nI f25)) 20 sg5) 18 wd5) 33 ow5) 34 ol5) 21 s25) 22 p25 = fT (fT (fT (fT (fT (fT (fT (fT (fT (fT (fT (fT vi 17 (nI a21)) 19 (nI f21)) 20 sg1) 18 wd1) 33 ow5) 34 ol5) 17 (nI a25)) 19 (nI f25)) 20 sg5) 18 wd5) 21 s25) 22 p25 := ((congrArg (fun g9 => fT (fT (fT (fT (fT g9 19 (nI f25)) 20 sg5) 18 wd5) 21 s25) 22 p25) ((fT_sw _ _ _ (Nat.ne_of_beq_eq_false rfl)).trans (congrArg (fun g9 => fT g9 34 ol5) ((fT_sw _ _ _ (Nat.ne_of_beq_eq_false rfl)).trans (congrArg (fun g9 => fT g9 33 ow5) ((fT_sw _ _ _ (Nat.ne_of_beq_eq_false rfl)).trans (congrArg (fun g9 => fT g9 18 wd1) ((fT_sw _ _ _ (Nat.ne_of_beq_eq_false rfl)).trans (congrArg (fun g9 => fT g9 20 sg1) ((fT_sw _ _ _ (Nat.ne_of_beq_eq_false rfl)).trans (congrArg (fun g9 => fT g9 19 (nI f21)) (fT_sm _ _ _ _)))))))))))).trans ((congrArg (fun g9 => fT (fT (fT (fT g9 20 sg5) 18 wd5) 21 s25) 22 p25) ((fT_sw _ _ _ (Nat.ne_of_beq_eq_false rfl)).trans (congrArg (fun g9 => fT g9 34 ol5) ((fT_sw _ _ _ (Nat.ne_of_beq_eq_false rfl)).trans (congrArg (fun g9 => fT g9 33 ow5) ((fT_sw _ _ _ (Nat.ne_of_beq_eq_false rfl)).trans (congrArg (fun g9 => fT g9 18 wd1) ((fT_sw _ _ _ (Nat.ne_of_beq_eq_false rfl)).trans (congrArg (fun g9 => fT g9 20 sg1) (fT_sm _ _ _ _)))))))))).trans ((congrArg (fun g9 => fT (fT (fT g9 18 wd5) 21 s25) 22 p25) ((fT_sw _ _ _ (Nat.ne_of_beq_eq_false rfl)).trans (congrArg (fun g9 => fT g9 34 ol5) ((fT_sw _ _ _ (Nat.ne_of_beq_eq_false rfl)).trans (congrArg (fun g9 => fT g9 33 ow5) ((fT_sw _ _ _ (Nat.ne_of_beq_eq_false rfl)).trans (congrArg (fun g9 => fT g9 18 wd1) (fT_sm _ _ _ _)))))))).trans (congrArg (fun g9 => fT (fT g9 21 s25) 22 p25) ((fT_sw _ _ _ (Nat.ne_of_beq_eq_false rfl)).trans (congrArg (fun g9 => fT g9 34 ol5) ((fT_sw _ _ _ (Nat.ne_of_beq_eq_false rfl)).trans (congrArg (fun g9 => fT g9 33 ow5) (fT_sm _ _ _ _))))))))).symm
  rw [← e9] at hP hD
  clear e9
  have hP : va_P (dC, dI) vwCl (WR a k h0 (fT (fT (fT (fT (fT (fT (fT (fT vi 17 (nI a25)) 19 (nI f25)) 20 sg5) 18 wd5) 33 ow5) 34 ol5) 21 s25) 22 p25) vj vF vG) H := hP
  have hD : va_D A (WR a k h0 (fT (fT (fT (fT (fT (fT (fT (fT vi 17 (nI a25)) 19 (nI f25)) 20 sg5) 18 wd5) 33 ow5) 34 ol5) 21 s25) 22 p25) vj vF vG) := hD
  obtain ⟨f5_0, f5_1, f5_2, f5_3⟩ := hw9
  have f5_3 : (0 < (s25).toInt ∧ ow5 = (vi 33) ∧ ol5 = (vi 34)) ∨ (s25 = 0 ∧ f21 < f25 ∧ nm < 40 ∧ ∃ x y : Nat, ow5 = nI x ∧ ol5 = nI y ∧ x + y ≤ 4000) := f5_3
  have hf3 := f5_0.1
  have hf4 := f5_0.2.1
  refine lv_aload_n hx hb dX12_readSetOf_8 rfl (lv_at hl 0 rfl) ?_
  refine lv_bipush (v := 61) hx hb dX12_readSetOf_9 (by decide) ?_
  refine W.cut (pc := 15) (fun H locs ls stk => ∃ (a6 : Nat) (f6 : Nat) (w6 : Int32) (q6 : Int32) (s6 : Int32) (z6 : Int32), (LxO tp f6 a6 w6 q6) ∧ (f25 ≤ f6) ∧ (0 ≤ (s6).toInt) ∧ (0 < (s6).toInt ∨ s25 = 0) ∧  stk = [] ∧ va_P (dC, dI) vwCl (WR a k h0 (fT (fT (fT (fT (fT (fT (fT (fT vi 17 (nI a6)) 19 (nI f6)) 20 q6) 18 w6) 33 ow5) 34 ol5) 21 s6) 22 z6) vj vF vG) H ∧ va_D A (WR a k h0 (fT (fT (fT (fT (fT (fT (fT (fT vi 17 (nI a6)) 19 (nI f6)) 20 q6) 18 w6) 33 ow5) 34 ol5) 21 s6) 22 z6) vj vF vG) ∧ va_S A s.heap H locs ∧ lv_has ls 5 [(0, .ref h0)]) (fun join1 => ?_) ?_
  · have hFc := allFree hD hS hA
    refine va_calli (va_runV (As := [.int 61]) (rest := []) ⟨hx, hb, hml, hown, hts⟩ (r_X12_needSign l dC dI a k h0 (fT (fT (fT (fT (fT (fT (fT (fT vi 17 (nI a25)) 19 (nI f25)) 20 sg5) 18 wd5) 33 ow5) 34 ol5) 21 s25) 22 p25) vj vF vG 61 tp a25 f25 hTp (by first | assumption | decide | omega | rfl) rfl rfl (f5_0) (f5_2) H.size) (cwV 1 hts gwsRX12_readSetOf_2 rfl rfl rfl (by decide +kernel) ⟨by decide +kernel, by decide +kernel⟩) ⟨fun a U g mk q => by obtain ⟨q0, q1, qP, qK, qD, qE⟩ := q; exact ⟨q0, q1, qP, va_K.moved (u := U) (U := U.calling g mk a) (Vm.Alike.refl U.vm) qK, qD, qE.same rfl⟩, va_recv hK hP (ci := 12) (q0 := 0) rfl rfl, fun U hU9 hW => ⟨rfl, by rw [hU9], by rw [hU9]; exact hP, va_K.moved hW.alike hK, hD.weaken (fun _ _ _ _ => trivial), by rw [hU9]; exact (((hE : StrA A s s.heap).kept hS.2.1).narrow (fun q h => hFc q h)).warm hW⟩⟩ rfl rfl hl.1 rfl (lv_room (Nat.le_of_ble_eq_true rfl)) dX12_readSetOf_11 ⟨by decide +kernel, by decide +kernel⟩) hS (fun q _ h => hFc q h) hFc (fun r11 u t9_ H1 locs ht hvm hw9 hB9 hz1 hk1 hS => ?_)
    obtain ⟨a211, f211, sg11, wd11, s211, p211⟩ := u
    try dsimp only at hw9 hB9
    obtain ⟨hP1, hD1⟩ := hB9
    rw [ht] at hP1
    have hP := hP1
    have hD := hD1.weaken (fun _ q _ h => hFc q.1 h)
    generalize H1 = H at hP hS ⊢
    have hP : va_P (dC, dI) vwCl (WR a k h0 (fT (fT (fT (fT (fT (fT (fT (fT (fT (fT (fT (fT (fT (fT vi 17 (nI a25)) 19 (nI f25)) 20 sg5) 18 wd5) 33 ow5) 34 ol5) 21 s25) 22 p25) 17 (nI a211)) 19 (nI f211)) 20 sg11) 18 wd11) 21 s211) 22 p211) vj vF vG) H := hP
    have hD : va_D A (WR a k h0 (fT (fT (fT (fT (fT (fT (fT (fT (fT (fT (fT (fT (fT (fT vi 17 (nI a25)) 19 (nI f25)) 20 sg5) 18 wd5) 33 ow5) 34 ol5) 21 s25) 22 p25) 17 (nI a211)) 19 (nI f211)) 20 sg11) 18 wd11) 21 s211) 22 p211) vj vF vG) := hD
    have e9 : fT (fT (fT (fT (fT (fT (fT (fT vi 17 (nI a211)) 19 (nI f211)) 20 sg11) 18 wd11) 33 ow5) 34 ol5) 21 s211) 22 p211 = fT (fT (fT (fT (fT (fT (fT (fT (fT (fT (fT (fT (fT (fT vi 17 (nI a25)) 19 (nI f25)) 20 sg5) 18 wd5) 33 ow5) 34 ol5) 21 s25) 22 p25) 17 (nI a211)) 19 (nI f211)) 20 sg11) 18 wd11) 21 s211) 22 p211 := ((congrArg (fun g9 => fT (fT (fT (fT (fT g9 19 (nI f211)) 20 sg11) 18 wd11) 21 s211) 22 p211) ((fT_sw _ _ _ (Nat.ne_of_beq_eq_false rfl)).trans (congrArg (fun g9 => fT g9 22 p25) ((fT_sw _ _ _ (Nat.ne_of_beq_eq_false rfl)).trans (congrArg (fun g9 => fT g9 21 s25) ((fT_sw _ _ _ (Nat.ne_of_beq_eq_false rfl)).trans (congrArg (fun g9 => fT g9 34 ol5) ((fT_sw _ _ _ (Nat.ne_of_beq_eq_false rfl)).trans (congrArg (fun g9 => fT g9 33 ow5) ((fT_sw _ _ _ (Nat.ne_of_beq_eq_false rfl)).trans (congrArg (fun g9 => fT g9 18 wd5) ((fT_sw _ _ _ (Nat.ne_of_beq_eq_false rfl)).trans (congrArg (fun g9 => fT g9 20 sg5) ((fT_sw _ _ _ (Nat.ne_of_beq_eq_false rfl)).trans (congrArg (fun g9 => fT g9 19 (nI f25)) (fT_sm _ _ _ _)))))))))))))))).trans ((congrArg (fun g9 => fT (fT (fT (fT g9 20 sg11) 18 wd11) 21 s211) 22 p211) ((fT_sw _ _ _ (Nat.ne_of_beq_eq_false rfl)).trans (congrArg (fun g9 => fT g9 22 p25) ((fT_sw _ _ _ (Nat.ne_of_beq_eq_false rfl)).trans (congrArg (fun g9 => fT g9 21 s25) ((fT_sw _ _ _ (Nat.ne_of_beq_eq_false rfl)).trans (congrArg (fun g9 => fT g9 34 ol5) ((fT_sw _ _ _ (Nat.ne_of_beq_eq_false rfl)).trans (congrArg (fun g9 => fT g9 33 ow5) ((fT_sw _ _ _ (Nat.ne_of_beq_eq_false rfl)).trans (congrArg (fun g9 => fT g9 18 wd5) ((fT_sw _ _ _ (Nat.ne_of_beq_eq_false rfl)).trans (congrArg (fun g9 => fT g9 20 sg5) (fT_sm _ _ _ _)))))))))))))).trans ((congrArg (fun g9 => fT (fT (fT g9 18 wd11) 21 s211) 22 p211) ((fT_sw _ _ _ (Nat.ne_of_beq_eq_false rfl)).trans (congrArg (fun g9 => fT g9 22 p25) ((fT_sw _ _ _ (Nat.ne_of_beq_eq_false rfl)).trans (congrArg (fun g9 => fT g9 21 s25) ((fT_sw _ _ _ (Nat.ne_of_beq_eq_false rfl)).trans (congrArg (fun g9 => fT g9 34 ol5) ((fT_sw _ _ _ (Nat.ne_of_beq_eq_false rfl)).trans (congrArg (fun g9 => fT g9 33 ow5) ((fT_sw _ _ _ (Nat.ne_of_beq_eq_false rfl)).trans (congrArg (fun g9 => fT g9 18 wd5) (fT_sm _ _ _ _)))))))))))).trans ((congrArg (fun g9 => fT (fT g9 21 s211) 22 p211) ((fT_sw _ _ _ (Nat.ne_of_beq_eq_false rfl)).trans (congrArg (fun g9 => fT g9 22 p25) ((fT_sw _ _ _ (Nat.ne_of_beq_eq_false rfl)).trans (congrArg (fun g9 => fT g9 21 s25) ((fT_sw _ _ _ (Nat.ne_of_beq_eq_false rfl)).trans (congrArg (fun g9 => fT g9 34 ol5) ((fT_sw _ _ _ (Nat.ne_of_beq_eq_false rfl)).trans (congrArg (fun g9 => fT g9 33 ow5) (fT_sm _ _ _ _)))))))))).trans ((congrArg (fun g9 => fT g9 22 p211) ((fT_sw _ _ _ (Nat.ne_of_beq_eq_false rfl)).trans (congrArg (fun g9 => fT g9 22 p25) (fT_sm _ _ _ _)))).trans (fT_sm _ _ _ _)))))).symm
    rw [← e9] at hP hD
    clear e9
    have hP : va_P (dC, dI) vwCl (WR a k h0 (fT (fT (fT (fT (fT (fT (fT (fT vi 17 (nI a211)) 19 (nI f211)) 20 sg11) 18 wd11) 33 ow5) 34 ol5) 21 s211) 22 p211) vj vF vG) H := hP
    have hD : va_D A (WR a k h0 (fT (fT (fT (fT (fT (fT (fT (fT vi 17 (nI a211)) 19 (nI f211)) 20 sg11) 18 wd11) 33 ow5) 34 ol5) 21 s211) 22 p211) vj vF vG) := hD
    rcases hw9 with ⟨rfl, f11_0, f11_1, f11_2, f11_3⟩ | ⟨rfl, f11_0, f11_1, f11_2⟩
    · have f11_3 : s25 = 0 := f11_3
      refine lv_pop hx hb dX12_readSetOf_14 rfl ?_
      have hl := lv_sub hl [0] (l' := [(0, .ref h0)]) rfl
      exact join1 _ _ _ _ ⟨a211, f211, wd11, sg11, s211, p211, f11_1, by omega, by first | (rw [f11_0]; decide) | omega, by first | exact Or.inr f11_3 | exact Or.inl f11_0, rfl, hP, hD, hS, hl⟩
    · refine lv_pop hx hb dX12_readSetOf_14 rfl ?_
      have hl := lv_sub hl [0] (l' := [(0, .ref h0)]) rfl
      exact join1 _ _ _ _ ⟨a211, f211, wd11, sg11, s211, p211, f11_1, by omega, by first | (rw [f11_0]; decide) | omega, by first | exact Or.inr f11_3 | exact Or.inl f11_0, rfl, hP, hD, hS, hl⟩
  · rintro H locs ls stk ⟨a6, f6, w6, q6, s6, z6, hLx6, hf6, hs6, hz6, rfl, hP, hD, hS, hl⟩
    have ha6 := hLx6.1
    have hb6 := hLx6.2.1
    refine lv_aload_n hx hb dX12_readSetOf_15 rfl (lv_at hl 0 rfl) ?_
    have hFc := allFree hD hS hA
    refine va_calli (va_runV (As := []) (rest := []) ⟨hx, hb, hml, hown, hts⟩ (r_X12_readWhole l dC dI a k h0 (fT (fT (fT (fT (fT (fT (fT (fT vi 17 (nI a6)) 19 (nI f6)) 20 q6) 18 w6) 33 ow5) 34 ol5) 21 s6) 22 z6) vj vF vG tp a6 f6 hTp (by first | assumption | decide | omega | rfl) rfl rfl (hLx6) (hs6) H.size) (cwV 0 hts gwsRX12_readSetOf_3 rfl rfl rfl (by decide +kernel) ⟨by decide +kernel, by decide +kernel⟩) ⟨fun a U g mk q => by obtain ⟨q0, q1, qP, qK, qD, qE⟩ := q; exact ⟨q0, q1, qP, va_K.moved (u := U) (U := U.calling g mk a) (Vm.Alike.refl U.vm) qK, qD, qE.same rfl⟩, va_recv hK hP (ci := 12) (q0 := 0) rfl rfl, fun U hU9 hW => ⟨rfl, by rw [hU9], by rw [hU9]; exact hP, va_K.moved hW.alike hK, hD.weaken (fun _ _ _ _ => trivial), by rw [hU9]; exact (((hE : StrA A s s.heap).kept hS.2.1).narrow (fun q h => hFc q h)).warm hW⟩⟩ rfl rfl hl.1 rfl (lv_room (Nat.le_of_ble_eq_true rfl)) dX12_readSetOf_16 ⟨by decide +kernel, by decide +kernel⟩) hS (fun q _ h => hFc q h) hFc (fun r16 u t9_ H1 locs ht hvm hw9 hB9 hz1 hk1 hS => ?_)
    obtain ⟨a216, f216, sg16, wd16, s216, p216⟩ := u
    try dsimp only at hw9 hB9
    obtain ⟨hP1, hD1⟩ := hB9
    rw [ht] at hP1
    have hP := hP1
    have hD := hD1.weaken (fun _ q _ h => hFc q.1 h)
    generalize H1 = H at hP hS ⊢
    have hP : va_P (dC, dI) vwCl (WR a k h0 (fT (fT (fT (fT (fT (fT (fT (fT (fT (fT (fT (fT (fT (fT vi 17 (nI a6)) 19 (nI f6)) 20 q6) 18 w6) 33 ow5) 34 ol5) 21 s6) 22 z6) 17 (nI a216)) 19 (nI f216)) 18 wd16) 20 sg16) 21 s216) 22 p216) vj vF vG) H := hP
    have hD : va_D A (WR a k h0 (fT (fT (fT (fT (fT (fT (fT (fT (fT (fT (fT (fT (fT (fT vi 17 (nI a6)) 19 (nI f6)) 20 q6) 18 w6) 33 ow5) 34 ol5) 21 s6) 22 z6) 17 (nI a216)) 19 (nI f216)) 18 wd16) 20 sg16) 21 s216) 22 p216) vj vF vG) := hD
    have e9 : fT (fT (fT (fT (fT (fT (fT (fT vi 17 (nI a216)) 19 (nI f216)) 20 sg16) 18 wd16) 33 ow5) 34 ol5) 21 s216) 22 p216 = fT (fT (fT (fT (fT (fT (fT (fT (fT (fT (fT (fT (fT (fT vi 17 (nI a6)) 19 (nI f6)) 20 q6) 18 w6) 33 ow5) 34 ol5) 21 s6) 22 z6) 17 (nI a216)) 19 (nI f216)) 18 wd16) 20 sg16) 21 s216) 22 p216 := ((congrArg (fun g9 => fT (fT (fT (fT (fT g9 19 (nI f216)) 18 wd16) 20 sg16) 21 s216) 22 p216) ((fT_sw _ _ _ (Nat.ne_of_beq_eq_false rfl)).trans (congrArg (fun g9 => fT g9 22 z6) ((fT_sw _ _ _ (Nat.ne_of_beq_eq_false rfl)).trans (congrArg (fun g9 => fT g9 21 s6) ((fT_sw _ _ _ (Nat.ne_of_beq_eq_false rfl)).trans (congrArg (fun g9 => fT g9 34 ol5) ((fT_sw _ _ _ (Nat.ne_of_beq_eq_false rfl)).trans (congrArg (fun g9 => fT g9 33 ow5) ((fT_sw _ _ _ (Nat.ne_of_beq_eq_false rfl)).trans (congrArg (fun g9 => fT g9 18 w6) ((fT_sw _ _ _ (Nat.ne_of_beq_eq_false rfl)).trans (congrArg (fun g9 => fT g9 20 q6) ((fT_sw _ _ _ (Nat.ne_of_beq_eq_false rfl)).trans (congrArg (fun g9 => fT g9 19 (nI f6)) (fT_sm _ _ _ _)))))))))))))))).trans ((congrArg (fun g9 => fT (fT (fT (fT g9 18 wd16) 20 sg16) 21 s216) 22 p216) ((fT_sw _ _ _ (Nat.ne_of_beq_eq_false rfl)).trans (congrArg (fun g9 => fT g9 22 z6) ((fT_sw _ _ _ (Nat.ne_of_beq_eq_false rfl)).trans (congrArg (fun g9 => fT g9 21 s6) ((fT_sw _ _ _ (Nat.ne_of_beq_eq_false rfl)).trans (congrArg (fun g9 => fT g9 34 ol5) ((fT_sw _ _ _ (Nat.ne_of_beq_eq_false rfl)).trans (congrArg (fun g9 => fT g9 33 ow5) ((fT_sw _ _ _ (Nat.ne_of_beq_eq_false rfl)).trans (congrArg (fun g9 => fT g9 18 w6) ((fT_sw _ _ _ (Nat.ne_of_beq_eq_false rfl)).trans (congrArg (fun g9 => fT g9 20 q6) (fT_sm _ _ _ _)))))))))))))).trans ((congrArg (fun g9 => fT (fT (fT g9 20 sg16) 21 s216) 22 p216) ((fT_sw _ _ _ (Nat.ne_of_beq_eq_false rfl)).trans (congrArg (fun g9 => fT g9 22 z6) ((fT_sw _ _ _ (Nat.ne_of_beq_eq_false rfl)).trans (congrArg (fun g9 => fT g9 21 s6) ((fT_sw _ _ _ (Nat.ne_of_beq_eq_false rfl)).trans (congrArg (fun g9 => fT g9 34 ol5) ((fT_sw _ _ _ (Nat.ne_of_beq_eq_false rfl)).trans (congrArg (fun g9 => fT g9 33 ow5) (fT_sm _ _ _ _)))))))))).trans ((congrArg (fun g9 => fT (fT g9 21 s216) 22 p216) ((fT_sw _ _ _ (Nat.ne_of_beq_eq_false rfl)).trans (congrArg (fun g9 => fT g9 22 z6) ((fT_sw _ _ _ (Nat.ne_of_beq_eq_false rfl)).trans (congrArg (fun g9 => fT g9 21 s6) ((fT_sw _ _ _ (Nat.ne_of_beq_eq_false rfl)).trans (congrArg (fun g9 => fT g9 34 ol5) ((fT_sw _ _ _ (Nat.ne_of_beq_eq_false rfl)).trans (congrArg (fun g9 => fT g9 33 ow5) ((fT_sw _ _ _ (Nat.ne_of_beq_eq_false rfl)).trans (congrArg (fun g9 => fT g9 18 wd16) (fT_sm _ _ _ _)))))))))))).trans ((congrArg (fun g9 => fT g9 22 p216) ((fT_sw _ _ _ (Nat.ne_of_beq_eq_false rfl)).trans (congrArg (fun g9 => fT g9 22 z6) (fT_sm _ _ _ _)))).trans (fT_sm _ _ _ _)))))).symm
    rw [← e9] at hP hD
    clear e9
    have hP : va_P (dC, dI) vwCl (WR a k h0 (fT (fT (fT (fT (fT (fT (fT (fT vi 17 (nI a216)) 19 (nI f216)) 20 sg16) 18 wd16) 33 ow5) 34 ol5) 21 s216) 22 p216) vj vF vG) H := hP
    have hD : va_D A (WR a k h0 (fT (fT (fT (fT (fT (fT (fT (fT vi 17 (nI a216)) 19 (nI f216)) 20 sg16) 18 wd16) 33 ow5) 34 ol5) 21 s216) 22 p216) vj vF vG) := hD
    obtain ⟨f16_0, f16_1, f16_2, f16_3, f16_4⟩ := hw9
    have f16_4 : 0 < (s216).toInt ∨ s6 = 0 := f16_4
    refine lv_istore_n (lv' := [(1, .int r16), (0, .ref h0)]) hx hb dX12_readSetOf_19 rfl hl (by decide) rfl (fun ls hl => ?_)
    have hf5 := f16_0.1
    have hf6 := f16_0.2.1
    refine lv_aload_n hx hb dX12_readSetOf_20 rfl (lv_at hl 1 rfl) ?_
    refine lv_bipush (v := 46) hx hb dX12_readSetOf_21 (by decide) ?_
    refine W.cut (pc := 27) (fun H locs ls stk => ∃ (a7 : Nat) (f7 : Nat) (w7 : Int32) (q7 : Int32) (s7 : Int32) (z7 : Int32), (LxO tp f7 a7 w7 q7) ∧ (f216 ≤ f7) ∧ (0 ≤ (s7).toInt) ∧ (0 < (s7).toInt ∨ s216 = 0) ∧  stk = [] ∧ va_P (dC, dI) vwCl (WR a k h0 (fT (fT (fT (fT (fT (fT (fT (fT vi 17 (nI a7)) 19 (nI f7)) 20 q7) 18 w7) 33 ow5) 34 ol5) 21 s7) 22 z7) vj vF vG) H ∧ va_D A (WR a k h0 (fT (fT (fT (fT (fT (fT (fT (fT vi 17 (nI a7)) 19 (nI f7)) 20 q7) 18 w7) 33 ow5) 34 ol5) 21 s7) 22 z7) vj vF vG) ∧ va_S A s.heap H locs ∧ lv_has ls 5 [(0, .ref h0), (1, .int r16)]) (fun join2 => ?_) ?_
    · have hFc := allFree hD hS hA
      refine va_calli (va_runV (As := [.int 46]) (rest := []) ⟨hx, hb, hml, hown, hts⟩ (r_X12_needSign l dC dI a k h0 (fT (fT (fT (fT (fT (fT (fT (fT vi 17 (nI a216)) 19 (nI f216)) 20 sg16) 18 wd16) 33 ow5) 34 ol5) 21 s216) 22 p216) vj vF vG 46 tp a216 f216 hTp (by first | assumption | decide | omega | rfl) rfl rfl (f16_0) (f16_2) H.size) (cwV 1 hts gwsRX12_readSetOf_2 rfl rfl rfl (by decide +kernel) ⟨by decide +kernel, by decide +kernel⟩) ⟨fun a U g mk q => by obtain ⟨q0, q1, qP, qK, qD, qE⟩ := q; exact ⟨q0, q1, qP, va_K.moved (u := U) (U := U.calling g mk a) (Vm.Alike.refl U.vm) qK, qD, qE.same rfl⟩, va_recv hK hP (ci := 12) (q0 := 0) rfl rfl, fun U hU9 hW => ⟨rfl, by rw [hU9], by rw [hU9]; exact hP, va_K.moved hW.alike hK, hD.weaken (fun _ _ _ _ => trivial), by rw [hU9]; exact (((hE : StrA A s s.heap).kept hS.2.1).narrow (fun q h => hFc q h)).warm hW⟩⟩ rfl rfl hl.1 rfl (lv_room (Nat.le_of_ble_eq_true rfl)) dX12_readSetOf_23 ⟨by decide +kernel, by decide +kernel⟩) hS (fun q _ h => hFc q h) hFc (fun r23 u t9_ H1 locs ht hvm hw9 hB9 hz1 hk1 hS => ?_)
      obtain ⟨a223, f223, sg23, wd23, s223, p223⟩ := u
      try dsimp only at hw9 hB9
      obtain ⟨hP1, hD1⟩ := hB9
      rw [ht] at hP1
      have hP := hP1
      have hD := hD1.weaken (fun _ q _ h => hFc q.1 h)
      generalize H1 = H at hP hS ⊢
      have hP : va_P (dC, dI) vwCl (WR a k h0 (fT (fT (fT (fT (fT (fT (fT (fT (fT (fT (fT (fT (fT (fT vi 17 (nI a216)) 19 (nI f216)) 20 sg16) 18 wd16) 33 ow5) 34 ol5) 21 s216) 22 p216) 17 (nI a223)) 19 (nI f223)) 20 sg23) 18 wd23) 21 s223) 22 p223) vj vF vG) H := hP
      have hD : va_D A (WR a k h0 (fT (fT (fT (fT (fT (fT (fT (fT (fT (fT (fT (fT (fT (fT vi 17 (nI a216)) 19 (nI f216)) 20 sg16) 18 wd16) 33 ow5) 34 ol5) 21 s216) 22 p216) 17 (nI a223)) 19 (nI f223)) 20 sg23) 18 wd23) 21 s223) 22 p223) vj vF vG) := hD
      have e9 : fT (fT (fT (fT (fT (fT (fT (fT vi 17 (nI a223)) 19 (nI f223)) 20 sg23) 18 wd23) 33 ow5) 34 ol5) 21 s223) 22 p223 = fT (fT (fT (fT (fT (fT (fT (fT (fT (fT (fT (fT (fT (fT vi 17 (nI a216)) 19 (nI f216)) 20 sg16) 18 wd16) 33 ow5) 34 ol5) 21 s216) 22 p216) 17 (nI a223)) 19 (nI f223)) 20 sg23) 18 wd23) 21 s223) 22 p223 := ((congrArg (fun g9 => fT (fT (fT (fT (fT g9 19 (nI f223)) 20 sg23) 18 wd23) 21 s223) 22 p223) ((fT_sw _ _ _ (Nat.ne_of_beq_eq_false rfl)).trans (congrArg (fun g9 => fT g9 22 p216) ((fT_sw _ _ _ (Nat.ne_of_beq_eq_false rfl)).trans (congrArg (fun g9 => fT g9 21 s216) ((fT_sw _ _ _ (Nat.ne_of_beq_eq_false rfl)).trans (congrArg (fun g9 => fT g9 34 ol5) ((fT_sw _ _ _ (Nat.ne_of_beq_eq_false rfl)).trans (congrArg (fun g9 => fT g9 33 ow5) ((fT_sw _ _ _ (Nat.ne_of_beq_eq_false rfl)).trans (congrArg (fun g9 => fT g9 18 wd16) ((fT_sw _ _ _ (Nat.ne_of_beq_eq_false rfl)).trans (congrArg (fun g9 => fT g9 20 sg16) ((fT_sw _ _ _ (Nat.ne_of_beq_eq_false rfl)).trans (congrArg (fun g9 => fT g9 19 (nI f216)) (fT_sm _ _ _ _)))))))))))))))).trans ((congrArg (fun g9 => fT (fT (fT (fT g9 20 sg23) 18 wd23) 21 s223) 22 p223) ((fT_sw _ _ _ (Nat.ne_of_beq_eq_false rfl)).trans (congrArg (fun g9 => fT g9 22 p216) ((fT_sw _ _ _ (Nat.ne_of_beq_eq_false rfl)).trans (congrArg (fun g9 => fT g9 21 s216) ((fT_sw _ _ _ (Nat.ne_of_beq_eq_false rfl)).trans (congrArg (fun g9 => fT g9 34 ol5) ((fT_sw _ _ _ (Nat.ne_of_beq_eq_false rfl)).trans (congrArg (fun g9 => fT g9 33 ow5) ((fT_sw _ _ _ (Nat.ne_of_beq_eq_false rfl)).trans (congrArg (fun g9 => fT g9 18 wd16) ((fT_sw _ _ _ (Nat.ne_of_beq_eq_false rfl)).trans (congrArg (fun g9 => fT g9 20 sg16) (fT_sm _ _ _ _)))))))))))))).trans ((congrArg (fun g9 => fT (fT (fT g9 18 wd23) 21 s223) 22 p223) ((fT_sw _ _ _ (Nat.ne_of_beq_eq_false rfl)).trans (congrArg (fun g9 => fT g9 22 p216) ((fT_sw _ _ _ (Nat.ne_of_beq_eq_false rfl)).trans (congrArg (fun g9 => fT g9 21 s216) ((fT_sw _ _ _ (Nat.ne_of_beq_eq_false rfl)).trans (congrArg (fun g9 => fT g9 34 ol5) ((fT_sw _ _ _ (Nat.ne_of_beq_eq_false rfl)).trans (congrArg (fun g9 => fT g9 33 ow5) ((fT_sw _ _ _ (Nat.ne_of_beq_eq_false rfl)).trans (congrArg (fun g9 => fT g9 18 wd16) (fT_sm _ _ _ _)))))))))))).trans ((congrArg (fun g9 => fT (fT g9 21 s223) 22 p223) ((fT_sw _ _ _ (Nat.ne_of_beq_eq_false rfl)).trans (congrArg (fun g9 => fT g9 22 p216) ((fT_sw _ _ _ (Nat.ne_of_beq_eq_false rfl)).trans (congrArg (fun g9 => fT g9 21 s216) ((fT_sw _ _ _ (Nat.ne_of_beq_eq_false rfl)).trans (congrArg (fun g9 => fT g9 34 ol5) ((fT_sw _ _ _ (Nat.ne_of_beq_eq_false rfl)).trans (congrArg (fun g9 => fT g9 33 ow5) (fT_sm _ _ _ _)))))))))).trans ((congrArg (fun g9 => fT g9 22 p223) ((fT_sw _ _ _ (Nat.ne_of_beq_eq_false rfl)).trans (congrArg (fun g9 => fT g9 22 p216) (fT_sm _ _ _ _)))).trans (fT_sm _ _ _ _)))))).symm
      rw [← e9] at hP hD
      clear e9
      have hP : va_P (dC, dI) vwCl (WR a k h0 (fT (fT (fT (fT (fT (fT (fT (fT vi 17 (nI a223)) 19 (nI f223)) 20 sg23) 18 wd23) 33 ow5) 34 ol5) 21 s223) 22 p223) vj vF vG) H := hP
      have hD : va_D A (WR a k h0 (fT (fT (fT (fT (fT (fT (fT (fT vi 17 (nI a223)) 19 (nI f223)) 20 sg23) 18 wd23) 33 ow5) 34 ol5) 21 s223) 22 p223) vj vF vG) := hD
      rcases hw9 with ⟨rfl, f23_0, f23_1, f23_2, f23_3⟩ | ⟨rfl, f23_0, f23_1, f23_2⟩
      · have f23_3 : s216 = 0 := f23_3
        refine lv_pop hx hb dX12_readSetOf_26 rfl ?_
        have hl := lv_sub hl [1, 0] (l' := [(0, .ref h0), (1, .int r16)]) rfl
        exact join2 _ _ _ _ ⟨a223, f223, wd23, sg23, s223, p223, f23_1, by omega, by first | (rw [f23_0]; decide) | omega, by first | exact Or.inr f23_3 | exact Or.inl f23_0, rfl, hP, hD, hS, hl⟩
      · refine lv_pop hx hb dX12_readSetOf_26 rfl ?_
        have hl := lv_sub hl [1, 0] (l' := [(0, .ref h0), (1, .int r16)]) rfl
        exact join2 _ _ _ _ ⟨a223, f223, wd23, sg23, s223, p223, f23_1, by omega, by first | (rw [f23_0]; decide) | omega, by first | exact Or.inr f23_3 | exact Or.inl f23_0, rfl, hP, hD, hS, hl⟩
    · rintro H locs ls stk ⟨a7, f7, w7, q7, s7, z7, hLx7, hf7, hs7, hz7, rfl, hP, hD, hS, hl⟩
      have ha7 := hLx7.1
      have hb7 := hLx7.2.1
      refine lv_aload_n hx hb dX12_readSetOf_27 rfl (lv_at hl 0 rfl) ?_
      refine va_get (D := (dC, dI)) (ci := 12) (v := .int (nI f7)) (C := RX12) (T := TX12) (N := 163) (fs := fM (vS a (fT (fT (fT (fT (fT (fT (fT (fT vi 17 (nI a7)) 19 (nI f7)) 20 q7) 18 w7) 33 ow5) 34 ol5) 21 s7) 22 z7) vj)) hx hb hts iwsRX12_readSetOf_in12 hown hK hP 0 rfl rfl 19 (by decide) (hts (.fieldLink RX12 488 "OptimaWorksModel" "from" "I") (by decide +kernel)) (fun _ h9 => h9) rfl dX12_readSetOf_28 ?_
      refine lv_istore_n (lv' := [(2, .int (nI f7)), (0, .ref h0), (1, .int r16)]) hx hb dX12_readSetOf_31 rfl hl (by decide) rfl (fun ls hl => ?_)
      refine lv_aload_n hx hb dX12_readSetOf_32 rfl (lv_at hl 1 rfl) ?_
      refine va_get (D := (dC, dI)) (ci := 12) (v := .int s7) (C := RX12) (T := TX12) (N := 163) (fs := fM (vS a (fT (fT (fT (fT (fT (fT (fT (fT vi 17 (nI a7)) 19 (nI f7)) 20 q7) 18 w7) 33 ow5) 34 ol5) 21 s7) 22 z7) vj)) hx hb hts iwsRX12_readSetOf_in12 hown hK hP 0 rfl rfl 21 (by decide) (hts (.fieldLink RX12 515 "OptimaWorksModel" "stop" "I") (by decide +kernel)) (fun _ h9 => h9) rfl dX12_readSetOf_33 ?_
      refine W.cut (pc := 53) (fun H locs ls stk => ∃ (lz : Int32), (lz = 0 ∨ lz = 1) ∧  stk = [.int lz] ∧ va_P (dC, dI) vwCl (WR a k h0 (fT (fT (fT (fT (fT (fT (fT (fT vi 17 (nI a7)) 19 (nI f7)) 20 q7) 18 w7) 33 ow5) 34 ol5) 21 s7) 22 z7) vj vF vG) H ∧ va_D A (WR a k h0 (fT (fT (fT (fT (fT (fT (fT (fT vi 17 (nI a7)) 19 (nI f7)) 20 q7) 18 w7) 33 ow5) 34 ol5) 21 s7) 22 z7) vj vF vG) ∧ va_S A s.heap H locs ∧ lv_has ls 5 [(0, .ref h0), (1, .int r16), (2, .int (nI f7))]) (fun join3 => ?_) ?_
      · refine lv_if_ne (tgt := 52) hx hb dX12_readSetOf_36 (by decide) (fun c_36 => ?_) (fun c_36 => ?_)
        · have t_36 : (s7).toInt ≠ 0 := toI_ne c_36 rfl (by decide)
          refine lv_iconst (v := 0) hx hb dX12_readSetOf_52 (by decide) ?_
          have hl := lv_sub hl [1, 2, 0] (l' := [(0, .ref h0), (1, .int r16), (2, .int (nI f7))]) rfl
          exact join3 _ _ _ _ ⟨0, Or.inl rfl, rfl, hP, hD, hS, hl⟩
        · have t_36 : (s7).toInt = 0 := toI_nne c_36 rfl (by decide)
          refine lv_aload_n hx hb dX12_readSetOf_39 rfl (lv_at hl 1 rfl) ?_
          refine lv_bipush (v := 45) hx hb dX12_readSetOf_40 (by decide) ?_
          have hFc := allFree hD hS hA
          refine va_calli (va_runV (As := [.int 45]) (rest := []) ⟨hx, hb, hml, hown, hts⟩ (r_X12_isSign l dC dI a k h0 (fT (fT (fT (fT (fT (fT (fT (fT vi 17 (nI a7)) 19 (nI f7)) 20 q7) 18 w7) 33 ow5) 34 ol5) 21 s7) 22 z7) vj vF vG 45 H.size) (cwV 1 hts gwsRX12_readSetOf_4 rfl rfl rfl (by decide +kernel) ⟨by decide +kernel, by decide +kernel⟩) ⟨fun a U g mk q => by obtain ⟨q0, q1, qP, qK, qD⟩ := q; exact ⟨q0, q1, qP, va_K.moved (u := U) (U := U.calling g mk a) (Vm.Alike.refl U.vm) qK, qD⟩, va_recv hK hP (ci := 12) (q0 := 0) rfl rfl, fun U hU9 hW => ⟨rfl, by rw [hU9], by rw [hU9]; exact hP, va_K.moved hW.alike hK, hD.weaken (fun _ _ _ _ => trivial)⟩⟩ rfl rfl hl.1 rfl (lv_room (Nat.le_of_ble_eq_true rfl)) dX12_readSetOf_42 ⟨by decide +kernel, by decide +kernel⟩) hS (fun q _ h => hFc q h) hFc (fun r42 u t9_ H1 locs ht hvm hw9 hB9 hz1 hk1 hS => ?_)
          obtain ⟨hP1, hD1⟩ := hB9
          rw [ht] at hP1
          have hP := hP1
          have hD := hD1.weaken (fun _ q _ h => hFc q.1 h)
          generalize H1 = H at hP hS ⊢
          have hP : va_P (dC, dI) vwCl (WR a k h0 (fT (fT (fT (fT (fT (fT (fT (fT vi 17 (nI a7)) 19 (nI f7)) 20 q7) 18 w7) 33 ow5) 34 ol5) 21 s7) 22 z7) vj vF vG) H := hP
          have hD : va_D A (WR a k h0 (fT (fT (fT (fT (fT (fT (fT (fT vi 17 (nI a7)) 19 (nI f7)) 20 q7) 18 w7) 33 ow5) 34 ol5) 21 s7) 22 z7) vj vF vG) := hD
          rcases hw9 with ⟨rfl, f42_0, f42_1⟩ | ⟨rfl, f42_0⟩
          · have f42_0 : w7.toInt = 4 := f42_0
            have f42_1 : q7 = 45 := f42_1
            refine lv_if_eq (tgt := 52) hx hb dX12_readSetOf_45 (by decide) (fun c9 => absurd c9 (by decide)) (fun _ => ?_)
            refine lv_iconst (v := 1) hx hb dX12_readSetOf_48 (by decide) ?_
            refine lv_goto (tgt := 53) hx hb dX12_readSetOf_49 (by decide) ?_
            have hl := lv_sub hl [1, 2, 0] (l' := [(0, .ref h0), (1, .int r16), (2, .int (nI f7))]) rfl
            exact join3 _ _ _ _ ⟨1, Or.inr rfl, rfl, hP, hD, hS, hl⟩
          · have f42_0 : ¬ (w7.toInt = 4 ∧ q7 = 45) := f42_0
            refine lv_if_eq (tgt := 52) hx hb dX12_readSetOf_45 (by decide) (fun _ => ?_) (fun c9 => absurd (by decide) c9)
            refine lv_iconst (v := 0) hx hb dX12_readSetOf_52 (by decide) ?_
            have hl := lv_sub hl [1, 2, 0] (l' := [(0, .ref h0), (1, .int r16), (2, .int (nI f7))]) rfl
            exact join3 _ _ _ _ ⟨0, Or.inl rfl, rfl, hP, hD, hS, hl⟩
      · rintro H locs ls stk ⟨lz, hlz, rfl, hP, hD, hS, hl⟩
        refine lv_istore_n (lv' := [(3, .int lz), (0, .ref h0), (1, .int r16), (2, .int (nI f7))]) hx hb dX12_readSetOf_53 rfl hl (by decide) rfl (fun ls hl => ?_)
        refine lv_iload_n hx hb dX12_readSetOf_54 rfl (lv_at hl 0 rfl) ?_
        refine W.cut (pc := 62) (fun H locs ls stk => ∃ (ad : Nat) (fd : Nat) (wd9 : Int32) (qd : Int32), (LxO tp fd ad wd9 qd) ∧ (f7 ≤ fd) ∧  stk = [] ∧ va_P (dC, dI) vwCl (WR a k h0 (fT (fT (fT (fT (fT (fT (fT (fT vi 17 (nI ad)) 19 (nI fd)) 20 qd) 18 wd9) 33 ow5) 34 ol5) 21 s7) 22 z7) vj vF vG) H ∧ va_D A (WR a k h0 (fT (fT (fT (fT (fT (fT (fT (fT vi 17 (nI ad)) 19 (nI fd)) 20 qd) 18 wd9) 33 ow5) 34 ol5) 21 s7) 22 z7) vj vF vG) ∧ va_S A s.heap H locs ∧ lv_has ls 5 [(0, .ref h0), (1, .int r16), (2, .int (nI f7)), (3, .int lz)]) (fun join4 => ?_) ?_
        · refine lv_if_eq (tgt := 62) hx hb dX12_readSetOf_55 (by decide) (fun c_55 => ?_) (fun c_55 => ?_)
          · have t_55 : (lz).toInt = 0 := toI_eq c_55 rfl (by decide)
            have hl := lv_sub hl [1, 2, 3, 0] (l' := [(0, .ref h0), (1, .int r16), (2, .int (nI f7)), (3, .int lz)]) rfl
            exact join4 _ _ _ _ ⟨a7, f7, w7, q7, hLx7, Nat.le_refl _, rfl, hP, hD, hS, hl⟩
          · have t_55 : ¬ (lz).toInt = 0 := toI_neq c_55 rfl (by decide)
            refine lv_aload_n hx hb dX12_readSetOf_58 rfl (lv_at hl 1 rfl) ?_
            have hFc := allFree hD hS hA
            refine va_callv (va_runV (As := []) (rest := []) ⟨hx, hb, hml, hown, hts⟩ (r_X12_next l dC dI a k h0 (fT (fT (fT (fT (fT (fT (fT (fT vi 17 (nI a7)) 19 (nI f7)) 20 q7) 18 w7) 33 ow5) 34 ol5) 21 s7) 22 z7) vj vF vG tp a7 hTp (by first | assumption | decide | omega | rfl) rfl (hLx7.2.1) H.size) (cwV 0 hts gwsRX12_readSetOf_0 rfl rfl rfl (by decide +kernel) ⟨by decide +kernel, by decide +kernel⟩) ⟨fun a U g mk q => by obtain ⟨q0, q1, qP, qK, qD, qE⟩ := q; exact ⟨q0, q1, qP, va_K.moved (u := U) (U := U.calling g mk a) (Vm.Alike.refl U.vm) qK, qD, qE.same rfl⟩, va_recv hK hP (ci := 12) (q0 := 0) rfl rfl, fun U hU9 hW => ⟨rfl, by rw [hU9], by rw [hU9]; exact hP, va_K.moved hW.alike hK, hD.weaken (fun _ _ _ _ => trivial), by rw [hU9]; exact (((hE : StrA A s s.heap).kept hS.2.1).narrow (fun q h => hFc q h)).warm hW⟩⟩ rfl rfl hl.1 rfl (lv_room (Nat.le_of_ble_eq_true rfl)) dX12_readSetOf_59 ⟨by decide +kernel, by decide +kernel⟩) hS (fun q _ h => hFc q h) hFc (fun u t9_ H1 locs ht hvm hw9 hB9 hz1 hk1 hS => ?_)
            obtain ⟨a259, f259, sg59, wd59⟩ := u
            try dsimp only at hw9 hB9
            obtain ⟨hP1, hD1⟩ := hB9
            rw [ht] at hP1
            have hP := hP1
            have hD := hD1.weaken (fun _ q _ h => hFc q.1 h)
            generalize H1 = H at hP hS ⊢
            have hP : va_P (dC, dI) vwCl (WR a k h0 (fT (fT (fT (fT (fT (fT (fT (fT (fT (fT (fT (fT vi 17 (nI a7)) 19 (nI f7)) 20 q7) 18 w7) 33 ow5) 34 ol5) 21 s7) 22 z7) 17 (nI a259)) 19 (nI f259)) 20 sg59) 18 wd59) vj vF vG) H := hP
            have hD : va_D A (WR a k h0 (fT (fT (fT (fT (fT (fT (fT (fT (fT (fT (fT (fT vi 17 (nI a7)) 19 (nI f7)) 20 q7) 18 w7) 33 ow5) 34 ol5) 21 s7) 22 z7) 17 (nI a259)) 19 (nI f259)) 20 sg59) 18 wd59) vj vF vG) := hD
            have e9 : fT (fT (fT (fT (fT (fT (fT (fT vi 17 (nI a259)) 19 (nI f259)) 20 sg59) 18 wd59) 33 ow5) 34 ol5) 21 s7) 22 z7 = fT (fT (fT (fT (fT (fT (fT (fT (fT (fT (fT (fT vi 17 (nI a7)) 19 (nI f7)) 20 q7) 18 w7) 33 ow5) 34 ol5) 21 s7) 22 z7) 17 (nI a259)) 19 (nI f259)) 20 sg59) 18 wd59 := ((congrArg (fun g9 => fT (fT (fT g9 19 (nI f259)) 20 sg59) 18 wd59) ((fT_sw _ _ _ (Nat.ne_of_beq_eq_false rfl)).trans (congrArg (fun g9 => fT g9 22 z7) ((fT_sw _ _ _ (Nat.ne_of_beq_eq_false rfl)).trans (congrArg (fun g9 => fT g9 21 s7) ((fT_sw _ _ _ (Nat.ne_of_beq_eq_false rfl)).trans (congrArg (fun g9 => fT g9 34 ol5) ((fT_sw _ _ _ (Nat.ne_of_beq_eq_false rfl)).trans (congrArg (fun g9 => fT g9 33 ow5) ((fT_sw _ _ _ (Nat.ne_of_beq_eq_false rfl)).trans (congrArg (fun g9 => fT g9 18 w7) ((fT_sw _ _ _ (Nat.ne_of_beq_eq_false rfl)).trans (congrArg (fun g9 => fT g9 20 q7) ((fT_sw _ _ _ (Nat.ne_of_beq_eq_false rfl)).trans (congrArg (fun g9 => fT g9 19 (nI f7)) (fT_sm _ _ _ _)))))))))))))))).trans ((congrArg (fun g9 => fT (fT g9 20 sg59) 18 wd59) ((fT_sw _ _ _ (Nat.ne_of_beq_eq_false rfl)).trans (congrArg (fun g9 => fT g9 22 z7) ((fT_sw _ _ _ (Nat.ne_of_beq_eq_false rfl)).trans (congrArg (fun g9 => fT g9 21 s7) ((fT_sw _ _ _ (Nat.ne_of_beq_eq_false rfl)).trans (congrArg (fun g9 => fT g9 34 ol5) ((fT_sw _ _ _ (Nat.ne_of_beq_eq_false rfl)).trans (congrArg (fun g9 => fT g9 33 ow5) ((fT_sw _ _ _ (Nat.ne_of_beq_eq_false rfl)).trans (congrArg (fun g9 => fT g9 18 w7) ((fT_sw _ _ _ (Nat.ne_of_beq_eq_false rfl)).trans (congrArg (fun g9 => fT g9 20 q7) (fT_sm _ _ _ _)))))))))))))).trans ((congrArg (fun g9 => fT g9 18 wd59) ((fT_sw _ _ _ (Nat.ne_of_beq_eq_false rfl)).trans (congrArg (fun g9 => fT g9 22 z7) ((fT_sw _ _ _ (Nat.ne_of_beq_eq_false rfl)).trans (congrArg (fun g9 => fT g9 21 s7) ((fT_sw _ _ _ (Nat.ne_of_beq_eq_false rfl)).trans (congrArg (fun g9 => fT g9 34 ol5) ((fT_sw _ _ _ (Nat.ne_of_beq_eq_false rfl)).trans (congrArg (fun g9 => fT g9 33 ow5) ((fT_sw _ _ _ (Nat.ne_of_beq_eq_false rfl)).trans (congrArg (fun g9 => fT g9 18 w7) (fT_sm _ _ _ _)))))))))))).trans ((fT_sw _ _ _ (Nat.ne_of_beq_eq_false rfl)).trans (congrArg (fun g9 => fT g9 22 z7) ((fT_sw _ _ _ (Nat.ne_of_beq_eq_false rfl)).trans (congrArg (fun g9 => fT g9 21 s7) ((fT_sw _ _ _ (Nat.ne_of_beq_eq_false rfl)).trans (congrArg (fun g9 => fT g9 34 ol5) ((fT_sw _ _ _ (Nat.ne_of_beq_eq_false rfl)).trans (congrArg (fun g9 => fT g9 33 ow5) (fT_sm _ _ _ _)))))))))))).symm
            rw [← e9] at hP hD
            clear e9
            have hP : va_P (dC, dI) vwCl (WR a k h0 (fT (fT (fT (fT (fT (fT (fT (fT vi 17 (nI a259)) 19 (nI f259)) 20 sg59) 18 wd59) 33 ow5) 34 ol5) 21 s7) 22 z7) vj vF vG) H := hP
            have hD : va_D A (WR a k h0 (fT (fT (fT (fT (fT (fT (fT (fT vi 17 (nI a259)) 19 (nI f259)) 20 sg59) 18 wd59) 33 ow5) 34 ol5) 21 s7) 22 z7) vj vF vG) := hD
            obtain ⟨f59_0, f59_1⟩ := hw9
            have hl := lv_sub hl [1, 2, 3, 0] (l' := [(0, .ref h0), (1, .int r16), (2, .int (nI f7)), (3, .int lz)]) rfl
            exact join4 _ _ _ _ ⟨a259, f259, wd59, sg59, f59_0, by (have h9 := f59_1); omega, rfl, hP, hD, hS, hl⟩
        · rintro H locs ls stk ⟨ad, fd, wd9, qd, hLxd, hfd, rfl, hP, hD, hS, hl⟩
          have had := hLxd.1
          have hbd9 := hLxd.2.1
          refine lv_aload_n hx hb dX12_readSetOf_62 rfl (lv_at hl 0 rfl) ?_
          refine va_get (D := (dC, dI)) (ci := 12) (v := .int s7) (C := RX12) (T := TX12) (N := 163) (fs := fM (vS a (fT (fT (fT (fT (fT (fT (fT (fT vi 17 (nI ad)) 19 (nI fd)) 20 qd) 18 wd9) 33 ow5) 34 ol5) 21 s7) 22 z7) vj)) hx hb hts iwsRX12_readSetOf_in12 hown hK hP 0 rfl rfl 21 (by decide) (hts (.fieldLink RX12 515 "OptimaWorksModel" "stop" "I") (by decide +kernel)) (fun _ h9 => h9) rfl dX12_readSetOf_63 ?_
          refine W.cut (pc := 81) (fun H locs ls stk => ∃ (s8 : Int32) (z8 : Int32), (0 ≤ (s8).toInt) ∧ (0 < (s8).toInt ∨ (s8 = 0 ∧ s7 = 0 ∧ wd9 = 3)) ∧  stk = [] ∧ va_P (dC, dI) vwCl (WR a k h0 (fT (fT (fT (fT (fT (fT (fT (fT vi 17 (nI ad)) 19 (nI fd)) 20 qd) 18 wd9) 33 ow5) 34 ol5) 21 s8) 22 z8) vj vF vG) H ∧ va_D A (WR a k h0 (fT (fT (fT (fT (fT (fT (fT (fT vi 17 (nI ad)) 19 (nI fd)) 20 qd) 18 wd9) 33 ow5) 34 ol5) 21 s8) 22 z8) vj vF vG) ∧ va_S A s.heap H locs ∧ lv_has ls 5 [(0, .ref h0), (1, .int r16), (2, .int (nI f7)), (3, .int lz)]) (fun join5 => ?_) ?_
          · refine lv_if_ne (tgt := 81) hx hb dX12_readSetOf_66 (by decide) (fun c_66 => ?_) (fun c_66 => ?_)
            · have t_66 : (s7).toInt ≠ 0 := toI_ne c_66 rfl (by decide)
              have hl := lv_sub hl [0, 1, 2, 3] (l' := [(0, .ref h0), (1, .int r16), (2, .int (nI f7)), (3, .int lz)]) rfl
              exact join5 _ _ _ _ ⟨s7, z7, hs7, Or.inl (by (have h8 : ¬ (s7).toInt = 0 := fun h => c_66 (i32z h)); omega), rfl, hP, hD, hS, hl⟩
            · have t_66 : (s7).toInt = 0 := toI_nne c_66 rfl (by decide)
              refine lv_aload_n hx hb dX12_readSetOf_69 rfl (lv_at hl 0 rfl) ?_
              refine va_get (D := (dC, dI)) (ci := 12) (v := .int wd9) (C := RX12) (T := TX12) (N := 163) (fs := fM (vS a (fT (fT (fT (fT (fT (fT (fT (fT vi 17 (nI ad)) 19 (nI fd)) 20 qd) 18 wd9) 33 ow5) 34 ol5) 21 s7) 22 z7) vj)) hx hb hts iwsRX12_readSetOf_in12 hown hK hP 0 rfl rfl 18 (by decide) (hts (.fieldLink RX12 494 "OptimaWorksModel" "word" "I") (by decide +kernel)) (fun _ h9 => h9) rfl dX12_readSetOf_70 ?_
              refine lv_iconst (v := 3) hx hb dX12_readSetOf_73 (by decide) ?_
              refine lv_icmp_eq (tgt := 81) hx hb dX12_readSetOf_74 (by decide) (fun c_74 => ?_) (fun c_74 => ?_)
              · have t_74 : (wd9).toInt = 3 := toI_eq c_74 rfl (by decide)
                have hl := lv_sub hl [0, 1, 2, 3] (l' := [(0, .ref h0), (1, .int r16), (2, .int (nI f7)), (3, .int lz)]) rfl
                exact join5 _ _ _ _ ⟨s7, z7, hs7, Or.inr ⟨c_66, c_66, c_74⟩, rfl, hP, hD, hS, hl⟩
              · have t_74 : ¬ (wd9).toInt = 3 := toI_neq c_74 rfl (by decide)
                refine lv_aload_n hx hb dX12_readSetOf_77 rfl (lv_at hl 0 rfl) ?_
                have hFc := allFree hD hS hA
                refine va_callv (va_runV (As := []) (rest := []) ⟨hx, hb, hml, hown, hts⟩ (r_X12_wrong l dC dI a k h0 (fT (fT (fT (fT (fT (fT (fT (fT vi 17 (nI ad)) 19 (nI fd)) 20 qd) 18 wd9) 33 ow5) 34 ol5) 21 s7) 22 z7) vj vF vG H.size) (cwV 0 hts gwsRX12_readSetOf_5 rfl rfl rfl (by decide +kernel) ⟨by decide +kernel, by decide +kernel⟩) ⟨fun a U g mk q => by obtain ⟨q0, q1, qP, qK, qD⟩ := q; exact ⟨q0, q1, qP, va_K.moved (u := U) (U := U.calling g mk a) (Vm.Alike.refl U.vm) qK, qD⟩, va_recv hK hP (ci := 12) (q0 := 0) rfl rfl, fun U hU9 hW => ⟨rfl, by rw [hU9], by rw [hU9]; exact hP, va_K.moved hW.alike hK, hD.weaken (fun _ _ _ _ => trivial)⟩⟩ rfl rfl hl.1 rfl (lv_room (Nat.le_of_ble_eq_true rfl)) dX12_readSetOf_78 ⟨by decide +kernel, by decide +kernel⟩) hS (fun q _ h => hFc q h) hFc (fun u t9_ H1 locs ht hvm hw9 hB9 hz1 hk1 hS => ?_)
                obtain ⟨s278, p278⟩ := u
                try dsimp only at hw9 hB9
                obtain ⟨hP1, hD1⟩ := hB9
                rw [ht] at hP1
                have hP := hP1
                have hD := hD1.weaken (fun _ q _ h => hFc q.1 h)
                generalize H1 = H at hP hS ⊢
                have hP : va_P (dC, dI) vwCl (WR a k h0 (fT (fT (fT (fT (fT (fT (fT (fT (fT (fT vi 17 (nI ad)) 19 (nI fd)) 20 qd) 18 wd9) 33 ow5) 34 ol5) 21 s7) 22 z7) 21 s278) 22 p278) vj vF vG) H := hP
                have hD : va_D A (WR a k h0 (fT (fT (fT (fT (fT (fT (fT (fT (fT (fT vi 17 (nI ad)) 19 (nI fd)) 20 qd) 18 wd9) 33 ow5) 34 ol5) 21 s7) 22 z7) 21 s278) 22 p278) vj vF vG) := hD
                have e9 : fT (fT (fT (fT (fT (fT (fT (fT vi 17 (nI ad)) 19 (nI fd)) 20 qd) 18 wd9) 33 ow5) 34 ol5) 21 s278) 22 p278 = fT (fT (fT (fT (fT (fT (fT (fT (fT (fT vi 17 (nI ad)) 19 (nI fd)) 20 qd) 18 wd9) 33 ow5) 34 ol5) 21 s7) 22 z7) 21 s278) 22 p278 := ((congrArg (fun g9 => fT g9 22 p278) ((fT_sw _ _ _ (Nat.ne_of_beq_eq_false rfl)).trans (congrArg (fun g9 => fT g9 22 z7) (fT_sm _ _ _ _)))).trans (fT_sm _ _ _ _)).symm
                rw [← e9] at hP hD
                clear e9
                have hP : va_P (dC, dI) vwCl (WR a k h0 (fT (fT (fT (fT (fT (fT (fT (fT vi 17 (nI ad)) 19 (nI fd)) 20 qd) 18 wd9) 33 ow5) 34 ol5) 21 s278) 22 p278) vj vF vG) H := hP
                have hD : va_D A (WR a k h0 (fT (fT (fT (fT (fT (fT (fT (fT vi 17 (nI ad)) 19 (nI fd)) 20 qd) 18 wd9) 33 ow5) 34 ol5) 21 s278) 22 p278) vj vF vG) := hD
                obtain ⟨f78_0, f78_1⟩ := hw9
                have f78_0 : (0 < s7.toInt ∧ s278 = s7 ∧ p278 = z7) ∨ (¬ 0 < s7.toInt ∧ (s278 = 1 ∨ s278 = 2) ∧ p278 = (nI fd)) := f78_0
                have hl := lv_sub hl [0, 1, 2, 3] (l' := [(0, .ref h0), (1, .int r16), (2, .int (nI f7)), (3, .int lz)]) rfl
                exact join5 _ _ _ _ ⟨s278, p278, by omega, Or.inl f78_1, rfl, hP, hD, hS, hl⟩
          · rintro H locs ls stk ⟨s8, z8, hs8, hz8, rfl, hP, hD, hS, hl⟩
            refine lv_iload_n hx hb dX12_readSetOf_81 rfl (lv_at hl 3 rfl) ?_
            refine W.cut (pc := 97) (fun H locs ls stk => ∃ (v4 : Int32), (0 < (s8).toInt ∨ (-999999 ≤ (v4).toInt ∧ (v4).toInt ≤ 999999)) ∧  stk = [.int v4] ∧ va_P (dC, dI) vwCl (WR a k h0 (fT (fT (fT (fT (fT (fT (fT (fT vi 17 (nI ad)) 19 (nI fd)) 20 qd) 18 wd9) 33 ow5) 34 ol5) 21 s8) 22 z8) vj vF vG) H ∧ va_D A (WR a k h0 (fT (fT (fT (fT (fT (fT (fT (fT vi 17 (nI ad)) 19 (nI fd)) 20 qd) 18 wd9) 33 ow5) 34 ol5) 21 s8) 22 z8) vj vF vG) ∧ va_S A s.heap H locs ∧ lv_has ls 5 [(0, .ref h0), (1, .int r16), (2, .int (nI f7)), (3, .int lz)]) (fun join6 => ?_) ?_
            · refine lv_if_eq (tgt := 93) hx hb dX12_readSetOf_82 (by decide) (fun c_82 => ?_) (fun c_82 => ?_)
              · have t_82 : (lz).toInt = 0 := toI_eq c_82 rfl (by decide)
                refine lv_aload_n hx hb dX12_readSetOf_93 rfl (lv_at hl 0 rfl) ?_
                refine va_get (D := (dC, dI)) (ci := 12) (v := .int qd) (C := RX12) (T := TX12) (N := 163) (fs := fM (vS a (fT (fT (fT (fT (fT (fT (fT (fT vi 17 (nI ad)) 19 (nI fd)) 20 qd) 18 wd9) 33 ow5) 34 ol5) 21 s8) 22 z8) vj)) hx hb hts iwsRX12_readSetOf_in12 hown hK hP 0 rfl rfl 20 (by decide) (hts (.fieldLink RX12 491 "OptimaWorksModel" "sign0" "I") (by decide +kernel)) (fun _ h9 => h9) rfl dX12_readSetOf_94 ?_
                have hl := lv_sub hl [0, 1, 2, 3] (l' := [(0, .ref h0), (1, .int r16), (2, .int (nI f7)), (3, .int lz)]) rfl
                exact join6 _ _ _ _ ⟨qd, by (rcases hz8 with h9 | h9); (exact Or.inl h9); (exact Or.inr (by (have h8 := hLxd.2.2.2 h9.2.2); omega)), rfl, hP, hD, hS, hl⟩
              · have t_82 : ¬ (lz).toInt = 0 := toI_neq c_82 rfl (by decide)
                refine lv_aload_n hx hb dX12_readSetOf_85 rfl (lv_at hl 0 rfl) ?_
                refine va_get (D := (dC, dI)) (ci := 12) (v := .int qd) (C := RX12) (T := TX12) (N := 163) (fs := fM (vS a (fT (fT (fT (fT (fT (fT (fT (fT vi 17 (nI ad)) 19 (nI fd)) 20 qd) 18 wd9) 33 ow5) 34 ol5) 21 s8) 22 z8) vj)) hx hb hts iwsRX12_readSetOf_in12 hown hK hP 0 rfl rfl 20 (by decide) (hts (.fieldLink RX12 491 "OptimaWorksModel" "sign0" "I") (by decide +kernel)) (fun _ h9 => h9) rfl dX12_readSetOf_86 ?_
                refine lv_ineg hx hb dX12_readSetOf_89 ?_
                refine lv_goto (tgt := 97) hx hb dX12_readSetOf_90 (by decide) ?_
                have hl := lv_sub hl [0, 1, 2, 3] (l' := [(0, .ref h0), (1, .int r16), (2, .int (nI f7)), (3, .int lz)]) rfl
                exact join6 _ _ _ _ ⟨(-qd), by (rcases hz8 with h9 | h9); (exact Or.inl h9); (exact Or.inr (by (have h8 := hLxd.2.2.2 h9.2.2); (have h7 := neg32 (x := qd) (b := 999999) (by omega) (by decide)); omega)), rfl, hP, hD, hS, hl⟩
            · rintro H locs ls stk ⟨v4, hv4, rfl, hP, hD, hS, hl⟩
              refine lv_istore (lv' := [(4, .int v4), (0, .ref h0), (1, .int r16), (2, .int (nI f7)), (3, .int lz)]) hx hb dX12_readSetOf_97 hl (by decide) rfl (fun ls hl => ?_)
              refine lv_aload_n hx hb dX12_readSetOf_99 rfl (lv_at hl 1 rfl) ?_
              refine va_get (D := (dC, dI)) (ci := 12) (v := .int s8) (C := RX12) (T := TX12) (N := 163) (fs := fM (vS a (fT (fT (fT (fT (fT (fT (fT (fT vi 17 (nI ad)) 19 (nI fd)) 20 qd) 18 wd9) 33 ow5) 34 ol5) 21 s8) 22 z8) vj)) hx hb hts iwsRX12_readSetOf_in12 hown hK hP 0 rfl rfl 21 (by decide) (hts (.fieldLink RX12 515 "OptimaWorksModel" "stop" "I") (by decide +kernel)) (fun _ h9 => h9) rfl dX12_readSetOf_100 ?_
              refine W.cut (pc := 127) (fun H locs ls stk => ∃ (s9 : Int32) (z9 : Int32), (0 ≤ (s9).toInt) ∧ (0 < (s9).toInt ∨ (s9 = 0 ∧ s8 = 0 ∧ (r16).toInt ≤ (v4).toInt ∧ (v4).toInt ≤ (r16).toInt + 11)) ∧  stk = [] ∧ va_P (dC, dI) vwCl (WR a k h0 (fT (fT (fT (fT (fT (fT (fT (fT vi 17 (nI ad)) 19 (nI fd)) 20 qd) 18 wd9) 33 ow5) 34 ol5) 21 s9) 22 z9) vj vF vG) H ∧ va_D A (WR a k h0 (fT (fT (fT (fT (fT (fT (fT (fT vi 17 (nI ad)) 19 (nI fd)) 20 qd) 18 wd9) 33 ow5) 34 ol5) 21 s9) 22 z9) vj vF vG) ∧ va_S A s.heap H locs ∧ lv_has ls 5 [(0, .ref h0), (1, .int r16), (2, .int (nI f7)), (3, .int lz), (4, .int v4)]) (fun join7 => ?_) ?_
              · refine lv_if_ne (tgt := 127) hx hb dX12_readSetOf_103 (by decide) (fun c_103 => ?_) (fun c_103 => ?_)
                · have t_103 : (s8).toInt ≠ 0 := toI_ne c_103 rfl (by decide)
                  have hl := lv_sub hl [1, 2, 3, 4, 0] (l' := [(0, .ref h0), (1, .int r16), (2, .int (nI f7)), (3, .int lz), (4, .int v4)]) rfl
                  exact join7 _ _ _ _ ⟨s8, z8, hs8, Or.inl (by (have h8 : ¬ (s8).toInt = 0 := fun h => c_103 (i32z h)); omega), rfl, hP, hD, hS, hl⟩
                · have t_103 : (s8).toInt = 0 := toI_nne c_103 rfl (by decide)
                  refine lv_iload hx hb dX12_readSetOf_106 (lv_at hl 0 rfl) ?_
                  refine lv_iload_n hx hb dX12_readSetOf_108 rfl (lv_at hl 2 rfl) ?_
                  refine lv_icmp_lt (tgt := 121) hx hb dX12_readSetOf_109 (by decide) (fun c_109 => ?_) (fun c_109 => ?_)
                  · have t_109 : (v4).toInt < (r16).toInt := toI_lt c_109 rfl rfl
                    refine lv_aload_n hx hb dX12_readSetOf_121 rfl (lv_at hl 1 rfl) ?_
                    refine lv_iconst (v := 4) hx hb dX12_readSetOf_122 (by decide) ?_
                    refine lv_iload_n hx hb dX12_readSetOf_123 rfl (lv_at hl 3 rfl) ?_
                    have hFc := allFree hD hS hA
                    refine va_callv (va_runV (As := [.int 4, .int (nI f7)]) (rest := []) ⟨hx, hb, hml, hown, hts⟩ (r_X12_faultAt l dC dI a k h0 (fT (fT (fT (fT (fT (fT (fT (fT vi 17 (nI ad)) 19 (nI fd)) 20 qd) 18 wd9) 33 ow5) 34 ol5) 21 s8) 22 z8) vj vF vG 4 (nI f7) (by first | assumption | decide | omega | rfl) H.size) (cwV 2 hts gwsRX12_readSetOf_6 rfl rfl rfl (by decide +kernel) ⟨by decide +kernel, by decide +kernel⟩) ⟨fun a U g mk q => by obtain ⟨q0, q1, qP, qK, qD⟩ := q; exact ⟨q0, q1, qP, va_K.moved (u := U) (U := U.calling g mk a) (Vm.Alike.refl U.vm) qK, qD⟩, va_recv hK hP (ci := 12) (q0 := 0) rfl rfl, fun U hU9 hW => ⟨rfl, by rw [hU9], by rw [hU9]; exact hP, va_K.moved hW.alike hK, hD.weaken (fun _ _ _ _ => trivial)⟩⟩ rfl rfl hl.1 rfl (lv_room (Nat.le_of_ble_eq_true rfl)) dX12_readSetOf_124 ⟨by decide +kernel, by decide +kernel⟩) hS (fun q _ h => hFc q h) hFc (fun u t9_ H1 locs ht hvm hw9 hB9 hz1 hk1 hS => ?_)
                    obtain ⟨s2124, p2124⟩ := u
                    try dsimp only at hw9 hB9
                    obtain ⟨hP1, hD1⟩ := hB9
                    rw [ht] at hP1
                    have hP := hP1
                    have hD := hD1.weaken (fun _ q _ h => hFc q.1 h)
                    generalize H1 = H at hP hS ⊢
                    have hP : va_P (dC, dI) vwCl (WR a k h0 (fT (fT (fT (fT (fT (fT (fT (fT (fT (fT vi 17 (nI ad)) 19 (nI fd)) 20 qd) 18 wd9) 33 ow5) 34 ol5) 21 s8) 22 z8) 21 s2124) 22 p2124) vj vF vG) H := hP
                    have hD : va_D A (WR a k h0 (fT (fT (fT (fT (fT (fT (fT (fT (fT (fT vi 17 (nI ad)) 19 (nI fd)) 20 qd) 18 wd9) 33 ow5) 34 ol5) 21 s8) 22 z8) 21 s2124) 22 p2124) vj vF vG) := hD
                    have e9 : fT (fT (fT (fT (fT (fT (fT (fT vi 17 (nI ad)) 19 (nI fd)) 20 qd) 18 wd9) 33 ow5) 34 ol5) 21 s2124) 22 p2124 = fT (fT (fT (fT (fT (fT (fT (fT (fT (fT vi 17 (nI ad)) 19 (nI fd)) 20 qd) 18 wd9) 33 ow5) 34 ol5) 21 s8) 22 z8) 21 s2124) 22 p2124 := ((congrArg (fun g9 => fT g9 22 p2124) ((fT_sw _ _ _ (Nat.ne_of_beq_eq_false rfl)).trans (congrArg (fun g9 => fT g9 22 z8) (fT_sm _ _ _ _)))).trans (fT_sm _ _ _ _)).symm
                    rw [← e9] at hP hD
                    clear e9
                    have hP : va_P (dC, dI) vwCl (WR a k h0 (fT (fT (fT (fT (fT (fT (fT (fT vi 17 (nI ad)) 19 (nI fd)) 20 qd) 18 wd9) 33 ow5) 34 ol5) 21 s2124) 22 p2124) vj vF vG) H := hP
                    have hD : va_D A (WR a k h0 (fT (fT (fT (fT (fT (fT (fT (fT vi 17 (nI ad)) 19 (nI fd)) 20 qd) 18 wd9) 33 ow5) 34 ol5) 21 s2124) 22 p2124) vj vF vG) := hD
                    obtain ⟨f124_0, f124_1⟩ := hw9
                    have f124_0 : (0 < s8.toInt ∧ s2124 = s8 ∧ p2124 = z8) ∨ (¬ 0 < s8.toInt ∧ s2124 = 4 ∧ p2124 = (nI f7)) := f124_0
                    have hl := lv_sub hl [1, 2, 3, 4, 0] (l' := [(0, .ref h0), (1, .int r16), (2, .int (nI f7)), (3, .int lz), (4, .int v4)]) rfl
                    exact join7 _ _ _ _ ⟨s2124, p2124, by omega, Or.inl f124_1, rfl, hP, hD, hS, hl⟩
                  · have t_109 : ¬ (v4).toInt < (r16).toInt := toI_nlt c_109 rfl rfl
                    refine lv_iload hx hb dX12_readSetOf_112 (lv_at hl 0 rfl) ?_
                    refine lv_iload_n hx hb dX12_readSetOf_114 rfl (lv_at hl 2 rfl) ?_
                    refine lv_bipush (v := 11) hx hb dX12_readSetOf_115 (by decide) ?_
                    have e117 : (r16 + 11).toInt = (r16).toInt + 11 := by rw [addB (by omega) (by decide)]; rfl
                    refine lv_iadd hx hb dX12_readSetOf_117 ?_
                    refine lv_icmp_le (tgt := 127) hx hb dX12_readSetOf_118 (by decide) (fun c_118 => ?_) (fun c_118 => ?_)
                    · have t_118 : (v4).toInt ≤ ((r16 + 11)).toInt := toI_le c_118 rfl rfl
                      have hl := lv_sub hl [1, 2, 3, 4, 0] (l' := [(0, .ref h0), (1, .int r16), (2, .int (nI f7)), (3, .int lz), (4, .int v4)]) rfl
                      exact join7 _ _ _ _ ⟨s8, z8, hs8, Or.inr ⟨c_103, c_103, by omega, by omega⟩, rfl, hP, hD, hS, hl⟩
                    · have t_118 : ¬ (v4).toInt ≤ ((r16 + 11)).toInt := toI_nle c_118 rfl rfl
                      refine lv_aload_n hx hb dX12_readSetOf_121 rfl (lv_at hl 1 rfl) ?_
                      refine lv_iconst (v := 4) hx hb dX12_readSetOf_122 (by decide) ?_
                      refine lv_iload_n hx hb dX12_readSetOf_123 rfl (lv_at hl 3 rfl) ?_
                      have hFc := allFree hD hS hA
                      refine va_callv (va_runV (As := [.int 4, .int (nI f7)]) (rest := []) ⟨hx, hb, hml, hown, hts⟩ (r_X12_faultAt l dC dI a k h0 (fT (fT (fT (fT (fT (fT (fT (fT vi 17 (nI ad)) 19 (nI fd)) 20 qd) 18 wd9) 33 ow5) 34 ol5) 21 s8) 22 z8) vj vF vG 4 (nI f7) (by first | assumption | decide | omega | rfl) H.size) (cwV 2 hts gwsRX12_readSetOf_6 rfl rfl rfl (by decide +kernel) ⟨by decide +kernel, by decide +kernel⟩) ⟨fun a U g mk q => by obtain ⟨q0, q1, qP, qK, qD⟩ := q; exact ⟨q0, q1, qP, va_K.moved (u := U) (U := U.calling g mk a) (Vm.Alike.refl U.vm) qK, qD⟩, va_recv hK hP (ci := 12) (q0 := 0) rfl rfl, fun U hU9 hW => ⟨rfl, by rw [hU9], by rw [hU9]; exact hP, va_K.moved hW.alike hK, hD.weaken (fun _ _ _ _ => trivial)⟩⟩ rfl rfl hl.1 rfl (lv_room (Nat.le_of_ble_eq_true rfl)) dX12_readSetOf_124 ⟨by decide +kernel, by decide +kernel⟩) hS (fun q _ h => hFc q h) hFc (fun u t9_ H1 locs ht hvm hw9 hB9 hz1 hk1 hS => ?_)
                      obtain ⟨s2124_1, p2124_1⟩ := u
                      try dsimp only at hw9 hB9
                      obtain ⟨hP1, hD1⟩ := hB9
                      rw [ht] at hP1
                      have hP := hP1
                      have hD := hD1.weaken (fun _ q _ h => hFc q.1 h)
                      generalize H1 = H at hP hS ⊢
                      have hP : va_P (dC, dI) vwCl (WR a k h0 (fT (fT (fT (fT (fT (fT (fT (fT (fT (fT vi 17 (nI ad)) 19 (nI fd)) 20 qd) 18 wd9) 33 ow5) 34 ol5) 21 s8) 22 z8) 21 s2124_1) 22 p2124_1) vj vF vG) H := hP
                      have hD : va_D A (WR a k h0 (fT (fT (fT (fT (fT (fT (fT (fT (fT (fT vi 17 (nI ad)) 19 (nI fd)) 20 qd) 18 wd9) 33 ow5) 34 ol5) 21 s8) 22 z8) 21 s2124_1) 22 p2124_1) vj vF vG) := hD
                      have e9 : fT (fT (fT (fT (fT (fT (fT (fT vi 17 (nI ad)) 19 (nI fd)) 20 qd) 18 wd9) 33 ow5) 34 ol5) 21 s2124_1) 22 p2124_1 = fT (fT (fT (fT (fT (fT (fT (fT (fT (fT vi 17 (nI ad)) 19 (nI fd)) 20 qd) 18 wd9) 33 ow5) 34 ol5) 21 s8) 22 z8) 21 s2124_1) 22 p2124_1 := ((congrArg (fun g9 => fT g9 22 p2124_1) ((fT_sw _ _ _ (Nat.ne_of_beq_eq_false rfl)).trans (congrArg (fun g9 => fT g9 22 z8) (fT_sm _ _ _ _)))).trans (fT_sm _ _ _ _)).symm
                      rw [← e9] at hP hD
                      clear e9
                      have hP : va_P (dC, dI) vwCl (WR a k h0 (fT (fT (fT (fT (fT (fT (fT (fT vi 17 (nI ad)) 19 (nI fd)) 20 qd) 18 wd9) 33 ow5) 34 ol5) 21 s2124_1) 22 p2124_1) vj vF vG) H := hP
                      have hD : va_D A (WR a k h0 (fT (fT (fT (fT (fT (fT (fT (fT vi 17 (nI ad)) 19 (nI fd)) 20 qd) 18 wd9) 33 ow5) 34 ol5) 21 s2124_1) 22 p2124_1) vj vF vG) := hD
                      obtain ⟨f124_1_0, f124_1_1⟩ := hw9
                      have f124_1_0 : (0 < s8.toInt ∧ s2124_1 = s8 ∧ p2124_1 = z8) ∨ (¬ 0 < s8.toInt ∧ s2124_1 = 4 ∧ p2124_1 = (nI f7)) := f124_1_0
                      have hl := lv_sub hl [1, 2, 3, 4, 0] (l' := [(0, .ref h0), (1, .int r16), (2, .int (nI f7)), (3, .int lz), (4, .int v4)]) rfl
                      exact join7 _ _ _ _ ⟨s2124_1, p2124_1, by omega, Or.inl f124_1_1, rfl, hP, hD, hS, hl⟩
              · rintro H locs ls stk ⟨s9, z9, hs9, hz9, rfl, hP, hD, hS, hl⟩
                refine lv_aload_n hx hb dX12_readSetOf_127 rfl (lv_at hl 0 rfl) ?_
                refine va_get (D := (dC, dI)) (ci := 12) (v := .int s9) (C := RX12) (T := TX12) (N := 163) (fs := fM (vS a (fT (fT (fT (fT (fT (fT (fT (fT vi 17 (nI ad)) 19 (nI fd)) 20 qd) 18 wd9) 33 ow5) 34 ol5) 21 s9) 22 z9) vj)) hx hb hts iwsRX12_readSetOf_in12 hown hK hP 0 rfl rfl 21 (by decide) (hts (.fieldLink RX12 515 "OptimaWorksModel" "stop" "I") (by decide +kernel)) (fun _ h9 => h9) rfl dX12_readSetOf_128 ?_
                refine lv_if_le (tgt := 135) hx hb dX12_readSetOf_131 (by decide) (fun c_131 => ?_) (fun c_131 => ?_)
                · have t_131 : (s9).toInt ≤ 0 := toI_le c_131 rfl (by decide)
                  obtain ⟨e9, e8, hv9⟩ := hz9.resolve_left (by omega)
                  obtain ⟨_, e7, hw3⟩ := hz8.resolve_left (by rw [e8]; decide)
                  have e6 := hz7.resolve_left (by rw [e7]; decide)
                  have e5 := f16_4.resolve_left (by rw [e6]; decide)
                  have e4 := hz6.resolve_left (by rw [e5]; decide)
                  obtain ⟨_, hfo, hn40, xO, yO, exO, eyO, hxy⟩ := f5_3.resolve_left (fun h => absurd h.1 (by rw [e4]; decide))
                  refine lv_aload_n hx hb dX12_readSetOf_135 rfl (lv_at hl 0 rfl) ?_
                  have hFc := allFree hD hS hA
                  refine va_callv (va_runV (As := []) (rest := []) ⟨hx, hb, hml, hown, hts⟩ (r_X12_next l dC dI a k h0 (fT (fT (fT (fT (fT (fT (fT (fT vi 17 (nI ad)) 19 (nI fd)) 20 qd) 18 wd9) 33 ow5) 34 ol5) 21 s9) 22 z9) vj vF vG tp ad hTp (by first | assumption | decide | omega | rfl) rfl (hLxd.2.1) H.size) (cwV 0 hts gwsRX12_readSetOf_0 rfl rfl rfl (by decide +kernel) ⟨by decide +kernel, by decide +kernel⟩) ⟨fun a U g mk q => by obtain ⟨q0, q1, qP, qK, qD, qE⟩ := q; exact ⟨q0, q1, qP, va_K.moved (u := U) (U := U.calling g mk a) (Vm.Alike.refl U.vm) qK, qD, qE.same rfl⟩, va_recv hK hP (ci := 12) (q0 := 0) rfl rfl, fun U hU9 hW => ⟨rfl, by rw [hU9], by rw [hU9]; exact hP, va_K.moved hW.alike hK, hD.weaken (fun _ _ _ _ => trivial), by rw [hU9]; exact (((hE : StrA A s s.heap).kept hS.2.1).narrow (fun q h => hFc q h)).warm hW⟩⟩ rfl rfl hl.1 rfl (lv_room (Nat.le_of_ble_eq_true rfl)) dX12_readSetOf_136 ⟨by decide +kernel, by decide +kernel⟩) hS (fun q _ h => hFc q h) hFc (fun u t9_ H1 locs ht hvm hw9 hB9 hz1 hk1 hS => ?_)
                  obtain ⟨a2136, f2136, sg136, wd136⟩ := u
                  try dsimp only at hw9 hB9
                  obtain ⟨hP1, hD1⟩ := hB9
                  rw [ht] at hP1
                  have hP := hP1
                  have hD := hD1.weaken (fun _ q _ h => hFc q.1 h)
                  generalize H1 = H at hP hS ⊢
                  have hP : va_P (dC, dI) vwCl (WR a k h0 (fT (fT (fT (fT (fT (fT (fT (fT (fT (fT (fT (fT vi 17 (nI ad)) 19 (nI fd)) 20 qd) 18 wd9) 33 ow5) 34 ol5) 21 s9) 22 z9) 17 (nI a2136)) 19 (nI f2136)) 20 sg136) 18 wd136) vj vF vG) H := hP
                  have hD : va_D A (WR a k h0 (fT (fT (fT (fT (fT (fT (fT (fT (fT (fT (fT (fT vi 17 (nI ad)) 19 (nI fd)) 20 qd) 18 wd9) 33 ow5) 34 ol5) 21 s9) 22 z9) 17 (nI a2136)) 19 (nI f2136)) 20 sg136) 18 wd136) vj vF vG) := hD
                  have e9 : fT (fT (fT (fT (fT (fT (fT (fT vi 17 (nI a2136)) 19 (nI f2136)) 20 sg136) 18 wd136) 33 ow5) 34 ol5) 21 s9) 22 z9 = fT (fT (fT (fT (fT (fT (fT (fT (fT (fT (fT (fT vi 17 (nI ad)) 19 (nI fd)) 20 qd) 18 wd9) 33 ow5) 34 ol5) 21 s9) 22 z9) 17 (nI a2136)) 19 (nI f2136)) 20 sg136) 18 wd136 := ((congrArg (fun g9 => fT (fT (fT g9 19 (nI f2136)) 20 sg136) 18 wd136) ((fT_sw _ _ _ (Nat.ne_of_beq_eq_false rfl)).trans (congrArg (fun g9 => fT g9 22 z9) ((fT_sw _ _ _ (Nat.ne_of_beq_eq_false rfl)).trans (congrArg (fun g9 => fT g9 21 s9) ((fT_sw _ _ _ (Nat.ne_of_beq_eq_false rfl)).trans (congrArg (fun g9 => fT g9 34 ol5) ((fT_sw _ _ _ (Nat.ne_of_beq_eq_false rfl)).trans (congrArg (fun g9 => fT g9 33 ow5) ((fT_sw _ _ _ (Nat.ne_of_beq_eq_false rfl)).trans (congrArg (fun g9 => fT g9 18 wd9) ((fT_sw _ _ _ (Nat.ne_of_beq_eq_false rfl)).trans (congrArg (fun g9 => fT g9 20 qd) ((fT_sw _ _ _ (Nat.ne_of_beq_eq_false rfl)).trans (congrArg (fun g9 => fT g9 19 (nI fd)) (fT_sm _ _ _ _)))))))))))))))).trans ((congrArg (fun g9 => fT (fT g9 20 sg136) 18 wd136) ((fT_sw _ _ _ (Nat.ne_of_beq_eq_false rfl)).trans (congrArg (fun g9 => fT g9 22 z9) ((fT_sw _ _ _ (Nat.ne_of_beq_eq_false rfl)).trans (congrArg (fun g9 => fT g9 21 s9) ((fT_sw _ _ _ (Nat.ne_of_beq_eq_false rfl)).trans (congrArg (fun g9 => fT g9 34 ol5) ((fT_sw _ _ _ (Nat.ne_of_beq_eq_false rfl)).trans (congrArg (fun g9 => fT g9 33 ow5) ((fT_sw _ _ _ (Nat.ne_of_beq_eq_false rfl)).trans (congrArg (fun g9 => fT g9 18 wd9) ((fT_sw _ _ _ (Nat.ne_of_beq_eq_false rfl)).trans (congrArg (fun g9 => fT g9 20 qd) (fT_sm _ _ _ _)))))))))))))).trans ((congrArg (fun g9 => fT g9 18 wd136) ((fT_sw _ _ _ (Nat.ne_of_beq_eq_false rfl)).trans (congrArg (fun g9 => fT g9 22 z9) ((fT_sw _ _ _ (Nat.ne_of_beq_eq_false rfl)).trans (congrArg (fun g9 => fT g9 21 s9) ((fT_sw _ _ _ (Nat.ne_of_beq_eq_false rfl)).trans (congrArg (fun g9 => fT g9 34 ol5) ((fT_sw _ _ _ (Nat.ne_of_beq_eq_false rfl)).trans (congrArg (fun g9 => fT g9 33 ow5) ((fT_sw _ _ _ (Nat.ne_of_beq_eq_false rfl)).trans (congrArg (fun g9 => fT g9 18 wd9) (fT_sm _ _ _ _)))))))))))).trans ((fT_sw _ _ _ (Nat.ne_of_beq_eq_false rfl)).trans (congrArg (fun g9 => fT g9 22 z9) ((fT_sw _ _ _ (Nat.ne_of_beq_eq_false rfl)).trans (congrArg (fun g9 => fT g9 21 s9) ((fT_sw _ _ _ (Nat.ne_of_beq_eq_false rfl)).trans (congrArg (fun g9 => fT g9 34 ol5) ((fT_sw _ _ _ (Nat.ne_of_beq_eq_false rfl)).trans (congrArg (fun g9 => fT g9 33 ow5) (fT_sm _ _ _ _)))))))))))).symm
                  rw [← e9] at hP hD
                  clear e9
                  have hP : va_P (dC, dI) vwCl (WR a k h0 (fT (fT (fT (fT (fT (fT (fT (fT vi 17 (nI a2136)) 19 (nI f2136)) 20 sg136) 18 wd136) 33 ow5) 34 ol5) 21 s9) 22 z9) vj vF vG) H := hP
                  have hD : va_D A (WR a k h0 (fT (fT (fT (fT (fT (fT (fT (fT vi 17 (nI a2136)) 19 (nI f2136)) 20 sg136) 18 wd136) 33 ow5) 34 ol5) 21 s9) 22 z9) vj vF vG) := hD
                  obtain ⟨f136_0, f136_1⟩ := hw9
                  refine lv_aload_n hx hb dX12_readSetOf_139 rfl (lv_at hl 0 rfl) ?_
                  refine lv_bipush (v := 59) hx hb dX12_readSetOf_140 (by decide) ?_
                  have hFc := allFree hD hS hA
                  refine va_calli (va_runV (As := [.int 59]) (rest := []) ⟨hx, hb, hml, hown, hts⟩ (r_X12_needSign l dC dI a k h0 (fT (fT (fT (fT (fT (fT (fT (fT vi 17 (nI a2136)) 19 (nI f2136)) 20 sg136) 18 wd136) 33 ow5) 34 ol5) 21 s9) 22 z9) vj vF vG 59 tp a2136 f2136 hTp (by first | assumption | decide | omega | rfl) rfl rfl (f136_0) (hs9) H.size) (cwV 1 hts gwsRX12_readSetOf_2 rfl rfl rfl (by decide +kernel) ⟨by decide +kernel, by decide +kernel⟩) ⟨fun a U g mk q => by obtain ⟨q0, q1, qP, qK, qD, qE⟩ := q; exact ⟨q0, q1, qP, va_K.moved (u := U) (U := U.calling g mk a) (Vm.Alike.refl U.vm) qK, qD, qE.same rfl⟩, va_recv hK hP (ci := 12) (q0 := 0) rfl rfl, fun U hU9 hW => ⟨rfl, by rw [hU9], by rw [hU9]; exact hP, va_K.moved hW.alike hK, hD.weaken (fun _ _ _ _ => trivial), by rw [hU9]; exact (((hE : StrA A s s.heap).kept hS.2.1).narrow (fun q h => hFc q h)).warm hW⟩⟩ rfl rfl hl.1 rfl (lv_room (Nat.le_of_ble_eq_true rfl)) dX12_readSetOf_142 ⟨by decide +kernel, by decide +kernel⟩) hS (fun q _ h => hFc q h) hFc (fun r142 u t9_ H1 locs ht hvm hw9 hB9 hz1 hk1 hS => ?_)
                  obtain ⟨a2142, f2142, sg142, wd142, s2142, p2142⟩ := u
                  try dsimp only at hw9 hB9
                  obtain ⟨hP1, hD1⟩ := hB9
                  rw [ht] at hP1
                  have hP := hP1
                  have hD := hD1.weaken (fun _ q _ h => hFc q.1 h)
                  generalize H1 = H at hP hS ⊢
                  have hP : va_P (dC, dI) vwCl (WR a k h0 (fT (fT (fT (fT (fT (fT (fT (fT (fT (fT (fT (fT (fT (fT vi 17 (nI a2136)) 19 (nI f2136)) 20 sg136) 18 wd136) 33 ow5) 34 ol5) 21 s9) 22 z9) 17 (nI a2142)) 19 (nI f2142)) 20 sg142) 18 wd142) 21 s2142) 22 p2142) vj vF vG) H := hP
                  have hD : va_D A (WR a k h0 (fT (fT (fT (fT (fT (fT (fT (fT (fT (fT (fT (fT (fT (fT vi 17 (nI a2136)) 19 (nI f2136)) 20 sg136) 18 wd136) 33 ow5) 34 ol5) 21 s9) 22 z9) 17 (nI a2142)) 19 (nI f2142)) 20 sg142) 18 wd142) 21 s2142) 22 p2142) vj vF vG) := hD
                  have e9 : fT (fT (fT (fT (fT (fT (fT (fT vi 17 (nI a2142)) 19 (nI f2142)) 20 sg142) 18 wd142) 33 ow5) 34 ol5) 21 s2142) 22 p2142 = fT (fT (fT (fT (fT (fT (fT (fT (fT (fT (fT (fT (fT (fT vi 17 (nI a2136)) 19 (nI f2136)) 20 sg136) 18 wd136) 33 ow5) 34 ol5) 21 s9) 22 z9) 17 (nI a2142)) 19 (nI f2142)) 20 sg142) 18 wd142) 21 s2142) 22 p2142 := ((congrArg (fun g9 => fT (fT (fT (fT (fT g9 19 (nI f2142)) 20 sg142) 18 wd142) 21 s2142) 22 p2142) ((fT_sw _ _ _ (Nat.ne_of_beq_eq_false rfl)).trans (congrArg (fun g9 => fT g9 22 z9) ((fT_sw _ _ _ (Nat.ne_of_beq_eq_false rfl)).trans (congrArg (fun g9 => fT g9 21 s9) ((fT_sw _ _ _ (Nat.ne_of_beq_eq_false rfl)).trans (congrArg (fun g9 => fT g9 34 ol5) ((fT_sw _ _ _ (Nat.ne_of_beq_eq_false rfl)).trans (congrArg (fun g9 => fT g9 33 ow5) ((fT_sw _ _ _ (Nat.ne_of_beq_eq_false rfl)).trans (congrArg (fun g9 => fT g9 18 wd136) ((fT_sw _ _ _ (Nat.ne_of_beq_eq_false rfl)).trans (congrArg (fun g9 => fT g9 20 sg136) ((fT_sw _ _ _ (Nat.ne_of_beq_eq_false rfl)).trans (congrArg (fun g9 => fT g9 19 (nI f2136)) (fT_sm _ _ _ _)))))))))))))))).trans ((congrArg (fun g9 => fT (fT (fT (fT g9 20 sg142) 18 wd142) 21 s2142) 22 p2142) ((fT_sw _ _ _ (Nat.ne_of_beq_eq_false rfl)).trans (congrArg (fun g9 => fT g9 22 z9) ((fT_sw _ _ _ (Nat.ne_of_beq_eq_false rfl)).trans (congrArg (fun g9 => fT g9 21 s9) ((fT_sw _ _ _ (Nat.ne_of_beq_eq_false rfl)).trans (congrArg (fun g9 => fT g9 34 ol5) ((fT_sw _ _ _ (Nat.ne_of_beq_eq_false rfl)).trans (congrArg (fun g9 => fT g9 33 ow5) ((fT_sw _ _ _ (Nat.ne_of_beq_eq_false rfl)).trans (congrArg (fun g9 => fT g9 18 wd136) ((fT_sw _ _ _ (Nat.ne_of_beq_eq_false rfl)).trans (congrArg (fun g9 => fT g9 20 sg136) (fT_sm _ _ _ _)))))))))))))).trans ((congrArg (fun g9 => fT (fT (fT g9 18 wd142) 21 s2142) 22 p2142) ((fT_sw _ _ _ (Nat.ne_of_beq_eq_false rfl)).trans (congrArg (fun g9 => fT g9 22 z9) ((fT_sw _ _ _ (Nat.ne_of_beq_eq_false rfl)).trans (congrArg (fun g9 => fT g9 21 s9) ((fT_sw _ _ _ (Nat.ne_of_beq_eq_false rfl)).trans (congrArg (fun g9 => fT g9 34 ol5) ((fT_sw _ _ _ (Nat.ne_of_beq_eq_false rfl)).trans (congrArg (fun g9 => fT g9 33 ow5) ((fT_sw _ _ _ (Nat.ne_of_beq_eq_false rfl)).trans (congrArg (fun g9 => fT g9 18 wd136) (fT_sm _ _ _ _)))))))))))).trans ((congrArg (fun g9 => fT (fT g9 21 s2142) 22 p2142) ((fT_sw _ _ _ (Nat.ne_of_beq_eq_false rfl)).trans (congrArg (fun g9 => fT g9 22 z9) ((fT_sw _ _ _ (Nat.ne_of_beq_eq_false rfl)).trans (congrArg (fun g9 => fT g9 21 s9) ((fT_sw _ _ _ (Nat.ne_of_beq_eq_false rfl)).trans (congrArg (fun g9 => fT g9 34 ol5) ((fT_sw _ _ _ (Nat.ne_of_beq_eq_false rfl)).trans (congrArg (fun g9 => fT g9 33 ow5) (fT_sm _ _ _ _)))))))))).trans ((congrArg (fun g9 => fT g9 22 p2142) ((fT_sw _ _ _ (Nat.ne_of_beq_eq_false rfl)).trans (congrArg (fun g9 => fT g9 22 z9) (fT_sm _ _ _ _)))).trans (fT_sm _ _ _ _)))))).symm
                  rw [← e9] at hP hD
                  clear e9
                  have hP : va_P (dC, dI) vwCl (WR a k h0 (fT (fT (fT (fT (fT (fT (fT (fT vi 17 (nI a2142)) 19 (nI f2142)) 20 sg142) 18 wd142) 33 ow5) 34 ol5) 21 s2142) 22 p2142) vj vF vG) H := hP
                  have hD : va_D A (WR a k h0 (fT (fT (fT (fT (fT (fT (fT (fT vi 17 (nI a2142)) 19 (nI f2142)) 20 sg142) 18 wd142) 33 ow5) 34 ol5) 21 s2142) 22 p2142) vj vF vG) := hD
                  rcases hw9 with ⟨rfl, f142_0, f142_1, f142_2, f142_3⟩ | ⟨rfl, f142_0, f142_1, f142_2⟩
                  · have f142_3 : s9 = 0 := f142_3
                    refine lv_if_ne (tgt := 149) hx hb dX12_readSetOf_145 (by decide) (fun _ => ?_) (fun c9 => absurd c9 (by decide))
                    refine lv_aload_n hx hb dX12_readSetOf_149 rfl (lv_at hl 0 rfl) ?_
                    refine va_get (D := (dC, dI)) (ci := 12) (v := .ref (a 16)) (C := RX12) (T := TX12) (N := 163) (fs := fM (vS a (fT (fT (fT (fT (fT (fT (fT (fT vi 17 (nI a2142)) 19 (nI f2142)) 20 sg142) 18 wd142) 33 ow5) 34 ol5) 21 s2142) 22 p2142) vj)) hx hb hts iwsRX12_readSetOf_in12 hown hK hP 0 rfl rfl 39 (by decide) (hts (.fieldLink RX12 71 "OptimaWorksModel" "setLow" "[I") (by decide +kernel)) (fun _ h9 => h9) rfl dX12_readSetOf_150 ?_
                    refine lv_aload_n hx hb dX12_readSetOf_153 rfl (lv_at hl 0 rfl) ?_
                    refine va_get (D := (dC, dI)) (ci := 12) (v := .int (vi 35)) (C := RX12) (T := TX12) (N := 163) (fs := fM (vS a (fT (fT (fT (fT (fT (fT (fT (fT vi 17 (nI a2142)) 19 (nI f2142)) 20 sg142) 18 wd142) 33 ow5) 34 ol5) 21 s2142) 22 p2142) vj)) hx hb hts iwsRX12_readSetOf_in12 hown hK hP 0 rfl rfl 35 (by decide) (hts (.fieldLink RX12 741 "OptimaWorksModel" "sets" "I") (by decide +kernel)) (fun _ h9 => h9) rfl dX12_readSetOf_154 ?_
                    refine lv_topi (fun y1 hy1 => ?_)
                    obtain rfl : (nI se) = y1 := (hy1.trans (hse9)).symm
                    refine lv_iload_n hx hb dX12_readSetOf_157 rfl (lv_at hl 1 rfl) ?_
                    refine va_iast (cA := k 16) (n := 44) (f := (vF 16)) hx hb hK hP hD hS 17 16 (WR_get 16 (by decide)) (TR_get 16 (by decide)) (vp_in_nI (show se < 44 by omega) (by omega)) dX12_readSetOf_158 (fun H locs hP hD hS => ?_)
                    have hP : va_P (dC, dI) vwCl (WR a k h0 (fT (fT (fT (fT (fT (fT (fT (fT vi 17 (nI a2142)) 19 (nI f2142)) 20 sg142) 18 wd142) 33 ow5) 34 ol5) 21 s2142) 22 p2142) vj (fT vF 16 (upd (vF 16) ((nI se)).toNatClampNeg r16)) vG) H := by rw [← WR_F 16 (by decide) _ rfl]; exact hP
                    have hD : va_D A (WR a k h0 (fT (fT (fT (fT (fT (fT (fT (fT vi 17 (nI a2142)) 19 (nI f2142)) 20 sg142) 18 wd142) 33 ow5) 34 ol5) 21 s2142) 22 p2142) vj (fT vF 16 (upd (vF 16) ((nI se)).toNatClampNeg r16)) vG) := by rw [← WR_F 16 (by decide) _ rfl]; exact hD
                    have hv4b := hv4.resolve_left (by rw [e8]; decide)
                    have e170 : (v4 - r16).toInt = (v4).toInt - (r16).toInt := subB (by omega) (by omega)
                    have e172 : (v4 - r16 + 1).toInt = (v4).toInt - (r16).toInt + 1 := by rw [addB (by omega) (by decide), e170]; rfl
                    refine lv_aload_n hx hb dX12_readSetOf_159 rfl (lv_at hl 0 rfl) ?_
                    refine va_get (D := (dC, dI)) (ci := 12) (v := .ref (a 17)) (C := RX12) (T := TX12) (N := 163) (fs := fM (vS a (fT (fT (fT (fT (fT (fT (fT (fT vi 17 (nI a2142)) 19 (nI f2142)) 20 sg142) 18 wd142) 33 ow5) 34 ol5) 21 s2142) 22 p2142) vj)) hx hb hts iwsRX12_readSetOf_in12 hown hK hP 0 rfl rfl 40 (by decide) (hts (.fieldLink RX12 74 "OptimaWorksModel" "setMany" "[I") (by decide +kernel)) (fun _ h9 => h9) rfl dX12_readSetOf_160 ?_
                    refine lv_aload_n hx hb dX12_readSetOf_163 rfl (lv_at hl 0 rfl) ?_
                    refine va_get (D := (dC, dI)) (ci := 12) (v := .int (vi 35)) (C := RX12) (T := TX12) (N := 163) (fs := fM (vS a (fT (fT (fT (fT (fT (fT (fT (fT vi 17 (nI a2142)) 19 (nI f2142)) 20 sg142) 18 wd142) 33 ow5) 34 ol5) 21 s2142) 22 p2142) vj)) hx hb hts iwsRX12_readSetOf_in12 hown hK hP 0 rfl rfl 35 (by decide) (hts (.fieldLink RX12 741 "OptimaWorksModel" "sets" "I") (by decide +kernel)) (fun _ h9 => h9) rfl dX12_readSetOf_164 ?_
                    refine lv_topi (fun y2 hy2 => ?_)
                    obtain rfl : (nI se) = y2 := (hy2.trans (hse9)).symm
                    refine lv_iload hx hb dX12_readSetOf_167 (lv_at hl 4 rfl) ?_
                    refine lv_iload_n hx hb dX12_readSetOf_169 rfl (lv_at hl 1 rfl) ?_
                    refine lv_isub hx hb dX12_readSetOf_170 ?_
                    refine lv_iconst (v := 1) hx hb dX12_readSetOf_171 (by decide) ?_
                    refine lv_iadd hx hb dX12_readSetOf_172 ?_
                    refine va_iast (cA := k 17) (n := 44) (f := (vF 17)) hx hb hK hP hD hS 18 17 (WR_get 17 (by decide)) (TR_get 17 (by decide)) (vp_in_nI (show se < 44 by omega) (by omega)) dX12_readSetOf_173 (fun H locs hP hD hS => ?_)
                    have hP : va_P (dC, dI) vwCl (WR a k h0 (fT (fT (fT (fT (fT (fT (fT (fT vi 17 (nI a2142)) 19 (nI f2142)) 20 sg142) 18 wd142) 33 ow5) 34 ol5) 21 s2142) 22 p2142) vj (fT (fT vF 16 (upd (vF 16) ((nI se)).toNatClampNeg r16)) 17 (upd (vF 17) ((nI se)).toNatClampNeg ((v4 - r16) + 1))) vG) H := by rw [← WR_F 17 (by decide) _ rfl]; exact hP
                    have hD : va_D A (WR a k h0 (fT (fT (fT (fT (fT (fT (fT (fT vi 17 (nI a2142)) 19 (nI f2142)) 20 sg142) 18 wd142) 33 ow5) 34 ol5) 21 s2142) 22 p2142) vj (fT (fT vF 16 (upd (vF 16) ((nI se)).toNatClampNeg r16)) 17 (upd (vF 17) ((nI se)).toNatClampNeg ((v4 - r16) + 1))) vG) := by rw [← WR_F 17 (by decide) _ rfl]; exact hD
                    refine lv_aload_n hx hb dX12_readSetOf_174 rfl (lv_at hl 0 rfl) ?_
                    refine lv_iconst (v := 1) hx hb dX12_readSetOf_175 (by decide) ?_
                    refine lv_aload_n hx hb dX12_readSetOf_176 rfl (lv_at hl 0 rfl) ?_
                    refine va_get (D := (dC, dI)) (ci := 12) (v := .int (vi 35)) (C := RX12) (T := TX12) (N := 163) (fs := fM (vS a (fT (fT (fT (fT (fT (fT (fT (fT vi 17 (nI a2142)) 19 (nI f2142)) 20 sg142) 18 wd142) 33 ow5) 34 ol5) 21 s2142) 22 p2142) vj)) hx hb hts iwsRX12_readSetOf_in12 hown hK hP 0 rfl rfl 35 (by decide) (hts (.fieldLink RX12 741 "OptimaWorksModel" "sets" "I") (by decide +kernel)) (fun _ h9 => h9) rfl dX12_readSetOf_177 ?_
                    refine lv_topi (fun y3 hy3 => ?_)
                    obtain rfl : (nI se) = y3 := (hy3.trans (hse9)).symm
                    have hFc := allFree hD hS hA
                    refine va_callv (va_runV (As := [.int 1, .int (nI se)]) (rest := []) ⟨hx, hb, hml, hown, hts⟩ (r_X12_declare l dC dI a k h0 (fT (fT (fT (fT (fT (fT (fT (fT vi 17 (nI a2142)) 19 (nI f2142)) 20 sg142) 18 wd142) 33 ow5) 34 ol5) 21 s2142) 22 p2142) vj (fT (fT vF 16 (upd (vF 16) ((nI se)).toNatClampNeg r16)) 17 (upd (vF 17) ((nI se)).toNatClampNeg ((v4 - r16) + 1))) vG 1 (nI se) nm hnm (by first | assumption | decide | omega | rfl) H.size) (cwV 2 hts gwsRX12_readSetOf_7 rfl rfl rfl (by decide +kernel) ⟨by decide +kernel, by decide +kernel⟩) ⟨fun a U g mk q => by obtain ⟨q0, q1, qP, qK, qD⟩ := q; exact ⟨q0, q1, qP, va_K.moved (u := U) (U := U.calling g mk a) (Vm.Alike.refl U.vm) qK, qD⟩, va_recv hK hP (ci := 12) (q0 := 0) rfl rfl, fun U hU9 hW => ⟨rfl, by rw [hU9], by rw [hU9]; exact hP, va_K.moved hW.alike hK, hD.weaken (fun _ _ _ _ => trivial)⟩⟩ rfl rfl hl.1 rfl (lv_room (Nat.le_of_ble_eq_true rfl)) dX12_readSetOf_180 ⟨by decide +kernel, by decide +kernel⟩) hS (fun q _ h => hFc q h) hFc (fun u t9_ H1 locs ht hvm hw9 hB9 hz1 hk1 hS => ?_)
                    obtain ⟨hP1, hD1⟩ := hB9
                    rw [ht] at hP1
                    have hP := hP1
                    have hD := hD1.weaken (fun _ q _ h => hFc q.1 h)
                    generalize H1 = H at hP hS ⊢
                    have hP : va_P (dC, dI) vwCl (WR a k h0 (fT (fT (fT (fT (fT (fT (fT (fT (fT vi 17 (nI a2142)) 19 (nI f2142)) 20 sg142) 18 wd142) 33 ow5) 34 ol5) 21 s2142) 22 p2142) 25 (nI (nm + 1))) vj (fT (fT (fT (fT (fT (fT vF 16 (upd (vF 16) ((nI se)).toNatClampNeg r16)) 17 (upd (vF 17) ((nI se)).toNatClampNeg ((v4 - r16) + 1))) 10 (upd (vF 10) (nI nm).toNatClampNeg 1)) 11 (upd (vF 11) (nI nm).toNatClampNeg ow5)) 12 (upd (vF 12) (nI nm).toNatClampNeg ol5)) 13 (upd (vF 13) (nI nm).toNatClampNeg (nI se))) vG) H := hP
                    have hD : va_D A (WR a k h0 (fT (fT (fT (fT (fT (fT (fT (fT (fT vi 17 (nI a2142)) 19 (nI f2142)) 20 sg142) 18 wd142) 33 ow5) 34 ol5) 21 s2142) 22 p2142) 25 (nI (nm + 1))) vj (fT (fT (fT (fT (fT (fT vF 16 (upd (vF 16) ((nI se)).toNatClampNeg r16)) 17 (upd (vF 17) ((nI se)).toNatClampNeg ((v4 - r16) + 1))) 10 (upd (vF 10) (nI nm).toNatClampNeg 1)) 11 (upd (vF 11) (nI nm).toNatClampNeg ow5)) 12 (upd (vF 12) (nI nm).toNatClampNeg ol5)) 13 (upd (vF 13) (nI nm).toNatClampNeg (nI se))) vG) := hD
                    refine lv_aload_n hx hb dX12_readSetOf_183 rfl (lv_at hl 0 rfl) ?_
                    refine lv_dup hx hb dX12_readSetOf_184 rfl ?_
                    refine va_get (D := (dC, dI)) (ci := 12) (v := .int (vi 35)) (C := RX12) (T := TX12) (N := 163) (fs := fM (vS a (fT (fT (fT (fT (fT (fT (fT (fT (fT vi 17 (nI a2142)) 19 (nI f2142)) 20 sg142) 18 wd142) 33 ow5) 34 ol5) 21 s2142) 22 p2142) 25 (nI (nm + 1))) vj)) hx hb hts iwsRX12_readSetOf_in12 hown hK hP 0 rfl rfl 35 (by decide) (hts (.fieldLink RX12 741 "OptimaWorksModel" "sets" "I") (by decide +kernel)) (fun _ h9 => h9) rfl dX12_readSetOf_185 ?_
                    refine lv_topi (fun y4 hy4 => ?_)
                    obtain rfl : (nI se) = y4 := (hy4.trans (hse9)).symm
                    refine lv_iconst (v := 1) hx hb dX12_readSetOf_188 (by decide) ?_
                    refine lv_iadd hx hb dX12_readSetOf_189 ?_
                    refine lv_topi (fun y5 hy5 => ?_)
                    obtain rfl : (nI (se + 1)) = y5 := (hy5.trans (nI_add se 1)).symm
                    refine va_put (D := (dC, dI)) (ci := 12) (v := .int (nI (se + 1))) (ty := .int) (C := RX12) (T := TX12) (N := 163) (fs := fM (vS a (fT (fT (fT (fT (fT (fT (fT (fT (fT vi 17 (nI a2142)) 19 (nI f2142)) 20 sg142) 18 wd142) 33 ow5) 34 ol5) 21 s2142) 22 p2142) 25 (nI (nm + 1))) vj)) hx hb hts iwsRX12_readSetOf_in12 tyX12 tyX12_ok nmX12 hown hK hP hD hS 0 rfl rfl 35 (by decide) (hts (.fieldLink RX12 741 "OptimaWorksModel" "sets" "I") (by decide +kernel)) (fun _ h9 => h9) rfl (by decide +kernel) rfl rfl (Nat.le_of_ble_eq_true rfl) dX12_readSetOf_190 (fun H locs hP hD hS => ?_)
                    have hP : va_P (dC, dI) vwCl (WR a k h0 (fT (fT (fT (fT (fT (fT (fT (fT (fT (fT vi 17 (nI a2142)) 19 (nI f2142)) 20 sg142) 18 wd142) 33 ow5) 34 ol5) 21 s2142) 22 p2142) 25 (nI (nm + 1))) 35 (nI (se + 1))) vj (fT (fT (fT (fT (fT (fT vF 16 (upd (vF 16) ((nI se)).toNatClampNeg r16)) 17 (upd (vF 17) ((nI se)).toNatClampNeg ((v4 - r16) + 1))) 10 (upd (vF 10) (nI nm).toNatClampNeg 1)) 11 (upd (vF 11) (nI nm).toNatClampNeg ow5)) 12 (upd (vF 12) (nI nm).toNatClampNeg ol5)) 13 (upd (vF 13) (nI nm).toNatClampNeg (nI se))) vG) H := by rw [← WR_i 35 _ rfl]; exact hP
                    have hD : va_D A (WR a k h0 (fT (fT (fT (fT (fT (fT (fT (fT (fT (fT vi 17 (nI a2142)) 19 (nI f2142)) 20 sg142) 18 wd142) 33 ow5) 34 ol5) 21 s2142) 22 p2142) 25 (nI (nm + 1))) 35 (nI (se + 1))) vj (fT (fT (fT (fT (fT (fT vF 16 (upd (vF 16) ((nI se)).toNatClampNeg r16)) 17 (upd (vF 17) ((nI se)).toNatClampNeg ((v4 - r16) + 1))) 10 (upd (vF 10) (nI nm).toNatClampNeg 1)) 11 (upd (vF 11) (nI nm).toNatClampNeg ow5)) 12 (upd (vF 12) (nI nm).toNatClampNeg ol5)) 13 (upd (vF 13) (nI nm).toNatClampNeg (nI se))) vG) := by rw [← WR_i 35 _ rfl]; exact hD
                    refine W.widen (k := 0) (n := 0) (by decide +kernel) (by decide +kernel) ?_
                    exact W.vret hx hb hr (fun t9_ ht hW => ⟨⟨(a2142, f2142, sg142, wd142, s2142, p2142, ow5, ol5, (upd (vF 10) (nI nm).toNatClampNeg 1), (upd (vF 11) (nI nm).toNatClampNeg ow5), (upd (vF 12) (nI nm).toNatClampNeg ol5), (upd (vF 13) (nI nm).toNatClampNeg (nI se)), (upd (vF 16) ((nI se)).toNatClampNeg r16), (upd (vF 17) ((nI se)).toNatClampNeg ((v4 - r16) + 1)), (nm + 1), (se + 1)), rfl, by (try dsimp only); exact ⟨f142_1, by omega, by rw [f142_0]; decide, Or.inr ⟨by omega, by (obtain ⟨m9, hm9, em9⟩ := of_toInt (x := v4 - r16 + 1) (k := 13) (by omega) (by omega)); exact hGl.set hn40 exO eyO hxy em9 (by (have h8 := congrArg Int32.toInt em9); rw [nI_toInt (by omega)] at h8; omega) f16_3⟩⟩, by rw [ht]; exact hP, hD⟩, hS.F ht⟩) hS.2.2 dX12_readSetOf_193
                  · refine lv_if_ne (tgt := 149) hx hb dX12_readSetOf_145 (by decide) (fun c9 => absurd c9 (by decide)) (fun _ => ?_)
                    refine W.widen (k := 0) (n := 0) (by decide +kernel) (by decide +kernel) ?_
                    have e9 : fT (fT (fT (fT (fT (fT (fT (fT (fT (fT vi 17 (nI a2142)) 19 (nI f2142)) 20 sg142) 18 wd142) 33 ow5) 34 ol5) 21 s2142) 22 p2142) 25 (nI nm)) 35 (nI se) = fT (fT (fT (fT (fT (fT (fT (fT vi 17 (nI a2142)) 19 (nI f2142)) 20 sg142) 18 wd142) 33 ow5) 34 ol5) 21 s2142) 22 p2142 := by funext q9; by_cases h9_17 : q9 = 17; (subst h9_17; exact ((fT_ne _ _ (Nat.ne_of_beq_eq_false rfl)).trans ((fT_ne _ _ (Nat.ne_of_beq_eq_false rfl)).trans ((fT_ne _ _ (Nat.ne_of_beq_eq_false rfl)).trans ((fT_ne _ _ (Nat.ne_of_beq_eq_false rfl)).trans ((fT_ne _ _ (Nat.ne_of_beq_eq_false rfl)).trans ((fT_ne _ _ (Nat.ne_of_beq_eq_false rfl)).trans ((fT_ne _ _ (Nat.ne_of_beq_eq_false rfl)).trans ((fT_ne _ _ (Nat.ne_of_beq_eq_false rfl)).trans ((fT_ne _ _ (Nat.ne_of_beq_eq_false rfl)).trans (fT_eq _ _ _)))))))))).trans (Eq.trans (by first | rfl | assumption | (symm; assumption) | (subst_vars; rfl)) ((fT_ne _ _ (Nat.ne_of_beq_eq_false rfl)).trans ((fT_ne _ _ (Nat.ne_of_beq_eq_false rfl)).trans ((fT_ne _ _ (Nat.ne_of_beq_eq_false rfl)).trans ((fT_ne _ _ (Nat.ne_of_beq_eq_false rfl)).trans ((fT_ne _ _ (Nat.ne_of_beq_eq_false rfl)).trans ((fT_ne _ _ (Nat.ne_of_beq_eq_false rfl)).trans ((fT_ne _ _ (Nat.ne_of_beq_eq_false rfl)).trans (fT_eq _ _ _)))))))).symm)); by_cases h9_19 : q9 = 19; (subst h9_19; exact ((fT_ne _ _ (Nat.ne_of_beq_eq_false rfl)).trans ((fT_ne _ _ (Nat.ne_of_beq_eq_false rfl)).trans ((fT_ne _ _ (Nat.ne_of_beq_eq_false rfl)).trans ((fT_ne _ _ (Nat.ne_of_beq_eq_false rfl)).trans ((fT_ne _ _ (Nat.ne_of_beq_eq_false rfl)).trans ((fT_ne _ _ (Nat.ne_of_beq_eq_false rfl)).trans ((fT_ne _ _ (Nat.ne_of_beq_eq_false rfl)).trans ((fT_ne _ _ (Nat.ne_of_beq_eq_false rfl)).trans (fT_eq _ _ _))))))))).trans (Eq.trans (by first | rfl | assumption | (symm; assumption) | (subst_vars; rfl)) ((fT_ne _ _ (Nat.ne_of_beq_eq_false rfl)).trans ((fT_ne _ _ (Nat.ne_of_beq_eq_false rfl)).trans ((fT_ne _ _ (Nat.ne_of_beq_eq_false rfl)).trans ((fT_ne _ _ (Nat.ne_of_beq_eq_false rfl)).trans ((fT_ne _ _ (Nat.ne_of_beq_eq_false rfl)).trans ((fT_ne _ _ (Nat.ne_of_beq_eq_false rfl)).trans (fT_eq _ _ _))))))).symm)); by_cases h9_20 : q9 = 20; (subst h9_20; exact ((fT_ne _ _ (Nat.ne_of_beq_eq_false rfl)).trans ((fT_ne _ _ (Nat.ne_of_beq_eq_false rfl)).trans ((fT_ne _ _ (Nat.ne_of_beq_eq_false rfl)).trans ((fT_ne _ _ (Nat.ne_of_beq_eq_false rfl)).trans ((fT_ne _ _ (Nat.ne_of_beq_eq_false rfl)).trans ((fT_ne _ _ (Nat.ne_of_beq_eq_false rfl)).trans ((fT_ne _ _ (Nat.ne_of_beq_eq_false rfl)).trans (fT_eq _ _ _)))))))).trans (Eq.trans (by first | rfl | assumption | (symm; assumption) | (subst_vars; rfl)) ((fT_ne _ _ (Nat.ne_of_beq_eq_false rfl)).trans ((fT_ne _ _ (Nat.ne_of_beq_eq_false rfl)).trans ((fT_ne _ _ (Nat.ne_of_beq_eq_false rfl)).trans ((fT_ne _ _ (Nat.ne_of_beq_eq_false rfl)).trans ((fT_ne _ _ (Nat.ne_of_beq_eq_false rfl)).trans (fT_eq _ _ _)))))).symm)); by_cases h9_18 : q9 = 18; (subst h9_18; exact ((fT_ne _ _ (Nat.ne_of_beq_eq_false rfl)).trans ((fT_ne _ _ (Nat.ne_of_beq_eq_false rfl)).trans ((fT_ne _ _ (Nat.ne_of_beq_eq_false rfl)).trans ((fT_ne _ _ (Nat.ne_of_beq_eq_false rfl)).trans ((fT_ne _ _ (Nat.ne_of_beq_eq_false rfl)).trans ((fT_ne _ _ (Nat.ne_of_beq_eq_false rfl)).trans (fT_eq _ _ _))))))).trans (Eq.trans (by first | rfl | assumption | (symm; assumption) | (subst_vars; rfl)) ((fT_ne _ _ (Nat.ne_of_beq_eq_false rfl)).trans ((fT_ne _ _ (Nat.ne_of_beq_eq_false rfl)).trans ((fT_ne _ _ (Nat.ne_of_beq_eq_false rfl)).trans ((fT_ne _ _ (Nat.ne_of_beq_eq_false rfl)).trans (fT_eq _ _ _))))).symm)); by_cases h9_33 : q9 = 33; (subst h9_33; exact ((fT_ne _ _ (Nat.ne_of_beq_eq_false rfl)).trans ((fT_ne _ _ (Nat.ne_of_beq_eq_false rfl)).trans ((fT_ne _ _ (Nat.ne_of_beq_eq_false rfl)).trans ((fT_ne _ _ (Nat.ne_of_beq_eq_false rfl)).trans ((fT_ne _ _ (Nat.ne_of_beq_eq_false rfl)).trans (fT_eq _ _ _)))))).trans (Eq.trans (by first | rfl | assumption | (symm; assumption) | (subst_vars; rfl)) ((fT_ne _ _ (Nat.ne_of_beq_eq_false rfl)).trans ((fT_ne _ _ (Nat.ne_of_beq_eq_false rfl)).trans ((fT_ne _ _ (Nat.ne_of_beq_eq_false rfl)).trans (fT_eq _ _ _)))).symm)); by_cases h9_34 : q9 = 34; (subst h9_34; exact ((fT_ne _ _ (Nat.ne_of_beq_eq_false rfl)).trans ((fT_ne _ _ (Nat.ne_of_beq_eq_false rfl)).trans ((fT_ne _ _ (Nat.ne_of_beq_eq_false rfl)).trans ((fT_ne _ _ (Nat.ne_of_beq_eq_false rfl)).trans (fT_eq _ _ _))))).trans (Eq.trans (by first | rfl | assumption | (symm; assumption) | (subst_vars; rfl)) ((fT_ne _ _ (Nat.ne_of_beq_eq_false rfl)).trans ((fT_ne _ _ (Nat.ne_of_beq_eq_false rfl)).trans (fT_eq _ _ _))).symm)); by_cases h9_21 : q9 = 21; (subst h9_21; exact ((fT_ne _ _ (Nat.ne_of_beq_eq_false rfl)).trans ((fT_ne _ _ (Nat.ne_of_beq_eq_false rfl)).trans ((fT_ne _ _ (Nat.ne_of_beq_eq_false rfl)).trans (fT_eq _ _ _)))).trans (Eq.trans (by first | rfl | assumption | (symm; assumption) | (subst_vars; rfl)) ((fT_ne _ _ (Nat.ne_of_beq_eq_false rfl)).trans (fT_eq _ _ _)).symm)); by_cases h9_22 : q9 = 22; (subst h9_22; exact ((fT_ne _ _ (Nat.ne_of_beq_eq_false rfl)).trans ((fT_ne _ _ (Nat.ne_of_beq_eq_false rfl)).trans (fT_eq _ _ _))).trans (Eq.trans (by first | rfl | assumption | (symm; assumption) | (subst_vars; rfl)) (fT_eq _ _ _).symm)); by_cases h9_25 : q9 = 25; (subst h9_25; exact ((fT_ne _ _ (Nat.ne_of_beq_eq_false rfl)).trans (fT_eq _ _ _)).trans (Eq.trans (by first | rfl | assumption | (symm; assumption) | (subst_vars; rfl)) ((fT_ne _ _ (Nat.ne_of_beq_eq_false rfl)).trans ((fT_ne _ _ (Nat.ne_of_beq_eq_false rfl)).trans ((fT_ne _ _ (Nat.ne_of_beq_eq_false rfl)).trans ((fT_ne _ _ (Nat.ne_of_beq_eq_false rfl)).trans ((fT_ne _ _ (Nat.ne_of_beq_eq_false rfl)).trans ((fT_ne _ _ (Nat.ne_of_beq_eq_false rfl)).trans ((fT_ne _ _ (Nat.ne_of_beq_eq_false rfl)).trans (fT_ne _ _ (Nat.ne_of_beq_eq_false rfl))))))))).symm)); by_cases h9_35 : q9 = 35; (subst h9_35; exact (fT_eq _ _ _).trans (Eq.trans (by first | rfl | assumption | (symm; assumption) | (subst_vars; rfl)) ((fT_ne _ _ (Nat.ne_of_beq_eq_false rfl)).trans ((fT_ne _ _ (Nat.ne_of_beq_eq_false rfl)).trans ((fT_ne _ _ (Nat.ne_of_beq_eq_false rfl)).trans ((fT_ne _ _ (Nat.ne_of_beq_eq_false rfl)).trans ((fT_ne _ _ (Nat.ne_of_beq_eq_false rfl)).trans ((fT_ne _ _ (Nat.ne_of_beq_eq_false rfl)).trans ((fT_ne _ _ (Nat.ne_of_beq_eq_false rfl)).trans (fT_ne _ _ (Nat.ne_of_beq_eq_false rfl))))))))).symm)); exact ((fT_ne _ _ h9_35).trans ((fT_ne _ _ h9_25).trans ((fT_ne _ _ h9_22).trans ((fT_ne _ _ h9_21).trans ((fT_ne _ _ h9_34).trans ((fT_ne _ _ h9_33).trans ((fT_ne _ _ h9_18).trans ((fT_ne _ _ h9_20).trans ((fT_ne _ _ h9_19).trans (fT_ne _ _ h9_17)))))))))).trans ((fT_ne _ _ h9_22).trans ((fT_ne _ _ h9_21).trans ((fT_ne _ _ h9_34).trans ((fT_ne _ _ h9_33).trans ((fT_ne _ _ h9_18).trans ((fT_ne _ _ h9_20).trans ((fT_ne _ _ h9_19).trans (fT_ne _ _ h9_17)))))))).symm
                    have hP : va_P (dC, dI) vwCl (WR a k h0 (fT (fT (fT (fT (fT (fT (fT (fT (fT (fT vi 17 (nI a2142)) 19 (nI f2142)) 20 sg142) 18 wd142) 33 ow5) 34 ol5) 21 s2142) 22 p2142) 25 (nI nm)) 35 (nI se)) vj vF vG) H := by rw [e9]; exact hP
                    have hD : va_D A (WR a k h0 (fT (fT (fT (fT (fT (fT (fT (fT (fT (fT vi 17 (nI a2142)) 19 (nI f2142)) 20 sg142) 18 wd142) 33 ow5) 34 ol5) 21 s2142) 22 p2142) 25 (nI nm)) 35 (nI se)) vj vF vG) := by rw [e9]; exact hD
                    clear e9
                    have e9 : fT (fT (fT (fT (fT (fT vF 16 (vF 16)) 17 (vF 17)) 10 (vF 10)) 11 (vF 11)) 12 (vF 12)) 13 (vF 13) = vF := (fT_id _ _ ((fT_ne _ _ (Nat.ne_of_beq_eq_false rfl)).trans ((fT_ne _ _ (Nat.ne_of_beq_eq_false rfl)).trans ((fT_ne _ _ (Nat.ne_of_beq_eq_false rfl)).trans ((fT_ne _ _ (Nat.ne_of_beq_eq_false rfl)).trans (fT_ne _ _ (Nat.ne_of_beq_eq_false rfl))))))).trans ((fT_id _ _ ((fT_ne _ _ (Nat.ne_of_beq_eq_false rfl)).trans ((fT_ne _ _ (Nat.ne_of_beq_eq_false rfl)).trans ((fT_ne _ _ (Nat.ne_of_beq_eq_false rfl)).trans (fT_ne _ _ (Nat.ne_of_beq_eq_false rfl)))))).trans ((fT_id _ _ ((fT_ne _ _ (Nat.ne_of_beq_eq_false rfl)).trans ((fT_ne _ _ (Nat.ne_of_beq_eq_false rfl)).trans (fT_ne _ _ (Nat.ne_of_beq_eq_false rfl))))).trans ((fT_id _ _ ((fT_ne _ _ (Nat.ne_of_beq_eq_false rfl)).trans (fT_ne _ _ (Nat.ne_of_beq_eq_false rfl)))).trans ((fT_id _ _ (fT_ne _ _ (Nat.ne_of_beq_eq_false rfl))).trans (fT_id _ _ (rfl))))))
                    have hP : va_P (dC, dI) vwCl (WR a k h0 (fT (fT (fT (fT (fT (fT (fT (fT (fT (fT vi 17 (nI a2142)) 19 (nI f2142)) 20 sg142) 18 wd142) 33 ow5) 34 ol5) 21 s2142) 22 p2142) 25 (nI nm)) 35 (nI se)) vj (fT (fT (fT (fT (fT (fT vF 16 (vF 16)) 17 (vF 17)) 10 (vF 10)) 11 (vF 11)) 12 (vF 12)) 13 (vF 13)) vG) H := by rw [e9]; exact hP
                    have hD : va_D A (WR a k h0 (fT (fT (fT (fT (fT (fT (fT (fT (fT (fT vi 17 (nI a2142)) 19 (nI f2142)) 20 sg142) 18 wd142) 33 ow5) 34 ol5) 21 s2142) 22 p2142) 25 (nI nm)) 35 (nI se)) vj (fT (fT (fT (fT (fT (fT vF 16 (vF 16)) 17 (vF 17)) 10 (vF 10)) 11 (vF 11)) 12 (vF 12)) 13 (vF 13)) vG) := by rw [e9]; exact hD
                    clear e9
                    exact W.vret hx hb hr (fun t9_ ht hW => ⟨⟨(a2142, f2142, sg142, wd142, s2142, p2142, ow5, ol5, (vF 10), (vF 11), (vF 12), (vF 13), (vF 16), (vF 17), nm, se), rfl, by (try dsimp only); exact ⟨f142_1, by omega, by omega, Or.inl f142_0⟩, by rw [ht]; exact hP, hD⟩, hS.F ht⟩) hS.2.2 dX12_readSetOf_148
                · have t_131 : ¬ (s9).toInt ≤ 0 := toI_nle c_131 rfl (by decide)
                  refine W.widen (k := 0) (n := 0) (by decide +kernel) (by decide +kernel) ?_
                  have e9 : fT (fT (fT (fT (fT (fT (fT (fT (fT (fT vi 17 (nI ad)) 19 (nI fd)) 20 qd) 18 wd9) 33 ow5) 34 ol5) 21 s9) 22 z9) 25 (nI nm)) 35 (nI se) = fT (fT (fT (fT (fT (fT (fT (fT vi 17 (nI ad)) 19 (nI fd)) 20 qd) 18 wd9) 33 ow5) 34 ol5) 21 s9) 22 z9 := by funext q9; by_cases h9_17 : q9 = 17; (subst h9_17; exact ((fT_ne _ _ (Nat.ne_of_beq_eq_false rfl)).trans ((fT_ne _ _ (Nat.ne_of_beq_eq_false rfl)).trans ((fT_ne _ _ (Nat.ne_of_beq_eq_false rfl)).trans ((fT_ne _ _ (Nat.ne_of_beq_eq_false rfl)).trans ((fT_ne _ _ (Nat.ne_of_beq_eq_false rfl)).trans ((fT_ne _ _ (Nat.ne_of_beq_eq_false rfl)).trans ((fT_ne _ _ (Nat.ne_of_beq_eq_false rfl)).trans ((fT_ne _ _ (Nat.ne_of_beq_eq_false rfl)).trans ((fT_ne _ _ (Nat.ne_of_beq_eq_false rfl)).trans (fT_eq _ _ _)))))))))).trans (Eq.trans (by first | rfl | assumption | (symm; assumption) | (subst_vars; rfl)) ((fT_ne _ _ (Nat.ne_of_beq_eq_false rfl)).trans ((fT_ne _ _ (Nat.ne_of_beq_eq_false rfl)).trans ((fT_ne _ _ (Nat.ne_of_beq_eq_false rfl)).trans ((fT_ne _ _ (Nat.ne_of_beq_eq_false rfl)).trans ((fT_ne _ _ (Nat.ne_of_beq_eq_false rfl)).trans ((fT_ne _ _ (Nat.ne_of_beq_eq_false rfl)).trans ((fT_ne _ _ (Nat.ne_of_beq_eq_false rfl)).trans (fT_eq _ _ _)))))))).symm)); by_cases h9_19 : q9 = 19; (subst h9_19; exact ((fT_ne _ _ (Nat.ne_of_beq_eq_false rfl)).trans ((fT_ne _ _ (Nat.ne_of_beq_eq_false rfl)).trans ((fT_ne _ _ (Nat.ne_of_beq_eq_false rfl)).trans ((fT_ne _ _ (Nat.ne_of_beq_eq_false rfl)).trans ((fT_ne _ _ (Nat.ne_of_beq_eq_false rfl)).trans ((fT_ne _ _ (Nat.ne_of_beq_eq_false rfl)).trans ((fT_ne _ _ (Nat.ne_of_beq_eq_false rfl)).trans ((fT_ne _ _ (Nat.ne_of_beq_eq_false rfl)).trans (fT_eq _ _ _))))))))).trans (Eq.trans (by first | rfl | assumption | (symm; assumption) | (subst_vars; rfl)) ((fT_ne _ _ (Nat.ne_of_beq_eq_false rfl)).trans ((fT_ne _ _ (Nat.ne_of_beq_eq_false rfl)).trans ((fT_ne _ _ (Nat.ne_of_beq_eq_false rfl)).trans ((fT_ne _ _ (Nat.ne_of_beq_eq_false rfl)).trans ((fT_ne _ _ (Nat.ne_of_beq_eq_false rfl)).trans ((fT_ne _ _ (Nat.ne_of_beq_eq_false rfl)).trans (fT_eq _ _ _))))))).symm)); by_cases h9_20 : q9 = 20; (subst h9_20; exact ((fT_ne _ _ (Nat.ne_of_beq_eq_false rfl)).trans ((fT_ne _ _ (Nat.ne_of_beq_eq_false rfl)).trans ((fT_ne _ _ (Nat.ne_of_beq_eq_false rfl)).trans ((fT_ne _ _ (Nat.ne_of_beq_eq_false rfl)).trans ((fT_ne _ _ (Nat.ne_of_beq_eq_false rfl)).trans ((fT_ne _ _ (Nat.ne_of_beq_eq_false rfl)).trans ((fT_ne _ _ (Nat.ne_of_beq_eq_false rfl)).trans (fT_eq _ _ _)))))))).trans (Eq.trans (by first | rfl | assumption | (symm; assumption) | (subst_vars; rfl)) ((fT_ne _ _ (Nat.ne_of_beq_eq_false rfl)).trans ((fT_ne _ _ (Nat.ne_of_beq_eq_false rfl)).trans ((fT_ne _ _ (Nat.ne_of_beq_eq_false rfl)).trans ((fT_ne _ _ (Nat.ne_of_beq_eq_false rfl)).trans ((fT_ne _ _ (Nat.ne_of_beq_eq_false rfl)).trans (fT_eq _ _ _)))))).symm)); by_cases h9_18 : q9 = 18; (subst h9_18; exact ((fT_ne _ _ (Nat.ne_of_beq_eq_false rfl)).trans ((fT_ne _ _ (Nat.ne_of_beq_eq_false rfl)).trans ((fT_ne _ _ (Nat.ne_of_beq_eq_false rfl)).trans ((fT_ne _ _ (Nat.ne_of_beq_eq_false rfl)).trans ((fT_ne _ _ (Nat.ne_of_beq_eq_false rfl)).trans ((fT_ne _ _ (Nat.ne_of_beq_eq_false rfl)).trans (fT_eq _ _ _))))))).trans (Eq.trans (by first | rfl | assumption | (symm; assumption) | (subst_vars; rfl)) ((fT_ne _ _ (Nat.ne_of_beq_eq_false rfl)).trans ((fT_ne _ _ (Nat.ne_of_beq_eq_false rfl)).trans ((fT_ne _ _ (Nat.ne_of_beq_eq_false rfl)).trans ((fT_ne _ _ (Nat.ne_of_beq_eq_false rfl)).trans (fT_eq _ _ _))))).symm)); by_cases h9_33 : q9 = 33; (subst h9_33; exact ((fT_ne _ _ (Nat.ne_of_beq_eq_false rfl)).trans ((fT_ne _ _ (Nat.ne_of_beq_eq_false rfl)).trans ((fT_ne _ _ (Nat.ne_of_beq_eq_false rfl)).trans ((fT_ne _ _ (Nat.ne_of_beq_eq_false rfl)).trans ((fT_ne _ _ (Nat.ne_of_beq_eq_false rfl)).trans (fT_eq _ _ _)))))).trans (Eq.trans (by first | rfl | assumption | (symm; assumption) | (subst_vars; rfl)) ((fT_ne _ _ (Nat.ne_of_beq_eq_false rfl)).trans ((fT_ne _ _ (Nat.ne_of_beq_eq_false rfl)).trans ((fT_ne _ _ (Nat.ne_of_beq_eq_false rfl)).trans (fT_eq _ _ _)))).symm)); by_cases h9_34 : q9 = 34; (subst h9_34; exact ((fT_ne _ _ (Nat.ne_of_beq_eq_false rfl)).trans ((fT_ne _ _ (Nat.ne_of_beq_eq_false rfl)).trans ((fT_ne _ _ (Nat.ne_of_beq_eq_false rfl)).trans ((fT_ne _ _ (Nat.ne_of_beq_eq_false rfl)).trans (fT_eq _ _ _))))).trans (Eq.trans (by first | rfl | assumption | (symm; assumption) | (subst_vars; rfl)) ((fT_ne _ _ (Nat.ne_of_beq_eq_false rfl)).trans ((fT_ne _ _ (Nat.ne_of_beq_eq_false rfl)).trans (fT_eq _ _ _))).symm)); by_cases h9_21 : q9 = 21; (subst h9_21; exact ((fT_ne _ _ (Nat.ne_of_beq_eq_false rfl)).trans ((fT_ne _ _ (Nat.ne_of_beq_eq_false rfl)).trans ((fT_ne _ _ (Nat.ne_of_beq_eq_false rfl)).trans (fT_eq _ _ _)))).trans (Eq.trans (by first | rfl | assumption | (symm; assumption) | (subst_vars; rfl)) ((fT_ne _ _ (Nat.ne_of_beq_eq_false rfl)).trans (fT_eq _ _ _)).symm)); by_cases h9_22 : q9 = 22; (subst h9_22; exact ((fT_ne _ _ (Nat.ne_of_beq_eq_false rfl)).trans ((fT_ne _ _ (Nat.ne_of_beq_eq_false rfl)).trans (fT_eq _ _ _))).trans (Eq.trans (by first | rfl | assumption | (symm; assumption) | (subst_vars; rfl)) (fT_eq _ _ _).symm)); by_cases h9_25 : q9 = 25; (subst h9_25; exact ((fT_ne _ _ (Nat.ne_of_beq_eq_false rfl)).trans (fT_eq _ _ _)).trans (Eq.trans (by first | rfl | assumption | (symm; assumption) | (subst_vars; rfl)) ((fT_ne _ _ (Nat.ne_of_beq_eq_false rfl)).trans ((fT_ne _ _ (Nat.ne_of_beq_eq_false rfl)).trans ((fT_ne _ _ (Nat.ne_of_beq_eq_false rfl)).trans ((fT_ne _ _ (Nat.ne_of_beq_eq_false rfl)).trans ((fT_ne _ _ (Nat.ne_of_beq_eq_false rfl)).trans ((fT_ne _ _ (Nat.ne_of_beq_eq_false rfl)).trans ((fT_ne _ _ (Nat.ne_of_beq_eq_false rfl)).trans (fT_ne _ _ (Nat.ne_of_beq_eq_false rfl))))))))).symm)); by_cases h9_35 : q9 = 35; (subst h9_35; exact (fT_eq _ _ _).trans (Eq.trans (by first | rfl | assumption | (symm; assumption) | (subst_vars; rfl)) ((fT_ne _ _ (Nat.ne_of_beq_eq_false rfl)).trans ((fT_ne _ _ (Nat.ne_of_beq_eq_false rfl)).trans ((fT_ne _ _ (Nat.ne_of_beq_eq_false rfl)).trans ((fT_ne _ _ (Nat.ne_of_beq_eq_false rfl)).trans ((fT_ne _ _ (Nat.ne_of_beq_eq_false rfl)).trans ((fT_ne _ _ (Nat.ne_of_beq_eq_false rfl)).trans ((fT_ne _ _ (Nat.ne_of_beq_eq_false rfl)).trans (fT_ne _ _ (Nat.ne_of_beq_eq_false rfl))))))))).symm)); exact ((fT_ne _ _ h9_35).trans ((fT_ne _ _ h9_25).trans ((fT_ne _ _ h9_22).trans ((fT_ne _ _ h9_21).trans ((fT_ne _ _ h9_34).trans ((fT_ne _ _ h9_33).trans ((fT_ne _ _ h9_18).trans ((fT_ne _ _ h9_20).trans ((fT_ne _ _ h9_19).trans (fT_ne _ _ h9_17)))))))))).trans ((fT_ne _ _ h9_22).trans ((fT_ne _ _ h9_21).trans ((fT_ne _ _ h9_34).trans ((fT_ne _ _ h9_33).trans ((fT_ne _ _ h9_18).trans ((fT_ne _ _ h9_20).trans ((fT_ne _ _ h9_19).trans (fT_ne _ _ h9_17)))))))).symm
                  have hP : va_P (dC, dI) vwCl (WR a k h0 (fT (fT (fT (fT (fT (fT (fT (fT (fT (fT vi 17 (nI ad)) 19 (nI fd)) 20 qd) 18 wd9) 33 ow5) 34 ol5) 21 s9) 22 z9) 25 (nI nm)) 35 (nI se)) vj vF vG) H := by rw [e9]; exact hP
                  have hD : va_D A (WR a k h0 (fT (fT (fT (fT (fT (fT (fT (fT (fT (fT vi 17 (nI ad)) 19 (nI fd)) 20 qd) 18 wd9) 33 ow5) 34 ol5) 21 s9) 22 z9) 25 (nI nm)) 35 (nI se)) vj vF vG) := by rw [e9]; exact hD
                  clear e9
                  have e9 : fT (fT (fT (fT (fT (fT vF 16 (vF 16)) 17 (vF 17)) 10 (vF 10)) 11 (vF 11)) 12 (vF 12)) 13 (vF 13) = vF := (fT_id _ _ ((fT_ne _ _ (Nat.ne_of_beq_eq_false rfl)).trans ((fT_ne _ _ (Nat.ne_of_beq_eq_false rfl)).trans ((fT_ne _ _ (Nat.ne_of_beq_eq_false rfl)).trans ((fT_ne _ _ (Nat.ne_of_beq_eq_false rfl)).trans (fT_ne _ _ (Nat.ne_of_beq_eq_false rfl))))))).trans ((fT_id _ _ ((fT_ne _ _ (Nat.ne_of_beq_eq_false rfl)).trans ((fT_ne _ _ (Nat.ne_of_beq_eq_false rfl)).trans ((fT_ne _ _ (Nat.ne_of_beq_eq_false rfl)).trans (fT_ne _ _ (Nat.ne_of_beq_eq_false rfl)))))).trans ((fT_id _ _ ((fT_ne _ _ (Nat.ne_of_beq_eq_false rfl)).trans ((fT_ne _ _ (Nat.ne_of_beq_eq_false rfl)).trans (fT_ne _ _ (Nat.ne_of_beq_eq_false rfl))))).trans ((fT_id _ _ ((fT_ne _ _ (Nat.ne_of_beq_eq_false rfl)).trans (fT_ne _ _ (Nat.ne_of_beq_eq_false rfl)))).trans ((fT_id _ _ (fT_ne _ _ (Nat.ne_of_beq_eq_false rfl))).trans (fT_id _ _ (rfl))))))
                  have hP : va_P (dC, dI) vwCl (WR a k h0 (fT (fT (fT (fT (fT (fT (fT (fT (fT (fT vi 17 (nI ad)) 19 (nI fd)) 20 qd) 18 wd9) 33 ow5) 34 ol5) 21 s9) 22 z9) 25 (nI nm)) 35 (nI se)) vj (fT (fT (fT (fT (fT (fT vF 16 (vF 16)) 17 (vF 17)) 10 (vF 10)) 11 (vF 11)) 12 (vF 12)) 13 (vF 13)) vG) H := by rw [e9]; exact hP
                  have hD : va_D A (WR a k h0 (fT (fT (fT (fT (fT (fT (fT (fT (fT (fT vi 17 (nI ad)) 19 (nI fd)) 20 qd) 18 wd9) 33 ow5) 34 ol5) 21 s9) 22 z9) 25 (nI nm)) 35 (nI se)) vj (fT (fT (fT (fT (fT (fT vF 16 (vF 16)) 17 (vF 17)) 10 (vF 10)) 11 (vF 11)) 12 (vF 12)) 13 (vF 13)) vG) := by rw [e9]; exact hD
                  clear e9
                  exact W.vret hx hb hr (fun t9_ ht hW => ⟨⟨(ad, fd, qd, wd9, s9, z9, ow5, ol5, (vF 10), (vF 11), (vF 12), (vF 13), (vF 16), (vF 17), nm, se), rfl, by (try dsimp only); exact ⟨hLxd, by omega, hs9, Or.inl (by omega)⟩, by rw [ht]; exact hP, hD⟩, hS.F ht⟩) hS.2.2 dX12_readSetOf_134

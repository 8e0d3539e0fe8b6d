section
theorem dX12_takeSign_0 : decode cX12_takeSign 0 = .ok (.aload_n 0, 1) := dk_42 (by decide +kernel)
theorem dX12_takeSign_1 : decode cX12_takeSign 1 = .ok (.aload_n 0, 1) := dk_42 (by decide +kernel)
theorem dX12_takeSign_2 : decode cX12_takeSign 2 = .ok (.getfield 485, 3) := dk_180 (by decide +kernel)
theorem dX12_takeSign_5 : decode cX12_takeSign 5 = .ok (.iconst 1, 1) := dk_4 (by decide +kernel)
theorem dX12_takeSign_6 : decode cX12_takeSign 6 = .ok (.iadd, 1) := dk_96 (by decide +kernel)
theorem dX12_takeSign_7 : decode cX12_takeSign 7 = .ok (.invokevirtual 482, 3) := dk_182 (by decide +kernel)
theorem dX12_takeSign_10 : decode cX12_takeSign 10 = .ok (.istore_n 2, 1) := dk_61 (by decide +kernel)
theorem dX12_takeSign_11 : decode cX12_takeSign 11 = .ok (.iload_n 1, 1) := dk_27 (by decide +kernel)
theorem dX12_takeSign_12 : decode cX12_takeSign 12 = .ok (.bipush 46, 2) := dk_16 (by decide +kernel)
theorem dX12_takeSign_14 : decode cX12_takeSign 14 = .ok (.if_icmp .ne 9, 3) := dk_160 (by decide +kernel)
theorem dX12_takeSign_17 : decode cX12_takeSign 17 = .ok (.iload_n 2, 1) := dk_28 (by decide +kernel)
theorem dX12_takeSign_18 : decode cX12_takeSign 18 = .ok (.bipush 46, 2) := dk_16 (by decide +kernel)
theorem dX12_takeSign_20 : decode cX12_takeSign 20 = .ok (.if_icmp .eq 39, 3) := dk_159 (by decide +kernel)
theorem dX12_takeSign_23 : decode cX12_takeSign 23 = .ok (.iload_n 1, 1) := dk_27 (by decide +kernel)
theorem dX12_takeSign_24 : decode cX12_takeSign 24 = .ok (.bipush 60, 2) := dk_16 (by decide +kernel)
theorem dX12_takeSign_26 : decode cX12_takeSign 26 = .ok (.if_icmp .ne 9, 3) := dk_160 (by decide +kernel)
theorem dX12_takeSign_29 : decode cX12_takeSign 29 = .ok (.iload_n 2, 1) := dk_28 (by decide +kernel)
theorem dX12_takeSign_30 : decode cX12_takeSign 30 = .ok (.bipush 61, 2) := dk_16 (by decide +kernel)
theorem dX12_takeSign_32 : decode cX12_takeSign 32 = .ok (.if_icmp .eq 27, 3) := dk_159 (by decide +kernel)
theorem dX12_takeSign_35 : decode cX12_takeSign 35 = .ok (.iload_n 1, 1) := dk_27 (by decide +kernel)
theorem dX12_takeSign_36 : decode cX12_takeSign 36 = .ok (.bipush 62, 2) := dk_16 (by decide +kernel)
theorem dX12_takeSign_38 : decode cX12_takeSign 38 = .ok (.if_icmp .ne 9, 3) := dk_160 (by decide +kernel)
theorem dX12_takeSign_41 : decode cX12_takeSign 41 = .ok (.iload_n 2, 1) := dk_28 (by decide +kernel)
theorem dX12_takeSign_42 : decode cX12_takeSign 42 = .ok (.bipush 61, 2) := dk_16 (by decide +kernel)
theorem dX12_takeSign_44 : decode cX12_takeSign 44 = .ok (.if_icmp .eq 15, 3) := dk_159 (by decide +kernel)
theorem dX12_takeSign_47 : decode cX12_takeSign 47 = .ok (.iload_n 1, 1) := dk_27 (by decide +kernel)
theorem dX12_takeSign_48 : decode cX12_takeSign 48 = .ok (.bipush 60, 2) := dk_16 (by decide +kernel)
theorem dX12_takeSign_50 : decode cX12_takeSign 50 = .ok (.if_icmp .ne 13, 3) := dk_160 (by decide +kernel)
theorem dX12_takeSign_53 : decode cX12_takeSign 53 = .ok (.iload_n 2, 1) := dk_28 (by decide +kernel)
theorem dX12_takeSign_54 : decode cX12_takeSign 54 = .ok (.bipush 62, 2) := dk_16 (by decide +kernel)
theorem dX12_takeSign_56 : decode cX12_takeSign 56 = .ok (.if_icmp .ne 7, 3) := dk_160 (by decide +kernel)
theorem dX12_takeSign_59 : decode cX12_takeSign 59 = .ok (.iconst 1, 1) := dk_4 (by decide +kernel)
theorem dX12_takeSign_60 : decode cX12_takeSign 60 = .ok (.goto 4, 3) := dk_167 (by decide +kernel)
theorem dX12_takeSign_63 : decode cX12_takeSign 63 = .ok (.iconst 0, 1) := dk_3 (by decide +kernel)
theorem dX12_takeSign_64 : decode cX12_takeSign 64 = .ok (.istore_n 3, 1) := dk_62 (by decide +kernel)
theorem dX12_takeSign_65 : decode cX12_takeSign 65 = .ok (.iload_n 1, 1) := dk_27 (by decide +kernel)
theorem dX12_takeSign_66 : decode cX12_takeSign 66 = .ok (.bipush 61, 2) := dk_16 (by decide +kernel)
theorem dX12_takeSign_68 : decode cX12_takeSign 68 = .ok (.if_icmp .eq 93, 3) := dk_159 (by decide +kernel)
theorem dX12_takeSign_71 : decode cX12_takeSign 71 = .ok (.iload_n 1, 1) := dk_27 (by decide +kernel)
theorem dX12_takeSign_72 : decode cX12_takeSign 72 = .ok (.bipush 60, 2) := dk_16 (by decide +kernel)
theorem dX12_takeSign_74 : decode cX12_takeSign 74 = .ok (.if_icmp .eq 87, 3) := dk_159 (by decide +kernel)
theorem dX12_takeSign_77 : decode cX12_takeSign 77 = .ok (.iload_n 1, 1) := dk_27 (by decide +kernel)
theorem dX12_takeSign_78 : decode cX12_takeSign 78 = .ok (.bipush 62, 2) := dk_16 (by decide +kernel)
theorem dX12_takeSign_80 : decode cX12_takeSign 80 = .ok (.if_icmp .eq 81, 3) := dk_159 (by decide +kernel)
theorem dX12_takeSign_83 : decode cX12_takeSign 83 = .ok (.iload_n 1, 1) := dk_27 (by decide +kernel)
theorem dX12_takeSign_84 : decode cX12_takeSign 84 = .ok (.bipush 58, 2) := dk_16 (by decide +kernel)
theorem dX12_takeSign_86 : decode cX12_takeSign 86 = .ok (.if_icmp .eq 75, 3) := dk_159 (by decide +kernel)
theorem dX12_takeSign_89 : decode cX12_takeSign 89 = .ok (.iload_n 1, 1) := dk_27 (by decide +kernel)
theorem dX12_takeSign_90 : decode cX12_takeSign 90 = .ok (.bipush 59, 2) := dk_16 (by decide +kernel)
theorem dX12_takeSign_92 : decode cX12_takeSign 92 = .ok (.if_icmp .eq 69, 3) := dk_159 (by decide +kernel)
theorem dX12_takeSign_95 : decode cX12_takeSign 95 = .ok (.iload_n 1, 1) := dk_27 (by decide +kernel)
theorem dX12_takeSign_96 : decode cX12_takeSign 96 = .ok (.bipush 44, 2) := dk_16 (by decide +kernel)
theorem dX12_takeSign_98 : decode cX12_takeSign 98 = .ok (.if_icmp .eq 63, 3) := dk_159 (by decide +kernel)
theorem dX12_takeSign_101 : decode cX12_takeSign 101 = .ok (.iload_n 1, 1) := dk_27 (by decide +kernel)
theorem dX12_takeSign_102 : decode cX12_takeSign 102 = .ok (.bipush 91, 2) := dk_16 (by decide +kernel)
theorem dX12_takeSign_104 : decode cX12_takeSign 104 = .ok (.if_icmp .eq 57, 3) := dk_159 (by decide +kernel)
theorem dX12_takeSign_107 : decode cX12_takeSign 107 = .ok (.iload_n 1, 1) := dk_27 (by decide +kernel)
theorem dX12_takeSign_108 : decode cX12_takeSign 108 = .ok (.bipush 93, 2) := dk_16 (by decide +kernel)
theorem dX12_takeSign_110 : decode cX12_takeSign 110 = .ok (.if_icmp .eq 51, 3) := dk_159 (by decide +kernel)
theorem dX12_takeSign_113 : decode cX12_takeSign 113 = .ok (.iload_n 1, 1) := dk_27 (by decide +kernel)
theorem dX12_takeSign_114 : decode cX12_takeSign 114 = .ok (.bipush 123, 2) := dk_16 (by decide +kernel)
theorem dX12_takeSign_116 : decode cX12_takeSign 116 = .ok (.if_icmp .eq 45, 3) := dk_159 (by decide +kernel)
theorem dX12_takeSign_119 : decode cX12_takeSign 119 = .ok (.iload_n 1, 1) := dk_27 (by decide +kernel)
theorem dX12_takeSign_120 : decode cX12_takeSign 120 = .ok (.bipush 125, 2) := dk_16 (by decide +kernel)
theorem dX12_takeSign_122 : decode cX12_takeSign 122 = .ok (.if_icmp .eq 39, 3) := dk_159 (by decide +kernel)
theorem dX12_takeSign_125 : decode cX12_takeSign 125 = .ok (.iload_n 1, 1) := dk_27 (by decide +kernel)
theorem dX12_takeSign_126 : decode cX12_takeSign 126 = .ok (.bipush 40, 2) := dk_16 (by decide +kernel)
theorem dX12_takeSign_128 : decode cX12_takeSign 128 = .ok (.if_icmp .eq 33, 3) := dk_159 (by decide +kernel)
theorem dX12_takeSign_131 : decode cX12_takeSign 131 = .ok (.iload_n 1, 1) := dk_27 (by decide +kernel)
theorem dX12_takeSign_132 : decode cX12_takeSign 132 = .ok (.bipush 41, 2) := dk_16 (by decide +kernel)
theorem dX12_takeSign_134 : decode cX12_takeSign 134 = .ok (.if_icmp .eq 27, 3) := dk_159 (by decide +kernel)
theorem dX12_takeSign_137 : decode cX12_takeSign 137 = .ok (.iload_n 1, 1) := dk_27 (by decide +kernel)
theorem dX12_takeSign_138 : decode cX12_takeSign 138 = .ok (.bipush 43, 2) := dk_16 (by decide +kernel)
theorem dX12_takeSign_140 : decode cX12_takeSign 140 = .ok (.if_icmp .eq 21, 3) := dk_159 (by decide +kernel)
theorem dX12_takeSign_143 : decode cX12_takeSign 143 = .ok (.iload_n 1, 1) := dk_27 (by decide +kernel)
theorem dX12_takeSign_144 : decode cX12_takeSign 144 = .ok (.bipush 45, 2) := dk_16 (by decide +kernel)
theorem dX12_takeSign_146 : decode cX12_takeSign 146 = .ok (.if_icmp .eq 15, 3) := dk_159 (by decide +kernel)
theorem dX12_takeSign_149 : decode cX12_takeSign 149 = .ok (.iload_n 1, 1) := dk_27 (by decide +kernel)
theorem dX12_takeSign_150 : decode cX12_takeSign 150 = .ok (.bipush 42, 2) := dk_16 (by decide +kernel)
theorem dX12_takeSign_152 : decode cX12_takeSign 152 = .ok (.if_icmp .eq 9, 3) := dk_159 (by decide +kernel)
theorem dX12_takeSign_155 : decode cX12_takeSign 155 = .ok (.iload_n 1, 1) := dk_27 (by decide +kernel)
theorem dX12_takeSign_156 : decode cX12_takeSign 156 = .ok (.bipush 47, 2) := dk_16 (by decide +kernel)
theorem dX12_takeSign_158 : decode cX12_takeSign 158 = .ok (.if_icmp .ne 7, 3) := dk_160 (by decide +kernel)
theorem dX12_takeSign_161 : decode cX12_takeSign 161 = .ok (.iconst 1, 1) := dk_4 (by decide +kernel)
theorem dX12_takeSign_162 : decode cX12_takeSign 162 = .ok (.goto 4, 3) := dk_167 (by decide +kernel)
theorem dX12_takeSign_165 : decode cX12_takeSign 165 = .ok (.iconst 0, 1) := dk_3 (by decide +kernel)
theorem dX12_takeSign_166 : decode cX12_takeSign 166 = .ok (.istore 4, 2) := dk_54 (by decide +kernel)
theorem dX12_takeSign_168 : decode cX12_takeSign 168 = .ok (.aload_n 0, 1) := dk_42 (by decide +kernel)
theorem dX12_takeSign_169 : decode cX12_takeSign 169 = .ok (.iload_n 3, 1) := dk_29 (by decide +kernel)
theorem dX12_takeSign_170 : decode cX12_takeSign 170 = .ok (.ifCond .ne 8, 3) := dk_154 (by decide +kernel)
theorem dX12_takeSign_173 : decode cX12_takeSign 173 = .ok (.iload 4, 2) := dk_21 (by decide +kernel)
theorem dX12_takeSign_175 : decode cX12_takeSign 175 = .ok (.ifCond .eq 7, 3) := dk_153 (by decide +kernel)
theorem dX12_takeSign_178 : decode cX12_takeSign 178 = .ok (.iconst 4, 1) := dk_7 (by decide +kernel)
theorem dX12_takeSign_179 : decode cX12_takeSign 179 = .ok (.goto 4, 3) := dk_167 (by decide +kernel)
theorem dX12_takeSign_182 : decode cX12_takeSign 182 = .ok (.iconst 5, 1) := dk_8 (by decide +kernel)
theorem dX12_takeSign_183 : decode cX12_takeSign 183 = .ok (.putfield 494, 3) := dk_181 (by decide +kernel)
theorem dX12_takeSign_186 : decode cX12_takeSign 186 = .ok (.aload_n 0, 1) := dk_42 (by decide +kernel)
theorem dX12_takeSign_187 : decode cX12_takeSign 187 = .ok (.iload_n 3, 1) := dk_29 (by decide +kernel)
theorem dX12_takeSign_188 : decode cX12_takeSign 188 = .ok (.ifCond .ne 7, 3) := dk_154 (by decide +kernel)
theorem dX12_takeSign_191 : decode cX12_takeSign 191 = .ok (.iload_n 1, 1) := dk_27 (by decide +kernel)
theorem dX12_takeSign_192 : decode cX12_takeSign 192 = .ok (.goto 38, 3) := dk_167 (by decide +kernel)
theorem dX12_takeSign_195 : decode cX12_takeSign 195 = .ok (.iload_n 1, 1) := dk_27 (by decide +kernel)
theorem dX12_takeSign_196 : decode cX12_takeSign 196 = .ok (.bipush 46, 2) := dk_16 (by decide +kernel)
theorem dX12_takeSign_198 : decode cX12_takeSign 198 = .ok (.if_icmp .ne 8, 3) := dk_160 (by decide +kernel)
theorem dX12_takeSign_201 : decode cX12_takeSign 201 = .ok (.bipush 46, 2) := dk_16 (by decide +kernel)
theorem dX12_takeSign_203 : decode cX12_takeSign 203 = .ok (.goto 27, 3) := dk_167 (by decide +kernel)
theorem dX12_takeSign_206 : decode cX12_takeSign 206 = .ok (.iload_n 2, 1) := dk_28 (by decide +kernel)
theorem dX12_takeSign_207 : decode cX12_takeSign 207 = .ok (.bipush 62, 2) := dk_16 (by decide +kernel)
theorem dX12_takeSign_209 : decode cX12_takeSign 209 = .ok (.if_icmp .ne 8, 3) := dk_160 (by decide +kernel)
theorem dX12_takeSign_212 : decode cX12_takeSign 212 = .ok (.bipush 78, 2) := dk_16 (by decide +kernel)
theorem dX12_takeSign_214 : decode cX12_takeSign 214 = .ok (.goto 16, 3) := dk_167 (by decide +kernel)
theorem dX12_takeSign_217 : decode cX12_takeSign 217 = .ok (.iload_n 1, 1) := dk_27 (by decide +kernel)
theorem dX12_takeSign_218 : decode cX12_takeSign 218 = .ok (.bipush 60, 2) := dk_16 (by decide +kernel)
theorem dX12_takeSign_220 : decode cX12_takeSign 220 = .ok (.if_icmp .ne 8, 3) := dk_160 (by decide +kernel)
theorem dX12_takeSign_223 : decode cX12_takeSign 223 = .ok (.bipush 76, 2) := dk_16 (by decide +kernel)
theorem dX12_takeSign_225 : decode cX12_takeSign 225 = .ok (.goto 5, 3) := dk_167 (by decide +kernel)
theorem dX12_takeSign_228 : decode cX12_takeSign 228 = .ok (.bipush 71, 2) := dk_16 (by decide +kernel)
theorem dX12_takeSign_230 : decode cX12_takeSign 230 = .ok (.putfield 491, 3) := dk_181 (by decide +kernel)
theorem dX12_takeSign_233 : decode cX12_takeSign 233 = .ok (.aload_n 0, 1) := dk_42 (by decide +kernel)
theorem dX12_takeSign_234 : decode cX12_takeSign 234 = .ok (.dup, 1) := dk_89 (by decide +kernel)
theorem dX12_takeSign_235 : decode cX12_takeSign 235 = .ok (.getfield 485, 3) := dk_180 (by decide +kernel)
theorem dX12_takeSign_238 : decode cX12_takeSign 238 = .ok (.iload_n 3, 1) := dk_29 (by decide +kernel)
theorem dX12_takeSign_239 : decode cX12_takeSign 239 = .ok (.ifCond .eq 7, 3) := dk_153 (by decide +kernel)
theorem dX12_takeSign_242 : decode cX12_takeSign 242 = .ok (.iconst 2, 1) := dk_5 (by decide +kernel)
theorem dX12_takeSign_243 : decode cX12_takeSign 243 = .ok (.goto 4, 3) := dk_167 (by decide +kernel)
theorem dX12_takeSign_246 : decode cX12_takeSign 246 = .ok (.iconst 1, 1) := dk_4 (by decide +kernel)
theorem dX12_takeSign_247 : decode cX12_takeSign 247 = .ok (.iadd, 1) := dk_96 (by decide +kernel)
theorem dX12_takeSign_248 : decode cX12_takeSign 248 = .ok (.putfield 485, 3) := dk_181 (by decide +kernel)
theorem dX12_takeSign_251 : decode cX12_takeSign 251 = .ok (.return_, 1) := dk_177 (by decide +kernel)
def wsRX12_takeSign : List Cond := .code yX12_takeSign cX12_takeSign 5 none :: ([.fieldLink RX12 485 "OptimaWorksModel" "at0" "I", .fieldLink RX12 494 "OptimaWorksModel" "word" "I", .fieldLink RX12 491 "OptimaWorksModel" "sign0" "I"] ++ wsX120 ++ (wsV RX12 482 RX12 yX12_byteAt wsRX12_byteAt))
theorem iwsRX12_takeSign_in12 : ∀ w ∈ wsX120, w ∈ wsRX12_takeSign := fun _ h => List.mem_cons_of_mem _ (List.mem_append_left _ (List.mem_append_right _ h))
theorem gwsRX12_takeSign_0 : GoodIn wsRX12_takeSign (wsV RX12 482 RX12 yX12_byteAt wsRX12_byteAt) := goodIn_sub (fun _ h => List.mem_cons_of_mem _ (List.mem_append_right _ h)) (gdV (by decide +kernel) gdwsRX12_byteAt)
theorem gdwsRX12_takeSign : wsRX12_takeSign.all goodWord = true := gdC rfl (gdA (gdA (by decide +kernel : ([.fieldLink RX12 485 "OptimaWorksModel" "at0" "I", .fieldLink RX12 494 "OptimaWorksModel" "word" "I", .fieldLink RX12 491 "OptimaWorksModel" "sign0" "I"] : List Cond).all goodWord = true) gdwsX120) (gdV (by decide +kernel) gdwsRX12_byteAt))
theorem hm_r_X12_takeSign_0 : (.fieldLink RX12 485 "OptimaWorksModel" "at0" "I" : Cond) ∈ wsRX12_takeSign := by decide +kernel
theorem hm_r_X12_takeSign_1 : (.fieldLink RX12 494 "OptimaWorksModel" "word" "I" : Cond) ∈ wsRX12_takeSign := by decide +kernel
theorem hm_r_X12_takeSign_2 : (.fieldLink RX12 491 "OptimaWorksModel" "sign0" "I" : Cond) ∈ wsRX12_takeSign := by decide +kernel
set_option maxHeartbeats 4000000 in
set_option maxRecDepth 100000 in
/-- takeSign(c) -/
theorem r_X12_takeSign (l : Launch) (dC : Nat → ClassId) (dI : Nat → Nat → Nat) (a : Nat → Nat) (k : Nat → ClassId) (h0 : Nat) (vi : Nat → Int32) (vj : Nat → Int64) (vF : Nat → Nat → Int32) (vG : Nat → Nat → Int64) (cv : Int32) (tp : Nat) (an : Nat) (hTp : vi 16 = nI tp) (htp : tp ≤ 4000) (ha0 : vi 17 = nI an) (hant : an < tp) (sz : Nat) : Met l yX12_takeSign wsRX12_takeSign ({ frames := 1, cells := 0, slots := 0, locals := 21 }) (va_Pc [.ref h0, .int cv] (fun U => U.heap.size = sz ∧ va_P (dC, dI) vwCl (WR a k h0 vi vj vF vG) U.heap ∧ va_K (dC, dI) vwCl (tX12 k) U ∧ va_D (fun _ => True) (WR a k h0 vi vj vF vG))) (va_Qv (fun (u : (Nat) × (Int32) × (Int32)) => (an < (u.1)) ∧ ((u.1) ≤ tp) ∧ ((u.2.2) = 4 ∨ (u.2.2) = 5)) (fun (u : (Nat) × (Int32) × (Int32)) t => va_P (dC, dI) vwCl (WR a k h0 (fT (fT (fT vi 18 (u.2.2)) 20 (u.2.1)) 17 (nI (u.1))) vj vF vG) t.heap ∧ va_D (va_A (WR a k h0 vi vj vF vG) sz) (WR a k h0 (fT (fT (fT vi 18 (u.2.2)) 20 (u.2.1)) 17 (nI (u.1))) vj vF vG)) (va_A (WR a k h0 vi vj vF vG) sz)) 0 0 (va_A (WR a k h0 vi vj vF vG) sz) := by
  refine Met.ofW (cc := cX12_takeSign) (maxL := 5) (ret := none) (by decide) rfl ?_
  intro p e s m args below meth c s₁ B hml hv
  obtain ⟨rfl, hsz, hP, hK, hD0⟩ := hv
  have hx := B.exec
  have hb := B.bytes
  have hr := B.returns
  have hts := atoms_spec (ws := wsRX12_takeSign) B.pre
  have hown : s.vm.findClass RX12 = some m.cls := findClass_of_methodNamed B.named
  have hlocks := B.notSynchronized
  subst hsz
  have hD := hD0.self (sz := s.heap.size)
  generalize hAe : va_A (WR a k h0 vi vj vF vG) s.heap.size = A at hD ⊢
  have hA : ∀ q : Nat, s.heap.size ≤ q → A q := fun q h => by rw [← hAe]; exact Or.inr h
  have hS : va_S A s.heap s.heap [] := va_S.rf
  have hl := lv_entry ([.ref h0, .int cv]) (n := 5) (Nat.le_of_ble_eq_true rfl)
  rw [lg_entry_eq]
  generalize (lg_sl ([.ref h0, .int cv]) ++ List.replicate (5 - (lg_sl ([.ref h0, .int cv])).length) Slot.unset).toArray = ls at hl ⊢
  have hl : lv_has ls 5 [(0, .ref h0), (1, .int cv)] := hl
  refine lv_aload_n hx hb dX12_takeSign_0 rfl (lv_at hl 0 rfl) ?_
  refine lv_aload_n hx hb dX12_takeSign_1 rfl (lv_at hl 0 rfl) ?_
  refine va_get (D := (dC, dI)) (ci := 12) (v := .int (vi 17)) (C := RX12) (T := TX12) (N := 163) (fs := fM (vS a vi vj)) hx hb hts iwsRX12_takeSign_in12 hown hK hP 0 rfl rfl 17 (by decide) (hts _ hm_r_X12_takeSign_0) (fun _ h9 => h9) rfl dX12_takeSign_2 ?_
  refine lv_topi (fun y1 hy1 => ?_)
  obtain rfl : (nI an) = y1 := (hy1.trans (ha0)).symm
  refine lv_iconst (v := 1) hx hb dX12_takeSign_5 (by decide) ?_
  refine lv_iadd hx hb dX12_takeSign_6 ?_
  refine lv_topi (fun y2 hy2 => ?_)
  obtain rfl : (nI (an + 1)) = y2 := (hy2.trans (nI_add an 1)).symm
  have hFc := allFree hD hS hA
  refine va_calli (va_runV (As := [.int (nI (an + 1))]) (rest := []) ⟨hx, hb, hml, hown, hts⟩ (r_X12_byteAt l dC dI a k h0 vi vj vF vG (an + 1) tp (by first | with_reducible assumption | decide | omega | rfl | assumption) (by first | with_reducible assumption | decide | omega | rfl | assumption) (by first | with_reducible assumption | decide | omega | rfl | assumption) s.heap.size) (cwV 1 hts gwsRX12_takeSign_0 rfl rfl rfl hd_yX12_byteAt_RX12 (by decide +kernel)) (fz_pre (va_recv hK hP (ci := 12) (q0 := 0) rfl rfl) hP hK hD) rfl rfl hl.1 rfl (lv_room (Nat.le_of_ble_eq_true rfl)) dX12_takeSign_7 (by decide +kernel)) hS (fun q _ h => hFc q h) hFc (fun r7 u t9_ H locs ht hvm hw9 hB9 hz1 hk1 hS => ?_)
  have hP : va_P (dC, dI) vwCl (WR a k h0 vi vj vF vG) H := fz_P ht hB9.1
  have hD := fz_sd hP (hB9.2.weaken (fun _ q _ h => hFc q.1 h)) rfl
  obtain rfl := hw9
  refine lv_istore_n hx hb dX12_takeSign_10 rfl hl (by decide) rfl (fun ls (hl : lv_has ls _ ([(2, .int (bA tp (vF 9) (an + 1))), (0, .ref h0), (1, .int cv)])) => ?_)
  refine lv_iload_n hx hb dX12_takeSign_11 rfl (lv_at hl 2 rfl) ?_
  refine lv_bipush (v := 46) hx hb dX12_takeSign_12 (by decide) ?_
  refine W.cut (pc := 65) (fun H locs ls stk => ∃ (tw : Int32), ((tw = 0 ∨ tw = 1) ∧ (tw = 1 → an + 1 < tp)) ∧  stk = [] ∧ va_P (dC, dI) vwCl (WR a k h0 vi vj vF vG) H ∧ va_D A (WR a k h0 vi vj vF vG) ∧ va_S A s.heap H locs ∧ lv_has ls 5 [(0, .ref h0), (1, .int cv), (2, .int (bA tp (vF 9) (an + 1))), (3, .int tw)]) (fun join1 => ?_) ?_
  · refine lv_icmp_ne (tgt := 23) hx hb dX12_takeSign_14 (by decide) (fun c_14 => ?_) (fun c_14 => ?_)
    · have t_14 : (cv).toInt ≠ 46 := toI_ne c_14 rfl (by decide)
      refine lv_iload_n hx hb dX12_takeSign_23 rfl (lv_at hl 2 rfl) ?_
      refine lv_bipush (v := 60) hx hb dX12_takeSign_24 (by decide) ?_
      refine lv_icmp_ne (tgt := 35) hx hb dX12_takeSign_26 (by decide) (fun c_26 => ?_) (fun c_26 => ?_)
      · have t_26 : (cv).toInt ≠ 60 := toI_ne c_26 rfl (by decide)
        refine lv_iload_n hx hb dX12_takeSign_35 rfl (lv_at hl 2 rfl) ?_
        refine lv_bipush (v := 62) hx hb dX12_takeSign_36 (by decide) ?_
        refine lv_icmp_ne (tgt := 47) hx hb dX12_takeSign_38 (by decide) (fun c_38 => ?_) (fun c_38 => ?_)
        · have t_38 : (cv).toInt ≠ 62 := toI_ne c_38 rfl (by decide)
          refine lv_iload_n hx hb dX12_takeSign_47 rfl (lv_at hl 2 rfl) ?_
          refine lv_bipush (v := 60) hx hb dX12_takeSign_48 (by decide) ?_
          refine lv_icmp_ne (tgt := 63) hx hb dX12_takeSign_50 (by decide) (fun c_50 => ?_) (fun c_50 => ?_)
          · have t_50 : (cv).toInt ≠ 60 := toI_ne c_50 rfl (by decide)
            refine lv_iconst (v := 0) hx hb dX12_takeSign_63 (by decide) ?_
            refine lv_istore_n hx hb dX12_takeSign_64 rfl hl (by decide) rfl (fun ls (hl : lv_has ls _ ([(3, .int 0), (2, .int (bA tp (vF 9) (an + 1))), (0, .ref h0), (1, .int cv)])) => ?_)
            have hl : lv_has _ _ ([(0, .ref h0), (1, .int cv), (2, .int (bA tp (vF 9) (an + 1))), (3, .int 0)]) := lv_sub hl [2, 3, 1, 0] rfl
            exact join1 _ _ _ _ ⟨0, ⟨Or.inl rfl, fun h9 => absurd h9 (by decide)⟩, rfl, hP, hD, hS, hl⟩
          · have t_50 : (cv).toInt = 60 := toI_nne c_50 rfl (by decide)
            refine lv_iload_n hx hb dX12_takeSign_53 rfl (lv_at hl 0 rfl) ?_
            refine lv_bipush (v := 62) hx hb dX12_takeSign_54 (by decide) ?_
            refine lv_icmp_ne (tgt := 63) hx hb dX12_takeSign_56 (by decide) (fun c_56 => ?_) (fun c_56 => ?_)
            · have t_56 : ((bA tp (vF 9) (an + 1))).toInt ≠ 62 := toI_ne c_56 rfl (by decide)
              refine lv_iconst (v := 0) hx hb dX12_takeSign_63 (by decide) ?_
              refine lv_istore_n hx hb dX12_takeSign_64 rfl hl (by decide) rfl (fun ls (hl : lv_has ls _ ([(3, .int 0), (2, .int (bA tp (vF 9) (an + 1))), (0, .ref h0), (1, .int cv)])) => ?_)
              have hl : lv_has _ _ ([(0, .ref h0), (1, .int cv), (2, .int (bA tp (vF 9) (an + 1))), (3, .int 0)]) := lv_sub hl [2, 3, 1, 0] rfl
              exact join1 _ _ _ _ ⟨0, ⟨Or.inl rfl, fun h9 => absurd h9 (by decide)⟩, rfl, hP, hD, hS, hl⟩
            · have t_56 : ((bA tp (vF 9) (an + 1))).toInt = 62 := toI_nne c_56 rfl (by decide)
              refine lv_iconst (v := 1) hx hb dX12_takeSign_59 (by decide) ?_
              refine lv_goto (tgt := 64) hx hb dX12_takeSign_60 (by decide) ?_
              refine lv_istore_n hx hb dX12_takeSign_64 rfl hl (by decide) rfl (fun ls (hl : lv_has ls _ ([(3, .int 1), (2, .int (bA tp (vF 9) (an + 1))), (0, .ref h0), (1, .int cv)])) => ?_)
              have hl : lv_has _ _ ([(0, .ref h0), (1, .int cv), (2, .int (bA tp (vF 9) (an + 1))), (3, .int 1)]) := lv_sub hl [2, 3, 1, 0] rfl
              exact join1 _ _ _ _ ⟨1, ⟨Or.inr rfl, fun _ => by (have b9 := bA_in tp (vF 9) (an + 1)); omega⟩, rfl, hP, hD, hS, hl⟩
        · have t_38 : (cv).toInt = 62 := toI_nne c_38 rfl (by decide)
          refine lv_iload_n hx hb dX12_takeSign_41 rfl (lv_at hl 0 rfl) ?_
          refine lv_bipush (v := 61) hx hb dX12_takeSign_42 (by decide) ?_
          refine lv_icmp_eq (tgt := 59) hx hb dX12_takeSign_44 (by decide) (fun c_44 => ?_) (fun c_44 => ?_)
          · have t_44 : ((bA tp (vF 9) (an + 1))).toInt = 61 := toI_eq c_44 rfl (by decide)
            refine lv_iconst (v := 1) hx hb dX12_takeSign_59 (by decide) ?_
            refine lv_goto (tgt := 64) hx hb dX12_takeSign_60 (by decide) ?_
            refine lv_istore_n hx hb dX12_takeSign_64 rfl hl (by decide) rfl (fun ls (hl : lv_has ls _ ([(3, .int 1), (2, .int (bA tp (vF 9) (an + 1))), (0, .ref h0), (1, .int cv)])) => ?_)
            have hl : lv_has _ _ ([(0, .ref h0), (1, .int cv), (2, .int (bA tp (vF 9) (an + 1))), (3, .int 1)]) := lv_sub hl [2, 3, 1, 0] rfl
            exact join1 _ _ _ _ ⟨1, ⟨Or.inr rfl, fun _ => by (have b9 := bA_in tp (vF 9) (an + 1)); omega⟩, rfl, hP, hD, hS, hl⟩
          · have t_44 : ¬ ((bA tp (vF 9) (an + 1))).toInt = 61 := toI_neq c_44 rfl (by decide)
            refine lv_iload_n hx hb dX12_takeSign_47 rfl (lv_at hl 2 rfl) ?_
            refine lv_bipush (v := 60) hx hb dX12_takeSign_48 (by decide) ?_
            refine lv_icmp_ne (tgt := 63) hx hb dX12_takeSign_50 (by decide) (fun c_50 => ?_) (fun c_50 => ?_)
            · have t_50 : (cv).toInt ≠ 60 := toI_ne c_50 rfl (by decide)
              refine lv_iconst (v := 0) hx hb dX12_takeSign_63 (by decide) ?_
              refine lv_istore_n hx hb dX12_takeSign_64 rfl hl (by decide) rfl (fun ls (hl : lv_has ls _ ([(3, .int 0), (2, .int (bA tp (vF 9) (an + 1))), (0, .ref h0), (1, .int cv)])) => ?_)
              have hl : lv_has _ _ ([(0, .ref h0), (1, .int cv), (2, .int (bA tp (vF 9) (an + 1))), (3, .int 0)]) := lv_sub hl [2, 3, 1, 0] rfl
              exact join1 _ _ _ _ ⟨0, ⟨Or.inl rfl, fun h9 => absurd h9 (by decide)⟩, rfl, hP, hD, hS, hl⟩
            · have t_50 : (cv).toInt = 60 := toI_nne c_50 rfl (by decide)
              refine lv_iload_n hx hb dX12_takeSign_53 rfl (lv_at hl 0 rfl) ?_
              refine lv_bipush (v := 62) hx hb dX12_takeSign_54 (by decide) ?_
              refine lv_icmp_ne (tgt := 63) hx hb dX12_takeSign_56 (by decide) (fun c_56 => ?_) (fun c_56 => ?_)
              · have t_56 : ((bA tp (vF 9) (an + 1))).toInt ≠ 62 := toI_ne c_56 rfl (by decide)
                refine lv_iconst (v := 0) hx hb dX12_takeSign_63 (by decide) ?_
                refine lv_istore_n hx hb dX12_takeSign_64 rfl hl (by decide) rfl (fun ls (hl : lv_has ls _ ([(3, .int 0), (2, .int (bA tp (vF 9) (an + 1))), (0, .ref h0), (1, .int cv)])) => ?_)
                have hl : lv_has _ _ ([(0, .ref h0), (1, .int cv), (2, .int (bA tp (vF 9) (an + 1))), (3, .int 0)]) := lv_sub hl [2, 3, 1, 0] rfl
                exact join1 _ _ _ _ ⟨0, ⟨Or.inl rfl, fun h9 => absurd h9 (by decide)⟩, rfl, hP, hD, hS, hl⟩
              · have t_56 : ((bA tp (vF 9) (an + 1))).toInt = 62 := toI_nne c_56 rfl (by decide)
                refine lv_iconst (v := 1) hx hb dX12_takeSign_59 (by decide) ?_
                refine lv_goto (tgt := 64) hx hb dX12_takeSign_60 (by decide) ?_
                refine lv_istore_n hx hb dX12_takeSign_64 rfl hl (by decide) rfl (fun ls (hl : lv_has ls _ ([(3, .int 1), (2, .int (bA tp (vF 9) (an + 1))), (0, .ref h0), (1, .int cv)])) => ?_)
                have hl : lv_has _ _ ([(0, .ref h0), (1, .int cv), (2, .int (bA tp (vF 9) (an + 1))), (3, .int 1)]) := lv_sub hl [2, 3, 1, 0] rfl
                exact join1 _ _ _ _ ⟨1, ⟨Or.inr rfl, fun _ => by (have b9 := bA_in tp (vF 9) (an + 1)); omega⟩, rfl, hP, hD, hS, hl⟩
      · have t_26 : (cv).toInt = 60 := toI_nne c_26 rfl (by decide)
        refine lv_iload_n hx hb dX12_takeSign_29 rfl (lv_at hl 0 rfl) ?_
        refine lv_bipush (v := 61) hx hb dX12_takeSign_30 (by decide) ?_
        refine lv_icmp_eq (tgt := 59) hx hb dX12_takeSign_32 (by decide) (fun c_32 => ?_) (fun c_32 => ?_)
        · have t_32 : ((bA tp (vF 9) (an + 1))).toInt = 61 := toI_eq c_32 rfl (by decide)
          refine lv_iconst (v := 1) hx hb dX12_takeSign_59 (by decide) ?_
          refine lv_goto (tgt := 64) hx hb dX12_takeSign_60 (by decide) ?_
          refine lv_istore_n hx hb dX12_takeSign_64 rfl hl (by decide) rfl (fun ls (hl : lv_has ls _ ([(3, .int 1), (2, .int (bA tp (vF 9) (an + 1))), (0, .ref h0), (1, .int cv)])) => ?_)
          have hl : lv_has _ _ ([(0, .ref h0), (1, .int cv), (2, .int (bA tp (vF 9) (an + 1))), (3, .int 1)]) := lv_sub hl [2, 3, 1, 0] rfl
          exact join1 _ _ _ _ ⟨1, ⟨Or.inr rfl, fun _ => by (have b9 := bA_in tp (vF 9) (an + 1)); omega⟩, rfl, hP, hD, hS, hl⟩
        · have t_32 : ¬ ((bA tp (vF 9) (an + 1))).toInt = 61 := toI_neq c_32 rfl (by decide)
          refine lv_iload_n hx hb dX12_takeSign_35 rfl (lv_at hl 2 rfl) ?_
          refine lv_bipush (v := 62) hx hb dX12_takeSign_36 (by decide) ?_
          refine lv_icmp_ne (tgt := 47) hx hb dX12_takeSign_38 (by decide) (fun c_38 => ?_) (fun c_38 => ?_)
          · have t_38 : (cv).toInt ≠ 62 := toI_ne c_38 rfl (by decide)
            refine lv_iload_n hx hb dX12_takeSign_47 rfl (lv_at hl 2 rfl) ?_
            refine lv_bipush (v := 60) hx hb dX12_takeSign_48 (by decide) ?_
            refine lv_icmp_ne (tgt := 63) hx hb dX12_takeSign_50 (by decide) (fun c_50 => ?_) (fun c_50 => ?_)
            · have t_50 : (cv).toInt ≠ 60 := toI_ne c_50 rfl (by decide)
              refine lv_iconst (v := 0) hx hb dX12_takeSign_63 (by decide) ?_
              refine lv_istore_n hx hb dX12_takeSign_64 rfl hl (by decide) rfl (fun ls (hl : lv_has ls _ ([(3, .int 0), (2, .int (bA tp (vF 9) (an + 1))), (0, .ref h0), (1, .int cv)])) => ?_)
              have hl : lv_has _ _ ([(0, .ref h0), (1, .int cv), (2, .int (bA tp (vF 9) (an + 1))), (3, .int 0)]) := lv_sub hl [2, 3, 1, 0] rfl
              exact join1 _ _ _ _ ⟨0, ⟨Or.inl rfl, fun h9 => absurd h9 (by decide)⟩, rfl, hP, hD, hS, hl⟩
            · have t_50 : (cv).toInt = 60 := toI_nne c_50 rfl (by decide)
              refine lv_iload_n hx hb dX12_takeSign_53 rfl (lv_at hl 0 rfl) ?_
              refine lv_bipush (v := 62) hx hb dX12_takeSign_54 (by decide) ?_
              refine lv_icmp_ne (tgt := 63) hx hb dX12_takeSign_56 (by decide) (fun c_56 => ?_) (fun c_56 => ?_)
              · have t_56 : ((bA tp (vF 9) (an + 1))).toInt ≠ 62 := toI_ne c_56 rfl (by decide)
                refine lv_iconst (v := 0) hx hb dX12_takeSign_63 (by decide) ?_
                refine lv_istore_n hx hb dX12_takeSign_64 rfl hl (by decide) rfl (fun ls (hl : lv_has ls _ ([(3, .int 0), (2, .int (bA tp (vF 9) (an + 1))), (0, .ref h0), (1, .int cv)])) => ?_)
                have hl : lv_has _ _ ([(0, .ref h0), (1, .int cv), (2, .int (bA tp (vF 9) (an + 1))), (3, .int 0)]) := lv_sub hl [2, 3, 1, 0] rfl
                exact join1 _ _ _ _ ⟨0, ⟨Or.inl rfl, fun h9 => absurd h9 (by decide)⟩, rfl, hP, hD, hS, hl⟩
              · have t_56 : ((bA tp (vF 9) (an + 1))).toInt = 62 := toI_nne c_56 rfl (by decide)
                refine lv_iconst (v := 1) hx hb dX12_takeSign_59 (by decide) ?_
                refine lv_goto (tgt := 64) hx hb dX12_takeSign_60 (by decide) ?_
                refine lv_istore_n hx hb dX12_takeSign_64 rfl hl (by decide) rfl (fun ls (hl : lv_has ls _ ([(3, .int 1), (2, .int (bA tp (vF 9) (an + 1))), (0, .ref h0), (1, .int cv)])) => ?_)
                have hl : lv_has _ _ ([(0, .ref h0), (1, .int cv), (2, .int (bA tp (vF 9) (an + 1))), (3, .int 1)]) := lv_sub hl [2, 3, 1, 0] rfl
                exact join1 _ _ _ _ ⟨1, ⟨Or.inr rfl, fun _ => by (have b9 := bA_in tp (vF 9) (an + 1)); omega⟩, rfl, hP, hD, hS, hl⟩
          · have t_38 : (cv).toInt = 62 := toI_nne c_38 rfl (by decide)
            refine lv_iload_n hx hb dX12_takeSign_41 rfl (lv_at hl 0 rfl) ?_
            refine lv_bipush (v := 61) hx hb dX12_takeSign_42 (by decide) ?_
            refine lv_icmp_eq (tgt := 59) hx hb dX12_takeSign_44 (by decide) (fun c_44 => ?_) (fun c_44 => ?_)
            · have t_44 : ((bA tp (vF 9) (an + 1))).toInt = 61 := toI_eq c_44 rfl (by decide)
              refine lv_iconst (v := 1) hx hb dX12_takeSign_59 (by decide) ?_
              refine lv_goto (tgt := 64) hx hb dX12_takeSign_60 (by decide) ?_
              refine lv_istore_n hx hb dX12_takeSign_64 rfl hl (by decide) rfl (fun ls (hl : lv_has ls _ ([(3, .int 1), (2, .int (bA tp (vF 9) (an + 1))), (0, .ref h0), (1, .int cv)])) => ?_)
              have hl : lv_has _ _ ([(0, .ref h0), (1, .int cv), (2, .int (bA tp (vF 9) (an + 1))), (3, .int 1)]) := lv_sub hl [2, 3, 1, 0] rfl
              exact join1 _ _ _ _ ⟨1, ⟨Or.inr rfl, fun _ => by (have b9 := bA_in tp (vF 9) (an + 1)); omega⟩, rfl, hP, hD, hS, hl⟩
            · have t_44 : ¬ ((bA tp (vF 9) (an + 1))).toInt = 61 := toI_neq c_44 rfl (by decide)
              refine lv_iload_n hx hb dX12_takeSign_47 rfl (lv_at hl 2 rfl) ?_
              refine lv_bipush (v := 60) hx hb dX12_takeSign_48 (by decide) ?_
              refine lv_icmp_ne (tgt := 63) hx hb dX12_takeSign_50 (by decide) (fun c_50 => ?_) (fun c_50 => ?_)
              · have t_50 : (cv).toInt ≠ 60 := toI_ne c_50 rfl (by decide)
                refine lv_iconst (v := 0) hx hb dX12_takeSign_63 (by decide) ?_
                refine lv_istore_n hx hb dX12_takeSign_64 rfl hl (by decide) rfl (fun ls (hl : lv_has ls _ ([(3, .int 0), (2, .int (bA tp (vF 9) (an + 1))), (0, .ref h0), (1, .int cv)])) => ?_)
                have hl : lv_has _ _ ([(0, .ref h0), (1, .int cv), (2, .int (bA tp (vF 9) (an + 1))), (3, .int 0)]) := lv_sub hl [2, 3, 1, 0] rfl
                exact join1 _ _ _ _ ⟨0, ⟨Or.inl rfl, fun h9 => absurd h9 (by decide)⟩, rfl, hP, hD, hS, hl⟩
              · have t_50 : (cv).toInt = 60 := toI_nne c_50 rfl (by decide)
                refine lv_iload_n hx hb dX12_takeSign_53 rfl (lv_at hl 0 rfl) ?_
                refine lv_bipush (v := 62) hx hb dX12_takeSign_54 (by decide) ?_
                refine lv_icmp_ne (tgt := 63) hx hb dX12_takeSign_56 (by decide) (fun c_56 => ?_) (fun c_56 => ?_)
                · have t_56 : ((bA tp (vF 9) (an + 1))).toInt ≠ 62 := toI_ne c_56 rfl (by decide)
                  refine lv_iconst (v := 0) hx hb dX12_takeSign_63 (by decide) ?_
                  refine lv_istore_n hx hb dX12_takeSign_64 rfl hl (by decide) rfl (fun ls (hl : lv_has ls _ ([(3, .int 0), (2, .int (bA tp (vF 9) (an + 1))), (0, .ref h0), (1, .int cv)])) => ?_)
                  have hl : lv_has _ _ ([(0, .ref h0), (1, .int cv), (2, .int (bA tp (vF 9) (an + 1))), (3, .int 0)]) := lv_sub hl [2, 3, 1, 0] rfl
                  exact join1 _ _ _ _ ⟨0, ⟨Or.inl rfl, fun h9 => absurd h9 (by decide)⟩, rfl, hP, hD, hS, hl⟩
                · have t_56 : ((bA tp (vF 9) (an + 1))).toInt = 62 := toI_nne c_56 rfl (by decide)
                  refine lv_iconst (v := 1) hx hb dX12_takeSign_59 (by decide) ?_
                  refine lv_goto (tgt := 64) hx hb dX12_takeSign_60 (by decide) ?_
                  refine lv_istore_n hx hb dX12_takeSign_64 rfl hl (by decide) rfl (fun ls (hl : lv_has ls _ ([(3, .int 1), (2, .int (bA tp (vF 9) (an + 1))), (0, .ref h0), (1, .int cv)])) => ?_)
                  have hl : lv_has _ _ ([(0, .ref h0), (1, .int cv), (2, .int (bA tp (vF 9) (an + 1))), (3, .int 1)]) := lv_sub hl [2, 3, 1, 0] rfl
                  exact join1 _ _ _ _ ⟨1, ⟨Or.inr rfl, fun _ => by (have b9 := bA_in tp (vF 9) (an + 1)); omega⟩, rfl, hP, hD, hS, hl⟩
    · have t_14 : (cv).toInt = 46 := toI_nne c_14 rfl (by decide)
      refine lv_iload_n hx hb dX12_takeSign_17 rfl (lv_at hl 0 rfl) ?_
      refine lv_bipush (v := 46) hx hb dX12_takeSign_18 (by decide) ?_
      refine lv_icmp_eq (tgt := 59) hx hb dX12_takeSign_20 (by decide) (fun c_20 => ?_) (fun c_20 => ?_)
      · have t_20 : ((bA tp (vF 9) (an + 1))).toInt = 46 := toI_eq c_20 rfl (by decide)
        refine lv_iconst (v := 1) hx hb dX12_takeSign_59 (by decide) ?_
        refine lv_goto (tgt := 64) hx hb dX12_takeSign_60 (by decide) ?_
        refine lv_istore_n hx hb dX12_takeSign_64 rfl hl (by decide) rfl (fun ls (hl : lv_has ls _ ([(3, .int 1), (2, .int (bA tp (vF 9) (an + 1))), (0, .ref h0), (1, .int cv)])) => ?_)
        have hl : lv_has _ _ ([(0, .ref h0), (1, .int cv), (2, .int (bA tp (vF 9) (an + 1))), (3, .int 1)]) := lv_sub hl [2, 3, 1, 0] rfl
        exact join1 _ _ _ _ ⟨1, ⟨Or.inr rfl, fun _ => by (have b9 := bA_in tp (vF 9) (an + 1)); omega⟩, rfl, hP, hD, hS, hl⟩
      · have t_20 : ¬ ((bA tp (vF 9) (an + 1))).toInt = 46 := toI_neq c_20 rfl (by decide)
        refine lv_iload_n hx hb dX12_takeSign_23 rfl (lv_at hl 2 rfl) ?_
        refine lv_bipush (v := 60) hx hb dX12_takeSign_24 (by decide) ?_
        refine lv_icmp_ne (tgt := 35) hx hb dX12_takeSign_26 (by decide) (fun c_26 => ?_) (fun c_26 => ?_)
        · have t_26 : (cv).toInt ≠ 60 := toI_ne c_26 rfl (by decide)
          refine lv_iload_n hx hb dX12_takeSign_35 rfl (lv_at hl 2 rfl) ?_
          refine lv_bipush (v := 62) hx hb dX12_takeSign_36 (by decide) ?_
          refine lv_icmp_ne (tgt := 47) hx hb dX12_takeSign_38 (by decide) (fun c_38 => ?_) (fun c_38 => ?_)
          · have t_38 : (cv).toInt ≠ 62 := toI_ne c_38 rfl (by decide)
            refine lv_iload_n hx hb dX12_takeSign_47 rfl (lv_at hl 2 rfl) ?_
            refine lv_bipush (v := 60) hx hb dX12_takeSign_48 (by decide) ?_
            refine lv_icmp_ne (tgt := 63) hx hb dX12_takeSign_50 (by decide) (fun c_50 => ?_) (fun c_50 => ?_)
            · have t_50 : (cv).toInt ≠ 60 := toI_ne c_50 rfl (by decide)
              refine lv_iconst (v := 0) hx hb dX12_takeSign_63 (by decide) ?_
              refine lv_istore_n hx hb dX12_takeSign_64 rfl hl (by decide) rfl (fun ls (hl : lv_has ls _ ([(3, .int 0), (2, .int (bA tp (vF 9) (an + 1))), (0, .ref h0), (1, .int cv)])) => ?_)
              have hl : lv_has _ _ ([(0, .ref h0), (1, .int cv), (2, .int (bA tp (vF 9) (an + 1))), (3, .int 0)]) := lv_sub hl [2, 3, 1, 0] rfl
              exact join1 _ _ _ _ ⟨0, ⟨Or.inl rfl, fun h9 => absurd h9 (by decide)⟩, rfl, hP, hD, hS, hl⟩
            · have t_50 : (cv).toInt = 60 := toI_nne c_50 rfl (by decide)
              refine lv_iload_n hx hb dX12_takeSign_53 rfl (lv_at hl 0 rfl) ?_
              refine lv_bipush (v := 62) hx hb dX12_takeSign_54 (by decide) ?_
              refine lv_icmp_ne (tgt := 63) hx hb dX12_takeSign_56 (by decide) (fun c_56 => ?_) (fun c_56 => ?_)
              · have t_56 : ((bA tp (vF 9) (an + 1))).toInt ≠ 62 := toI_ne c_56 rfl (by decide)
                refine lv_iconst (v := 0) hx hb dX12_takeSign_63 (by decide) ?_
                refine lv_istore_n hx hb dX12_takeSign_64 rfl hl (by decide) rfl (fun ls (hl : lv_has ls _ ([(3, .int 0), (2, .int (bA tp (vF 9) (an + 1))), (0, .ref h0), (1, .int cv)])) => ?_)
                have hl : lv_has _ _ ([(0, .ref h0), (1, .int cv), (2, .int (bA tp (vF 9) (an + 1))), (3, .int 0)]) := lv_sub hl [2, 3, 1, 0] rfl
                exact join1 _ _ _ _ ⟨0, ⟨Or.inl rfl, fun h9 => absurd h9 (by decide)⟩, rfl, hP, hD, hS, hl⟩
              · have t_56 : ((bA tp (vF 9) (an + 1))).toInt = 62 := toI_nne c_56 rfl (by decide)
                refine lv_iconst (v := 1) hx hb dX12_takeSign_59 (by decide) ?_
                refine lv_goto (tgt := 64) hx hb dX12_takeSign_60 (by decide) ?_
                refine lv_istore_n hx hb dX12_takeSign_64 rfl hl (by decide) rfl (fun ls (hl : lv_has ls _ ([(3, .int 1), (2, .int (bA tp (vF 9) (an + 1))), (0, .ref h0), (1, .int cv)])) => ?_)
                have hl : lv_has _ _ ([(0, .ref h0), (1, .int cv), (2, .int (bA tp (vF 9) (an + 1))), (3, .int 1)]) := lv_sub hl [2, 3, 1, 0] rfl
                exact join1 _ _ _ _ ⟨1, ⟨Or.inr rfl, fun _ => by (have b9 := bA_in tp (vF 9) (an + 1)); omega⟩, rfl, hP, hD, hS, hl⟩
          · have t_38 : (cv).toInt = 62 := toI_nne c_38 rfl (by decide)
            refine lv_iload_n hx hb dX12_takeSign_41 rfl (lv_at hl 0 rfl) ?_
            refine lv_bipush (v := 61) hx hb dX12_takeSign_42 (by decide) ?_
            refine lv_icmp_eq (tgt := 59) hx hb dX12_takeSign_44 (by decide) (fun c_44 => ?_) (fun c_44 => ?_)
            · have t_44 : ((bA tp (vF 9) (an + 1))).toInt = 61 := toI_eq c_44 rfl (by decide)
              refine lv_iconst (v := 1) hx hb dX12_takeSign_59 (by decide) ?_
              refine lv_goto (tgt := 64) hx hb dX12_takeSign_60 (by decide) ?_
              refine lv_istore_n hx hb dX12_takeSign_64 rfl hl (by decide) rfl (fun ls (hl : lv_has ls _ ([(3, .int 1), (2, .int (bA tp (vF 9) (an + 1))), (0, .ref h0), (1, .int cv)])) => ?_)
              have hl : lv_has _ _ ([(0, .ref h0), (1, .int cv), (2, .int (bA tp (vF 9) (an + 1))), (3, .int 1)]) := lv_sub hl [2, 3, 1, 0] rfl
              exact join1 _ _ _ _ ⟨1, ⟨Or.inr rfl, fun _ => by (have b9 := bA_in tp (vF 9) (an + 1)); omega⟩, rfl, hP, hD, hS, hl⟩
            · have t_44 : ¬ ((bA tp (vF 9) (an + 1))).toInt = 61 := toI_neq c_44 rfl (by decide)
              refine lv_iload_n hx hb dX12_takeSign_47 rfl (lv_at hl 2 rfl) ?_
              refine lv_bipush (v := 60) hx hb dX12_takeSign_48 (by decide) ?_
              refine lv_icmp_ne (tgt := 63) hx hb dX12_takeSign_50 (by decide) (fun c_50 => ?_) (fun c_50 => ?_)
              · have t_50 : (cv).toInt ≠ 60 := toI_ne c_50 rfl (by decide)
                refine lv_iconst (v := 0) hx hb dX12_takeSign_63 (by decide) ?_
                refine lv_istore_n hx hb dX12_takeSign_64 rfl hl (by decide) rfl (fun ls (hl : lv_has ls _ ([(3, .int 0), (2, .int (bA tp (vF 9) (an + 1))), (0, .ref h0), (1, .int cv)])) => ?_)
                have hl : lv_has _ _ ([(0, .ref h0), (1, .int cv), (2, .int (bA tp (vF 9) (an + 1))), (3, .int 0)]) := lv_sub hl [2, 3, 1, 0] rfl
                exact join1 _ _ _ _ ⟨0, ⟨Or.inl rfl, fun h9 => absurd h9 (by decide)⟩, rfl, hP, hD, hS, hl⟩
              · have t_50 : (cv).toInt = 60 := toI_nne c_50 rfl (by decide)
                refine lv_iload_n hx hb dX12_takeSign_53 rfl (lv_at hl 0 rfl) ?_
                refine lv_bipush (v := 62) hx hb dX12_takeSign_54 (by decide) ?_
                refine lv_icmp_ne (tgt := 63) hx hb dX12_takeSign_56 (by decide) (fun c_56 => ?_) (fun c_56 => ?_)
                · have t_56 : ((bA tp (vF 9) (an + 1))).toInt ≠ 62 := toI_ne c_56 rfl (by decide)
                  refine lv_iconst (v := 0) hx hb dX12_takeSign_63 (by decide) ?_
                  refine lv_istore_n hx hb dX12_takeSign_64 rfl hl (by decide) rfl (fun ls (hl : lv_has ls _ ([(3, .int 0), (2, .int (bA tp (vF 9) (an + 1))), (0, .ref h0), (1, .int cv)])) => ?_)
                  have hl : lv_has _ _ ([(0, .ref h0), (1, .int cv), (2, .int (bA tp (vF 9) (an + 1))), (3, .int 0)]) := lv_sub hl [2, 3, 1, 0] rfl
                  exact join1 _ _ _ _ ⟨0, ⟨Or.inl rfl, fun h9 => absurd h9 (by decide)⟩, rfl, hP, hD, hS, hl⟩
                · have t_56 : ((bA tp (vF 9) (an + 1))).toInt = 62 := toI_nne c_56 rfl (by decide)
                  refine lv_iconst (v := 1) hx hb dX12_takeSign_59 (by decide) ?_
                  refine lv_goto (tgt := 64) hx hb dX12_takeSign_60 (by decide) ?_
                  refine lv_istore_n hx hb dX12_takeSign_64 rfl hl (by decide) rfl (fun ls (hl : lv_has ls _ ([(3, .int 1), (2, .int (bA tp (vF 9) (an + 1))), (0, .ref h0), (1, .int cv)])) => ?_)
                  have hl : lv_has _ _ ([(0, .ref h0), (1, .int cv), (2, .int (bA tp (vF 9) (an + 1))), (3, .int 1)]) := lv_sub hl [2, 3, 1, 0] rfl
                  exact join1 _ _ _ _ ⟨1, ⟨Or.inr rfl, fun _ => by (have b9 := bA_in tp (vF 9) (an + 1)); omega⟩, rfl, hP, hD, hS, hl⟩
        · have t_26 : (cv).toInt = 60 := toI_nne c_26 rfl (by decide)
          refine lv_iload_n hx hb dX12_takeSign_29 rfl (lv_at hl 0 rfl) ?_
          refine lv_bipush (v := 61) hx hb dX12_takeSign_30 (by decide) ?_
          refine lv_icmp_eq (tgt := 59) hx hb dX12_takeSign_32 (by decide) (fun c_32 => ?_) (fun c_32 => ?_)
          · have t_32 : ((bA tp (vF 9) (an + 1))).toInt = 61 := toI_eq c_32 rfl (by decide)
            refine lv_iconst (v := 1) hx hb dX12_takeSign_59 (by decide) ?_
            refine lv_goto (tgt := 64) hx hb dX12_takeSign_60 (by decide) ?_
            refine lv_istore_n hx hb dX12_takeSign_64 rfl hl (by decide) rfl (fun ls (hl : lv_has ls _ ([(3, .int 1), (2, .int (bA tp (vF 9) (an + 1))), (0, .ref h0), (1, .int cv)])) => ?_)
            have hl : lv_has _ _ ([(0, .ref h0), (1, .int cv), (2, .int (bA tp (vF 9) (an + 1))), (3, .int 1)]) := lv_sub hl [2, 3, 1, 0] rfl
            exact join1 _ _ _ _ ⟨1, ⟨Or.inr rfl, fun _ => by (have b9 := bA_in tp (vF 9) (an + 1)); omega⟩, rfl, hP, hD, hS, hl⟩
          · have t_32 : ¬ ((bA tp (vF 9) (an + 1))).toInt = 61 := toI_neq c_32 rfl (by decide)
            refine lv_iload_n hx hb dX12_takeSign_35 rfl (lv_at hl 2 rfl) ?_
            refine lv_bipush (v := 62) hx hb dX12_takeSign_36 (by decide) ?_
            refine lv_icmp_ne (tgt := 47) hx hb dX12_takeSign_38 (by decide) (fun c_38 => ?_) (fun c_38 => ?_)
            · have t_38 : (cv).toInt ≠ 62 := toI_ne c_38 rfl (by decide)
              refine lv_iload_n hx hb dX12_takeSign_47 rfl (lv_at hl 2 rfl) ?_
              refine lv_bipush (v := 60) hx hb dX12_takeSign_48 (by decide) ?_
              refine lv_icmp_ne (tgt := 63) hx hb dX12_takeSign_50 (by decide) (fun c_50 => ?_) (fun c_50 => ?_)
              · have t_50 : (cv).toInt ≠ 60 := toI_ne c_50 rfl (by decide)
                refine lv_iconst (v := 0) hx hb dX12_takeSign_63 (by decide) ?_
                refine lv_istore_n hx hb dX12_takeSign_64 rfl hl (by decide) rfl (fun ls (hl : lv_has ls _ ([(3, .int 0), (2, .int (bA tp (vF 9) (an + 1))), (0, .ref h0), (1, .int cv)])) => ?_)
                have hl : lv_has _ _ ([(0, .ref h0), (1, .int cv), (2, .int (bA tp (vF 9) (an + 1))), (3, .int 0)]) := lv_sub hl [2, 3, 1, 0] rfl
                exact join1 _ _ _ _ ⟨0, ⟨Or.inl rfl, fun h9 => absurd h9 (by decide)⟩, rfl, hP, hD, hS, hl⟩
              · have t_50 : (cv).toInt = 60 := toI_nne c_50 rfl (by decide)
                refine lv_iload_n hx hb dX12_takeSign_53 rfl (lv_at hl 0 rfl) ?_
                refine lv_bipush (v := 62) hx hb dX12_takeSign_54 (by decide) ?_
                refine lv_icmp_ne (tgt := 63) hx hb dX12_takeSign_56 (by decide) (fun c_56 => ?_) (fun c_56 => ?_)
                · have t_56 : ((bA tp (vF 9) (an + 1))).toInt ≠ 62 := toI_ne c_56 rfl (by decide)
                  refine lv_iconst (v := 0) hx hb dX12_takeSign_63 (by decide) ?_
                  refine lv_istore_n hx hb dX12_takeSign_64 rfl hl (by decide) rfl (fun ls (hl : lv_has ls _ ([(3, .int 0), (2, .int (bA tp (vF 9) (an + 1))), (0, .ref h0), (1, .int cv)])) => ?_)
                  have hl : lv_has _ _ ([(0, .ref h0), (1, .int cv), (2, .int (bA tp (vF 9) (an + 1))), (3, .int 0)]) := lv_sub hl [2, 3, 1, 0] rfl
                  exact join1 _ _ _ _ ⟨0, ⟨Or.inl rfl, fun h9 => absurd h9 (by decide)⟩, rfl, hP, hD, hS, hl⟩
                · have t_56 : ((bA tp (vF 9) (an + 1))).toInt = 62 := toI_nne c_56 rfl (by decide)
                  refine lv_iconst (v := 1) hx hb dX12_takeSign_59 (by decide) ?_
                  refine lv_goto (tgt := 64) hx hb dX12_takeSign_60 (by decide) ?_
                  refine lv_istore_n hx hb dX12_takeSign_64 rfl hl (by decide) rfl (fun ls (hl : lv_has ls _ ([(3, .int 1), (2, .int (bA tp (vF 9) (an + 1))), (0, .ref h0), (1, .int cv)])) => ?_)
                  have hl : lv_has _ _ ([(0, .ref h0), (1, .int cv), (2, .int (bA tp (vF 9) (an + 1))), (3, .int 1)]) := lv_sub hl [2, 3, 1, 0] rfl
                  exact join1 _ _ _ _ ⟨1, ⟨Or.inr rfl, fun _ => by (have b9 := bA_in tp (vF 9) (an + 1)); omega⟩, rfl, hP, hD, hS, hl⟩
            · have t_38 : (cv).toInt = 62 := toI_nne c_38 rfl (by decide)
              refine lv_iload_n hx hb dX12_takeSign_41 rfl (lv_at hl 0 rfl) ?_
              refine lv_bipush (v := 61) hx hb dX12_takeSign_42 (by decide) ?_
              refine lv_icmp_eq (tgt := 59) hx hb dX12_takeSign_44 (by decide) (fun c_44 => ?_) (fun c_44 => ?_)
              · have t_44 : ((bA tp (vF 9) (an + 1))).toInt = 61 := toI_eq c_44 rfl (by decide)
                refine lv_iconst (v := 1) hx hb dX12_takeSign_59 (by decide) ?_
                refine lv_goto (tgt := 64) hx hb dX12_takeSign_60 (by decide) ?_
                refine lv_istore_n hx hb dX12_takeSign_64 rfl hl (by decide) rfl (fun ls (hl : lv_has ls _ ([(3, .int 1), (2, .int (bA tp (vF 9) (an + 1))), (0, .ref h0), (1, .int cv)])) => ?_)
                have hl : lv_has _ _ ([(0, .ref h0), (1, .int cv), (2, .int (bA tp (vF 9) (an + 1))), (3, .int 1)]) := lv_sub hl [2, 3, 1, 0] rfl
                exact join1 _ _ _ _ ⟨1, ⟨Or.inr rfl, fun _ => by (have b9 := bA_in tp (vF 9) (an + 1)); omega⟩, rfl, hP, hD, hS, hl⟩
              · have t_44 : ¬ ((bA tp (vF 9) (an + 1))).toInt = 61 := toI_neq c_44 rfl (by decide)
                refine lv_iload_n hx hb dX12_takeSign_47 rfl (lv_at hl 2 rfl) ?_
                refine lv_bipush (v := 60) hx hb dX12_takeSign_48 (by decide) ?_
                refine lv_icmp_ne (tgt := 63) hx hb dX12_takeSign_50 (by decide) (fun c_50 => ?_) (fun c_50 => ?_)
                · have t_50 : (cv).toInt ≠ 60 := toI_ne c_50 rfl (by decide)
                  refine lv_iconst (v := 0) hx hb dX12_takeSign_63 (by decide) ?_
                  refine lv_istore_n hx hb dX12_takeSign_64 rfl hl (by decide) rfl (fun ls (hl : lv_has ls _ ([(3, .int 0), (2, .int (bA tp (vF 9) (an + 1))), (0, .ref h0), (1, .int cv)])) => ?_)
                  have hl : lv_has _ _ ([(0, .ref h0), (1, .int cv), (2, .int (bA tp (vF 9) (an + 1))), (3, .int 0)]) := lv_sub hl [2, 3, 1, 0] rfl
                  exact join1 _ _ _ _ ⟨0, ⟨Or.inl rfl, fun h9 => absurd h9 (by decide)⟩, rfl, hP, hD, hS, hl⟩
                · have t_50 : (cv).toInt = 60 := toI_nne c_50 rfl (by decide)
                  refine lv_iload_n hx hb dX12_takeSign_53 rfl (lv_at hl 0 rfl) ?_
                  refine lv_bipush (v := 62) hx hb dX12_takeSign_54 (by decide) ?_
                  refine lv_icmp_ne (tgt := 63) hx hb dX12_takeSign_56 (by decide) (fun c_56 => ?_) (fun c_56 => ?_)
                  · have t_56 : ((bA tp (vF 9) (an + 1))).toInt ≠ 62 := toI_ne c_56 rfl (by decide)
                    refine lv_iconst (v := 0) hx hb dX12_takeSign_63 (by decide) ?_
                    refine lv_istore_n hx hb dX12_takeSign_64 rfl hl (by decide) rfl (fun ls (hl : lv_has ls _ ([(3, .int 0), (2, .int (bA tp (vF 9) (an + 1))), (0, .ref h0), (1, .int cv)])) => ?_)
                    have hl : lv_has _ _ ([(0, .ref h0), (1, .int cv), (2, .int (bA tp (vF 9) (an + 1))), (3, .int 0)]) := lv_sub hl [2, 3, 1, 0] rfl
                    exact join1 _ _ _ _ ⟨0, ⟨Or.inl rfl, fun h9 => absurd h9 (by decide)⟩, rfl, hP, hD, hS, hl⟩
                  · have t_56 : ((bA tp (vF 9) (an + 1))).toInt = 62 := toI_nne c_56 rfl (by decide)
                    refine lv_iconst (v := 1) hx hb dX12_takeSign_59 (by decide) ?_
                    refine lv_goto (tgt := 64) hx hb dX12_takeSign_60 (by decide) ?_
                    refine lv_istore_n hx hb dX12_takeSign_64 rfl hl (by decide) rfl (fun ls (hl : lv_has ls _ ([(3, .int 1), (2, .int (bA tp (vF 9) (an + 1))), (0, .ref h0), (1, .int cv)])) => ?_)
                    have hl : lv_has _ _ ([(0, .ref h0), (1, .int cv), (2, .int (bA tp (vF 9) (an + 1))), (3, .int 1)]) := lv_sub hl [2, 3, 1, 0] rfl
                    exact join1 _ _ _ _ ⟨1, ⟨Or.inr rfl, fun _ => by (have b9 := bA_in tp (vF 9) (an + 1)); omega⟩, rfl, hP, hD, hS, hl⟩
  · rintro H locs ls stk ⟨tw, htw, rfl, hP, hD, hS, hl⟩
    refine lv_iload_n hx hb dX12_takeSign_65 rfl (lv_at hl 1 rfl) ?_
    refine lv_bipush (v := 61) hx hb dX12_takeSign_66 (by decide) ?_
    refine W.cut (pc := 168) (fun H locs ls stk => ∃ (on : Int32),  stk = [] ∧ va_P (dC, dI) vwCl (WR a k h0 vi vj vF vG) H ∧ va_D A (WR a k h0 vi vj vF vG) ∧ va_S A s.heap H locs ∧ lv_has ls 5 [(0, .ref h0), (1, .int cv), (2, .int (bA tp (vF 9) (an + 1))), (3, .int tw), (4, .int on)]) (fun join2 => ?_) ?_
    · refine lv_icmp_eq (tgt := 161) hx hb dX12_takeSign_68 (by decide) (fun c_68 => ?_) (fun c_68 => ?_)
      · have t_68 : (cv).toInt = 61 := toI_eq c_68 rfl (by decide)
        refine lv_iconst (v := 1) hx hb dX12_takeSign_161 (by decide) ?_
        refine lv_goto (tgt := 166) hx hb dX12_takeSign_162 (by decide) ?_
        refine lv_istore hx hb dX12_takeSign_166 hl (by decide) rfl (fun ls (hl : lv_has ls _ ([(4, .int 1), (0, .ref h0), (1, .int cv), (2, .int (bA tp (vF 9) (an + 1))), (3, .int tw)])) => ?_)
        have hl : lv_has _ _ ([(0, .ref h0), (1, .int cv), (2, .int (bA tp (vF 9) (an + 1))), (3, .int tw), (4, .int 1)]) := lv_sub hl [1, 2, 3, 4, 0] rfl
        exact join2 _ _ _ _ ⟨1, rfl, hP, hD, hS, hl⟩
      · have t_68 : ¬ (cv).toInt = 61 := toI_neq c_68 rfl (by decide)
        refine lv_iload_n hx hb dX12_takeSign_71 rfl (lv_at hl 1 rfl) ?_
        refine lv_bipush (v := 60) hx hb dX12_takeSign_72 (by decide) ?_
        refine lv_icmp_eq (tgt := 161) hx hb dX12_takeSign_74 (by decide) (fun c_74 => ?_) (fun c_74 => ?_)
        · have t_74 : (cv).toInt = 60 := toI_eq c_74 rfl (by decide)
          refine lv_iconst (v := 1) hx hb dX12_takeSign_161 (by decide) ?_
          refine lv_goto (tgt := 166) hx hb dX12_takeSign_162 (by decide) ?_
          refine lv_istore hx hb dX12_takeSign_166 hl (by decide) rfl (fun ls (hl : lv_has ls _ ([(4, .int 1), (0, .ref h0), (1, .int cv), (2, .int (bA tp (vF 9) (an + 1))), (3, .int tw)])) => ?_)
          have hl : lv_has _ _ ([(0, .ref h0), (1, .int cv), (2, .int (bA tp (vF 9) (an + 1))), (3, .int tw), (4, .int 1)]) := lv_sub hl [1, 2, 3, 4, 0] rfl
          exact join2 _ _ _ _ ⟨1, rfl, hP, hD, hS, hl⟩
        · have t_74 : ¬ (cv).toInt = 60 := toI_neq c_74 rfl (by decide)
          refine lv_iload_n hx hb dX12_takeSign_77 rfl (lv_at hl 1 rfl) ?_
          refine lv_bipush (v := 62) hx hb dX12_takeSign_78 (by decide) ?_
          refine lv_icmp_eq (tgt := 161) hx hb dX12_takeSign_80 (by decide) (fun c_80 => ?_) (fun c_80 => ?_)
          · have t_80 : (cv).toInt = 62 := toI_eq c_80 rfl (by decide)
            refine lv_iconst (v := 1) hx hb dX12_takeSign_161 (by decide) ?_
            refine lv_goto (tgt := 166) hx hb dX12_takeSign_162 (by decide) ?_
            refine lv_istore hx hb dX12_takeSign_166 hl (by decide) rfl (fun ls (hl : lv_has ls _ ([(4, .int 1), (0, .ref h0), (1, .int cv), (2, .int (bA tp (vF 9) (an + 1))), (3, .int tw)])) => ?_)
            have hl : lv_has _ _ ([(0, .ref h0), (1, .int cv), (2, .int (bA tp (vF 9) (an + 1))), (3, .int tw), (4, .int 1)]) := lv_sub hl [1, 2, 3, 4, 0] rfl
            exact join2 _ _ _ _ ⟨1, rfl, hP, hD, hS, hl⟩
          · have t_80 : ¬ (cv).toInt = 62 := toI_neq c_80 rfl (by decide)
            refine lv_iload_n hx hb dX12_takeSign_83 rfl (lv_at hl 1 rfl) ?_
            refine lv_bipush (v := 58) hx hb dX12_takeSign_84 (by decide) ?_
            refine lv_icmp_eq (tgt := 161) hx hb dX12_takeSign_86 (by decide) (fun c_86 => ?_) (fun c_86 => ?_)
            · have t_86 : (cv).toInt = 58 := toI_eq c_86 rfl (by decide)
              refine lv_iconst (v := 1) hx hb dX12_takeSign_161 (by decide) ?_
              refine lv_goto (tgt := 166) hx hb dX12_takeSign_162 (by decide) ?_
              refine lv_istore hx hb dX12_takeSign_166 hl (by decide) rfl (fun ls (hl : lv_has ls _ ([(4, .int 1), (0, .ref h0), (1, .int cv), (2, .int (bA tp (vF 9) (an + 1))), (3, .int tw)])) => ?_)
              have hl : lv_has _ _ ([(0, .ref h0), (1, .int cv), (2, .int (bA tp (vF 9) (an + 1))), (3, .int tw), (4, .int 1)]) := lv_sub hl [1, 2, 3, 4, 0] rfl
              exact join2 _ _ _ _ ⟨1, rfl, hP, hD, hS, hl⟩
            · have t_86 : ¬ (cv).toInt = 58 := toI_neq c_86 rfl (by decide)
              refine lv_iload_n hx hb dX12_takeSign_89 rfl (lv_at hl 1 rfl) ?_
              refine lv_bipush (v := 59) hx hb dX12_takeSign_90 (by decide) ?_
              refine lv_icmp_eq (tgt := 161) hx hb dX12_takeSign_92 (by decide) (fun c_92 => ?_) (fun c_92 => ?_)
              · have t_92 : (cv).toInt = 59 := toI_eq c_92 rfl (by decide)
                refine lv_iconst (v := 1) hx hb dX12_takeSign_161 (by decide) ?_
                refine lv_goto (tgt := 166) hx hb dX12_takeSign_162 (by decide) ?_
                refine lv_istore hx hb dX12_takeSign_166 hl (by decide) rfl (fun ls (hl : lv_has ls _ ([(4, .int 1), (0, .ref h0), (1, .int cv), (2, .int (bA tp (vF 9) (an + 1))), (3, .int tw)])) => ?_)
                have hl : lv_has _ _ ([(0, .ref h0), (1, .int cv), (2, .int (bA tp (vF 9) (an + 1))), (3, .int tw), (4, .int 1)]) := lv_sub hl [1, 2, 3, 4, 0] rfl
                exact join2 _ _ _ _ ⟨1, rfl, hP, hD, hS, hl⟩
              · have t_92 : ¬ (cv).toInt = 59 := toI_neq c_92 rfl (by decide)
                refine lv_iload_n hx hb dX12_takeSign_95 rfl (lv_at hl 1 rfl) ?_
                refine lv_bipush (v := 44) hx hb dX12_takeSign_96 (by decide) ?_
                refine lv_icmp_eq (tgt := 161) hx hb dX12_takeSign_98 (by decide) (fun c_98 => ?_) (fun c_98 => ?_)
                · have t_98 : (cv).toInt = 44 := toI_eq c_98 rfl (by decide)
                  refine lv_iconst (v := 1) hx hb dX12_takeSign_161 (by decide) ?_
                  refine lv_goto (tgt := 166) hx hb dX12_takeSign_162 (by decide) ?_
                  refine lv_istore hx hb dX12_takeSign_166 hl (by decide) rfl (fun ls (hl : lv_has ls _ ([(4, .int 1), (0, .ref h0), (1, .int cv), (2, .int (bA tp (vF 9) (an + 1))), (3, .int tw)])) => ?_)
                  have hl : lv_has _ _ ([(0, .ref h0), (1, .int cv), (2, .int (bA tp (vF 9) (an + 1))), (3, .int tw), (4, .int 1)]) := lv_sub hl [1, 2, 3, 4, 0] rfl
                  exact join2 _ _ _ _ ⟨1, rfl, hP, hD, hS, hl⟩
                · have t_98 : ¬ (cv).toInt = 44 := toI_neq c_98 rfl (by decide)
                  refine lv_iload_n hx hb dX12_takeSign_101 rfl (lv_at hl 1 rfl) ?_
                  refine lv_bipush (v := 91) hx hb dX12_takeSign_102 (by decide) ?_
                  refine lv_icmp_eq (tgt := 161) hx hb dX12_takeSign_104 (by decide) (fun c_104 => ?_) (fun c_104 => ?_)
                  · have t_104 : (cv).toInt = 91 := toI_eq c_104 rfl (by decide)
                    refine lv_iconst (v := 1) hx hb dX12_takeSign_161 (by decide) ?_
                    refine lv_goto (tgt := 166) hx hb dX12_takeSign_162 (by decide) ?_
                    refine lv_istore hx hb dX12_takeSign_166 hl (by decide) rfl (fun ls (hl : lv_has ls _ ([(4, .int 1), (0, .ref h0), (1, .int cv), (2, .int (bA tp (vF 9) (an + 1))), (3, .int tw)])) => ?_)
                    have hl : lv_has _ _ ([(0, .ref h0), (1, .int cv), (2, .int (bA tp (vF 9) (an + 1))), (3, .int tw), (4, .int 1)]) := lv_sub hl [1, 2, 3, 4, 0] rfl
                    exact join2 _ _ _ _ ⟨1, rfl, hP, hD, hS, hl⟩
                  · have t_104 : ¬ (cv).toInt = 91 := toI_neq c_104 rfl (by decide)
                    refine lv_iload_n hx hb dX12_takeSign_107 rfl (lv_at hl 1 rfl) ?_
                    refine lv_bipush (v := 93) hx hb dX12_takeSign_108 (by decide) ?_
                    refine lv_icmp_eq (tgt := 161) hx hb dX12_takeSign_110 (by decide) (fun c_110 => ?_) (fun c_110 => ?_)
                    · have t_110 : (cv).toInt = 93 := toI_eq c_110 rfl (by decide)
                      refine lv_iconst (v := 1) hx hb dX12_takeSign_161 (by decide) ?_
                      refine lv_goto (tgt := 166) hx hb dX12_takeSign_162 (by decide) ?_
                      refine lv_istore hx hb dX12_takeSign_166 hl (by decide) rfl (fun ls (hl : lv_has ls _ ([(4, .int 1), (0, .ref h0), (1, .int cv), (2, .int (bA tp (vF 9) (an + 1))), (3, .int tw)])) => ?_)
                      have hl : lv_has _ _ ([(0, .ref h0), (1, .int cv), (2, .int (bA tp (vF 9) (an + 1))), (3, .int tw), (4, .int 1)]) := lv_sub hl [1, 2, 3, 4, 0] rfl
                      exact join2 _ _ _ _ ⟨1, rfl, hP, hD, hS, hl⟩
                    · have t_110 : ¬ (cv).toInt = 93 := toI_neq c_110 rfl (by decide)
                      refine lv_iload_n hx hb dX12_takeSign_113 rfl (lv_at hl 1 rfl) ?_
                      refine lv_bipush (v := 123) hx hb dX12_takeSign_114 (by decide) ?_
                      refine lv_icmp_eq (tgt := 161) hx hb dX12_takeSign_116 (by decide) (fun c_116 => ?_) (fun c_116 => ?_)
                      · have t_116 : (cv).toInt = 123 := toI_eq c_116 rfl (by decide)
                        refine lv_iconst (v := 1) hx hb dX12_takeSign_161 (by decide) ?_
                        refine lv_goto (tgt := 166) hx hb dX12_takeSign_162 (by decide) ?_
                        refine lv_istore hx hb dX12_takeSign_166 hl (by decide) rfl (fun ls (hl : lv_has ls _ ([(4, .int 1), (0, .ref h0), (1, .int cv), (2, .int (bA tp (vF 9) (an + 1))), (3, .int tw)])) => ?_)
                        have hl : lv_has _ _ ([(0, .ref h0), (1, .int cv), (2, .int (bA tp (vF 9) (an + 1))), (3, .int tw), (4, .int 1)]) := lv_sub hl [1, 2, 3, 4, 0] rfl
                        exact join2 _ _ _ _ ⟨1, rfl, hP, hD, hS, hl⟩
                      · have t_116 : ¬ (cv).toInt = 123 := toI_neq c_116 rfl (by decide)
                        refine lv_iload_n hx hb dX12_takeSign_119 rfl (lv_at hl 1 rfl) ?_
                        refine lv_bipush (v := 125) hx hb dX12_takeSign_120 (by decide) ?_
                        refine lv_icmp_eq (tgt := 161) hx hb dX12_takeSign_122 (by decide) (fun c_122 => ?_) (fun c_122 => ?_)
                        · have t_122 : (cv).toInt = 125 := toI_eq c_122 rfl (by decide)
                          refine lv_iconst (v := 1) hx hb dX12_takeSign_161 (by decide) ?_
                          refine lv_goto (tgt := 166) hx hb dX12_takeSign_162 (by decide) ?_
                          refine lv_istore hx hb dX12_takeSign_166 hl (by decide) rfl (fun ls (hl : lv_has ls _ ([(4, .int 1), (0, .ref h0), (1, .int cv), (2, .int (bA tp (vF 9) (an + 1))), (3, .int tw)])) => ?_)
                          have hl : lv_has _ _ ([(0, .ref h0), (1, .int cv), (2, .int (bA tp (vF 9) (an + 1))), (3, .int tw), (4, .int 1)]) := lv_sub hl [1, 2, 3, 4, 0] rfl
                          exact join2 _ _ _ _ ⟨1, rfl, hP, hD, hS, hl⟩
                        · have t_122 : ¬ (cv).toInt = 125 := toI_neq c_122 rfl (by decide)
                          refine lv_iload_n hx hb dX12_takeSign_125 rfl (lv_at hl 1 rfl) ?_
                          refine lv_bipush (v := 40) hx hb dX12_takeSign_126 (by decide) ?_
                          refine lv_icmp_eq (tgt := 161) hx hb dX12_takeSign_128 (by decide) (fun c_128 => ?_) (fun c_128 => ?_)
                          · have t_128 : (cv).toInt = 40 := toI_eq c_128 rfl (by decide)
                            refine lv_iconst (v := 1) hx hb dX12_takeSign_161 (by decide) ?_
                            refine lv_goto (tgt := 166) hx hb dX12_takeSign_162 (by decide) ?_
                            refine lv_istore hx hb dX12_takeSign_166 hl (by decide) rfl (fun ls (hl : lv_has ls _ ([(4, .int 1), (0, .ref h0), (1, .int cv), (2, .int (bA tp (vF 9) (an + 1))), (3, .int tw)])) => ?_)
                            have hl : lv_has _ _ ([(0, .ref h0), (1, .int cv), (2, .int (bA tp (vF 9) (an + 1))), (3, .int tw), (4, .int 1)]) := lv_sub hl [1, 2, 3, 4, 0] rfl
                            exact join2 _ _ _ _ ⟨1, rfl, hP, hD, hS, hl⟩
                          · have t_128 : ¬ (cv).toInt = 40 := toI_neq c_128 rfl (by decide)
                            refine lv_iload_n hx hb dX12_takeSign_131 rfl (lv_at hl 1 rfl) ?_
                            refine lv_bipush (v := 41) hx hb dX12_takeSign_132 (by decide) ?_
                            refine lv_icmp_eq (tgt := 161) hx hb dX12_takeSign_134 (by decide) (fun c_134 => ?_) (fun c_134 => ?_)
                            · have t_134 : (cv).toInt = 41 := toI_eq c_134 rfl (by decide)
                              refine lv_iconst (v := 1) hx hb dX12_takeSign_161 (by decide) ?_
                              refine lv_goto (tgt := 166) hx hb dX12_takeSign_162 (by decide) ?_
                              refine lv_istore hx hb dX12_takeSign_166 hl (by decide) rfl (fun ls (hl : lv_has ls _ ([(4, .int 1), (0, .ref h0), (1, .int cv), (2, .int (bA tp (vF 9) (an + 1))), (3, .int tw)])) => ?_)
                              have hl : lv_has _ _ ([(0, .ref h0), (1, .int cv), (2, .int (bA tp (vF 9) (an + 1))), (3, .int tw), (4, .int 1)]) := lv_sub hl [1, 2, 3, 4, 0] rfl
                              exact join2 _ _ _ _ ⟨1, rfl, hP, hD, hS, hl⟩
                            · have t_134 : ¬ (cv).toInt = 41 := toI_neq c_134 rfl (by decide)
                              refine lv_iload_n hx hb dX12_takeSign_137 rfl (lv_at hl 1 rfl) ?_
                              refine lv_bipush (v := 43) hx hb dX12_takeSign_138 (by decide) ?_
                              refine lv_icmp_eq (tgt := 161) hx hb dX12_takeSign_140 (by decide) (fun c_140 => ?_) (fun c_140 => ?_)
                              · have t_140 : (cv).toInt = 43 := toI_eq c_140 rfl (by decide)
                                refine lv_iconst (v := 1) hx hb dX12_takeSign_161 (by decide) ?_
                                refine lv_goto (tgt := 166) hx hb dX12_takeSign_162 (by decide) ?_
                                refine lv_istore hx hb dX12_takeSign_166 hl (by decide) rfl (fun ls (hl : lv_has ls _ ([(4, .int 1), (0, .ref h0), (1, .int cv), (2, .int (bA tp (vF 9) (an + 1))), (3, .int tw)])) => ?_)
                                have hl : lv_has _ _ ([(0, .ref h0), (1, .int cv), (2, .int (bA tp (vF 9) (an + 1))), (3, .int tw), (4, .int 1)]) := lv_sub hl [1, 2, 3, 4, 0] rfl
                                exact join2 _ _ _ _ ⟨1, rfl, hP, hD, hS, hl⟩
                              · have t_140 : ¬ (cv).toInt = 43 := toI_neq c_140 rfl (by decide)
                                refine lv_iload_n hx hb dX12_takeSign_143 rfl (lv_at hl 1 rfl) ?_
                                refine lv_bipush (v := 45) hx hb dX12_takeSign_144 (by decide) ?_
                                refine lv_icmp_eq (tgt := 161) hx hb dX12_takeSign_146 (by decide) (fun c_146 => ?_) (fun c_146 => ?_)
                                · have t_146 : (cv).toInt = 45 := toI_eq c_146 rfl (by decide)
                                  refine lv_iconst (v := 1) hx hb dX12_takeSign_161 (by decide) ?_
                                  refine lv_goto (tgt := 166) hx hb dX12_takeSign_162 (by decide) ?_
                                  refine lv_istore hx hb dX12_takeSign_166 hl (by decide) rfl (fun ls (hl : lv_has ls _ ([(4, .int 1), (0, .ref h0), (1, .int cv), (2, .int (bA tp (vF 9) (an + 1))), (3, .int tw)])) => ?_)
                                  have hl : lv_has _ _ ([(0, .ref h0), (1, .int cv), (2, .int (bA tp (vF 9) (an + 1))), (3, .int tw), (4, .int 1)]) := lv_sub hl [1, 2, 3, 4, 0] rfl
                                  exact join2 _ _ _ _ ⟨1, rfl, hP, hD, hS, hl⟩
                                · have t_146 : ¬ (cv).toInt = 45 := toI_neq c_146 rfl (by decide)
                                  refine lv_iload_n hx hb dX12_takeSign_149 rfl (lv_at hl 1 rfl) ?_
                                  refine lv_bipush (v := 42) hx hb dX12_takeSign_150 (by decide) ?_
                                  refine lv_icmp_eq (tgt := 161) hx hb dX12_takeSign_152 (by decide) (fun c_152 => ?_) (fun c_152 => ?_)
                                  · have t_152 : (cv).toInt = 42 := toI_eq c_152 rfl (by decide)
                                    refine lv_iconst (v := 1) hx hb dX12_takeSign_161 (by decide) ?_
                                    refine lv_goto (tgt := 166) hx hb dX12_takeSign_162 (by decide) ?_
                                    refine lv_istore hx hb dX12_takeSign_166 hl (by decide) rfl (fun ls (hl : lv_has ls _ ([(4, .int 1), (0, .ref h0), (1, .int cv), (2, .int (bA tp (vF 9) (an + 1))), (3, .int tw)])) => ?_)
                                    have hl : lv_has _ _ ([(0, .ref h0), (1, .int cv), (2, .int (bA tp (vF 9) (an + 1))), (3, .int tw), (4, .int 1)]) := lv_sub hl [1, 2, 3, 4, 0] rfl
                                    exact join2 _ _ _ _ ⟨1, rfl, hP, hD, hS, hl⟩
                                  · have t_152 : ¬ (cv).toInt = 42 := toI_neq c_152 rfl (by decide)
                                    refine lv_iload_n hx hb dX12_takeSign_155 rfl (lv_at hl 1 rfl) ?_
                                    refine lv_bipush (v := 47) hx hb dX12_takeSign_156 (by decide) ?_
                                    refine lv_icmp_ne (tgt := 165) hx hb dX12_takeSign_158 (by decide) (fun c_158 => ?_) (fun c_158 => ?_)
                                    · have t_158 : (cv).toInt ≠ 47 := toI_ne c_158 rfl (by decide)
                                      refine lv_iconst (v := 0) hx hb dX12_takeSign_165 (by decide) ?_
                                      refine lv_istore hx hb dX12_takeSign_166 hl (by decide) rfl (fun ls (hl : lv_has ls _ ([(4, .int 0), (0, .ref h0), (1, .int cv), (2, .int (bA tp (vF 9) (an + 1))), (3, .int tw)])) => ?_)
                                      have hl : lv_has _ _ ([(0, .ref h0), (1, .int cv), (2, .int (bA tp (vF 9) (an + 1))), (3, .int tw), (4, .int 0)]) := lv_sub hl [1, 2, 3, 4, 0] rfl
                                      exact join2 _ _ _ _ ⟨0, rfl, hP, hD, hS, hl⟩
                                    · have t_158 : (cv).toInt = 47 := toI_nne c_158 rfl (by decide)
                                      refine lv_iconst (v := 1) hx hb dX12_takeSign_161 (by decide) ?_
                                      refine lv_goto (tgt := 166) hx hb dX12_takeSign_162 (by decide) ?_
                                      refine lv_istore hx hb dX12_takeSign_166 hl (by decide) rfl (fun ls (hl : lv_has ls _ ([(4, .int 1), (0, .ref h0), (1, .int cv), (2, .int (bA tp (vF 9) (an + 1))), (3, .int tw)])) => ?_)
                                      have hl : lv_has _ _ ([(0, .ref h0), (1, .int cv), (2, .int (bA tp (vF 9) (an + 1))), (3, .int tw), (4, .int 1)]) := lv_sub hl [1, 2, 3, 4, 0] rfl
                                      exact join2 _ _ _ _ ⟨1, rfl, hP, hD, hS, hl⟩
    · rintro H locs ls stk ⟨on, rfl, hP, hD, hS, hl⟩
      refine lv_aload_n hx hb dX12_takeSign_168 rfl (lv_at hl 0 rfl) ?_
      refine lv_iload_n hx hb dX12_takeSign_169 rfl (lv_at hl 3 rfl) ?_
      refine W.cut (pc := 186) (fun H locs ls stk => ∃ (wd : Int32), (wd = 4 ∨ wd = 5) ∧  stk = [] ∧ va_P (dC, dI) vwCl (WR a k h0 (fT vi 18 wd) vj vF vG) H ∧ va_D A (WR a k h0 (fT vi 18 wd) vj vF vG) ∧ va_S A s.heap H locs ∧ lv_has ls 5 [(0, .ref h0), (1, .int cv), (2, .int (bA tp (vF 9) (an + 1))), (3, .int tw)]) (fun join3 => ?_) ?_
      · refine lv_if_ne (tgt := 178) hx hb dX12_takeSign_170 (by decide) (fun c_170 => ?_) (fun c_170 => ?_)
        · have t_170 : (tw).toInt ≠ 0 := toI_ne c_170 rfl (by decide)
          refine lv_iconst (v := 4) hx hb dX12_takeSign_178 (by decide) ?_
          refine lv_goto (tgt := 183) hx hb dX12_takeSign_179 (by decide) ?_
          refine va_put (D := (dC, dI)) (ci := 12) (v := .int 4) (ty := .int) (C := RX12) (T := TX12) (N := 163) (fs := fM (vS a vi vj)) hx hb hts iwsRX12_takeSign_in12 tyX12 tyX12_ok nmX12 hown hK hP hD hS 0 rfl rfl 18 (by decide) (hts _ hm_r_X12_takeSign_1) (fun _ h9 => h9) rfl (by decide +kernel) rfl rfl (Nat.le_of_ble_eq_true rfl) dX12_takeSign_183 (fun H locs hP hD hS => ?_)
          have hP : va_P (dC, dI) vwCl (WR a k h0 (fT vi 18 4) vj vF vG) H := fz_w (WR_i 18 _ rfl) hP
          have hD : va_D A (WR a k h0 (fT vi 18 4) vj vF vG) := fz_wD (WR_i 18 _ rfl) hD
          have hl : lv_has _ _ ([(0, .ref h0), (1, .int cv), (2, .int (bA tp (vF 9) (an + 1))), (3, .int tw)]) := lv_sub hl [0, 1, 2, 3] rfl
          exact join3 _ _ _ _ ⟨4, Or.inl rfl, rfl, hP, hD, hS, hl⟩
        · have t_170 : (tw).toInt = 0 := toI_nne c_170 rfl (by decide)
          refine lv_iload hx hb dX12_takeSign_173 (lv_at hl 4 rfl) ?_
          refine lv_if_eq (tgt := 182) hx hb dX12_takeSign_175 (by decide) (fun c_175 => ?_) (fun c_175 => ?_)
          · have t_175 : (on).toInt = 0 := toI_eq c_175 rfl (by decide)
            refine lv_iconst (v := 5) hx hb dX12_takeSign_182 (by decide) ?_
            refine va_put (D := (dC, dI)) (ci := 12) (v := .int 5) (ty := .int) (C := RX12) (T := TX12) (N := 163) (fs := fM (vS a vi vj)) hx hb hts iwsRX12_takeSign_in12 tyX12 tyX12_ok nmX12 hown hK hP hD hS 0 rfl rfl 18 (by decide) (hts _ hm_r_X12_takeSign_1) (fun _ h9 => h9) rfl (by decide +kernel) rfl rfl (Nat.le_of_ble_eq_true rfl) dX12_takeSign_183 (fun H locs hP hD hS => ?_)
            have hP : va_P (dC, dI) vwCl (WR a k h0 (fT vi 18 5) vj vF vG) H := fz_w (WR_i 18 _ rfl) hP
            have hD : va_D A (WR a k h0 (fT vi 18 5) vj vF vG) := fz_wD (WR_i 18 _ rfl) hD
            have hl : lv_has _ _ ([(0, .ref h0), (1, .int cv), (2, .int (bA tp (vF 9) (an + 1))), (3, .int tw)]) := lv_sub hl [0, 1, 2, 3] rfl
            exact join3 _ _ _ _ ⟨5, Or.inr rfl, rfl, hP, hD, hS, hl⟩
          · have t_175 : ¬ (on).toInt = 0 := toI_neq c_175 rfl (by decide)
            refine lv_iconst (v := 4) hx hb dX12_takeSign_178 (by decide) ?_
            refine lv_goto (tgt := 183) hx hb dX12_takeSign_179 (by decide) ?_
            refine va_put (D := (dC, dI)) (ci := 12) (v := .int 4) (ty := .int) (C := RX12) (T := TX12) (N := 163) (fs := fM (vS a vi vj)) hx hb hts iwsRX12_takeSign_in12 tyX12 tyX12_ok nmX12 hown hK hP hD hS 0 rfl rfl 18 (by decide) (hts _ hm_r_X12_takeSign_1) (fun _ h9 => h9) rfl (by decide +kernel) rfl rfl (Nat.le_of_ble_eq_true rfl) dX12_takeSign_183 (fun H locs hP hD hS => ?_)
            have hP : va_P (dC, dI) vwCl (WR a k h0 (fT vi 18 4) vj vF vG) H := fz_w (WR_i 18 _ rfl) hP
            have hD : va_D A (WR a k h0 (fT vi 18 4) vj vF vG) := fz_wD (WR_i 18 _ rfl) hD
            have hl : lv_has _ _ ([(0, .ref h0), (1, .int cv), (2, .int (bA tp (vF 9) (an + 1))), (3, .int tw)]) := lv_sub hl [0, 1, 2, 3] rfl
            exact join3 _ _ _ _ ⟨4, Or.inl rfl, rfl, hP, hD, hS, hl⟩
      · rintro H locs ls stk ⟨wd, hwd, rfl, hP, hD, hS, hl⟩
        refine lv_aload_n hx hb dX12_takeSign_186 rfl (lv_at hl 0 rfl) ?_
        refine lv_iload_n hx hb dX12_takeSign_187 rfl (lv_at hl 3 rfl) ?_
        refine W.cut (pc := 233) (fun H locs ls stk => ∃ (sg : Int32),  stk = [] ∧ va_P (dC, dI) vwCl (WR a k h0 (fT (fT vi 18 wd) 20 sg) vj vF vG) H ∧ va_D A (WR a k h0 (fT (fT vi 18 wd) 20 sg) vj vF vG) ∧ va_S A s.heap H locs ∧ lv_has ls 5 [(0, .ref h0), (3, .int tw)]) (fun join4 => ?_) ?_
        · refine lv_if_ne (tgt := 195) hx hb dX12_takeSign_188 (by decide) (fun c_188 => ?_) (fun c_188 => ?_)
          · have t_188 : (tw).toInt ≠ 0 := toI_ne c_188 rfl (by decide)
            refine lv_iload_n hx hb dX12_takeSign_195 rfl (lv_at hl 1 rfl) ?_
            refine lv_bipush (v := 46) hx hb dX12_takeSign_196 (by decide) ?_
            refine lv_icmp_ne (tgt := 206) hx hb dX12_takeSign_198 (by decide) (fun c_198 => ?_) (fun c_198 => ?_)
            · have t_198 : (cv).toInt ≠ 46 := toI_ne c_198 rfl (by decide)
              refine lv_iload_n hx hb dX12_takeSign_206 rfl (lv_at hl 2 rfl) ?_
              refine lv_bipush (v := 62) hx hb dX12_takeSign_207 (by decide) ?_
              refine lv_icmp_ne (tgt := 217) hx hb dX12_takeSign_209 (by decide) (fun c_209 => ?_) (fun c_209 => ?_)
              · have t_209 : ((bA tp (vF 9) (an + 1))).toInt ≠ 62 := toI_ne c_209 rfl (by decide)
                refine lv_iload_n hx hb dX12_takeSign_217 rfl (lv_at hl 1 rfl) ?_
                refine lv_bipush (v := 60) hx hb dX12_takeSign_218 (by decide) ?_
                refine lv_icmp_ne (tgt := 228) hx hb dX12_takeSign_220 (by decide) (fun c_220 => ?_) (fun c_220 => ?_)
                · have t_220 : (cv).toInt ≠ 60 := toI_ne c_220 rfl (by decide)
                  refine lv_bipush (v := 71) hx hb dX12_takeSign_228 (by decide) ?_
                  refine va_put (D := (dC, dI)) (ci := 12) (v := .int 71) (ty := .int) (C := RX12) (T := TX12) (N := 163) (fs := fM (vS a (fT vi 18 wd) vj)) hx hb hts iwsRX12_takeSign_in12 tyX12 tyX12_ok nmX12 hown hK hP hD hS 0 rfl rfl 20 (by decide) (hts _ hm_r_X12_takeSign_2) (fun _ h9 => h9) rfl (by decide +kernel) rfl rfl (Nat.le_of_ble_eq_true rfl) dX12_takeSign_230 (fun H locs hP hD hS => ?_)
                  have hP : va_P (dC, dI) vwCl (WR a k h0 (fT (fT vi 18 wd) 20 71) vj vF vG) H := fz_w (WR_i 20 _ rfl) hP
                  have hD : va_D A (WR a k h0 (fT (fT vi 18 wd) 20 71) vj vF vG) := fz_wD (WR_i 20 _ rfl) hD
                  have hl : lv_has _ _ ([(0, .ref h0), (3, .int tw)]) := lv_sub hl [0, 3] rfl
                  exact join4 _ _ _ _ ⟨71, rfl, hP, hD, hS, hl⟩
                · have t_220 : (cv).toInt = 60 := toI_nne c_220 rfl (by decide)
                  refine lv_bipush (v := 76) hx hb dX12_takeSign_223 (by decide) ?_
                  refine lv_goto (tgt := 230) hx hb dX12_takeSign_225 (by decide) ?_
                  refine va_put (D := (dC, dI)) (ci := 12) (v := .int 76) (ty := .int) (C := RX12) (T := TX12) (N := 163) (fs := fM (vS a (fT vi 18 wd) vj)) hx hb hts iwsRX12_takeSign_in12 tyX12 tyX12_ok nmX12 hown hK hP hD hS 0 rfl rfl 20 (by decide) (hts _ hm_r_X12_takeSign_2) (fun _ h9 => h9) rfl (by decide +kernel) rfl rfl (Nat.le_of_ble_eq_true rfl) dX12_takeSign_230 (fun H locs hP hD hS => ?_)
                  have hP : va_P (dC, dI) vwCl (WR a k h0 (fT (fT vi 18 wd) 20 76) vj vF vG) H := fz_w (WR_i 20 _ rfl) hP
                  have hD : va_D A (WR a k h0 (fT (fT vi 18 wd) 20 76) vj vF vG) := fz_wD (WR_i 20 _ rfl) hD
                  have hl : lv_has _ _ ([(0, .ref h0), (3, .int tw)]) := lv_sub hl [0, 3] rfl
                  exact join4 _ _ _ _ ⟨76, rfl, hP, hD, hS, hl⟩
              · have t_209 : ((bA tp (vF 9) (an + 1))).toInt = 62 := toI_nne c_209 rfl (by decide)
                refine lv_bipush (v := 78) hx hb dX12_takeSign_212 (by decide) ?_
                refine lv_goto (tgt := 230) hx hb dX12_takeSign_214 (by decide) ?_
                refine va_put (D := (dC, dI)) (ci := 12) (v := .int 78) (ty := .int) (C := RX12) (T := TX12) (N := 163) (fs := fM (vS a (fT vi 18 wd) vj)) hx hb hts iwsRX12_takeSign_in12 tyX12 tyX12_ok nmX12 hown hK hP hD hS 0 rfl rfl 20 (by decide) (hts _ hm_r_X12_takeSign_2) (fun _ h9 => h9) rfl (by decide +kernel) rfl rfl (Nat.le_of_ble_eq_true rfl) dX12_takeSign_230 (fun H locs hP hD hS => ?_)
                have hP : va_P (dC, dI) vwCl (WR a k h0 (fT (fT vi 18 wd) 20 78) vj vF vG) H := fz_w (WR_i 20 _ rfl) hP
                have hD : va_D A (WR a k h0 (fT (fT vi 18 wd) 20 78) vj vF vG) := fz_wD (WR_i 20 _ rfl) hD
                have hl : lv_has _ _ ([(0, .ref h0), (3, .int tw)]) := lv_sub hl [0, 3] rfl
                exact join4 _ _ _ _ ⟨78, rfl, hP, hD, hS, hl⟩
            · have t_198 : (cv).toInt = 46 := toI_nne c_198 rfl (by decide)
              refine lv_bipush (v := 46) hx hb dX12_takeSign_201 (by decide) ?_
              refine lv_goto (tgt := 230) hx hb dX12_takeSign_203 (by decide) ?_
              refine va_put (D := (dC, dI)) (ci := 12) (v := .int 46) (ty := .int) (C := RX12) (T := TX12) (N := 163) (fs := fM (vS a (fT vi 18 wd) vj)) hx hb hts iwsRX12_takeSign_in12 tyX12 tyX12_ok nmX12 hown hK hP hD hS 0 rfl rfl 20 (by decide) (hts _ hm_r_X12_takeSign_2) (fun _ h9 => h9) rfl (by decide +kernel) rfl rfl (Nat.le_of_ble_eq_true rfl) dX12_takeSign_230 (fun H locs hP hD hS => ?_)
              have hP : va_P (dC, dI) vwCl (WR a k h0 (fT (fT vi 18 wd) 20 46) vj vF vG) H := fz_w (WR_i 20 _ rfl) hP
              have hD : va_D A (WR a k h0 (fT (fT vi 18 wd) 20 46) vj vF vG) := fz_wD (WR_i 20 _ rfl) hD
              have hl : lv_has _ _ ([(0, .ref h0), (3, .int tw)]) := lv_sub hl [0, 3] rfl
              exact join4 _ _ _ _ ⟨46, rfl, hP, hD, hS, hl⟩
          · have t_188 : (tw).toInt = 0 := toI_nne c_188 rfl (by decide)
            refine lv_iload_n hx hb dX12_takeSign_191 rfl (lv_at hl 1 rfl) ?_
            refine lv_goto (tgt := 230) hx hb dX12_takeSign_192 (by decide) ?_
            refine va_put (D := (dC, dI)) (ci := 12) (v := .int cv) (ty := .int) (C := RX12) (T := TX12) (N := 163) (fs := fM (vS a (fT vi 18 wd) vj)) hx hb hts iwsRX12_takeSign_in12 tyX12 tyX12_ok nmX12 hown hK hP hD hS 0 rfl rfl 20 (by decide) (hts _ hm_r_X12_takeSign_2) (fun _ h9 => h9) rfl (by decide +kernel) rfl rfl (Nat.le_of_ble_eq_true rfl) dX12_takeSign_230 (fun H locs hP hD hS => ?_)
            have hP : va_P (dC, dI) vwCl (WR a k h0 (fT (fT vi 18 wd) 20 cv) vj vF vG) H := fz_w (WR_i 20 _ rfl) hP
            have hD : va_D A (WR a k h0 (fT (fT vi 18 wd) 20 cv) vj vF vG) := fz_wD (WR_i 20 _ rfl) hD
            have hl : lv_has _ _ ([(0, .ref h0), (3, .int tw)]) := lv_sub hl [0, 3] rfl
            exact join4 _ _ _ _ ⟨cv, rfl, hP, hD, hS, hl⟩
        · rintro H locs ls stk ⟨sg, rfl, hP, hD, hS, hl⟩
          refine lv_aload_n hx hb dX12_takeSign_233 rfl (lv_at hl 0 rfl) ?_
          refine lv_dup hx hb dX12_takeSign_234 rfl ?_
          refine va_get (D := (dC, dI)) (ci := 12) (v := .int (vi 17)) (C := RX12) (T := TX12) (N := 163) (fs := fM (vS a (fT (fT vi 18 wd) 20 sg) vj)) hx hb hts iwsRX12_takeSign_in12 hown hK hP 0 rfl rfl 17 (by decide) (hts _ hm_r_X12_takeSign_0) (fun _ h9 => h9) rfl dX12_takeSign_235 ?_
          refine lv_topi (fun y3 hy3 => ?_)
          obtain rfl : (nI an) = y3 := (hy3.trans (ha0)).symm
          refine lv_iload_n hx hb dX12_takeSign_238 rfl (lv_at hl 1 rfl) ?_
          refine lv_if_eq (tgt := 246) hx hb dX12_takeSign_239 (by decide) (fun c_239 => ?_) (fun c_239 => ?_)
          · have t_239 : (tw).toInt = 0 := toI_eq c_239 rfl (by decide)
            refine lv_iconst (v := 1) hx hb dX12_takeSign_246 (by decide) ?_
            refine lv_iadd hx hb dX12_takeSign_247 ?_
            refine lv_topi (fun y4 hy4 => ?_)
            obtain rfl : (nI (an + 1)) = y4 := (hy4.trans (nI_add an 1)).symm
            refine va_put (D := (dC, dI)) (ci := 12) (v := .int (nI (an + 1))) (ty := .int) (C := RX12) (T := TX12) (N := 163) (fs := fM (vS a (fT (fT vi 18 wd) 20 sg) vj)) hx hb hts iwsRX12_takeSign_in12 tyX12 tyX12_ok nmX12 hown hK hP hD hS 0 rfl rfl 17 (by decide) (hts _ hm_r_X12_takeSign_0) (fun _ h9 => h9) rfl (by decide +kernel) rfl rfl (Nat.le_of_ble_eq_true rfl) dX12_takeSign_248 (fun H locs hP hD hS => ?_)
            have hP : va_P (dC, dI) vwCl (WR a k h0 (fT (fT (fT vi 18 wd) 20 sg) 17 (nI (an + 1))) vj vF vG) H := fz_w (WR_i 17 _ rfl) hP
            have hD : va_D A (WR a k h0 (fT (fT (fT vi 18 wd) 20 sg) 17 (nI (an + 1))) vj vF vG) := fz_wD (WR_i 17 _ rfl) hD
            refine W.widen (k := 0) (n := 0) (by decide +kernel) (by decide +kernel) ?_
            exact W.vret hx hb hr (fun t9_ ht hW => ⟨⟨((an + 1), sg, wd), rfl, by (try dsimp only); exact ⟨by omega, by omega, hwd⟩, by rw [ht]; exact hP, hD⟩, hS.F ht⟩) hS.2.2 dX12_takeSign_251
          · have t_239 : ¬ (tw).toInt = 0 := toI_neq c_239 rfl (by decide)
            refine lv_iconst (v := 2) hx hb dX12_takeSign_242 (by decide) ?_
            refine lv_goto (tgt := 247) hx hb dX12_takeSign_243 (by decide) ?_
            refine lv_iadd hx hb dX12_takeSign_247 ?_
            refine lv_topi (fun y5 hy5 => ?_)
            obtain rfl : (nI (an + 2)) = y5 := (hy5.trans (nI_add an 2)).symm
            refine va_put (D := (dC, dI)) (ci := 12) (v := .int (nI (an + 2))) (ty := .int) (C := RX12) (T := TX12) (N := 163) (fs := fM (vS a (fT (fT vi 18 wd) 20 sg) vj)) hx hb hts iwsRX12_takeSign_in12 tyX12 tyX12_ok nmX12 hown hK hP hD hS 0 rfl rfl 17 (by decide) (hts _ hm_r_X12_takeSign_0) (fun _ h9 => h9) rfl (by decide +kernel) rfl rfl (Nat.le_of_ble_eq_true rfl) dX12_takeSign_248 (fun H locs hP hD hS => ?_)
            have hP : va_P (dC, dI) vwCl (WR a k h0 (fT (fT (fT vi 18 wd) 20 sg) 17 (nI (an + 2))) vj vF vG) H := fz_w (WR_i 17 _ rfl) hP
            have hD : va_D A (WR a k h0 (fT (fT (fT vi 18 wd) 20 sg) 17 (nI (an + 2))) vj vF vG) := fz_wD (WR_i 17 _ rfl) hD
            refine W.widen (k := 0) (n := 0) (by decide +kernel) (by decide +kernel) ?_
            exact W.vret hx hb hr (fun t9_ ht hW => ⟨⟨((an + 2), sg, wd), rfl, by (try dsimp only); exact ⟨by omega, by (have h9 := htw.2 (htw.1.resolve_left c_239)); omega, hwd⟩, by rw [ht]; exact hP, hD⟩, hS.F ht⟩) hS.2.2 dX12_takeSign_251
end
section
/-- texts on the tape, by place and length -/
def NmO (f g : Nat → Int32) (n : Nat) : Prop := ∀ k, k < n → ∃ x y : Nat, f k = nI x ∧ g k = nI y ∧ x + y ≤ 4000
end
section
theorem hd_yX12_sameText_RX12 : yX12_sameText.cls = RX12 ∧ yX12_sameText.cls ≠ "java/lang/invoke/MethodHandle" ∧ yX12_sameText.cls ≠ "java/lang/invoke/VarHandle" ∧ (parseMethodDescriptor yX12_sameText.desc).map (fun d => d.parameters.length) = some 4 := by decide +kernel
theorem dX12_sameText_0 : decode cX12_sameText 0 = .ok (.iload_n 2, 1) := dk_28 (by decide +kernel)
theorem dX12_sameText_1 : decode cX12_sameText 1 = .ok (.iload 4, 2) := dk_21 (by decide +kernel)
theorem dX12_sameText_3 : decode cX12_sameText 3 = .ok (.if_icmp .ne 7, 3) := dk_160 (by decide +kernel)
theorem dX12_sameText_6 : decode cX12_sameText 6 = .ok (.iconst 1, 1) := dk_4 (by decide +kernel)
theorem dX12_sameText_7 : decode cX12_sameText 7 = .ok (.goto 4, 3) := dk_167 (by decide +kernel)
theorem dX12_sameText_10 : decode cX12_sameText 10 = .ok (.iconst 0, 1) := dk_3 (by decide +kernel)
theorem dX12_sameText_11 : decode cX12_sameText 11 = .ok (.istore 5, 2) := dk_54 (by decide +kernel)
theorem dX12_sameText_13 : decode cX12_sameText 13 = .ok (.iconst 0, 1) := dk_3 (by decide +kernel)
theorem dX12_sameText_14 : decode cX12_sameText 14 = .ok (.istore 6, 2) := dk_54 (by decide +kernel)
theorem dX12_sameText_16 : decode cX12_sameText 16 = .ok (.iload 6, 2) := dk_21 (by decide +kernel)
theorem dX12_sameText_18 : decode cX12_sameText 18 = .ok (.iload_n 2, 1) := dk_28 (by decide +kernel)
theorem dX12_sameText_19 : decode cX12_sameText 19 = .ok (.if_icmp .ge 42, 3) := dk_162 (by decide +kernel)
theorem dX12_sameText_22 : decode cX12_sameText 22 = .ok (.iload 5, 2) := dk_21 (by decide +kernel)
theorem dX12_sameText_24 : decode cX12_sameText 24 = .ok (.ifCond .eq 37, 3) := dk_153 (by decide +kernel)
theorem dX12_sameText_27 : decode cX12_sameText 27 = .ok (.aload_n 0, 1) := dk_42 (by decide +kernel)
theorem dX12_sameText_28 : decode cX12_sameText 28 = .ok (.getfield 39, 3) := dk_180 (by decide +kernel)
theorem dX12_sameText_31 : decode cX12_sameText 31 = .ok (.iload_n 1, 1) := dk_27 (by decide +kernel)
theorem dX12_sameText_32 : decode cX12_sameText 32 = .ok (.iload 6, 2) := dk_21 (by decide +kernel)
theorem dX12_sameText_34 : decode cX12_sameText 34 = .ok (.iadd, 1) := dk_96 (by decide +kernel)
theorem dX12_sameText_35 : decode cX12_sameText 35 = .ok (.baload, 1) := dk_51 (by decide +kernel)
theorem dX12_sameText_36 : decode cX12_sameText 36 = .ok (.aload_n 0, 1) := dk_42 (by decide +kernel)
theorem dX12_sameText_37 : decode cX12_sameText 37 = .ok (.getfield 39, 3) := dk_180 (by decide +kernel)
theorem dX12_sameText_40 : decode cX12_sameText 40 = .ok (.iload_n 3, 1) := dk_29 (by decide +kernel)
theorem dX12_sameText_41 : decode cX12_sameText 41 = .ok (.iload 6, 2) := dk_21 (by decide +kernel)
theorem dX12_sameText_43 : decode cX12_sameText 43 = .ok (.iadd, 1) := dk_96 (by decide +kernel)
theorem dX12_sameText_44 : decode cX12_sameText 44 = .ok (.baload, 1) := dk_51 (by decide +kernel)
theorem dX12_sameText_45 : decode cX12_sameText 45 = .ok (.if_icmp .ne 7, 3) := dk_160 (by decide +kernel)
theorem dX12_sameText_48 : decode cX12_sameText 48 = .ok (.iconst 1, 1) := dk_4 (by decide +kernel)
theorem dX12_sameText_49 : decode cX12_sameText 49 = .ok (.goto 4, 3) := dk_167 (by decide +kernel)
theorem dX12_sameText_52 : decode cX12_sameText 52 = .ok (.iconst 0, 1) := dk_3 (by decide +kernel)
theorem dX12_sameText_53 : decode cX12_sameText 53 = .ok (.istore 5, 2) := dk_54 (by decide +kernel)
theorem dX12_sameText_55 : decode cX12_sameText 55 = .ok (.iinc 6 1, 3) := dk_132 (by decide +kernel)
theorem dX12_sameText_58 : decode cX12_sameText 58 = .ok (.goto (-42), 3) := dk_167 (by decide +kernel)
theorem dX12_sameText_61 : decode cX12_sameText 61 = .ok (.iload 5, 2) := dk_21 (by decide +kernel)
theorem dX12_sameText_63 : decode cX12_sameText 63 = .ok (.ireturn, 1) := dk_172 (by decide +kernel)
def wsRX12_sameText : List Cond := .code yX12_sameText cX12_sameText 7 (some .boolean) :: ([.fieldLink RX12 39 "OptimaWorksModel" "tape" "[B"] ++ wsX120)
theorem iwsRX12_sameText_in12 : ∀ w ∈ wsX120, w ∈ wsRX12_sameText := fun _ h => List.mem_cons_of_mem _ (List.mem_append_right _ h)
theorem gdwsRX12_sameText : wsRX12_sameText.all goodWord = true := gdC rfl (gdA (by decide +kernel : ([.fieldLink RX12 39 "OptimaWorksModel" "tape" "[B"] : List Cond).all goodWord = true) gdwsX120)
theorem hm_r_X12_sameText_0 : (.fieldLink RX12 39 "OptimaWorksModel" "tape" "[B" : Cond) ∈ wsRX12_sameText := by decide +kernel
set_option maxHeartbeats 4000000 in
set_option maxRecDepth 100000 in
/-- sameText(a, n, b, m) -/
theorem r_X12_sameText (l : Launch) (dC : Nat → ClassId) (dI : Nat → Nat → Nat) (a : Nat → Nat) (k : Nat → ClassId) (h0 : Nat) (vi : Nat → Int32) (vj : Nat → Int64) (vF : Nat → Nat → Int32) (vG : Nat → Nat → Int64) (xa : Nat) (xn : Nat) (xb : Nat) (xm : Nat) (h1 : xa + xn ≤ 4000) (h2 : xb + xm ≤ 4000) (sz : Nat) : Met l yX12_sameText wsRX12_sameText ({ frames := 0, cells := 0, slots := 0, locals := 0 }) (va_Pc [.ref h0, .int (nI xa), .int (nI xn), .int (nI xb), .int (nI xm)] (fun U => U.heap.size = sz ∧ va_P (dC, dI) vwCl (WR a k h0 vi vj vF vG) U.heap ∧ va_K (dC, dI) vwCl (tX12 k) U ∧ va_D (fun _ => True) (WR a k h0 vi vj vF vG))) (va_Qi (fun (r : Int32) (u : Unit) => ((r) = 0 ∨ (r) = 1)) (fun (u : Unit) t => va_P (dC, dI) vwCl (WR a k h0 vi vj vF vG) t.heap ∧ va_D (va_A (WR a k h0 vi vj vF vG) sz) (WR a k h0 vi vj vF vG)) (va_A (WR a k h0 vi vj vF vG) sz)) 0 0 (va_A (WR a k h0 vi vj vF vG) sz) := by
  refine Met.ofW (cc := cX12_sameText) (maxL := 7) (ret := (some .boolean)) (by decide) rfl ?_
  intro p e s m args below meth c s₁ B hml hv
  obtain ⟨rfl, hsz, hP, hK, hD0⟩ := hv
  have hx := B.exec
  have hb := B.bytes
  have hr := B.returns
  have hts := atoms_spec (ws := wsRX12_sameText) B.pre
  have hown : s.vm.findClass RX12 = some m.cls := findClass_of_methodNamed B.named
  have hlocks := B.notSynchronized
  subst hsz
  have hD := hD0.self (sz := s.heap.size)
  generalize hAe : va_A (WR a k h0 vi vj vF vG) s.heap.size = A at hD ⊢
  have hA : ∀ q : Nat, s.heap.size ≤ q → A q := fun q h => by rw [← hAe]; exact Or.inr h
  have hS : va_S A s.heap s.heap [] := va_S.rf
  have hl := lv_entry ([.ref h0, .int (nI xa), .int (nI xn), .int (nI xb), .int (nI xm)]) (n := 7) (Nat.le_of_ble_eq_true rfl)
  rw [lg_entry_eq]
  generalize (lg_sl ([.ref h0, .int (nI xa), .int (nI xn), .int (nI xb), .int (nI xm)]) ++ List.replicate (7 - (lg_sl ([.ref h0, .int (nI xa), .int (nI xn), .int (nI xb), .int (nI xm)])).length) Slot.unset).toArray = ls at hl ⊢
  have hl : lv_has ls 7 [(0, .ref h0), (1, .int (nI xa)), (2, .int (nI xn)), (3, .int (nI xb)), (4, .int (nI xm))] := hl
  refine lv_iload_n hx hb dX12_sameText_0 rfl (lv_at hl 2 rfl) ?_
  refine lv_iload hx hb dX12_sameText_1 (lv_at hl 4 rfl) ?_
  refine W.cut (pc := 13) (fun H locs ls stk => ∃ (zq : Int32), ((zq = 0) ∨ (zq = 1 ∧ xn = xm)) ∧  stk = [] ∧ va_P (dC, dI) vwCl (WR a k h0 vi vj vF vG) H ∧ va_D A (WR a k h0 vi vj vF vG) ∧ va_S A s.heap H locs ∧ lv_has ls 7 [(0, .ref h0), (1, .int (nI xa)), (2, .int (nI xn)), (3, .int (nI xb)), (5, .int zq)]) (fun join1 => ?_) ?_
  · refine lv_icmp_ne (tgt := 10) hx hb dX12_sameText_3 (by decide) (fun c_3 => ?_) (fun c_3 => ?_)
    · have t_3 : ((xn : Nat) : Int) ≠ ((xm : Nat) : Int) := toI_ne c_3 (nI_toInt (by omega)) (nI_toInt (by omega))
      refine lv_iconst (v := 0) hx hb dX12_sameText_10 (by decide) ?_
      refine lv_istore hx hb dX12_sameText_11 hl (by decide) rfl (fun ls (hl : lv_has ls _ ([(5, .int 0), (0, .ref h0), (1, .int (nI xa)), (2, .int (nI xn)), (3, .int (nI xb)), (4, .int (nI xm))])) => ?_)
      have hl : lv_has _ _ ([(0, .ref h0), (1, .int (nI xa)), (2, .int (nI xn)), (3, .int (nI xb)), (5, .int 0)]) := lv_sub hl [1, 2, 3, 4, 0] rfl
      exact join1 _ _ _ _ ⟨0, Or.inl rfl, rfl, hP, hD, hS, hl⟩
    · have t_3 : ((xn : Nat) : Int) = ((xm : Nat) : Int) := toI_nne c_3 (nI_toInt (by omega)) (nI_toInt (by omega))
      refine lv_iconst (v := 1) hx hb dX12_sameText_6 (by decide) ?_
      refine lv_goto (tgt := 11) hx hb dX12_sameText_7 (by decide) ?_
      refine lv_istore hx hb dX12_sameText_11 hl (by decide) rfl (fun ls (hl : lv_has ls _ ([(5, .int 1), (0, .ref h0), (1, .int (nI xa)), (2, .int (nI xn)), (3, .int (nI xb)), (4, .int (nI xm))])) => ?_)
      have hl : lv_has _ _ ([(0, .ref h0), (1, .int (nI xa)), (2, .int (nI xn)), (3, .int (nI xb)), (5, .int 1)]) := lv_sub hl [1, 2, 3, 4, 0] rfl
      exact join1 _ _ _ _ ⟨1, Or.inr ⟨rfl, by omega⟩, rfl, hP, hD, hS, hl⟩
  · rintro H locs ls stk ⟨zq, hzq, rfl, hP, hD, hS, hl⟩
    refine lv_iconst (v := 0) hx hb dX12_sameText_13 (by decide) ?_
    refine lv_istore hx hb dX12_sameText_14 hl (by decide) rfl (fun ls (hl : lv_has ls _ ([(6, .int 0), (0, .ref h0), (1, .int (nI xa)), (2, .int (nI xn)), (3, .int (nI xb)), (5, .int zq)])) => ?_)
    have hl : lv_has _ _ ([(0, .ref h0), (1, .int (nI xa)), (2, .int (nI xn)), (3, .int (nI xb)), (5, .int zq), (6, .int (nI 0))]) := lv_sub hl [1, 2, 3, 4, 5, 0] rfl
    refine (fun (loop : ∀ (n9 : Nat) (k5 : Nat) (zw : Int32) (H : Heap) (locs : List Loc) (ls : Array Slot), (k5 ≤ xn) → ((zw = 0) ∨ (zw = 1 ∧ xn = xm)) →  (xn < k5 + n9) → va_P (dC, dI) vwCl (WR a k h0 vi vj vF vG) H → va_D A (WR a k h0 vi vj vF vG) → va_S A s.heap H locs → lv_has ls 7 [(0, .ref h0), (1, .int (nI xa)), (2, .int (nI xn)), (3, .int (nI xb)), (5, .int zw), (6, .int (nI k5))] → W p l e _ s m _ below meth c H locs 0 0 _ (F0 m 16 ls [])) => loop (xn + 1) 0 zq _ _ _ (by omega) (hzq) (by omega) hP hD hS hl) ?_
    intro n9
    induction n9 with
    | zero => intro k5 zw H locs ls hk5 hzw hf9; exact False.elim (by omega)
    | succ n9 ih16 =>
      intro k5 zw H locs ls hk5 hzw hf16 hP hD hS hl
      refine lv_iload hx hb dX12_sameText_16 (lv_at hl 5 rfl) ?_
      refine lv_iload_n hx hb dX12_sameText_18 rfl (lv_at hl 2 rfl) ?_
      refine lv_icmp_ge (tgt := 61) hx hb dX12_sameText_19 (by decide) (fun c_19 => ?_) (fun c_19 => ?_)
      · have t_19 : ((k5 : Nat) : Int) ≥ ((xn : Nat) : Int) := toI_ge c_19 (nI_toInt (by omega)) (nI_toInt (by omega))
        refine lv_iload hx hb dX12_sameText_61 (lv_at hl 4 rfl) ?_
        refine W.widen (k := 0) (n := 0) (by decide +kernel) (by decide +kernel) ?_
        exact W.zret (v := zw) hx hb hr (by rcases hzw with h9 | h9; (rw [h9]; rfl); (rw [h9.1]; rfl)) (fun t9_ ht hW => ⟨⟨zw, (), rfl, by (try dsimp only); rcases hzw with h9 | h9; (exact Or.inl h9); (exact Or.inr h9.1), by rw [ht]; exact hP, hD⟩, hS.F ht⟩) hS.2.2 dX12_sameText_63
      · have t_19 : ¬ ((k5 : Nat) : Int) ≥ ((xn : Nat) : Int) := toI_nge c_19 (nI_toInt (by omega)) (nI_toInt (by omega))
        refine lv_iload hx hb dX12_sameText_22 (lv_at hl 4 rfl) ?_
        refine lv_if_eq (tgt := 61) hx hb dX12_sameText_24 (by decide) (fun c_24 => ?_) (fun c_24 => ?_)
        · have t_24 : (zw).toInt = 0 := toI_eq c_24 rfl (by decide)
          refine lv_iload hx hb dX12_sameText_61 (lv_at hl 4 rfl) ?_
          refine W.widen (k := 0) (n := 0) (by decide +kernel) (by decide +kernel) ?_
          exact W.zret (v := zw) hx hb hr (by rcases hzw with h9 | h9; (rw [h9]; rfl); (rw [h9.1]; rfl)) (fun t9_ ht hW => ⟨⟨zw, (), rfl, by (try dsimp only); rcases hzw with h9 | h9; (exact Or.inl h9); (exact Or.inr h9.1), by rw [ht]; exact hP, hD⟩, hS.F ht⟩) hS.2.2 dX12_sameText_63
        · have t_24 : ¬ (zw).toInt = 0 := toI_neq c_24 rfl (by decide)
          have hm9 : xn = xm := (hzw.resolve_left c_24).2
          refine lv_aload_n hx hb dX12_sameText_27 rfl (lv_at hl 0 rfl) ?_
          refine va_get (D := (dC, dI)) (ci := 12) (v := .ref (a 9)) (C := RX12) (T := TX12) (N := 163) (fs := fM (vS a vi vj)) hx hb hts iwsRX12_sameText_in12 hown hK hP 0 rfl rfl 15 (by decide) (hts _ hm_r_X12_sameText_0) (fun _ h9 => h9) rfl dX12_sameText_28 ?_
          refine lv_iload_n hx hb dX12_sameText_31 rfl (lv_at hl 1 rfl) ?_
          refine lv_iload hx hb dX12_sameText_32 (lv_at hl 5 rfl) ?_
          refine lv_iadd hx hb dX12_sameText_34 ?_
          refine lv_topi (fun y1 hy1 => ?_)
          obtain rfl : (nI (xa + k5)) = y1 := (hy1.trans (nI_add xa k5)).symm
          refine va_bald (cA := k 9) (n := 4000) (f := (vF 9)) hx hb hK hP 10 9 (WR_get 9 (by decide)) (TR_get 9 (by decide)) (vp_in_nI (show (xa + k5) < 4000 by omega) (by omega)) dX12_sameText_35 ?_
          refine lv_topi (fun y2 hy2 => ?_)
          obtain rfl : ((vF 9) (xa + k5)) = y2 := (hy2.trans (by rw [nI_clamp (by omega)])).symm
          refine lv_aload_n hx hb dX12_sameText_36 rfl (lv_at hl 0 rfl) ?_
          refine va_get (D := (dC, dI)) (ci := 12) (v := .ref (a 9)) (C := RX12) (T := TX12) (N := 163) (fs := fM (vS a vi vj)) hx hb hts iwsRX12_sameText_in12 hown hK hP 0 rfl rfl 15 (by decide) (hts _ hm_r_X12_sameText_0) (fun _ h9 => h9) rfl dX12_sameText_37 ?_
          refine lv_iload_n hx hb dX12_sameText_40 rfl (lv_at hl 3 rfl) ?_
          refine lv_iload hx hb dX12_sameText_41 (lv_at hl 5 rfl) ?_
          refine lv_iadd hx hb dX12_sameText_43 ?_
          refine lv_topi (fun y3 hy3 => ?_)
          obtain rfl : (nI (xb + k5)) = y3 := (hy3.trans (nI_add xb k5)).symm
          refine va_bald (cA := k 9) (n := 4000) (f := (vF 9)) hx hb hK hP 10 9 (WR_get 9 (by decide)) (TR_get 9 (by decide)) (vp_in_nI (show (xb + k5) < 4000 by omega) (by omega)) dX12_sameText_44 ?_
          refine lv_topi (fun y4 hy4 => ?_)
          obtain rfl : ((vF 9) (xb + k5)) = y4 := (hy4.trans (by rw [nI_clamp (by omega)])).symm
          refine lv_icmp_ne (tgt := 52) hx hb dX12_sameText_45 (by decide) (fun c_45 => ?_) (fun c_45 => ?_)
          · have t_45 : (((vF 9) (xa + k5))).toInt ≠ (((vF 9) (xb + k5))).toInt := toI_ne c_45 rfl rfl
            refine lv_iconst (v := 0) hx hb dX12_sameText_52 (by decide) ?_
            refine lv_istore hx hb dX12_sameText_53 hl (by decide) rfl (fun ls (hl : lv_has ls _ ([(5, .int 0), (0, .ref h0), (1, .int (nI xa)), (2, .int (nI xn)), (3, .int (nI xb)), (6, .int (nI k5))])) => ?_)
            refine lv_iinc (v := (nI (k5 + 1))) hx hb dX12_sameText_55 hl (k := 5) rfl (nI_add k5 1) (by decide) rfl (fun ls (hl : lv_has ls _ ([(6, .int (nI (k5 + 1))), (5, .int 0), (0, .ref h0), (1, .int (nI xa)), (2, .int (nI xn)), (3, .int (nI xb))])) => ?_)
            refine lv_goto (tgt := 16) hx hb dX12_sameText_58 (by decide) ?_
            have hl : lv_has _ _ ([(0, .ref h0), (1, .int (nI xa)), (2, .int (nI xn)), (3, .int (nI xb)), (5, .int 0), (6, .int (nI (k5 + 1)))]) := lv_sub hl [2, 3, 4, 5, 1, 0] rfl
            exact ih16 (k5 + 1) 0 _ _ _ (by omega) (Or.inl rfl) (by omega) hP hD hS hl
          · have t_45 : (((vF 9) (xa + k5))).toInt = (((vF 9) (xb + k5))).toInt := toI_nne c_45 rfl rfl
            refine lv_iconst (v := 1) hx hb dX12_sameText_48 (by decide) ?_
            refine lv_goto (tgt := 53) hx hb dX12_sameText_49 (by decide) ?_
            refine lv_istore hx hb dX12_sameText_53 hl (by decide) rfl (fun ls (hl : lv_has ls _ ([(5, .int 1), (0, .ref h0), (1, .int (nI xa)), (2, .int (nI xn)), (3, .int (nI xb)), (6, .int (nI k5))])) => ?_)
            refine lv_iinc (v := (nI (k5 + 1))) hx hb dX12_sameText_55 hl (k := 5) rfl (nI_add k5 1) (by decide) rfl (fun ls (hl : lv_has ls _ ([(6, .int (nI (k5 + 1))), (5, .int 1), (0, .ref h0), (1, .int (nI xa)), (2, .int (nI xn)), (3, .int (nI xb))])) => ?_)
            refine lv_goto (tgt := 16) hx hb dX12_sameText_58 (by decide) ?_
            have hl : lv_has _ _ ([(0, .ref h0), (1, .int (nI xa)), (2, .int (nI xn)), (3, .int (nI xb)), (5, .int 1), (6, .int (nI (k5 + 1)))]) := lv_sub hl [2, 3, 4, 5, 1, 0] rfl
            exact ih16 (k5 + 1) 1 _ _ _ (by omega) (Or.inr ⟨rfl, hm9⟩) (by omega) hP hD hS hl
theorem dX12_declared_0 : decode cX12_declared 0 = .ok (.iconst 0, 1) := dk_3 (by decide +kernel)
theorem dX12_declared_1 : decode cX12_declared 1 = .ok (.istore_n 1, 1) := dk_60 (by decide +kernel)
theorem dX12_declared_2 : decode cX12_declared 2 = .ok (.iload_n 1, 1) := dk_27 (by decide +kernel)
theorem dX12_declared_3 : decode cX12_declared 3 = .ok (.aload_n 0, 1) := dk_42 (by decide +kernel)
theorem dX12_declared_4 : decode cX12_declared 4 = .ok (.getfield 533, 3) := dk_180 (by decide +kernel)
theorem dX12_declared_7 : decode cX12_declared 7 = .ok (.if_icmp .ge 43, 3) := dk_162 (by decide +kernel)
theorem dX12_declared_10 : decode cX12_declared 10 = .ok (.aload_n 0, 1) := dk_42 (by decide +kernel)
theorem dX12_declared_11 : decode cX12_declared 11 = .ok (.aload_n 0, 1) := dk_42 (by decide +kernel)
theorem dX12_declared_12 : decode cX12_declared 12 = .ok (.getfield 53, 3) := dk_180 (by decide +kernel)
theorem dX12_declared_15 : decode cX12_declared 15 = .ok (.iload_n 1, 1) := dk_27 (by decide +kernel)
theorem dX12_declared_16 : decode cX12_declared 16 = .ok (.iaload, 1) := dk_46 (by decide +kernel)
theorem dX12_declared_17 : decode cX12_declared 17 = .ok (.aload_n 0, 1) := dk_42 (by decide +kernel)
theorem dX12_declared_18 : decode cX12_declared 18 = .ok (.getfield 56, 3) := dk_180 (by decide +kernel)
theorem dX12_declared_21 : decode cX12_declared 21 = .ok (.iload_n 1, 1) := dk_27 (by decide +kernel)
theorem dX12_declared_22 : decode cX12_declared 22 = .ok (.iaload, 1) := dk_46 (by decide +kernel)
theorem dX12_declared_23 : decode cX12_declared 23 = .ok (.aload_n 0, 1) := dk_42 (by decide +kernel)
theorem dX12_declared_24 : decode cX12_declared 24 = .ok (.getfield 488, 3) := dk_180 (by decide +kernel)
theorem dX12_declared_27 : decode cX12_declared 27 = .ok (.aload_n 0, 1) := dk_42 (by decide +kernel)
theorem dX12_declared_28 : decode cX12_declared 28 = .ok (.getfield 485, 3) := dk_180 (by decide +kernel)
theorem dX12_declared_31 : decode cX12_declared 31 = .ok (.aload_n 0, 1) := dk_42 (by decide +kernel)
theorem dX12_declared_32 : decode cX12_declared 32 = .ok (.getfield 488, 3) := dk_180 (by decide +kernel)
theorem dX12_declared_35 : decode cX12_declared 35 = .ok (.isub, 1) := dk_100 (by decide +kernel)
theorem dX12_declared_36 : decode cX12_declared 36 = .ok (.invokevirtual 536, 3) := dk_182 (by decide +kernel)
theorem dX12_declared_39 : decode cX12_declared 39 = .ok (.ifCond .eq 5, 3) := dk_153 (by decide +kernel)
theorem dX12_declared_42 : decode cX12_declared 42 = .ok (.iload_n 1, 1) := dk_27 (by decide +kernel)
theorem dX12_declared_43 : decode cX12_declared 43 = .ok (.ireturn, 1) := dk_172 (by decide +kernel)
theorem dX12_declared_44 : decode cX12_declared 44 = .ok (.iinc 1 1, 3) := dk_132 (by decide +kernel)
theorem dX12_declared_47 : decode cX12_declared 47 = .ok (.goto (-45), 3) := dk_167 (by decide +kernel)
theorem dX12_declared_50 : decode cX12_declared 50 = .ok (.iconst (-1), 1) := dk_2 (by decide +kernel)
theorem dX12_declared_51 : decode cX12_declared 51 = .ok (.ireturn, 1) := dk_172 (by decide +kernel)
def wsRX12_declared : List Cond := .code yX12_declared cX12_declared 2 (some .int) :: ([.fieldLink RX12 533 "OptimaWorksModel" "names" "I", .fieldLink RX12 53 "OptimaWorksModel" "nameFrom" "[I", .fieldLink RX12 56 "OptimaWorksModel" "nameLong" "[I", .fieldLink RX12 488 "OptimaWorksModel" "from" "I", .fieldLink RX12 485 "OptimaWorksModel" "at0" "I"] ++ wsX120 ++ (wsV RX12 536 RX12 yX12_sameText wsRX12_sameText))
theorem iwsRX12_declared_in12 : ∀ w ∈ wsX120, w ∈ wsRX12_declared := fun _ h => List.mem_cons_of_mem _ (List.mem_append_left _ (List.mem_append_right _ h))
theorem gwsRX12_declared_0 : GoodIn wsRX12_declared (wsV RX12 536 RX12 yX12_sameText wsRX12_sameText) := goodIn_sub (fun _ h => List.mem_cons_of_mem _ (List.mem_append_right _ h)) (gdV (by decide +kernel) gdwsRX12_sameText)
theorem gdwsRX12_declared : wsRX12_declared.all goodWord = true := gdC rfl (gdA (gdA (by decide +kernel : ([.fieldLink RX12 533 "OptimaWorksModel" "names" "I", .fieldLink RX12 53 "OptimaWorksModel" "nameFrom" "[I", .fieldLink RX12 56 "OptimaWorksModel" "nameLong" "[I", .fieldLink RX12 488 "OptimaWorksModel" "from" "I", .fieldLink RX12 485 "OptimaWorksModel" "at0" "I"] : List Cond).all goodWord = true) gdwsX120) (gdV (by decide +kernel) gdwsRX12_sameText))
theorem hm_r_X12_declared_0 : (.fieldLink RX12 488 "OptimaWorksModel" "from" "I" : Cond) ∈ wsRX12_declared := by decide +kernel
set_option maxHeartbeats 4000000 in
set_option maxRecDepth 100000 in
/-- declared() -/
theorem r_X12_declared (l : Launch) (dC : Nat → ClassId) (dI : Nat → Nat → Nat) (a : Nat → Nat) (k : Nat → ClassId) (h0 : Nat) (vi : Nat → Int32) (vj : Nat → Int64) (vF : Nat → Nat → Int32) (vG : Nat → Nat → Int64) (an : Nat) (fn : Nat) (nm : Nat) (ha0 : vi 17 = nI an) (hfr : vi 19 = nI fn) (hfa : fn ≤ an) (han : an ≤ 4000) (hnm : vi 25 = nI nm) (hnm9 : nm ≤ 44) (hno : NmO (vF 11) (vF 12) nm) (sz : Nat) : Met l yX12_declared wsRX12_declared ({ frames := 1, cells := 0, slots := 0, locals := 26 }) (va_Pc [.ref h0] (fun U => U.heap.size = sz ∧ va_P (dC, dI) vwCl (WR a k h0 vi vj vF vG) U.heap ∧ va_K (dC, dI) vwCl (tX12 k) U ∧ va_D (fun _ => True) (WR a k h0 vi vj vF vG))) (va_Qi (fun (r : Int32) (u : Nat) => (r = (-1)) ∨ (r = (nI u) ∧ (u < nm))) (fun (u : Nat) t => va_P (dC, dI) vwCl (WR a k h0 vi vj vF vG) t.heap ∧ va_D (va_A (WR a k h0 vi vj vF vG) sz) (WR a k h0 vi vj vF vG)) (va_A (WR a k h0 vi vj vF vG) sz)) 0 0 (va_A (WR a k h0 vi vj vF vG) sz) := by
  refine Met.ofW (cc := cX12_declared) (maxL := 2) (ret := (some .int)) (by decide) rfl ?_
  intro p e s m args below meth c s₁ B hml hv
  obtain ⟨rfl, hsz, hP, hK, hD0⟩ := hv
  have hx := B.exec
  have hb := B.bytes
  have hr := B.returns
  have hts := atoms_spec (ws := wsRX12_declared) B.pre
  have hown : s.vm.findClass RX12 = some m.cls := findClass_of_methodNamed B.named
  have hlocks := B.notSynchronized
  subst hsz
  have hD := hD0.self (sz := s.heap.size)
  generalize hAe : va_A (WR a k h0 vi vj vF vG) s.heap.size = A at hD ⊢
  have hA : ∀ q : Nat, s.heap.size ≤ q → A q := fun q h => by rw [← hAe]; exact Or.inr h
  have hS : va_S A s.heap s.heap [] := va_S.rf
  have hl := lv_entry ([.ref h0]) (n := 2) (Nat.le_of_ble_eq_true rfl)
  rw [lg_entry_eq]
  generalize (lg_sl ([.ref h0]) ++ List.replicate (2 - (lg_sl ([.ref h0])).length) Slot.unset).toArray = ls at hl ⊢
  have hl : lv_has ls 2 [(0, .ref h0)] := hl
  refine lv_iconst (v := 0) hx hb dX12_declared_0 (by decide) ?_
  refine lv_istore_n hx hb dX12_declared_1 rfl hl (by decide) rfl (fun ls (hl : lv_has ls _ ([(1, .int 0), (0, .ref h0)])) => ?_)
  have hl : lv_has _ _ ([(0, .ref h0), (1, .int (nI 0))]) := lv_sub hl [1, 0] rfl
  refine (fun (loop : ∀ (n9 : Nat) (k5 : Nat) (H : Heap) (locs : List Loc) (ls : Array Slot), (k5 ≤ nm) →  (nm < k5 + n9) → va_P (dC, dI) vwCl (WR a k h0 vi vj vF vG) H → va_D A (WR a k h0 vi vj vF vG) → va_S A s.heap H locs → lv_has ls 2 [(0, .ref h0), (1, .int (nI k5))] → W p l e _ s m _ below meth c H locs 0 0 _ (F0 m 2 ls [])) => loop (nm + 1) 0 _ _ _ (by omega) (by omega) hP hD hS hl) ?_
  intro n9
  induction n9 with
  | zero => intro k5 H locs ls hk5 hf9; exact False.elim (by omega)
  | succ n9 ih2 =>
    intro k5 H locs ls hk5 hf2 hP hD hS hl
    refine lv_iload_n hx hb dX12_declared_2 rfl (lv_at hl 1 rfl) ?_
    refine lv_aload_n hx hb dX12_declared_3 rfl (lv_at hl 0 rfl) ?_
    refine va_get (D := (dC, dI)) (ci := 12) (v := .int (vi 25)) (C := RX12) (T := TX12) (N := 163) (fs := fM (vS a vi vj)) hx hb hts iwsRX12_declared_in12 hown hK hP 0 rfl rfl 25 (by decide) (hts (.fieldLink RX12 533 "OptimaWorksModel" "names" "I") (by decide +kernel)) (fun _ h9 => h9) rfl dX12_declared_4 ?_
    refine lv_topi (fun y1 hy1 => ?_)
    obtain rfl : (nI nm) = y1 := (hy1.trans (hnm)).symm
    refine lv_icmp_ge (tgt := 50) hx hb dX12_declared_7 (by decide) (fun c_7 => ?_) (fun c_7 => ?_)
    · have t_7 : ((k5 : Nat) : Int) ≥ ((nm : Nat) : Int) := toI_ge c_7 (nI_toInt (by omega)) (nI_toInt (by omega))
      refine lv_iconst (v := (-1)) hx hb dX12_declared_50 (by decide) ?_
      refine W.widen (k := 0) (n := 0) (by decide +kernel) (by decide +kernel) ?_
      exact W.iret (v := (-1)) hx hb hr (fun t9_ ht hW => ⟨⟨(-1), 0, rfl, by (try dsimp only); exact Or.inl rfl, by rw [ht]; exact hP, hD⟩, hS.F ht⟩) hS.2.2 dX12_declared_51
    · have t_7 : ¬ ((k5 : Nat) : Int) ≥ ((nm : Nat) : Int) := toI_nge c_7 (nI_toInt (by omega)) (nI_toInt (by omega))
      obtain ⟨x9, y9, ex, ey, exy⟩ := hno k5 (by omega)
      refine lv_aload_n hx hb dX12_declared_10 rfl (lv_at hl 0 rfl) ?_
      refine lv_aload_n hx hb dX12_declared_11 rfl (lv_at hl 0 rfl) ?_
      refine va_get (D := (dC, dI)) (ci := 12) (v := .ref (a 11)) (C := RX12) (T := TX12) (N := 163) (fs := fM (vS a vi vj)) hx hb hts iwsRX12_declared_in12 hown hK hP 0 rfl rfl 27 (by decide) (hts (.fieldLink RX12 53 "OptimaWorksModel" "nameFrom" "[I") (by decide +kernel)) (fun _ h9 => h9) rfl dX12_declared_12 ?_
      refine lv_iload_n hx hb dX12_declared_15 rfl (lv_at hl 1 rfl) ?_
      refine va_iald (cA := k 11) (n := 44) (f := (vF 11)) hx hb hK hP 12 11 (WR_get 11 (by decide)) (TR_get 11 (by decide)) (vp_in_nI (show k5 < 44 by omega) (by omega)) dX12_declared_16 ?_
      refine lv_topi (fun y2 hy2 => ?_)
      obtain rfl : ((vF 11) k5) = y2 := (hy2.trans (by rw [nI_clamp (by omega)])).symm
      refine lv_topi (fun y3 hy3 => ?_)
      obtain rfl : (nI x9) = y3 := (hy3.trans (ex)).symm
      refine lv_aload_n hx hb dX12_declared_17 rfl (lv_at hl 0 rfl) ?_
      refine va_get (D := (dC, dI)) (ci := 12) (v := .ref (a 12)) (C := RX12) (T := TX12) (N := 163) (fs := fM (vS a vi vj)) hx hb hts iwsRX12_declared_in12 hown hK hP 0 rfl rfl 28 (by decide) (hts (.fieldLink RX12 56 "OptimaWorksModel" "nameLong" "[I") (by decide +kernel)) (fun _ h9 => h9) rfl dX12_declared_18 ?_
      refine lv_iload_n hx hb dX12_declared_21 rfl (lv_at hl 1 rfl) ?_
      refine va_iald (cA := k 12) (n := 44) (f := (vF 12)) hx hb hK hP 13 12 (WR_get 12 (by decide)) (TR_get 12 (by decide)) (vp_in_nI (show k5 < 44 by omega) (by omega)) dX12_declared_22 ?_
      refine lv_topi (fun y4 hy4 => ?_)
      obtain rfl : ((vF 12) k5) = y4 := (hy4.trans (by rw [nI_clamp (by omega)])).symm
      refine lv_topi (fun y5 hy5 => ?_)
      obtain rfl : (nI y9) = y5 := (hy5.trans (ey)).symm
      refine lv_aload_n hx hb dX12_declared_23 rfl (lv_at hl 0 rfl) ?_
      refine va_get (D := (dC, dI)) (ci := 12) (v := .int (vi 19)) (C := RX12) (T := TX12) (N := 163) (fs := fM (vS a vi vj)) hx hb hts iwsRX12_declared_in12 hown hK hP 0 rfl rfl 19 (by decide) (hts _ hm_r_X12_declared_0) (fun _ h9 => h9) rfl dX12_declared_24 ?_
      refine lv_topi (fun y6 hy6 => ?_)
      obtain rfl : (nI fn) = y6 := (hy6.trans (hfr)).symm
      refine lv_aload_n hx hb dX12_declared_27 rfl (lv_at hl 0 rfl) ?_
      refine va_get (D := (dC, dI)) (ci := 12) (v := .int (vi 17)) (C := RX12) (T := TX12) (N := 163) (fs := fM (vS a vi vj)) hx hb hts iwsRX12_declared_in12 hown hK hP 0 rfl rfl 17 (by decide) (hts (.fieldLink RX12 485 "OptimaWorksModel" "at0" "I") (by decide +kernel)) (fun _ h9 => h9) rfl dX12_declared_28 ?_
      refine lv_topi (fun y7 hy7 => ?_)
      obtain rfl : (nI an) = y7 := (hy7.trans (ha0)).symm
      refine lv_aload_n hx hb dX12_declared_31 rfl (lv_at hl 0 rfl) ?_
      refine va_get (D := (dC, dI)) (ci := 12) (v := .int (vi 19)) (C := RX12) (T := TX12) (N := 163) (fs := fM (vS a vi vj)) hx hb hts iwsRX12_declared_in12 hown hK hP 0 rfl rfl 19 (by decide) (hts _ hm_r_X12_declared_0) (fun _ h9 => h9) rfl dX12_declared_32 ?_
      refine lv_topi (fun y8 hy8 => ?_)
      obtain rfl : (nI fn) = y8 := (hy8.trans (hfr)).symm
      refine lv_isub hx hb dX12_declared_35 ?_
      refine lv_topi (fun y9 hy9 => ?_)
      obtain rfl : (nI (an - fn)) = y9 := (hy9.trans (pk_sub (a := an) (b := fn) (by omega))).symm
      have hFc := allFree hD hS hA
      refine va_calli (va_runV (As := [.int (nI x9), .int (nI y9), .int (nI fn), .int (nI (an - fn))]) (rest := []) ⟨hx, hb, hml, hown, hts⟩ (r_X12_sameText l dC dI a k h0 vi vj vF vG x9 y9 fn (an - fn) (by first | with_reducible assumption | decide | omega | rfl | assumption) (by omega) H.size) (cwV 4 hts gwsRX12_declared_0 rfl rfl rfl hd_yX12_sameText_RX12 (by decide +kernel)) (fz_pre (va_recv hK hP (ci := 12) (q0 := 0) rfl rfl) hP hK hD) rfl rfl hl.1 rfl (lv_room (Nat.le_of_ble_eq_true rfl)) dX12_declared_36 (by decide +kernel)) hS (fun q _ h => hFc q h) hFc (fun r36 u t9_ H locs ht hvm hw9 hB9 hz1 hk1 hS => ?_)
      have hP : va_P (dC, dI) vwCl (WR a k h0 vi vj vF vG) H := fz_P ht hB9.1
      have hD := fz_sd hP (hB9.2.weaken (fun _ q _ h => hFc q.1 h)) rfl
      have f36_0 := hw9
      try dsimp only at f36_0
      refine lv_if_eq (tgt := 44) hx hb dX12_declared_39 (by decide) (fun c_39 => ?_) (fun c_39 => ?_)
      · have t_39 : (r36).toInt = 0 := toI_eq c_39 rfl (by decide)
        refine lv_iinc (v := (nI (k5 + 1))) hx hb dX12_declared_44 hl (k := 1) rfl (nI_add k5 1) (by decide) rfl (fun ls (hl : lv_has ls _ ([(1, .int (nI (k5 + 1))), (0, .ref h0)])) => ?_)
        refine lv_goto (tgt := 2) hx hb dX12_declared_47 (by decide) ?_
        have hl : lv_has _ _ ([(0, .ref h0), (1, .int (nI (k5 + 1)))]) := lv_sub hl [1, 0] rfl
        exact ih2 (k5 + 1) _ _ _ (by omega) (by omega) hP hD hS hl
      · have t_39 : ¬ (r36).toInt = 0 := toI_neq c_39 rfl (by decide)
        refine lv_iload_n hx hb dX12_declared_42 rfl (lv_at hl 1 rfl) ?_
        refine W.widen (k := 0) (n := 0) (by decide +kernel) (by decide +kernel) ?_
        exact W.iret (v := (nI k5)) hx hb hr (fun t9_ ht hW => ⟨⟨(nI k5), k5, rfl, by (try dsimp only); exact Or.inr ⟨rfl, by omega⟩, by rw [ht]; exact hP, hD⟩, hS.F ht⟩) hS.2.2 dX12_declared_43
theorem dX12_binder_0 : decode cX12_binder 0 = .ok (.aload_n 0, 1) := dk_42 (by decide +kernel)
theorem dX12_binder_1 : decode cX12_binder 1 = .ok (.getfield 540, 3) := dk_180 (by decide +kernel)
theorem dX12_binder_4 : decode cX12_binder 4 = .ok (.iconst 1, 1) := dk_4 (by decide +kernel)
theorem dX12_binder_5 : decode cX12_binder 5 = .ok (.isub, 1) := dk_100 (by decide +kernel)
theorem dX12_binder_6 : decode cX12_binder 6 = .ok (.istore_n 1, 1) := dk_60 (by decide +kernel)
theorem dX12_binder_7 : decode cX12_binder 7 = .ok (.iload_n 1, 1) := dk_27 (by decide +kernel)
theorem dX12_binder_8 : decode cX12_binder 8 = .ok (.ifCond .lt 43, 3) := dk_155 (by decide +kernel)
theorem dX12_binder_11 : decode cX12_binder 11 = .ok (.aload_n 0, 1) := dk_42 (by decide +kernel)
theorem dX12_binder_12 : decode cX12_binder 12 = .ok (.aload_n 0, 1) := dk_42 (by decide +kernel)
theorem dX12_binder_13 : decode cX12_binder 13 = .ok (.getfield 62, 3) := dk_180 (by decide +kernel)
theorem dX12_binder_16 : decode cX12_binder 16 = .ok (.iload_n 1, 1) := dk_27 (by decide +kernel)
theorem dX12_binder_17 : decode cX12_binder 17 = .ok (.iaload, 1) := dk_46 (by decide +kernel)
theorem dX12_binder_18 : decode cX12_binder 18 = .ok (.aload_n 0, 1) := dk_42 (by decide +kernel)
theorem dX12_binder_19 : decode cX12_binder 19 = .ok (.getfield 65, 3) := dk_180 (by decide +kernel)
theorem dX12_binder_22 : decode cX12_binder 22 = .ok (.iload_n 1, 1) := dk_27 (by decide +kernel)
theorem dX12_binder_23 : decode cX12_binder 23 = .ok (.iaload, 1) := dk_46 (by decide +kernel)
theorem dX12_binder_24 : decode cX12_binder 24 = .ok (.aload_n 0, 1) := dk_42 (by decide +kernel)
theorem dX12_binder_25 : decode cX12_binder 25 = .ok (.getfield 488, 3) := dk_180 (by decide +kernel)
theorem dX12_binder_28 : decode cX12_binder 28 = .ok (.aload_n 0, 1) := dk_42 (by decide +kernel)
theorem dX12_binder_29 : decode cX12_binder 29 = .ok (.getfield 485, 3) := dk_180 (by decide +kernel)
theorem dX12_binder_32 : decode cX12_binder 32 = .ok (.aload_n 0, 1) := dk_42 (by decide +kernel)
theorem dX12_binder_33 : decode cX12_binder 33 = .ok (.getfield 488, 3) := dk_180 (by decide +kernel)
theorem dX12_binder_36 : decode cX12_binder 36 = .ok (.isub, 1) := dk_100 (by decide +kernel)
theorem dX12_binder_37 : decode cX12_binder 37 = .ok (.invokevirtual 536, 3) := dk_182 (by decide +kernel)
theorem dX12_binder_40 : decode cX12_binder 40 = .ok (.ifCond .eq 5, 3) := dk_153 (by decide +kernel)
theorem dX12_binder_43 : decode cX12_binder 43 = .ok (.iload_n 1, 1) := dk_27 (by decide +kernel)
theorem dX12_binder_44 : decode cX12_binder 44 = .ok (.ireturn, 1) := dk_172 (by decide +kernel)
theorem dX12_binder_45 : decode cX12_binder 45 = .ok (.iinc 1 (-1), 3) := dk_132 (by decide +kernel)
theorem dX12_binder_48 : decode cX12_binder 48 = .ok (.goto (-41), 3) := dk_167 (by decide +kernel)
theorem dX12_binder_51 : decode cX12_binder 51 = .ok (.iconst (-1), 1) := dk_2 (by decide +kernel)
theorem dX12_binder_52 : decode cX12_binder 52 = .ok (.ireturn, 1) := dk_172 (by decide +kernel)
def wsRX12_binder : List Cond := .code yX12_binder cX12_binder 2 (some .int) :: ([.fieldLink RX12 540 "OptimaWorksModel" "binders" "I", .fieldLink RX12 62 "OptimaWorksModel" "binderFrom" "[I", .fieldLink RX12 65 "OptimaWorksModel" "binderLong" "[I", .fieldLink RX12 488 "OptimaWorksModel" "from" "I", .fieldLink RX12 485 "OptimaWorksModel" "at0" "I"] ++ wsX120 ++ (wsV RX12 536 RX12 yX12_sameText wsRX12_sameText))
theorem iwsRX12_binder_in12 : ∀ w ∈ wsX120, w ∈ wsRX12_binder := fun _ h => List.mem_cons_of_mem _ (List.mem_append_left _ (List.mem_append_right _ h))
theorem gwsRX12_binder_0 : GoodIn wsRX12_binder (wsV RX12 536 RX12 yX12_sameText wsRX12_sameText) := goodIn_sub (fun _ h => List.mem_cons_of_mem _ (List.mem_append_right _ h)) (gdV (by decide +kernel) gdwsRX12_sameText)
theorem gdwsRX12_binder : wsRX12_binder.all goodWord = true := gdC rfl (gdA (gdA (by decide +kernel : ([.fieldLink RX12 540 "OptimaWorksModel" "binders" "I", .fieldLink RX12 62 "OptimaWorksModel" "binderFrom" "[I", .fieldLink RX12 65 "OptimaWorksModel" "binderLong" "[I", .fieldLink RX12 488 "OptimaWorksModel" "from" "I", .fieldLink RX12 485 "OptimaWorksModel" "at0" "I"] : List Cond).all goodWord = true) gdwsX120) (gdV (by decide +kernel) gdwsRX12_sameText))
theorem hm_r_X12_binder_0 : (.fieldLink RX12 488 "OptimaWorksModel" "from" "I" : Cond) ∈ wsRX12_binder := by decide +kernel
set_option maxHeartbeats 4000000 in
set_option maxRecDepth 100000 in
/-- binder() -/
theorem r_X12_binder (l : Launch) (dC : Nat → ClassId) (dI : Nat → Nat → Nat) (a : Nat → Nat) (k : Nat → ClassId) (h0 : Nat) (vi : Nat → Int32) (vj : Nat → Int64) (vF : Nat → Nat → Int32) (vG : Nat → Nat → Int64) (an : Nat) (fn : Nat) (nm : Nat) (ha0 : vi 17 = nI an) (hfr : vi 19 = nI fn) (hfa : fn ≤ an) (han : an ≤ 4000) (hnm : vi 30 = nI nm) (hnm9 : nm ≤ 60) (hno : NmO (vF 14) (vF 15) nm) (sz : Nat) : Met l yX12_binder wsRX12_binder ({ frames := 1, cells := 0, slots := 0, locals := 26 }) (va_Pc [.ref h0] (fun U => U.heap.size = sz ∧ va_P (dC, dI) vwCl (WR a k h0 vi vj vF vG) U.heap ∧ va_K (dC, dI) vwCl (tX12 k) U ∧ va_D (fun _ => True) (WR a k h0 vi vj vF vG))) (va_Qi (fun (r : Int32) (u : Nat) => (r = (-1)) ∨ (r = (nI u) ∧ (u < nm))) (fun (u : Nat) t => va_P (dC, dI) vwCl (WR a k h0 vi vj vF vG) t.heap ∧ va_D (va_A (WR a k h0 vi vj vF vG) sz) (WR a k h0 vi vj vF vG)) (va_A (WR a k h0 vi vj vF vG) sz)) 0 0 (va_A (WR a k h0 vi vj vF vG) sz) := by
  refine Met.ofW (cc := cX12_binder) (maxL := 2) (ret := (some .int)) (by decide) rfl ?_
  intro p e s m args below meth c s₁ B hml hv
  obtain ⟨rfl, hsz, hP, hK, hD0⟩ := hv
  have hx := B.exec
  have hb := B.bytes
  have hr := B.returns
  have hts := atoms_spec (ws := wsRX12_binder) B.pre
  have hown : s.vm.findClass RX12 = some m.cls := findClass_of_methodNamed B.named
  have hlocks := B.notSynchronized
  subst hsz
  have hD := hD0.self (sz := s.heap.size)
  generalize hAe : va_A (WR a k h0 vi vj vF vG) s.heap.size = A at hD ⊢
  have hA : ∀ q : Nat, s.heap.size ≤ q → A q := fun q h => by rw [← hAe]; exact Or.inr h
  have hS : va_S A s.heap s.heap [] := va_S.rf
  have hl := lv_entry ([.ref h0]) (n := 2) (Nat.le_of_ble_eq_true rfl)
  rw [lg_entry_eq]
  generalize (lg_sl ([.ref h0]) ++ List.replicate (2 - (lg_sl ([.ref h0])).length) Slot.unset).toArray = ls at hl ⊢
  have hl : lv_has ls 2 [(0, .ref h0)] := hl
  refine lv_aload_n hx hb dX12_binder_0 rfl (lv_at hl 0 rfl) ?_
  refine va_get (D := (dC, dI)) (ci := 12) (v := .int (vi 30)) (C := RX12) (T := TX12) (N := 163) (fs := fM (vS a vi vj)) hx hb hts iwsRX12_binder_in12 hown hK hP 0 rfl rfl 30 (by decide) (hts (.fieldLink RX12 540 "OptimaWorksModel" "binders" "I") (by decide +kernel)) (fun _ h9 => h9) rfl dX12_binder_1 ?_
  refine lv_topi (fun y1 hy1 => ?_)
  obtain rfl : (nI nm) = y1 := (hy1.trans (hnm)).symm
  refine lv_iconst (v := 1) hx hb dX12_binder_4 (by decide) ?_
  refine lv_isub hx hb dX12_binder_5 ?_
  refine lv_istore_n hx hb dX12_binder_6 rfl hl (by decide) rfl (fun ls (hl : lv_has ls _ ([(1, .int ((nI nm) - 1)), (0, .ref h0)])) => ?_)
  have hl : lv_has _ _ ([(0, .ref h0), (1, .int ((nI nm) - 1))]) := lv_sub hl [1, 0] rfl
  refine (fun (loop : ∀ (n9 : Nat) (kq : Int32) (kk1 : Nat) (H : Heap) (locs : List Loc) (ls : Array Slot), ((kq).toInt = (kk1 : Int) - 1) → (kk1 ≤ nm) →  (kk1 < n9) → va_P (dC, dI) vwCl (WR a k h0 vi vj vF vG) H → va_D A (WR a k h0 vi vj vF vG) → va_S A s.heap H locs → lv_has ls 2 [(0, .ref h0), (1, .int kq)] → W p l e _ s m _ below meth c H locs 0 0 _ (F0 m 7 ls [])) => loop (nm + 1) ((nI nm) - 1) nm _ _ _ (by exact pk_sub_toInt (a := nm) (b := 1) (by omega) (by omega)) (by omega) (by omega) hP hD hS hl) ?_
  intro n9
  induction n9 with
  | zero => intro kq kk1 H locs ls hkq hkn hf9; exact False.elim (by omega)
  | succ n9 ih7 =>
    intro kq kk1 H locs ls hkq hkn hf7 hP hD hS hl
    refine lv_iload_n hx hb dX12_binder_7 rfl (lv_at hl 1 rfl) ?_
    refine lv_if_lt (tgt := 51) hx hb dX12_binder_8 (by decide) (fun c_8 => ?_) (fun c_8 => ?_)
    · have t_8 : (kq).toInt < 0 := toI_lt c_8 rfl (by decide)
      refine lv_iconst (v := (-1)) hx hb dX12_binder_51 (by decide) ?_
      refine W.widen (k := 0) (n := 0) (by decide +kernel) (by decide +kernel) ?_
      exact W.iret (v := (-1)) hx hb hr (fun t9_ ht hW => ⟨⟨(-1), 0, rfl, by (try dsimp only); exact Or.inl rfl, by rw [ht]; exact hP, hD⟩, hS.F ht⟩) hS.2.2 dX12_binder_52
    · have t_8 : ¬ (kq).toInt < 0 := toI_nlt c_8 rfl (by decide)
      obtain ⟨kk, h_kk, rfl⟩ := of_toInt (x := kq) (k := 60) (by omega) (by omega)
      have e_kk : (nI kk).toInt = (kk : Int) := nI_toInt (by omega)
      obtain ⟨x9, y9, ex, ey, exy⟩ := hno kk (by omega)
      refine lv_aload_n hx hb dX12_binder_11 rfl (lv_at hl 0 rfl) ?_
      refine lv_aload_n hx hb dX12_binder_12 rfl (lv_at hl 0 rfl) ?_
      refine va_get (D := (dC, dI)) (ci := 12) (v := .ref (a 14)) (C := RX12) (T := TX12) (N := 163) (fs := fM (vS a vi vj)) hx hb hts iwsRX12_binder_in12 hown hK hP 0 rfl rfl 31 (by decide) (hts (.fieldLink RX12 62 "OptimaWorksModel" "binderFrom" "[I") (by decide +kernel)) (fun _ h9 => h9) rfl dX12_binder_13 ?_
      refine lv_iload_n hx hb dX12_binder_16 rfl (lv_at hl 1 rfl) ?_
      refine va_iald (cA := k 14) (n := 60) (f := (vF 14)) hx hb hK hP 15 14 (WR_get 14 (by decide)) (TR_get 14 (by decide)) (vp_in_nI (show kk < 60 by omega) (by omega)) dX12_binder_17 ?_
      refine lv_topi (fun y2 hy2 => ?_)
      obtain rfl : ((vF 14) kk) = y2 := (hy2.trans (by rw [nI_clamp (by omega)])).symm
      refine lv_topi (fun y3 hy3 => ?_)
      obtain rfl : (nI x9) = y3 := (hy3.trans (ex)).symm
      refine lv_aload_n hx hb dX12_binder_18 rfl (lv_at hl 0 rfl) ?_
      refine va_get (D := (dC, dI)) (ci := 12) (v := .ref (a 15)) (C := RX12) (T := TX12) (N := 163) (fs := fM (vS a vi vj)) hx hb hts iwsRX12_binder_in12 hown hK hP 0 rfl rfl 32 (by decide) (hts (.fieldLink RX12 65 "OptimaWorksModel" "binderLong" "[I") (by decide +kernel)) (fun _ h9 => h9) rfl dX12_binder_19 ?_
      refine lv_iload_n hx hb dX12_binder_22 rfl (lv_at hl 1 rfl) ?_
      refine va_iald (cA := k 15) (n := 60) (f := (vF 15)) hx hb hK hP 16 15 (WR_get 15 (by decide)) (TR_get 15 (by decide)) (vp_in_nI (show kk < 60 by omega) (by omega)) dX12_binder_23 ?_
      refine lv_topi (fun y4 hy4 => ?_)
      obtain rfl : ((vF 15) kk) = y4 := (hy4.trans (by rw [nI_clamp (by omega)])).symm
      refine lv_topi (fun y5 hy5 => ?_)
      obtain rfl : (nI y9) = y5 := (hy5.trans (ey)).symm
      refine lv_aload_n hx hb dX12_binder_24 rfl (lv_at hl 0 rfl) ?_
      refine va_get (D := (dC, dI)) (ci := 12) (v := .int (vi 19)) (C := RX12) (T := TX12) (N := 163) (fs := fM (vS a vi vj)) hx hb hts iwsRX12_binder_in12 hown hK hP 0 rfl rfl 19 (by decide) (hts _ hm_r_X12_binder_0) (fun _ h9 => h9) rfl dX12_binder_25 ?_
      refine lv_topi (fun y6 hy6 => ?_)
      obtain rfl : (nI fn) = y6 := (hy6.trans (hfr)).symm
      refine lv_aload_n hx hb dX12_binder_28 rfl (lv_at hl 0 rfl) ?_
      refine va_get (D := (dC, dI)) (ci := 12) (v := .int (vi 17)) (C := RX12) (T := TX12) (N := 163) (fs := fM (vS a vi vj)) hx hb hts iwsRX12_binder_in12 hown hK hP 0 rfl rfl 17 (by decide) (hts (.fieldLink RX12 485 "OptimaWorksModel" "at0" "I") (by decide +kernel)) (fun _ h9 => h9) rfl dX12_binder_29 ?_
      refine lv_topi (fun y7 hy7 => ?_)
      obtain rfl : (nI an) = y7 := (hy7.trans (ha0)).symm
      refine lv_aload_n hx hb dX12_binder_32 rfl (lv_at hl 0 rfl) ?_
      refine va_get (D := (dC, dI)) (ci := 12) (v := .int (vi 19)) (C := RX12) (T := TX12) (N := 163) (fs := fM (vS a vi vj)) hx hb hts iwsRX12_binder_in12 hown hK hP 0 rfl rfl 19 (by decide) (hts _ hm_r_X12_binder_0) (fun _ h9 => h9) rfl dX12_binder_33 ?_
      refine lv_topi (fun y8 hy8 => ?_)
      obtain rfl : (nI fn) = y8 := (hy8.trans (hfr)).symm
      refine lv_isub hx hb dX12_binder_36 ?_
      refine lv_topi (fun y9 hy9 => ?_)
      obtain rfl : (nI (an - fn)) = y9 := (hy9.trans (pk_sub (a := an) (b := fn) (by omega))).symm
      have hFc := allFree hD hS hA
      refine va_calli (va_runV (As := [.int (nI x9), .int (nI y9), .int (nI fn), .int (nI (an - fn))]) (rest := []) ⟨hx, hb, hml, hown, hts⟩ (r_X12_sameText l dC dI a k h0 vi vj vF vG x9 y9 fn (an - fn) (by first | with_reducible assumption | decide | omega | rfl | assumption) (by omega) H.size) (cwV 4 hts gwsRX12_binder_0 rfl rfl rfl hd_yX12_sameText_RX12 (by decide +kernel)) (fz_pre (va_recv hK hP (ci := 12) (q0 := 0) rfl rfl) hP hK hD) rfl rfl hl.1 rfl (lv_room (Nat.le_of_ble_eq_true rfl)) dX12_binder_37 (by decide +kernel)) hS (fun q _ h => hFc q h) hFc (fun r37 u t9_ H locs ht hvm hw9 hB9 hz1 hk1 hS => ?_)
      have hP : va_P (dC, dI) vwCl (WR a k h0 vi vj vF vG) H := fz_P ht hB9.1
      have hD := fz_sd hP (hB9.2.weaken (fun _ q _ h => hFc q.1 h)) rfl
      have f37_0 := hw9
      try dsimp only at f37_0
      refine lv_if_eq (tgt := 45) hx hb dX12_binder_40 (by decide) (fun c_40 => ?_) (fun c_40 => ?_)
      · have t_40 : (r37).toInt = 0 := toI_eq c_40 rfl (by decide)
        refine lv_iinc (v := ((nI kk) + (-1))) hx hb dX12_binder_45 hl (k := 1) rfl rfl (by decide) rfl (fun ls (hl : lv_has ls _ ([(1, .int ((nI kk) + (-1))), (0, .ref h0)])) => ?_)
        refine lv_goto (tgt := 7) hx hb dX12_binder_48 (by decide) ?_
        have hl : lv_has _ _ ([(0, .ref h0), (1, .int ((nI kk) + (-1)))]) := lv_sub hl [1, 0] rfl
        exact ih7 ((nI kk) + (-1)) (kk1 - 1) _ _ _ (by rw [m1T (by omega)]; omega) (by omega) (by omega) hP hD hS hl
      · have t_40 : ¬ (r37).toInt = 0 := toI_neq c_40 rfl (by decide)
        refine lv_iload_n hx hb dX12_binder_43 rfl (lv_at hl 1 rfl) ?_
        refine W.widen (k := 0) (n := 0) (by decide +kernel) (by decide +kernel) ?_
        exact W.iret (v := (nI kk)) hx hb hr (fun t9_ ht hW => ⟨⟨(nI kk), kk, rfl, by (try dsimp only); exact Or.inr ⟨rfl, by omega⟩, by rw [ht]; exact hP, hD⟩, hS.F ht⟩) hS.2.2 dX12_binder_44
theorem dX12_node_0 : decode cX12_node 0 = .ok (.aload_n 0, 1) := dk_42 (by decide +kernel)
theorem dX12_node_1 : decode cX12_node 1 = .ok (.getfield 110, 3) := dk_180 (by decide +kernel)
theorem dX12_node_4 : decode cX12_node 4 = .ok (.aload_n 0, 1) := dk_42 (by decide +kernel)
theorem dX12_node_5 : decode cX12_node 5 = .ok (.getfield 543, 3) := dk_180 (by decide +kernel)
theorem dX12_node_8 : decode cX12_node 8 = .ok (.iload_n 1, 1) := dk_27 (by decide +kernel)
theorem dX12_node_9 : decode cX12_node 9 = .ok (.iastore, 1) := dk_79 (by decide +kernel)
theorem dX12_node_10 : decode cX12_node 10 = .ok (.aload_n 0, 1) := dk_42 (by decide +kernel)
theorem dX12_node_11 : decode cX12_node 11 = .ok (.getfield 113, 3) := dk_180 (by decide +kernel)
theorem dX12_node_14 : decode cX12_node 14 = .ok (.aload_n 0, 1) := dk_42 (by decide +kernel)
theorem dX12_node_15 : decode cX12_node 15 = .ok (.getfield 543, 3) := dk_180 (by decide +kernel)
theorem dX12_node_18 : decode cX12_node 18 = .ok (.iload_n 2, 1) := dk_28 (by decide +kernel)
theorem dX12_node_19 : decode cX12_node 19 = .ok (.iastore, 1) := dk_79 (by decide +kernel)
theorem dX12_node_20 : decode cX12_node 20 = .ok (.aload_n 0, 1) := dk_42 (by decide +kernel)
theorem dX12_node_21 : decode cX12_node 21 = .ok (.getfield 116, 3) := dk_180 (by decide +kernel)
theorem dX12_node_24 : decode cX12_node 24 = .ok (.aload_n 0, 1) := dk_42 (by decide +kernel)
theorem dX12_node_25 : decode cX12_node 25 = .ok (.getfield 543, 3) := dk_180 (by decide +kernel)
theorem dX12_node_28 : decode cX12_node 28 = .ok (.iload_n 3, 1) := dk_29 (by decide +kernel)
theorem dX12_node_29 : decode cX12_node 29 = .ok (.iastore, 1) := dk_79 (by decide +kernel)
theorem dX12_node_30 : decode cX12_node 30 = .ok (.aload_n 0, 1) := dk_42 (by decide +kernel)
theorem dX12_node_31 : decode cX12_node 31 = .ok (.getfield 119, 3) := dk_180 (by decide +kernel)
theorem dX12_node_34 : decode cX12_node 34 = .ok (.aload_n 0, 1) := dk_42 (by decide +kernel)
theorem dX12_node_35 : decode cX12_node 35 = .ok (.getfield 543, 3) := dk_180 (by decide +kernel)
theorem dX12_node_38 : decode cX12_node 38 = .ok (.iload 4, 2) := dk_21 (by decide +kernel)
theorem dX12_node_40 : decode cX12_node 40 = .ok (.iastore, 1) := dk_79 (by decide +kernel)
theorem dX12_node_41 : decode cX12_node 41 = .ok (.aload_n 0, 1) := dk_42 (by decide +kernel)
theorem dX12_node_42 : decode cX12_node 42 = .ok (.getfield 122, 3) := dk_180 (by decide +kernel)
theorem dX12_node_45 : decode cX12_node 45 = .ok (.aload_n 0, 1) := dk_42 (by decide +kernel)
theorem dX12_node_46 : decode cX12_node 46 = .ok (.getfield 543, 3) := dk_180 (by decide +kernel)
theorem dX12_node_49 : decode cX12_node 49 = .ok (.iload 5, 2) := dk_21 (by decide +kernel)
theorem dX12_node_51 : decode cX12_node 51 = .ok (.iastore, 1) := dk_79 (by decide +kernel)
theorem dX12_node_52 : decode cX12_node 52 = .ok (.aload_n 0, 1) := dk_42 (by decide +kernel)
theorem dX12_node_53 : decode cX12_node 53 = .ok (.getfield 125, 3) := dk_180 (by decide +kernel)
theorem dX12_node_56 : decode cX12_node 56 = .ok (.aload_n 0, 1) := dk_42 (by decide +kernel)
theorem dX12_node_57 : decode cX12_node 57 = .ok (.getfield 543, 3) := dk_180 (by decide +kernel)
theorem dX12_node_60 : decode cX12_node 60 = .ok (.iconst 0, 1) := dk_3 (by decide +kernel)
theorem dX12_node_61 : decode cX12_node 61 = .ok (.iastore, 1) := dk_79 (by decide +kernel)
theorem dX12_node_62 : decode cX12_node 62 = .ok (.aload_n 0, 1) := dk_42 (by decide +kernel)
theorem dX12_node_63 : decode cX12_node 63 = .ok (.getfield 128, 3) := dk_180 (by decide +kernel)
theorem dX12_node_66 : decode cX12_node 66 = .ok (.aload_n 0, 1) := dk_42 (by decide +kernel)
theorem dX12_node_67 : decode cX12_node 67 = .ok (.getfield 543, 3) := dk_180 (by decide +kernel)
theorem dX12_node_70 : decode cX12_node 70 = .ok (.iconst 0, 1) := dk_3 (by decide +kernel)
theorem dX12_node_71 : decode cX12_node 71 = .ok (.iastore, 1) := dk_79 (by decide +kernel)
theorem dX12_node_72 : decode cX12_node 72 = .ok (.aload_n 0, 1) := dk_42 (by decide +kernel)
theorem dX12_node_73 : decode cX12_node 73 = .ok (.dup, 1) := dk_89 (by decide +kernel)
theorem dX12_node_74 : decode cX12_node 74 = .ok (.getfield 543, 3) := dk_180 (by decide +kernel)
theorem dX12_node_77 : decode cX12_node 77 = .ok (.iconst 1, 1) := dk_4 (by decide +kernel)
theorem dX12_node_78 : decode cX12_node 78 = .ok (.iadd, 1) := dk_96 (by decide +kernel)
theorem dX12_node_79 : decode cX12_node 79 = .ok (.putfield 543, 3) := dk_181 (by decide +kernel)
theorem dX12_node_82 : decode cX12_node 82 = .ok (.aload_n 0, 1) := dk_42 (by decide +kernel)
theorem dX12_node_83 : decode cX12_node 83 = .ok (.getfield 543, 3) := dk_180 (by decide +kernel)
theorem dX12_node_86 : decode cX12_node 86 = .ok (.iconst 1, 1) := dk_4 (by decide +kernel)
theorem dX12_node_87 : decode cX12_node 87 = .ok (.isub, 1) := dk_100 (by decide +kernel)
theorem dX12_node_88 : decode cX12_node 88 = .ok (.ireturn, 1) := dk_172 (by decide +kernel)
def wsRX12_node : List Cond := .code yX12_node cX12_node 6 (some .int) :: ([.fieldLink RX12 110 "OptimaWorksModel" "kind" "[I", .fieldLink RX12 543 "OptimaWorksModel" "nodes" "I", .fieldLink RX12 113 "OptimaWorksModel" "partA" "[I", .fieldLink RX12 116 "OptimaWorksModel" "partB" "[I", .fieldLink RX12 119 "OptimaWorksModel" "partC" "[I", .fieldLink RX12 122 "OptimaWorksModel" "where" "[I", .fieldLink RX12 125 "OptimaWorksModel" "firstA" "[I", .fieldLink RX12 128 "OptimaWorksModel" "firstB" "[I"] ++ wsX120)
theorem iwsRX12_node_in12 : ∀ w ∈ wsX120, w ∈ wsRX12_node := fun _ h => List.mem_cons_of_mem _ (List.mem_append_right _ h)
theorem gdwsRX12_node : wsRX12_node.all goodWord = true := gdC rfl (gdA (by decide +kernel : ([.fieldLink RX12 110 "OptimaWorksModel" "kind" "[I", .fieldLink RX12 543 "OptimaWorksModel" "nodes" "I", .fieldLink RX12 113 "OptimaWorksModel" "partA" "[I", .fieldLink RX12 116 "OptimaWorksModel" "partB" "[I", .fieldLink RX12 119 "OptimaWorksModel" "partC" "[I", .fieldLink RX12 122 "OptimaWorksModel" "where" "[I", .fieldLink RX12 125 "OptimaWorksModel" "firstA" "[I", .fieldLink RX12 128 "OptimaWorksModel" "firstB" "[I"] : List Cond).all goodWord = true) gdwsX120)
theorem hm_r_X12_node_0 : (.fieldLink RX12 543 "OptimaWorksModel" "nodes" "I" : Cond) ∈ wsRX12_node := by decide +kernel
set_option maxHeartbeats 4000000 in
set_option maxRecDepth 100000 in
/-- node(k, a, b, c, p) -/
theorem r_X12_node (l : Launch) (dC : Nat → ClassId) (dI : Nat → Nat → Nat) (a : Nat → Nat) (k : Nat → ClassId) (h0 : Nat) (vi : Nat → Int32) (vj : Nat → Int64) (vF : Nat → Nat → Int32) (vG : Nat → Nat → Int64) (nd : Nat) (kv : Int32) (av : Int32) (bv : Int32) (cv : Int32) (pv : Int32) (hnd : vi 52 = nI nd) (hnd2 : nd < 4200) (sz : Nat) : Met l yX12_node wsRX12_node ({ frames := 0, cells := 0, slots := 0, locals := 0 }) (va_Pc [.ref h0, .int kv, .int av, .int bv, .int cv, .int pv] (fun U => U.heap.size = sz ∧ va_P (dC, dI) vwCl (WR a k h0 vi vj vF vG) U.heap ∧ va_K (dC, dI) vwCl (tX12 k) U ∧ va_D (fun _ => True) (WR a k h0 vi vj vF vG))) (va_Qi (fun (r : Int32) (u : Unit) => r = (nI nd)) (fun (u : Unit) t => va_P (dC, dI) vwCl (WR a k h0 (fT vi 52 (nI (nd + 1))) vj (fT (fT (fT (fT (fT (fT (fT vF 29 (upd (vF 29) (nI nd).toNatClampNeg kv)) 30 (upd (vF 30) (nI nd).toNatClampNeg av)) 31 (upd (vF 31) (nI nd).toNatClampNeg bv)) 32 (upd (vF 32) (nI nd).toNatClampNeg cv)) 33 (upd (vF 33) (nI nd).toNatClampNeg pv)) 34 (upd (vF 34) (nI nd).toNatClampNeg 0)) 35 (upd (vF 35) (nI nd).toNatClampNeg 0)) vG) t.heap ∧ va_D (va_A (WR a k h0 vi vj vF vG) sz) (WR a k h0 (fT vi 52 (nI (nd + 1))) vj (fT (fT (fT (fT (fT (fT (fT vF 29 (upd (vF 29) (nI nd).toNatClampNeg kv)) 30 (upd (vF 30) (nI nd).toNatClampNeg av)) 31 (upd (vF 31) (nI nd).toNatClampNeg bv)) 32 (upd (vF 32) (nI nd).toNatClampNeg cv)) 33 (upd (vF 33) (nI nd).toNatClampNeg pv)) 34 (upd (vF 34) (nI nd).toNatClampNeg 0)) 35 (upd (vF 35) (nI nd).toNatClampNeg 0)) vG)) (va_A (WR a k h0 vi vj vF vG) sz)) 0 0 (va_A (WR a k h0 vi vj vF vG) sz) := by
  refine Met.ofW (cc := cX12_node) (maxL := 6) (ret := (some .int)) (by decide) rfl ?_
  intro p e s m args below meth c s₁ B hml hv
  obtain ⟨rfl, hsz, hP, hK, hD0⟩ := hv
  have hx := B.exec
  have hb := B.bytes
  have hr := B.returns
  have hts := atoms_spec (ws := wsRX12_node) B.pre
  have hown : s.vm.findClass RX12 = some m.cls := findClass_of_methodNamed B.named
  have hlocks := B.notSynchronized
  subst hsz
  have hD := hD0.self (sz := s.heap.size)
  generalize hAe : va_A (WR a k h0 vi vj vF vG) s.heap.size = A at hD ⊢
  have hA : ∀ q : Nat, s.heap.size ≤ q → A q := fun q h => by rw [← hAe]; exact Or.inr h
  have hS : va_S A s.heap s.heap [] := va_S.rf
  have hl := lv_entry ([.ref h0, .int kv, .int av, .int bv, .int cv, .int pv]) (n := 6) (Nat.le_of_ble_eq_true rfl)
  rw [lg_entry_eq]
  generalize (lg_sl ([.ref h0, .int kv, .int av, .int bv, .int cv, .int pv]) ++ List.replicate (6 - (lg_sl ([.ref h0, .int kv, .int av, .int bv, .int cv, .int pv])).length) Slot.unset).toArray = ls at hl ⊢
  have hl : lv_has ls 6 [(0, .ref h0), (1, .int kv), (2, .int av), (3, .int bv), (4, .int cv), (5, .int pv)] := hl
  refine lv_aload_n hx hb dX12_node_0 rfl (lv_at hl 0 rfl) ?_
  refine va_get (D := (dC, dI)) (ci := 12) (v := .ref (a 29)) (C := RX12) (T := TX12) (N := 163) (fs := fM (vS a vi vj)) hx hb hts iwsRX12_node_in12 hown hK hP 0 rfl rfl 53 (by decide) (hts (.fieldLink RX12 110 "OptimaWorksModel" "kind" "[I") (by decide +kernel)) (fun _ h9 => h9) rfl dX12_node_1 ?_
  refine lv_aload_n hx hb dX12_node_4 rfl (lv_at hl 0 rfl) ?_
  refine va_get (D := (dC, dI)) (ci := 12) (v := .int (vi 52)) (C := RX12) (T := TX12) (N := 163) (fs := fM (vS a vi vj)) hx hb hts iwsRX12_node_in12 hown hK hP 0 rfl rfl 52 (by decide) (hts _ hm_r_X12_node_0) (fun _ h9 => h9) rfl dX12_node_5 ?_
  refine lv_topi (fun y1 hy1 => ?_)
  obtain rfl : (nI nd) = y1 := (hy1.trans (hnd)).symm
  refine lv_iload_n hx hb dX12_node_8 rfl (lv_at hl 1 rfl) ?_
  refine va_iast (cA := k 29) (n := 4200) (f := (vF 29)) hx hb hK hP hD hS 30 29 (WR_get 29 (by decide)) (TR_get 29 (by decide)) (vp_in_nI (show nd < 4200 by omega) (by omega)) dX12_node_9 (fun H locs hP hD hS => ?_)
  have hP : va_P (dC, dI) vwCl (WR a k h0 vi vj (fT vF 29 (upd (vF 29) ((nI nd)).toNatClampNeg kv)) vG) H := fz_w (WR_F 29 (by decide) _ rfl) hP
  have hD : va_D A (WR a k h0 vi vj (fT vF 29 (upd (vF 29) ((nI nd)).toNatClampNeg kv)) vG) := fz_wD (WR_F 29 (by decide) _ rfl) hD
  refine lv_aload_n hx hb dX12_node_10 rfl (lv_at hl 0 rfl) ?_
  refine va_get (D := (dC, dI)) (ci := 12) (v := .ref (a 30)) (C := RX12) (T := TX12) (N := 163) (fs := fM (vS a vi vj)) hx hb hts iwsRX12_node_in12 hown hK hP 0 rfl rfl 54 (by decide) (hts (.fieldLink RX12 113 "OptimaWorksModel" "partA" "[I") (by decide +kernel)) (fun _ h9 => h9) rfl dX12_node_11 ?_
  refine lv_aload_n hx hb dX12_node_14 rfl (lv_at hl 0 rfl) ?_
  refine va_get (D := (dC, dI)) (ci := 12) (v := .int (vi 52)) (C := RX12) (T := TX12) (N := 163) (fs := fM (vS a vi vj)) hx hb hts iwsRX12_node_in12 hown hK hP 0 rfl rfl 52 (by decide) (hts _ hm_r_X12_node_0) (fun _ h9 => h9) rfl dX12_node_15 ?_
  refine lv_topi (fun y2 hy2 => ?_)
  obtain rfl : (nI nd) = y2 := (hy2.trans (hnd)).symm
  refine lv_iload_n hx hb dX12_node_18 rfl (lv_at hl 2 rfl) ?_
  refine va_iast (cA := k 30) (n := 4200) (f := (vF 30)) hx hb hK hP hD hS 31 30 (WR_get 30 (by decide)) (TR_get 30 (by decide)) (vp_in_nI (show nd < 4200 by omega) (by omega)) dX12_node_19 (fun H locs hP hD hS => ?_)
  have hP : va_P (dC, dI) vwCl (WR a k h0 vi vj (fT (fT vF 29 (upd (vF 29) ((nI nd)).toNatClampNeg kv)) 30 (upd (vF 30) ((nI nd)).toNatClampNeg av)) vG) H := fz_w (WR_F 30 (by decide) _ rfl) hP
  have hD : va_D A (WR a k h0 vi vj (fT (fT vF 29 (upd (vF 29) ((nI nd)).toNatClampNeg kv)) 30 (upd (vF 30) ((nI nd)).toNatClampNeg av)) vG) := fz_wD (WR_F 30 (by decide) _ rfl) hD
  refine lv_aload_n hx hb dX12_node_20 rfl (lv_at hl 0 rfl) ?_
  refine va_get (D := (dC, dI)) (ci := 12) (v := .ref (a 31)) (C := RX12) (T := TX12) (N := 163) (fs := fM (vS a vi vj)) hx hb hts iwsRX12_node_in12 hown hK hP 0 rfl rfl 55 (by decide) (hts (.fieldLink RX12 116 "OptimaWorksModel" "partB" "[I") (by decide +kernel)) (fun _ h9 => h9) rfl dX12_node_21 ?_
  refine lv_aload_n hx hb dX12_node_24 rfl (lv_at hl 0 rfl) ?_
  refine va_get (D := (dC, dI)) (ci := 12) (v := .int (vi 52)) (C := RX12) (T := TX12) (N := 163) (fs := fM (vS a vi vj)) hx hb hts iwsRX12_node_in12 hown hK hP 0 rfl rfl 52 (by decide) (hts _ hm_r_X12_node_0) (fun _ h9 => h9) rfl dX12_node_25 ?_
  refine lv_topi (fun y3 hy3 => ?_)
  obtain rfl : (nI nd) = y3 := (hy3.trans (hnd)).symm
  refine lv_iload_n hx hb dX12_node_28 rfl (lv_at hl 3 rfl) ?_
  refine va_iast (cA := k 31) (n := 4200) (f := (vF 31)) hx hb hK hP hD hS 32 31 (WR_get 31 (by decide)) (TR_get 31 (by decide)) (vp_in_nI (show nd < 4200 by omega) (by omega)) dX12_node_29 (fun H locs hP hD hS => ?_)
  have hP : va_P (dC, dI) vwCl (WR a k h0 vi vj (fT (fT (fT vF 29 (upd (vF 29) ((nI nd)).toNatClampNeg kv)) 30 (upd (vF 30) ((nI nd)).toNatClampNeg av)) 31 (upd (vF 31) ((nI nd)).toNatClampNeg bv)) vG) H := fz_w (WR_F 31 (by decide) _ rfl) hP
  have hD : va_D A (WR a k h0 vi vj (fT (fT (fT vF 29 (upd (vF 29) ((nI nd)).toNatClampNeg kv)) 30 (upd (vF 30) ((nI nd)).toNatClampNeg av)) 31 (upd (vF 31) ((nI nd)).toNatClampNeg bv)) vG) := fz_wD (WR_F 31 (by decide) _ rfl) hD
  refine lv_aload_n hx hb dX12_node_30 rfl (lv_at hl 0 rfl) ?_
  refine va_get (D := (dC, dI)) (ci := 12) (v := .ref (a 32)) (C := RX12) (T := TX12) (N := 163) (fs := fM (vS a vi vj)) hx hb hts iwsRX12_node_in12 hown hK hP 0 rfl rfl 56 (by decide) (hts (.fieldLink RX12 119 "OptimaWorksModel" "partC" "[I") (by decide +kernel)) (fun _ h9 => h9) rfl dX12_node_31 ?_
  refine lv_aload_n hx hb dX12_node_34 rfl (lv_at hl 0 rfl) ?_
  refine va_get (D := (dC, dI)) (ci := 12) (v := .int (vi 52)) (C := RX12) (T := TX12) (N := 163) (fs := fM (vS a vi vj)) hx hb hts iwsRX12_node_in12 hown hK hP 0 rfl rfl 52 (by decide) (hts _ hm_r_X12_node_0) (fun _ h9 => h9) rfl dX12_node_35 ?_
  refine lv_topi (fun y4 hy4 => ?_)
  obtain rfl : (nI nd) = y4 := (hy4.trans (hnd)).symm
  refine lv_iload hx hb dX12_node_38 (lv_at hl 4 rfl) ?_
  refine va_iast (cA := k 32) (n := 4200) (f := (vF 32)) hx hb hK hP hD hS 33 32 (WR_get 32 (by decide)) (TR_get 32 (by decide)) (vp_in_nI (show nd < 4200 by omega) (by omega)) dX12_node_40 (fun H locs hP hD hS => ?_)
  have hP : va_P (dC, dI) vwCl (WR a k h0 vi vj (fT (fT (fT (fT vF 29 (upd (vF 29) ((nI nd)).toNatClampNeg kv)) 30 (upd (vF 30) ((nI nd)).toNatClampNeg av)) 31 (upd (vF 31) ((nI nd)).toNatClampNeg bv)) 32 (upd (vF 32) ((nI nd)).toNatClampNeg cv)) vG) H := fz_w (WR_F 32 (by decide) _ rfl) hP
  have hD : va_D A (WR a k h0 vi vj (fT (fT (fT (fT vF 29 (upd (vF 29) ((nI nd)).toNatClampNeg kv)) 30 (upd (vF 30) ((nI nd)).toNatClampNeg av)) 31 (upd (vF 31) ((nI nd)).toNatClampNeg bv)) 32 (upd (vF 32) ((nI nd)).toNatClampNeg cv)) vG) := fz_wD (WR_F 32 (by decide) _ rfl) hD
  refine lv_aload_n hx hb dX12_node_41 rfl (lv_at hl 0 rfl) ?_
  refine va_get (D := (dC, dI)) (ci := 12) (v := .ref (a 33)) (C := RX12) (T := TX12) (N := 163) (fs := fM (vS a vi vj)) hx hb hts iwsRX12_node_in12 hown hK hP 0 rfl rfl 57 (by decide) (hts (.fieldLink RX12 122 "OptimaWorksModel" "where" "[I") (by decide +kernel)) (fun _ h9 => h9) rfl dX12_node_42 ?_
  refine lv_aload_n hx hb dX12_node_45 rfl (lv_at hl 0 rfl) ?_
  refine va_get (D := (dC, dI)) (ci := 12) (v := .int (vi 52)) (C := RX12) (T := TX12) (N := 163) (fs := fM (vS a vi vj)) hx hb hts iwsRX12_node_in12 hown hK hP 0 rfl rfl 52 (by decide) (hts _ hm_r_X12_node_0) (fun _ h9 => h9) rfl dX12_node_46 ?_
  refine lv_topi (fun y5 hy5 => ?_)
  obtain rfl : (nI nd) = y5 := (hy5.trans (hnd)).symm
  refine lv_iload hx hb dX12_node_49 (lv_at hl 5 rfl) ?_
  refine va_iast (cA := k 33) (n := 4200) (f := (vF 33)) hx hb hK hP hD hS 34 33 (WR_get 33 (by decide)) (TR_get 33 (by decide)) (vp_in_nI (show nd < 4200 by omega) (by omega)) dX12_node_51 (fun H locs hP hD hS => ?_)
  have hP : va_P (dC, dI) vwCl (WR a k h0 vi vj (fT (fT (fT (fT (fT vF 29 (upd (vF 29) ((nI nd)).toNatClampNeg kv)) 30 (upd (vF 30) ((nI nd)).toNatClampNeg av)) 31 (upd (vF 31) ((nI nd)).toNatClampNeg bv)) 32 (upd (vF 32) ((nI nd)).toNatClampNeg cv)) 33 (upd (vF 33) ((nI nd)).toNatClampNeg pv)) vG) H := fz_w (WR_F 33 (by decide) _ rfl) hP
  have hD : va_D A (WR a k h0 vi vj (fT (fT (fT (fT (fT vF 29 (upd (vF 29) ((nI nd)).toNatClampNeg kv)) 30 (upd (vF 30) ((nI nd)).toNatClampNeg av)) 31 (upd (vF 31) ((nI nd)).toNatClampNeg bv)) 32 (upd (vF 32) ((nI nd)).toNatClampNeg cv)) 33 (upd (vF 33) ((nI nd)).toNatClampNeg pv)) vG) := fz_wD (WR_F 33 (by decide) _ rfl) hD
  refine lv_aload_n hx hb dX12_node_52 rfl (lv_at hl 0 rfl) ?_
  refine va_get (D := (dC, dI)) (ci := 12) (v := .ref (a 34)) (C := RX12) (T := TX12) (N := 163) (fs := fM (vS a vi vj)) hx hb hts iwsRX12_node_in12 hown hK hP 0 rfl rfl 58 (by decide) (hts (.fieldLink RX12 125 "OptimaWorksModel" "firstA" "[I") (by decide +kernel)) (fun _ h9 => h9) rfl dX12_node_53 ?_
  refine lv_aload_n hx hb dX12_node_56 rfl (lv_at hl 0 rfl) ?_
  refine va_get (D := (dC, dI)) (ci := 12) (v := .int (vi 52)) (C := RX12) (T := TX12) (N := 163) (fs := fM (vS a vi vj)) hx hb hts iwsRX12_node_in12 hown hK hP 0 rfl rfl 52 (by decide) (hts _ hm_r_X12_node_0) (fun _ h9 => h9) rfl dX12_node_57 ?_
  refine lv_topi (fun y6 hy6 => ?_)
  obtain rfl : (nI nd) = y6 := (hy6.trans (hnd)).symm
  refine lv_iconst (v := 0) hx hb dX12_node_60 (by decide) ?_
  refine va_iast (cA := k 34) (n := 4200) (f := (vF 34)) hx hb hK hP hD hS 35 34 (WR_get 34 (by decide)) (TR_get 34 (by decide)) (vp_in_nI (show nd < 4200 by omega) (by omega)) dX12_node_61 (fun H locs hP hD hS => ?_)
  have hP : va_P (dC, dI) vwCl (WR a k h0 vi vj (fT (fT (fT (fT (fT (fT vF 29 (upd (vF 29) ((nI nd)).toNatClampNeg kv)) 30 (upd (vF 30) ((nI nd)).toNatClampNeg av)) 31 (upd (vF 31) ((nI nd)).toNatClampNeg bv)) 32 (upd (vF 32) ((nI nd)).toNatClampNeg cv)) 33 (upd (vF 33) ((nI nd)).toNatClampNeg pv)) 34 (upd (vF 34) ((nI nd)).toNatClampNeg 0)) vG) H := fz_w (WR_F 34 (by decide) _ rfl) hP
  have hD : va_D A (WR a k h0 vi vj (fT (fT (fT (fT (fT (fT vF 29 (upd (vF 29) ((nI nd)).toNatClampNeg kv)) 30 (upd (vF 30) ((nI nd)).toNatClampNeg av)) 31 (upd (vF 31) ((nI nd)).toNatClampNeg bv)) 32 (upd (vF 32) ((nI nd)).toNatClampNeg cv)) 33 (upd (vF 33) ((nI nd)).toNatClampNeg pv)) 34 (upd (vF 34) ((nI nd)).toNatClampNeg 0)) vG) := fz_wD (WR_F 34 (by decide) _ rfl) hD
  refine lv_aload_n hx hb dX12_node_62 rfl (lv_at hl 0 rfl) ?_
  refine va_get (D := (dC, dI)) (ci := 12) (v := .ref (a 35)) (C := RX12) (T := TX12) (N := 163) (fs := fM (vS a vi vj)) hx hb hts iwsRX12_node_in12 hown hK hP 0 rfl rfl 59 (by decide) (hts (.fieldLink RX12 128 "OptimaWorksModel" "firstB" "[I") (by decide +kernel)) (fun _ h9 => h9) rfl dX12_node_63 ?_
  refine lv_aload_n hx hb dX12_node_66 rfl (lv_at hl 0 rfl) ?_
  refine va_get (D := (dC, dI)) (ci := 12) (v := .int (vi 52)) (C := RX12) (T := TX12) (N := 163) (fs := fM (vS a vi vj)) hx hb hts iwsRX12_node_in12 hown hK hP 0 rfl rfl 52 (by decide) (hts _ hm_r_X12_node_0) (fun _ h9 => h9) rfl dX12_node_67 ?_
  refine lv_topi (fun y7 hy7 => ?_)
  obtain rfl : (nI nd) = y7 := (hy7.trans (hnd)).symm
  refine lv_iconst (v := 0) hx hb dX12_node_70 (by decide) ?_
  refine va_iast (cA := k 35) (n := 4200) (f := (vF 35)) hx hb hK hP hD hS 36 35 (WR_get 35 (by decide)) (TR_get 35 (by decide)) (vp_in_nI (show nd < 4200 by omega) (by omega)) dX12_node_71 (fun H locs hP hD hS => ?_)
  have hP : va_P (dC, dI) vwCl (WR a k h0 vi vj (fT (fT (fT (fT (fT (fT (fT vF 29 (upd (vF 29) ((nI nd)).toNatClampNeg kv)) 30 (upd (vF 30) ((nI nd)).toNatClampNeg av)) 31 (upd (vF 31) ((nI nd)).toNatClampNeg bv)) 32 (upd (vF 32) ((nI nd)).toNatClampNeg cv)) 33 (upd (vF 33) ((nI nd)).toNatClampNeg pv)) 34 (upd (vF 34) ((nI nd)).toNatClampNeg 0)) 35 (upd (vF 35) ((nI nd)).toNatClampNeg 0)) vG) H := fz_w (WR_F 35 (by decide) _ rfl) hP
  have hD : va_D A (WR a k h0 vi vj (fT (fT (fT (fT (fT (fT (fT vF 29 (upd (vF 29) ((nI nd)).toNatClampNeg kv)) 30 (upd (vF 30) ((nI nd)).toNatClampNeg av)) 31 (upd (vF 31) ((nI nd)).toNatClampNeg bv)) 32 (upd (vF 32) ((nI nd)).toNatClampNeg cv)) 33 (upd (vF 33) ((nI nd)).toNatClampNeg pv)) 34 (upd (vF 34) ((nI nd)).toNatClampNeg 0)) 35 (upd (vF 35) ((nI nd)).toNatClampNeg 0)) vG) := fz_wD (WR_F 35 (by decide) _ rfl) hD
  refine lv_aload_n hx hb dX12_node_72 rfl (lv_at hl 0 rfl) ?_
  refine lv_dup hx hb dX12_node_73 rfl ?_
  refine va_get (D := (dC, dI)) (ci := 12) (v := .int (vi 52)) (C := RX12) (T := TX12) (N := 163) (fs := fM (vS a vi vj)) hx hb hts iwsRX12_node_in12 hown hK hP 0 rfl rfl 52 (by decide) (hts _ hm_r_X12_node_0) (fun _ h9 => h9) rfl dX12_node_74 ?_
  refine lv_topi (fun y8 hy8 => ?_)
  obtain rfl : (nI nd) = y8 := (hy8.trans (hnd)).symm
  refine lv_iconst (v := 1) hx hb dX12_node_77 (by decide) ?_
  refine lv_iadd hx hb dX12_node_78 ?_
  refine lv_topi (fun y9 hy9 => ?_)
  obtain rfl : (nI (nd + 1)) = y9 := (hy9.trans (nI_add nd 1)).symm
  refine va_put (D := (dC, dI)) (ci := 12) (v := .int (nI (nd + 1))) (ty := .int) (C := RX12) (T := TX12) (N := 163) (fs := fM (vS a vi vj)) hx hb hts iwsRX12_node_in12 tyX12 tyX12_ok nmX12 hown hK hP hD hS 0 rfl rfl 52 (by decide) (hts _ hm_r_X12_node_0) (fun _ h9 => h9) rfl (by decide +kernel) rfl rfl (Nat.le_of_ble_eq_true rfl) dX12_node_79 (fun H locs hP hD hS => ?_)
  have hP : va_P (dC, dI) vwCl (WR a k h0 (fT vi 52 (nI (nd + 1))) vj (fT (fT (fT (fT (fT (fT (fT vF 29 (upd (vF 29) ((nI nd)).toNatClampNeg kv)) 30 (upd (vF 30) ((nI nd)).toNatClampNeg av)) 31 (upd (vF 31) ((nI nd)).toNatClampNeg bv)) 32 (upd (vF 32) ((nI nd)).toNatClampNeg cv)) 33 (upd (vF 33) ((nI nd)).toNatClampNeg pv)) 34 (upd (vF 34) ((nI nd)).toNatClampNeg 0)) 35 (upd (vF 35) ((nI nd)).toNatClampNeg 0)) vG) H := fz_w (WR_i 52 _ rfl) hP
  have hD : va_D A (WR a k h0 (fT vi 52 (nI (nd + 1))) vj (fT (fT (fT (fT (fT (fT (fT vF 29 (upd (vF 29) ((nI nd)).toNatClampNeg kv)) 30 (upd (vF 30) ((nI nd)).toNatClampNeg av)) 31 (upd (vF 31) ((nI nd)).toNatClampNeg bv)) 32 (upd (vF 32) ((nI nd)).toNatClampNeg cv)) 33 (upd (vF 33) ((nI nd)).toNatClampNeg pv)) 34 (upd (vF 34) ((nI nd)).toNatClampNeg 0)) 35 (upd (vF 35) ((nI nd)).toNatClampNeg 0)) vG) := fz_wD (WR_i 52 _ rfl) hD
  refine lv_aload_n hx hb dX12_node_82 rfl (lv_at hl 0 rfl) ?_
  refine va_get (D := (dC, dI)) (ci := 12) (v := .int (nI (nd + 1))) (C := RX12) (T := TX12) (N := 163) (fs := fM (vS a (fT vi 52 (nI (nd + 1))) vj)) hx hb hts iwsRX12_node_in12 hown hK hP 0 rfl rfl 52 (by decide) (hts _ hm_r_X12_node_0) (fun _ h9 => h9) rfl dX12_node_83 ?_
  refine lv_iconst (v := 1) hx hb dX12_node_86 (by decide) ?_
  refine lv_isub hx hb dX12_node_87 ?_
  refine lv_topi (fun y10 hy10 => ?_)
  obtain rfl : (nI ((nd + 1) - 1)) = y10 := (hy10.trans (pk_sub (a := (nd + 1)) (b := 1) (by omega))).symm
  refine W.widen (k := 0) (n := 0) (by decide +kernel) (by decide +kernel) ?_
  have e9 : fT (fT (fT (fT (fT (fT (fT vF 29 (upd (vF 29) (nI nd).toNatClampNeg kv)) 30 (upd (vF 30) (nI nd).toNatClampNeg av)) 31 (upd (vF 31) (nI nd).toNatClampNeg bv)) 32 (upd (vF 32) (nI nd).toNatClampNeg cv)) 33 (upd (vF 33) (nI nd).toNatClampNeg pv)) 34 (upd (vF 34) (nI nd).toNatClampNeg 0)) 35 (upd (vF 35) (nI nd).toNatClampNeg 0) = fT (fT (fT (fT (fT (fT (fT vF 29 (upd (vF 29) ((nI nd)).toNatClampNeg kv)) 30 (upd (vF 30) ((nI nd)).toNatClampNeg av)) 31 (upd (vF 31) ((nI nd)).toNatClampNeg bv)) 32 (upd (vF 32) ((nI nd)).toNatClampNeg cv)) 33 (upd (vF 33) ((nI nd)).toNatClampNeg pv)) 34 (upd (vF 34) ((nI nd)).toNatClampNeg 0)) 35 (upd (vF 35) ((nI nd)).toNatClampNeg 0) := Eq.trans (mv_6 rfl) (Eq.trans (congrArg (fT _ 29) (show upd (vF 29) (nI nd).toNatClampNeg kv = upd (vF 29) ((nI nd)).toNatClampNeg kv from (by first | with_reducible rfl | with_reducible assumption | (symm; with_reducible assumption) | rfl | assumption | (symm; assumption) | (subst_vars; rfl)))) (Eq.trans (mv_6 rfl) (Eq.trans (congrArg (fT _ 30) (show upd (vF 30) (nI nd).toNatClampNeg av = upd (vF 30) ((nI nd)).toNatClampNeg av from (by first | with_reducible rfl | with_reducible assumption | (symm; with_reducible assumption) | rfl | assumption | (symm; assumption) | (subst_vars; rfl)))) (Eq.trans (mv_6 rfl) (Eq.trans (congrArg (fT _ 31) (show upd (vF 31) (nI nd).toNatClampNeg bv = upd (vF 31) ((nI nd)).toNatClampNeg bv from (by first | with_reducible rfl | with_reducible assumption | (symm; with_reducible assumption) | rfl | assumption | (symm; assumption) | (subst_vars; rfl)))) (Eq.trans (mv_6 rfl) (Eq.trans (congrArg (fT _ 32) (show upd (vF 32) (nI nd).toNatClampNeg cv = upd (vF 32) ((nI nd)).toNatClampNeg cv from (by first | with_reducible rfl | with_reducible assumption | (symm; with_reducible assumption) | rfl | assumption | (symm; assumption) | (subst_vars; rfl)))) (Eq.trans (mv_6 rfl) (Eq.trans (congrArg (fT _ 33) (show upd (vF 33) (nI nd).toNatClampNeg pv = upd (vF 33) ((nI nd)).toNatClampNeg pv from (by first | with_reducible rfl | with_reducible assumption | (symm; with_reducible assumption) | rfl | assumption | (symm; assumption) | (subst_vars; rfl)))) (Eq.trans (mv_6 rfl) (Eq.trans (congrArg (fT _ 34) (show upd (vF 34) (nI nd).toNatClampNeg 0 = upd (vF 34) ((nI nd)).toNatClampNeg 0 from (by first | with_reducible rfl | with_reducible assumption | (symm; with_reducible assumption) | rfl | assumption | (symm; assumption) | (subst_vars; rfl)))) (Eq.trans (mv_6 rfl) (congrArg (fT _ 35) (show upd (vF 35) (nI nd).toNatClampNeg 0 = upd (vF 35) ((nI nd)).toNatClampNeg 0 from (by first | with_reducible rfl | with_reducible assumption | (symm; with_reducible assumption) | rfl | assumption | (symm; assumption) | (subst_vars; rfl))))))))))))))))
  have hP := wr_PF e9 hP
  have hD := wr_DF e9 hD
  clear e9
  exact W.iret (v := (nI ((nd + 1) - 1))) hx hb hr (fun t9_ ht hW => ⟨⟨(nI ((nd + 1) - 1)), (), rfl, by (try dsimp only); rw [show nd + 1 - 1 = nd by omega], by rw [ht]; exact hP, hD⟩, hS.F ht⟩) hS.2.2 dX12_node_88
theorem dX12_say_0 : decode cX12_say 0 = .ok (.aload_n 0, 1) := dk_42 (by decide +kernel)
theorem dX12_say_1 : decode cX12_say 1 = .ok (.getfield 933, 3) := dk_180 (by decide +kernel)
theorem dX12_say_4 : decode cX12_say 4 = .ok (.sipush 30000, 3) := dk_17 (by decide +kernel)
theorem dX12_say_7 : decode cX12_say 7 = .ok (.if_icmp .ge 24, 3) := dk_162 (by decide +kernel)
theorem dX12_say_10 : decode cX12_say 10 = .ok (.aload_n 0, 1) := dk_42 (by decide +kernel)
theorem dX12_say_11 : decode cX12_say 11 = .ok (.getfield 248, 3) := dk_180 (by decide +kernel)
theorem dX12_say_14 : decode cX12_say 14 = .ok (.aload_n 0, 1) := dk_42 (by decide +kernel)
theorem dX12_say_15 : decode cX12_say 15 = .ok (.getfield 933, 3) := dk_180 (by decide +kernel)
theorem dX12_say_18 : decode cX12_say 18 = .ok (.iload_n 1, 1) := dk_27 (by decide +kernel)
theorem dX12_say_19 : decode cX12_say 19 = .ok (.i2b, 1) := dk_145 (by decide +kernel)
theorem dX12_say_20 : decode cX12_say 20 = .ok (.bastore, 1) := dk_84 (by decide +kernel)
theorem dX12_say_21 : decode cX12_say 21 = .ok (.aload_n 0, 1) := dk_42 (by decide +kernel)
theorem dX12_say_22 : decode cX12_say 22 = .ok (.dup, 1) := dk_89 (by decide +kernel)
theorem dX12_say_23 : decode cX12_say 23 = .ok (.getfield 933, 3) := dk_180 (by decide +kernel)
theorem dX12_say_26 : decode cX12_say 26 = .ok (.iconst 1, 1) := dk_4 (by decide +kernel)
theorem dX12_say_27 : decode cX12_say 27 = .ok (.iadd, 1) := dk_96 (by decide +kernel)
theorem dX12_say_28 : decode cX12_say 28 = .ok (.putfield 933, 3) := dk_181 (by decide +kernel)
theorem dX12_say_31 : decode cX12_say 31 = .ok (.return_, 1) := dk_177 (by decide +kernel)
def wsRX12_say : List Cond := .code yX12_say cX12_say 2 none :: ([.fieldLink RX12 933 "OptimaWorksModel" "printed" "I", .fieldLink RX12 248 "OptimaWorksModel" "out" "[B"] ++ wsX120)
theorem iwsRX12_say_in12 : ∀ w ∈ wsX120, w ∈ wsRX12_say := fun _ h => List.mem_cons_of_mem _ (List.mem_append_right _ h)
theorem gdwsRX12_say : wsRX12_say.all goodWord = true := gdC rfl (gdA (by decide +kernel : ([.fieldLink RX12 933 "OptimaWorksModel" "printed" "I", .fieldLink RX12 248 "OptimaWorksModel" "out" "[B"] : List Cond).all goodWord = true) gdwsX120)
theorem hm_r_X12_say_0 : (.fieldLink RX12 933 "OptimaWorksModel" "printed" "I" : Cond) ∈ wsRX12_say := by decide +kernel
set_option maxHeartbeats 4000000 in
set_option maxRecDepth 100000 in
/-- say(c) -/
theorem r_X12_say (l : Launch) (dC : Nat → ClassId) (dI : Nat → Nat → Nat) (a : Nat → Nat) (k : Nat → ClassId) (h0 : Nat) (vi : Nat → Int32) (vj : Nat → Int64) (vF : Nat → Nat → Int32) (vG : Nat → Nat → Int64) (cv : Int32) (pn : Nat) (hpn : vi 125 = nI pn) (hpn2 : pn ≤ 30000) (sz : Nat) : Met l yX12_say wsRX12_say ({ frames := 0, cells := 0, slots := 0, locals := 0 }) (va_Pc [.ref h0, .int cv] (fun U => U.heap.size = sz ∧ va_P (dC, dI) vwCl (WR a k h0 vi vj vF vG) U.heap ∧ va_K (dC, dI) vwCl (tX12 k) U ∧ va_D (fun _ => True) (WR a k h0 vi vj vF vG))) (va_Qv (fun (u : (Nat) × (Nat → Int32)) => (pn ≤ (u.1)) ∧ ((u.1) ≤ 30000) ∧ ((u.1) ≤ pn + 1)) (fun (u : (Nat) × (Nat → Int32)) t => va_P (dC, dI) vwCl (WR a k h0 (fT vi 125 (nI (u.1))) vj (fT vF 75 (u.2)) vG) t.heap ∧ va_D (va_A (WR a k h0 vi vj vF vG) sz) (WR a k h0 (fT vi 125 (nI (u.1))) vj (fT vF 75 (u.2)) vG)) (va_A (WR a k h0 vi vj vF vG) sz)) 0 0 (va_A (WR a k h0 vi vj vF vG) sz) := by
  refine Met.ofW (cc := cX12_say) (maxL := 2) (ret := none) (by decide) rfl ?_
  intro p e s m args below meth c s₁ B hml hv
  obtain ⟨rfl, hsz, hP, hK, hD0⟩ := hv
  have hx := B.exec
  have hb := B.bytes
  have hr := B.returns
  have hts := atoms_spec (ws := wsRX12_say) B.pre
  have hown : s.vm.findClass RX12 = some m.cls := findClass_of_methodNamed B.named
  have hlocks := B.notSynchronized
  subst hsz
  have hD := hD0.self (sz := s.heap.size)
  generalize hAe : va_A (WR a k h0 vi vj vF vG) s.heap.size = A at hD ⊢
  have hA : ∀ q : Nat, s.heap.size ≤ q → A q := fun q h => by rw [← hAe]; exact Or.inr h
  have hS : va_S A s.heap s.heap [] := va_S.rf
  have hl := lv_entry ([.ref h0, .int cv]) (n := 2) (Nat.le_of_ble_eq_true rfl)
  rw [lg_entry_eq]
  generalize (lg_sl ([.ref h0, .int cv]) ++ List.replicate (2 - (lg_sl ([.ref h0, .int cv])).length) Slot.unset).toArray = ls at hl ⊢
  have hl : lv_has ls 2 [(0, .ref h0), (1, .int cv)] := hl
  refine lv_aload_n hx hb dX12_say_0 rfl (lv_at hl 0 rfl) ?_
  refine va_get (D := (dC, dI)) (ci := 12) (v := .int (vi 125)) (C := RX12) (T := TX12) (N := 163) (fs := fM (vS a vi vj)) hx hb hts iwsRX12_say_in12 hown hK hP 0 rfl rfl 125 (by decide) (hts _ hm_r_X12_say_0) (fun _ h9 => h9) rfl dX12_say_1 ?_
  refine lv_topi (fun y1 hy1 => ?_)
  obtain rfl : (nI pn) = y1 := (hy1.trans (hpn)).symm
  refine lv_sipush (v := 30000) hx hb dX12_say_4 (by decide) ?_
  refine lv_icmp_ge (tgt := 31) hx hb dX12_say_7 (by decide) (fun c_7 => ?_) (fun c_7 => ?_)
  · have t_7 : ((pn : Nat) : Int) ≥ 30000 := toI_ge c_7 (nI_toInt (by omega)) (by decide)
    refine W.widen (k := 0) (n := 0) (by decide +kernel) (by decide +kernel) ?_
    have e9 : fT vi 125 (nI pn) = vi := by funext q9; by_cases h9_125 : q9 = 125; (subst h9_125; exact (fT_eq _ _ _).trans (Eq.trans (by first | with_reducible rfl | with_reducible assumption | (symm; with_reducible assumption) | rfl | assumption | (symm; assumption) | (subst_vars; rfl)) (Eq.refl _).symm)); exact (fT_ne _ _ h9_125).trans (Eq.refl _).symm
    have hP := wr_Pi e9 hP
    have hD := wr_Di e9 hD
    clear e9
    have e9 : fT vF 75 (vF 75) = vF := fT_id _ _ (rfl)
    have hP := wr_PF e9 hP
    have hD := wr_DF e9 hD
    clear e9
    exact W.vret hx hb hr (fun t9_ ht hW => ⟨⟨(pn, (vF 75)), rfl, by (try dsimp only); exact ⟨by omega, by omega, by omega⟩, by rw [ht]; exact hP, hD⟩, hS.F ht⟩) hS.2.2 dX12_say_31
  · have t_7 : ¬ ((pn : Nat) : Int) ≥ 30000 := toI_nge c_7 (nI_toInt (by omega)) (by decide)
    refine lv_aload_n hx hb dX12_say_10 rfl (lv_at hl 0 rfl) ?_
    refine va_get (D := (dC, dI)) (ci := 12) (v := .ref (a 75)) (C := RX12) (T := TX12) (N := 163) (fs := fM (vS a vi vj)) hx hb hts iwsRX12_say_in12 hown hK hP 0 rfl rfl 124 (by decide) (hts (.fieldLink RX12 248 "OptimaWorksModel" "out" "[B") (by decide +kernel)) (fun _ h9 => h9) rfl dX12_say_11 ?_
    refine lv_aload_n hx hb dX12_say_14 rfl (lv_at hl 0 rfl) ?_
    refine va_get (D := (dC, dI)) (ci := 12) (v := .int (vi 125)) (C := RX12) (T := TX12) (N := 163) (fs := fM (vS a vi vj)) hx hb hts iwsRX12_say_in12 hown hK hP 0 rfl rfl 125 (by decide) (hts _ hm_r_X12_say_0) (fun _ h9 => h9) rfl dX12_say_15 ?_
    refine lv_topi (fun y2 hy2 => ?_)
    obtain rfl : (nI pn) = y2 := (hy2.trans (hpn)).symm
    refine lv_iload_n hx hb dX12_say_18 rfl (lv_at hl 1 rfl) ?_
    refine lv_i2b hx hb dX12_say_19 rfl ?_
    refine va_bast (cA := k 75) (n := 30000) (f := (vF 75)) hx hb hK hP hD hS 76 75 (WR_get 75 (by decide)) (TR_get 75 (by decide)) (vp_in_nI (show pn < 30000 by omega) (by omega)) dX12_say_20 (fun H locs hP hD hS => ?_)
    have hP : va_P (dC, dI) vwCl (WR a k h0 vi vj (fT vF 75 (upd (vF 75) ((nI pn)).toNatClampNeg (vp_nar FieldType.byte ((cv).toInt8.toInt32)))) vG) H := fz_w (WR_F 75 (by decide) _ rfl) hP
    have hD : va_D A (WR a k h0 vi vj (fT vF 75 (upd (vF 75) ((nI pn)).toNatClampNeg (vp_nar FieldType.byte ((cv).toInt8.toInt32)))) vG) := fz_wD (WR_F 75 (by decide) _ rfl) hD
    refine lv_aload_n hx hb dX12_say_21 rfl (lv_at hl 0 rfl) ?_
    refine lv_dup hx hb dX12_say_22 rfl ?_
    refine va_get (D := (dC, dI)) (ci := 12) (v := .int (vi 125)) (C := RX12) (T := TX12) (N := 163) (fs := fM (vS a vi vj)) hx hb hts iwsRX12_say_in12 hown hK hP 0 rfl rfl 125 (by decide) (hts _ hm_r_X12_say_0) (fun _ h9 => h9) rfl dX12_say_23 ?_
    refine lv_topi (fun y3 hy3 => ?_)
    obtain rfl : (nI pn) = y3 := (hy3.trans (hpn)).symm
    refine lv_iconst (v := 1) hx hb dX12_say_26 (by decide) ?_
    refine lv_iadd hx hb dX12_say_27 ?_
    refine lv_topi (fun y4 hy4 => ?_)
    obtain rfl : (nI (pn + 1)) = y4 := (hy4.trans (nI_add pn 1)).symm
    refine va_put (D := (dC, dI)) (ci := 12) (v := .int (nI (pn + 1))) (ty := .int) (C := RX12) (T := TX12) (N := 163) (fs := fM (vS a vi vj)) hx hb hts iwsRX12_say_in12 tyX12 tyX12_ok nmX12 hown hK hP hD hS 0 rfl rfl 125 (by decide) (hts _ hm_r_X12_say_0) (fun _ h9 => h9) rfl (by decide +kernel) rfl rfl (Nat.le_of_ble_eq_true rfl) dX12_say_28 (fun H locs hP hD hS => ?_)
    have hP : va_P (dC, dI) vwCl (WR a k h0 (fT vi 125 (nI (pn + 1))) vj (fT vF 75 (upd (vF 75) ((nI pn)).toNatClampNeg (vp_nar FieldType.byte ((cv).toInt8.toInt32)))) vG) H := fz_w (WR_i 125 _ rfl) hP
    have hD : va_D A (WR a k h0 (fT vi 125 (nI (pn + 1))) vj (fT vF 75 (upd (vF 75) ((nI pn)).toNatClampNeg (vp_nar FieldType.byte ((cv).toInt8.toInt32)))) vG) := fz_wD (WR_i 125 _ rfl) hD
    refine W.widen (k := 0) (n := 0) (by decide +kernel) (by decide +kernel) ?_
    exact W.vret hx hb hr (fun t9_ ht hW => ⟨⟨((pn + 1), (upd (vF 75) ((nI pn)).toNatClampNeg (vp_nar FieldType.byte ((cv).toInt8.toInt32)))), rfl, by (try dsimp only); exact ⟨by omega, by omega, by omega⟩, by rw [ht]; exact hP, hD⟩, hS.F ht⟩) hS.2.2 dX12_say_31
end
section
theorem div64i {x y : Int64} (hx : -4611686018427387904 < x.toInt ∧ x.toInt < 4611686018427387904) (hy : 0 < y.toInt) : (x / y).toInt = x.toInt.tdiv y.toInt ∧ (x / y).toInt.natAbs ≤ x.toInt.natAbs := by
  have h := div64 (x := x) (y := y) (by omega) hy
  exact ⟨h.1, by rw [h.1]; exact sh_le _ _⟩
theorem l2i_small {x : Int64} (h : -1000000 ≤ x.toInt ∧ x.toInt ≤ 1000000) : x.toInt32.toInt = x.toInt := by
  rw [Int64.toInt_toInt32]; exact Int.bmod_eq_of_le (by omega) (by omega)
theorem tdiv_ne {x g : Int} (hx : x ≠ 0) (hg : 0 < g) (h : g ∣ x) : x.tdiv g ≠ 0 := fun e => by
  have := Int.tdiv_mul_cancel h
  rw [e, Int.zero_mul] at this; exact hx this.symm
end
section
theorem dX12_put1_0 : decode cX12_put1 0 = .ok (.lload_n 3, 1) := dk_33 (by decide +kernel)
theorem dX12_put1_1 : decode cX12_put1 1 = .ok (.lload 5, 2) := dk_22 (by decide +kernel)
theorem dX12_put1_3 : decode cX12_put1 3 = .ok (.invokestatic 626, 3) := dk_184 (by decide +kernel)
theorem dX12_put1_6 : decode cX12_put1 6 = .ok (.lstore 8, 2) := dk_55 (by decide +kernel)
theorem dX12_put1_8 : decode cX12_put1 8 = .ok (.lload 8, 2) := dk_22 (by decide +kernel)
theorem dX12_put1_10 : decode cX12_put1 10 = .ok (.lconst 0, 1) := dk_9 (by decide +kernel)
theorem dX12_put1_11 : decode cX12_put1 11 = .ok (.lcmp, 1) := dk_148 (by decide +kernel)
theorem dX12_put1_12 : decode cX12_put1 12 = .ok (.ifCond .ne 7, 3) := dk_154 (by decide +kernel)
theorem dX12_put1_19 : decode cX12_put1 19 = .ok (.lload_n 3, 1) := dk_33 (by decide +kernel)
theorem dX12_put1_20 : decode cX12_put1 20 = .ok (.lload 8, 2) := dk_22 (by decide +kernel)
theorem dX12_put1_22 : decode cX12_put1 22 = .ok (.ldiv, 1) := dk_109 (by decide +kernel)
theorem dX12_put1_23 : decode cX12_put1 23 = .ok (.lstore 10, 2) := dk_55 (by decide +kernel)
theorem dX12_put1_25 : decode cX12_put1 25 = .ok (.lload 8, 2) := dk_22 (by decide +kernel)
theorem dX12_put1_27 : decode cX12_put1 27 = .ok (.lconst 0, 1) := dk_9 (by decide +kernel)
theorem dX12_put1_28 : decode cX12_put1 28 = .ok (.lcmp, 1) := dk_148 (by decide +kernel)
theorem dX12_put1_29 : decode cX12_put1 29 = .ok (.ifCond .ne 7, 3) := dk_154 (by decide +kernel)
theorem dX12_put1_36 : decode cX12_put1 36 = .ok (.lload 5, 2) := dk_22 (by decide +kernel)
theorem dX12_put1_38 : decode cX12_put1 38 = .ok (.lload 8, 2) := dk_22 (by decide +kernel)
theorem dX12_put1_40 : decode cX12_put1 40 = .ok (.ldiv, 1) := dk_109 (by decide +kernel)
theorem dX12_put1_41 : decode cX12_put1 41 = .ok (.lstore 12, 2) := dk_55 (by decide +kernel)
theorem dX12_put1_43 : decode cX12_put1 43 = .ok (.lload 12, 2) := dk_22 (by decide +kernel)
theorem dX12_put1_45 : decode cX12_put1 45 = .ok (.lconst 0, 1) := dk_9 (by decide +kernel)
theorem dX12_put1_46 : decode cX12_put1 46 = .ok (.lcmp, 1) := dk_148 (by decide +kernel)
theorem dX12_put1_47 : decode cX12_put1 47 = .ok (.ifCond .ge 13, 3) := dk_156 (by decide +kernel)
theorem dX12_put1_50 : decode cX12_put1 50 = .ok (.lload 10, 2) := dk_22 (by decide +kernel)
theorem dX12_put1_52 : decode cX12_put1 52 = .ok (.lneg, 1) := dk_117 (by decide +kernel)
theorem dX12_put1_53 : decode cX12_put1 53 = .ok (.lstore 10, 2) := dk_55 (by decide +kernel)
theorem dX12_put1_55 : decode cX12_put1 55 = .ok (.lload 12, 2) := dk_22 (by decide +kernel)
theorem dX12_put1_57 : decode cX12_put1 57 = .ok (.lneg, 1) := dk_117 (by decide +kernel)
theorem dX12_put1_58 : decode cX12_put1 58 = .ok (.lstore 12, 2) := dk_55 (by decide +kernel)
theorem dX12_put1_60 : decode cX12_put1 60 = .ok (.lload 10, 2) := dk_22 (by decide +kernel)
theorem dX12_put1_62 : decode cX12_put1 62 = .ok (.ldc2_w 630, 3) := dk_20 (by decide +kernel)
theorem dX12_put1_65 : decode cX12_put1 65 = .ok (.lcmp, 1) := dk_148 (by decide +kernel)
theorem dX12_put1_66 : decode cX12_put1 66 = .ok (.ifCond .gt 21, 3) := dk_157 (by decide +kernel)
theorem dX12_put1_69 : decode cX12_put1 69 = .ok (.lload 10, 2) := dk_22 (by decide +kernel)
theorem dX12_put1_71 : decode cX12_put1 71 = .ok (.ldc2_w 632, 3) := dk_20 (by decide +kernel)
theorem dX12_put1_74 : decode cX12_put1 74 = .ok (.lcmp, 1) := dk_148 (by decide +kernel)
theorem dX12_put1_75 : decode cX12_put1 75 = .ok (.ifCond .lt 12, 3) := dk_155 (by decide +kernel)
theorem dX12_put1_78 : decode cX12_put1 78 = .ok (.lload 12, 2) := dk_22 (by decide +kernel)
theorem dX12_put1_80 : decode cX12_put1 80 = .ok (.ldc2_w 630, 3) := dk_20 (by decide +kernel)
theorem dX12_put1_83 : decode cX12_put1 83 = .ok (.lcmp, 1) := dk_148 (by decide +kernel)
theorem dX12_put1_84 : decode cX12_put1 84 = .ok (.ifCond .le 11, 3) := dk_158 (by decide +kernel)
theorem dX12_put1_87 : decode cX12_put1 87 = .ok (.aload_n 0, 1) := dk_42 (by decide +kernel)
theorem dX12_put1_88 : decode cX12_put1 88 = .ok (.bipush 9, 2) := dk_16 (by decide +kernel)
theorem dX12_put1_90 : decode cX12_put1 90 = .ok (.iload 7, 2) := dk_21 (by decide +kernel)
theorem dX12_put1_92 : decode cX12_put1 92 = .ok (.invokevirtual 518, 3) := dk_182 (by decide +kernel)
theorem dX12_put1_95 : decode cX12_put1 95 = .ok (.aload_n 0, 1) := dk_42 (by decide +kernel)
theorem dX12_put1_96 : decode cX12_put1 96 = .ok (.getfield 515, 3) := dk_180 (by decide +kernel)
theorem dX12_put1_99 : decode cX12_put1 99 = .ok (.ifCond .le 4, 3) := dk_158 (by decide +kernel)
theorem dX12_put1_102 : decode cX12_put1 102 = .ok (.return_, 1) := dk_177 (by decide +kernel)
theorem dX12_put1_103 : decode cX12_put1 103 = .ok (.aload_n 0, 1) := dk_42 (by decide +kernel)
theorem dX12_put1_104 : decode cX12_put1 104 = .ok (.getfield 170, 3) := dk_180 (by decide +kernel)
theorem dX12_put1_107 : decode cX12_put1 107 = .ok (.bipush 9, 2) := dk_16 (by decide +kernel)
theorem dX12_put1_109 : decode cX12_put1 109 = .ok (.iload_n 1, 1) := dk_27 (by decide +kernel)
theorem dX12_put1_110 : decode cX12_put1 110 = .ok (.imul, 1) := dk_104 (by decide +kernel)
theorem dX12_put1_111 : decode cX12_put1 111 = .ok (.iload_n 2, 1) := dk_28 (by decide +kernel)
theorem dX12_put1_112 : decode cX12_put1 112 = .ok (.iadd, 1) := dk_96 (by decide +kernel)
theorem dX12_put1_113 : decode cX12_put1 113 = .ok (.lload 10, 2) := dk_22 (by decide +kernel)
theorem dX12_put1_115 : decode cX12_put1 115 = .ok (.l2i, 1) := dk_136 (by decide +kernel)
theorem dX12_put1_116 : decode cX12_put1 116 = .ok (.iastore, 1) := dk_79 (by decide +kernel)
theorem dX12_put1_117 : decode cX12_put1 117 = .ok (.aload_n 0, 1) := dk_42 (by decide +kernel)
theorem dX12_put1_118 : decode cX12_put1 118 = .ok (.getfield 173, 3) := dk_180 (by decide +kernel)
theorem dX12_put1_121 : decode cX12_put1 121 = .ok (.bipush 9, 2) := dk_16 (by decide +kernel)
theorem dX12_put1_123 : decode cX12_put1 123 = .ok (.iload_n 1, 1) := dk_27 (by decide +kernel)
theorem dX12_put1_124 : decode cX12_put1 124 = .ok (.imul, 1) := dk_104 (by decide +kernel)
theorem dX12_put1_125 : decode cX12_put1 125 = .ok (.iload_n 2, 1) := dk_28 (by decide +kernel)
theorem dX12_put1_126 : decode cX12_put1 126 = .ok (.iadd, 1) := dk_96 (by decide +kernel)
theorem dX12_put1_127 : decode cX12_put1 127 = .ok (.lload 12, 2) := dk_22 (by decide +kernel)
theorem dX12_put1_129 : decode cX12_put1 129 = .ok (.l2i, 1) := dk_136 (by decide +kernel)
theorem dX12_put1_130 : decode cX12_put1 130 = .ok (.iastore, 1) := dk_79 (by decide +kernel)
theorem dX12_put1_131 : decode cX12_put1 131 = .ok (.return_, 1) := dk_177 (by decide +kernel)
def wsRX12_put1 : List Cond := .code yX12_put1 cX12_put1 14 none :: ([.constantLong RX12 630 1000000, .constantLong RX12 632 (-1000000), .fieldLink RX12 515 "OptimaWorksModel" "stop" "I", .fieldLink RX12 170 "OptimaWorksModel" "top" "[I", .fieldLink RX12 173 "OptimaWorksModel" "under" "[I"] ++ wsX120 ++ (va_wsS RX12 626 yX12_common1 wsRX12_common1) ++ (wsV RX12 518 RX12 yX12_faultAt wsRX12_faultAt))
theorem iwsRX12_put1_in12 : ∀ w ∈ wsX120, w ∈ wsRX12_put1 := fun _ h => List.mem_cons_of_mem _ (List.mem_append_left _ (List.mem_append_left _ (List.mem_append_right _ h)))
theorem gwsRX12_put1_0 : GoodIn wsRX12_put1 (va_wsS RX12 626 yX12_common1 wsRX12_common1) := goodIn_sub (fun _ h => List.mem_cons_of_mem _ (List.mem_append_left _ (List.mem_append_right _ h))) (gdS (by decide +kernel) gdwsRX12_common1)
theorem gwsRX12_put1_1 : GoodIn wsRX12_put1 (wsV RX12 518 RX12 yX12_faultAt wsRX12_faultAt) := goodIn_sub (fun _ h => List.mem_cons_of_mem _ (List.mem_append_right _ h)) (gdV (by decide +kernel) gdwsRX12_faultAt)
theorem gdwsRX12_put1 : wsRX12_put1.all goodWord = true := gdC rfl (gdA (gdA (gdA (by decide +kernel : ([.constantLong RX12 630 1000000, .constantLong RX12 632 (-1000000), .fieldLink RX12 515 "OptimaWorksModel" "stop" "I", .fieldLink RX12 170 "OptimaWorksModel" "top" "[I", .fieldLink RX12 173 "OptimaWorksModel" "under" "[I"] : List Cond).all goodWord = true) gdwsX120) (gdS (by decide +kernel) gdwsRX12_common1)) (gdV (by decide +kernel) gdwsRX12_faultAt))
theorem hm_r_X12_put1_0 : (.constantLong RX12 630 1000000 : Cond) ∈ wsRX12_put1 := by decide +kernel
set_option maxHeartbeats 4000000 in
set_option maxRecDepth 100000 in
/-- put1(v, k, n, d, p) -/
theorem r_X12_put1 (l : Launch) (dC : Nat → ClassId) (dI : Nat → Nat → Nat) (a : Nat → Nat) (k : Nat → ClassId) (h0 : Nat) (vi : Nat → Int32) (vj : Nat → Int64) (vF : Nat → Nat → Int32) (vG : Nat → Nat → Int64) (vn : Nat) (kn : Nat) (xn : Int64) (xd : Int64) (pv : Int32) (hvn : vn < 100) (hkn : kn < 9) (hxn : -4611686018427387904 < (xn).toInt ∧ (xn).toInt < 4611686018427387904) (hxd : -4611686018427387904 < (xd).toInt ∧ (xd).toInt < 4611686018427387904) (hd0 : (xd).toInt ≠ 0) (sz : Nat) : Met l yX12_put1 wsRX12_put1 ({ frames := 1, cells := 0, slots := 0, locals := 29 }) (va_Pc [.ref h0, .int (nI vn), .int (nI kn), .long xn, .long xd, .int pv] (fun U => U.heap.size = sz ∧ va_P (dC, dI) vwCl (WR a k h0 vi vj vF vG) U.heap ∧ va_K (dC, dI) vwCl (tX12 k) U ∧ va_D (fun _ => True) (WR a k h0 vi vj vF vG))) (va_Qv (fun (u : (Int32) × (Int32) × (Nat → Int32) × (Nat → Int32)) => ((¬ ((u.1)).toInt ≤ 0 ∧ (u.2.2.1) = vF 49 ∧ (u.2.2.2) = vF 50) ∨ (((u.1)).toInt ≤ 0 ∧ (u.1) = vi 21 ∧ ∃ tv uv : Int32, ((tv).toInt ≤ 1000000 ∧ -1000000 ≤ (tv).toInt ∧ 1 ≤ (uv).toInt ∧ (uv).toInt ≤ 1000000) ∧ (u.2.2.1) = upd (vF 49) (nI (9 * vn + kn)).toNatClampNeg tv ∧ (u.2.2.2) = upd (vF 50) (nI (9 * vn + kn)).toNatClampNeg uv))) (fun (u : (Int32) × (Int32) × (Nat → Int32) × (Nat → Int32)) t => va_P (dC, dI) vwCl (WR a k h0 (fT (fT vi 21 (u.1)) 22 (u.2.1)) vj (fT (fT vF 49 (u.2.2.1)) 50 (u.2.2.2)) vG) t.heap ∧ va_D (va_A (WR a k h0 vi vj vF vG) sz) (WR a k h0 (fT (fT vi 21 (u.1)) 22 (u.2.1)) vj (fT (fT vF 49 (u.2.2.1)) 50 (u.2.2.2)) vG)) (va_A (WR a k h0 vi vj vF vG) sz)) 0 0 (va_A (WR a k h0 vi vj vF vG) sz) := by
  refine Met.ofW (cc := cX12_put1) (maxL := 14) (ret := none) (by decide) rfl ?_
  intro p e s m args below meth c s₁ B hml hv
  obtain ⟨rfl, hsz, hP, hK, hD0⟩ := hv
  have hx := B.exec
  have hb := B.bytes
  have hr := B.returns
  have hts := atoms_spec (ws := wsRX12_put1) B.pre
  have hown : s.vm.findClass RX12 = some m.cls := findClass_of_methodNamed B.named
  have hlocks := B.notSynchronized
  subst hsz
  have hD := hD0.self (sz := s.heap.size)
  generalize hAe : va_A (WR a k h0 vi vj vF vG) s.heap.size = A at hD ⊢
  have hA : ∀ q : Nat, s.heap.size ≤ q → A q := fun q h => by rw [← hAe]; exact Or.inr h
  have hS : va_S A s.heap s.heap [] := va_S.rf
  have hl := lv_entry ([.ref h0, .int (nI vn), .int (nI kn), .long xn, .long xd, .int pv]) (n := 14) (Nat.le_of_ble_eq_true rfl)
  rw [lg_entry_eq]
  generalize (lg_sl ([.ref h0, .int (nI vn), .int (nI kn), .long xn, .long xd, .int pv]) ++ List.replicate (14 - (lg_sl ([.ref h0, .int (nI vn), .int (nI kn), .long xn, .long xd, .int pv])).length) Slot.unset).toArray = ls at hl ⊢
  have hl : lv_has ls 14 [(0, .ref h0), (1, .int (nI vn)), (2, .int (nI kn)), (3, .long xn), (5, .long xd), (7, .int pv)] := hl
  refine lv_lload_n hx hb dX12_put1_0 rfl (lv_at hl 3 rfl) ?_
  refine lv_lload hx hb dX12_put1_1 (lv_at hl 4 rfl) ?_
  have hFc := noneFree hS hA
  refine va_calll (va_runS (As := [.long xn, .long xd]) (rest := []) ⟨hx, hb, hml, hown, hts⟩ (r_X12_common1 l dC dI xn xd (by first | with_reducible assumption | decide | omega | rfl | assumption) (by first | with_reducible assumption | decide | omega | rfl | assumption) s.heap.size) (va_cwS 2 hts gwsRX12_put1_0 rfl rfl rfl (by decide +kernel) ⟨by decide +kernel, by decide +kernel⟩) ⟨fun a U g mk q => by obtain ⟨q0, q1, qP, qK, qD⟩ := q; exact ⟨q0, q1, qP, va_K.moved (u := U) (U := U.calling g mk a) (Vm.Alike.refl U.vm) qK, qD⟩, fun U hU9 hW => ⟨rfl, by rw [hU9], by rw [hU9]; exact nilP, va_K.moved hW.alike (hK.sub (tys' := []) [] rfl), nilD⟩⟩ rfl rfl hl.1 rfl (lv_room (Nat.le_of_ble_eq_true rfl)) dX12_put1_3 (by decide +kernel)) hS (fun q _ h => hFc q h) hFc (fun r3 u t9_ H1 locs ht hvm hw9 hB9 hz1 hk1 hS => ?_)
  have hP := keepAll hP hk1
  clear hB9
  generalize H1 = H at hP hS ⊢
  have hP : va_P (dC, dI) vwCl (WR a k h0 vi vj vF vG) H := hP
  have hD := fz_sd hP (hD) rfl
  have f3_0 := hw9
  try dsimp only at f3_0
  have hgp : 0 < (r3).toInt := by (have h9 := gcd_ne (x := (xn).toInt) (y := (xd).toInt) (Or.inr hd0)); rw [f3_0]; omega
  refine lv_lstore hx hb dX12_put1_6 hl (by decide) rfl (fun ls (hl : lv_has ls _ ([(8, .long r3), (0, .ref h0), (1, .int (nI vn)), (2, .int (nI kn)), (3, .long xn), (5, .long xd), (7, .int pv)])) => ?_)
  refine lv_lload hx hb dX12_put1_8 (lv_at hl 0 rfl) ?_
  refine lv_lconst (v := 0) hx hb dX12_put1_10 (by decide) ?_
  refine W.lcmp hx hb dX12_put1_11 ?_
  refine lv_if_ne (tgt := 19) hx hb dX12_put1_12 (by decide) (fun c_12 => ?_) (fun c9 => False.elim (by have t9 : (r3).toInt = 0 := toL_nne c9 rfl (by decide); omega))
  have t_12 : (r3).toInt ≠ 0 := toL_ne c_12 rfl (by decide)
  refine lv_lload_n hx hb dX12_put1_19 rfl (lv_at hl 4 rfl) ?_
  refine lv_lload hx hb dX12_put1_20 (lv_at hl 0 rfl) ?_
  refine lv_ldiv hx hb dX12_put1_22 (by exact ne0_64 hgp) ?_
  have qa := div64i (x := xn) (y := r3) hxn hgp
  obtain ⟨av, hav⟩ : ∃ av, av = ((xn / r3) : Int64) := ⟨_, rfl⟩
  have ba : av.toInt.natAbs ≤ (xn).toInt.natAbs := by rw [hav]; exact qa.2
  refine lv_topl (fun y1 hy1 => ?_)
  obtain rfl : av = y1 := (hy1.trans (hav.symm)).symm
  refine lv_lstore hx hb dX12_put1_23 hl (by decide) rfl (fun ls (hl : lv_has ls _ ([(10, .long av), (8, .long r3), (0, .ref h0), (1, .int (nI vn)), (2, .int (nI kn)), (3, .long xn), (5, .long xd), (7, .int pv)])) => ?_)
  refine lv_lload hx hb dX12_put1_25 (lv_at hl 1 rfl) ?_
  refine lv_lconst (v := 0) hx hb dX12_put1_27 (by decide) ?_
  refine W.lcmp hx hb dX12_put1_28 ?_
  refine lv_if_ne (tgt := 36) hx hb dX12_put1_29 (by decide) (fun c_29 => ?_) (fun c9 => False.elim (by have t9 : (r3).toInt = 0 := toL_nne c9 rfl (by decide); omega))
  have t_29 : (r3).toInt ≠ 0 := toL_ne c_29 rfl (by decide)
  refine lv_lload hx hb dX12_put1_36 (lv_at hl 6 rfl) ?_
  refine lv_lload hx hb dX12_put1_38 (lv_at hl 1 rfl) ?_
  refine lv_ldiv hx hb dX12_put1_40 (by exact ne0_64 hgp) ?_
  have qb := div64i (x := xd) (y := r3) hxd hgp
  obtain ⟨bv, hbv⟩ : ∃ bv, bv = ((xd / r3) : Int64) := ⟨_, rfl⟩
  have bb9 : bv.toInt.natAbs ≤ (xd).toInt.natAbs := by rw [hbv]; exact qb.2
  have bn9 : bv.toInt ≠ 0 := by rw [hbv, qb.1]; exact tdiv_ne hd0 hgp (by rw [f3_0]; exact Int.gcd_dvd_right _ _)
  refine lv_topl (fun y2 hy2 => ?_)
  obtain rfl : bv = y2 := (hy2.trans (hbv.symm)).symm
  refine lv_lstore hx hb dX12_put1_41 hl (by decide) rfl (fun ls (hl : lv_has ls _ ([(12, .long bv), (10, .long av), (8, .long r3), (0, .ref h0), (1, .int (nI vn)), (2, .int (nI kn)), (3, .long xn), (5, .long xd), (7, .int pv)])) => ?_)
  refine lv_lload hx hb dX12_put1_43 (lv_at hl 0 rfl) ?_
  refine lv_lconst (v := 0) hx hb dX12_put1_45 (by decide) ?_
  refine W.lcmp hx hb dX12_put1_46 ?_
  refine W.cut (pc := 60) (fun H locs ls stk => ∃ (aw : Int64) (bw : Int64), (-4611686018427387904 < aw.toInt ∧ aw.toInt < 4611686018427387904) ∧ (1 ≤ bw.toInt ∧ bw.toInt < 4611686018427387904) ∧  stk = [] ∧ va_P (dC, dI) vwCl (WR a k h0 vi vj vF vG) H ∧ va_D A (WR a k h0 vi vj vF vG) ∧ va_S A s.heap H locs ∧ lv_has ls 14 [(0, .ref h0), (1, .int (nI vn)), (2, .int (nI kn)), (7, .int pv), (10, .long aw), (12, .long bw)]) (fun join1 => ?_) ?_
  · refine lv_if_ge (tgt := 60) hx hb dX12_put1_47 (by decide) (fun c_47 => ?_) (fun c_47 => ?_)
    · have t_47 : (bv).toInt ≥ 0 := toL_ge c_47 rfl (by decide)
      have hl : lv_has _ _ ([(0, .ref h0), (1, .int (nI vn)), (2, .int (nI kn)), (7, .int pv), (10, .long av), (12, .long bv)]) := lv_sub hl [3, 4, 5, 8, 1, 0] rfl
      exact join1 _ _ _ _ ⟨av, bv, by omega, by omega, rfl, hP, hD, hS, hl⟩
    · have t_47 : ¬ (bv).toInt ≥ 0 := toL_nge c_47 rfl (by decide)
      refine lv_lload hx hb dX12_put1_50 (lv_at hl 1 rfl) ?_
      refine lv_lneg hx hb dX12_put1_52 ?_
      refine lv_lstore hx hb dX12_put1_53 hl (by decide) rfl (fun ls (hl : lv_has ls _ ([(10, .long (-av)), (12, .long bv), (8, .long r3), (0, .ref h0), (1, .int (nI vn)), (2, .int (nI kn)), (3, .long xn), (5, .long xd), (7, .int pv)])) => ?_)
      refine lv_lload hx hb dX12_put1_55 (lv_at hl 1 rfl) ?_
      refine lv_lneg hx hb dX12_put1_57 ?_
      refine lv_lstore hx hb dX12_put1_58 hl (by decide) rfl (fun ls (hl : lv_has ls _ ([(12, .long (-bv)), (10, .long (-av)), (8, .long r3), (0, .ref h0), (1, .int (nI vn)), (2, .int (nI kn)), (3, .long xn), (5, .long xd), (7, .int pv)])) => ?_)
      have hl : lv_has _ _ ([(0, .ref h0), (1, .int (nI vn)), (2, .int (nI kn)), (7, .int pv), (10, .long (-av)), (12, .long (-bv))]) := lv_sub hl [3, 4, 5, 8, 1, 0] rfl
      exact join1 _ _ _ _ ⟨(-av), (-bv), by rw [Int64.toInt_neg, Int.bmod_eq_of_le (by omega) (by omega)]; omega, by rw [Int64.toInt_neg, Int.bmod_eq_of_le (by omega) (by omega)]; omega, rfl, hP, hD, hS, hl⟩
  · rintro H locs ls stk ⟨aw, bw, haw, hbw, rfl, hP, hD, hS, hl⟩
    refine lv_lload hx hb dX12_put1_60 (lv_at hl 4 rfl) ?_
    refine lv_ldc2 (v := 1000000) hx hb hown (hts _ hm_r_X12_put1_0) dX12_put1_62 ?_
    refine W.lcmp hx hb dX12_put1_65 ?_
    refine W.cut (pc := 95) (fun H locs ls stk => ∃ (s3 : Int32) (p3 : Int32), (¬ (s3).toInt ≤ 0 ∨ (s3 = vi 21 ∧ -1000000 ≤ aw.toInt ∧ aw.toInt ≤ 1000000 ∧ bw.toInt ≤ 1000000)) ∧  stk = [] ∧ va_P (dC, dI) vwCl (WR a k h0 (fT (fT vi 21 s3) 22 p3) vj vF vG) H ∧ va_D A (WR a k h0 (fT (fT vi 21 s3) 22 p3) vj vF vG) ∧ va_S A s.heap H locs ∧ lv_has ls 14 [(0, .ref h0), (1, .int (nI vn)), (2, .int (nI kn)), (7, .int pv), (10, .long aw), (12, .long bw)]) (fun join2 => ?_) ?_
    · refine lv_if_gt (tgt := 87) hx hb dX12_put1_66 (by decide) (fun c_66 => ?_) (fun c_66 => ?_)
      · have t_66 : (aw).toInt > 1000000 := toL_gt c_66 rfl (by decide)
        refine lv_aload_n hx hb dX12_put1_87 rfl (lv_at hl 0 rfl) ?_
        refine lv_bipush (v := 9) hx hb dX12_put1_88 (by decide) ?_
        refine lv_iload hx hb dX12_put1_90 (lv_at hl 3 rfl) ?_
        have hFc := allFree hD hS hA
        refine va_callv (va_runV (As := [.int 9, .int pv]) (rest := []) ⟨hx, hb, hml, hown, hts⟩ (r_X12_faultAt l dC dI a k h0 vi vj vF vG 9 pv (by first | with_reducible assumption | decide | omega | rfl | assumption) H.size) (cwV 2 hts gwsRX12_put1_1 rfl rfl rfl hd_yX12_faultAt_RX12 (by decide +kernel)) (fz_pre (va_recv hK hP (ci := 12) (q0 := 0) rfl rfl) hP hK hD) rfl rfl hl.1 rfl (lv_room (Nat.le_of_ble_eq_true rfl)) dX12_put1_92 (by decide +kernel)) hS (fun q _ h => hFc q h) hFc (fun u t9_ H locs ht hvm hw9 hB9 hz1 hk1 hS => ?_)
        revert u hw9 hB9
        refine fz_p2 ?_
        intro s292 p292 hw9 hB9
        try dsimp only at hw9 hB9
        have hP : va_P (dC, dI) vwCl (WR a k h0 (fT (fT vi 21 s292) 22 p292) vj vF vG) H := fz_P ht hB9.1
        have hD := fz_sd hP (hB9.2.weaken (fun _ q _ h => hFc q.1 h)) rfl
        revert hw9
        refine fz_a2 ?_
        intro f92_0 f92_1
        have f92_0 : (0 < (vi 21).toInt ∧ s292 = (vi 21) ∧ p292 = (vi 22)) ∨ (¬ 0 < (vi 21).toInt ∧ s292 = 9 ∧ p292 = pv) := f92_0
        have hl : lv_has _ _ ([(0, .ref h0), (1, .int (nI vn)), (2, .int (nI kn)), (7, .int pv), (10, .long aw), (12, .long bw)]) := lv_sub hl [0, 1, 2, 3, 4, 5] rfl
        exact join2 _ _ _ _ ⟨s292, p292, Or.inl (by rcases f92_0 with h9 | h9; (rw [h9.2.1]; omega); (rw [h9.2.1]; decide)), rfl, hP, hD, hS, hl⟩
      · have t_66 : ¬ (aw).toInt > 1000000 := toL_ngt c_66 rfl (by decide)
        refine lv_lload hx hb dX12_put1_69 (lv_at hl 4 rfl) ?_
        refine lv_ldc2 (v := (-1000000)) hx hb hown (hts (.constantLong RX12 632 (-1000000)) (by decide +kernel)) dX12_put1_71 ?_
        refine W.lcmp hx hb dX12_put1_74 ?_
        refine lv_if_lt (tgt := 87) hx hb dX12_put1_75 (by decide) (fun c_75 => ?_) (fun c_75 => ?_)
        · have t_75 : (aw).toInt < -1000000 := toL_lt c_75 rfl (by decide)
          refine lv_aload_n hx hb dX12_put1_87 rfl (lv_at hl 0 rfl) ?_
          refine lv_bipush (v := 9) hx hb dX12_put1_88 (by decide) ?_
          refine lv_iload hx hb dX12_put1_90 (lv_at hl 3 rfl) ?_
          have hFc := allFree hD hS hA
          refine va_callv (va_runV (As := [.int 9, .int pv]) (rest := []) ⟨hx, hb, hml, hown, hts⟩ (r_X12_faultAt l dC dI a k h0 vi vj vF vG 9 pv (by first | with_reducible assumption | decide | omega | rfl | assumption) H.size) (cwV 2 hts gwsRX12_put1_1 rfl rfl rfl hd_yX12_faultAt_RX12 (by decide +kernel)) (fz_pre (va_recv hK hP (ci := 12) (q0 := 0) rfl rfl) hP hK hD) rfl rfl hl.1 rfl (lv_room (Nat.le_of_ble_eq_true rfl)) dX12_put1_92 (by decide +kernel)) hS (fun q _ h => hFc q h) hFc (fun u t9_ H locs ht hvm hw9 hB9 hz1 hk1 hS => ?_)
          revert u hw9 hB9
          refine fz_p2 ?_
          intro s292_1 p292_1 hw9 hB9
          try dsimp only at hw9 hB9
          have hP : va_P (dC, dI) vwCl (WR a k h0 (fT (fT vi 21 s292_1) 22 p292_1) vj vF vG) H := fz_P ht hB9.1
          have hD := fz_sd hP (hB9.2.weaken (fun _ q _ h => hFc q.1 h)) rfl
          revert hw9
          refine fz_a2 ?_
          intro f92_1_0 f92_1_1
          have f92_1_0 : (0 < (vi 21).toInt ∧ s292_1 = (vi 21) ∧ p292_1 = (vi 22)) ∨ (¬ 0 < (vi 21).toInt ∧ s292_1 = 9 ∧ p292_1 = pv) := f92_1_0
          have hl : lv_has _ _ ([(0, .ref h0), (1, .int (nI vn)), (2, .int (nI kn)), (7, .int pv), (10, .long aw), (12, .long bw)]) := lv_sub hl [0, 1, 2, 3, 4, 5] rfl
          exact join2 _ _ _ _ ⟨s292_1, p292_1, Or.inl (by rcases f92_1_0 with h9 | h9; (rw [h9.2.1]; omega); (rw [h9.2.1]; decide)), rfl, hP, hD, hS, hl⟩
        · have t_75 : ¬ (aw).toInt < -1000000 := toL_nlt c_75 rfl (by decide)
          refine lv_lload hx hb dX12_put1_78 (lv_at hl 5 rfl) ?_
          refine lv_ldc2 (v := 1000000) hx hb hown (hts _ hm_r_X12_put1_0) dX12_put1_80 ?_
          refine W.lcmp hx hb dX12_put1_83 ?_
          refine lv_if_le (tgt := 95) hx hb dX12_put1_84 (by decide) (fun c_84 => ?_) (fun c_84 => ?_)
          · have t_84 : (bw).toInt ≤ 1000000 := toL_le c_84 rfl (by decide)
            have e9 : fT (fT vi 21 (vi 21)) 22 (vi 22) = vi := by funext q9; by_cases h9_21 : q9 = 21; (subst h9_21; exact ((fT_ne _ _ (Nat.ne_of_beq_eq_false rfl)).trans (fT_eq _ _ _)).trans (Eq.trans (by first | with_reducible rfl | with_reducible assumption | (symm; with_reducible assumption) | rfl | assumption | (symm; assumption) | (subst_vars; rfl)) (Eq.refl _).symm)); by_cases h9_22 : q9 = 22; (subst h9_22; exact (fT_eq _ _ _).trans (Eq.trans (by first | with_reducible rfl | with_reducible assumption | (symm; with_reducible assumption) | rfl | assumption | (symm; assumption) | (subst_vars; rfl)) (Eq.refl _).symm)); exact ((fT_ne _ _ h9_22).trans (fT_ne _ _ h9_21)).trans (Eq.refl _).symm
            have hP := wr_Pi e9 hP
            have hD := wr_Di e9 hD
            clear e9
            have hl : lv_has _ _ ([(0, .ref h0), (1, .int (nI vn)), (2, .int (nI kn)), (7, .int pv), (10, .long aw), (12, .long bw)]) := lv_sub hl [0, 1, 2, 3, 4, 5] rfl
            exact join2 _ _ _ _ ⟨(vi 21), (vi 22), Or.inr ⟨rfl, by omega, by omega, by omega⟩, rfl, hP, hD, hS, hl⟩
          · have t_84 : ¬ (bw).toInt ≤ 1000000 := toL_nle c_84 rfl (by decide)
            refine lv_aload_n hx hb dX12_put1_87 rfl (lv_at hl 0 rfl) ?_
            refine lv_bipush (v := 9) hx hb dX12_put1_88 (by decide) ?_
            refine lv_iload hx hb dX12_put1_90 (lv_at hl 3 rfl) ?_
            have hFc := allFree hD hS hA
            refine va_callv (va_runV (As := [.int 9, .int pv]) (rest := []) ⟨hx, hb, hml, hown, hts⟩ (r_X12_faultAt l dC dI a k h0 vi vj vF vG 9 pv (by first | with_reducible assumption | decide | omega | rfl | assumption) H.size) (cwV 2 hts gwsRX12_put1_1 rfl rfl rfl hd_yX12_faultAt_RX12 (by decide +kernel)) (fz_pre (va_recv hK hP (ci := 12) (q0 := 0) rfl rfl) hP hK hD) rfl rfl hl.1 rfl (lv_room (Nat.le_of_ble_eq_true rfl)) dX12_put1_92 (by decide +kernel)) hS (fun q _ h => hFc q h) hFc (fun u t9_ H locs ht hvm hw9 hB9 hz1 hk1 hS => ?_)
            revert u hw9 hB9
            refine fz_p2 ?_
            intro s292_2 p292_2 hw9 hB9
            try dsimp only at hw9 hB9
            have hP : va_P (dC, dI) vwCl (WR a k h0 (fT (fT vi 21 s292_2) 22 p292_2) vj vF vG) H := fz_P ht hB9.1
            have hD := fz_sd hP (hB9.2.weaken (fun _ q _ h => hFc q.1 h)) rfl
            revert hw9
            refine fz_a2 ?_
            intro f92_2_0 f92_2_1
            have f92_2_0 : (0 < (vi 21).toInt ∧ s292_2 = (vi 21) ∧ p292_2 = (vi 22)) ∨ (¬ 0 < (vi 21).toInt ∧ s292_2 = 9 ∧ p292_2 = pv) := f92_2_0
            have hl : lv_has _ _ ([(0, .ref h0), (1, .int (nI vn)), (2, .int (nI kn)), (7, .int pv), (10, .long aw), (12, .long bw)]) := lv_sub hl [0, 1, 2, 3, 4, 5] rfl
            exact join2 _ _ _ _ ⟨s292_2, p292_2, Or.inl (by rcases f92_2_0 with h9 | h9; (rw [h9.2.1]; omega); (rw [h9.2.1]; decide)), rfl, hP, hD, hS, hl⟩
    · rintro H locs ls stk ⟨s3, p3, hs3, rfl, hP, hD, hS, hl⟩
      refine lv_aload_n hx hb dX12_put1_95 rfl (lv_at hl 0 rfl) ?_
      refine va_get (D := (dC, dI)) (ci := 12) (v := .int s3) (C := RX12) (T := TX12) (N := 163) (fs := fM (vS a (fT (fT vi 21 s3) 22 p3) vj)) hx hb hts iwsRX12_put1_in12 hown hK hP 0 rfl rfl 21 (by decide) (hts (.fieldLink RX12 515 "OptimaWorksModel" "stop" "I") (by decide +kernel)) (fun _ h9 => h9) rfl dX12_put1_96 ?_
      refine lv_if_le (tgt := 103) hx hb dX12_put1_99 (by decide) (fun c_99 => ?_) (fun c_99 => ?_)
      · have t_99 : (s3).toInt ≤ 0 := toI_le c_99 rfl (by decide)
        refine lv_aload_n hx hb dX12_put1_103 rfl (lv_at hl 0 rfl) ?_
        refine va_get (D := (dC, dI)) (ci := 12) (v := .ref (a 49)) (C := RX12) (T := TX12) (N := 163) (fs := fM (vS a (fT (fT vi 21 s3) 22 p3) vj)) hx hb hts iwsRX12_put1_in12 hown hK hP 0 rfl rfl 78 (by decide) (hts (.fieldLink RX12 170 "OptimaWorksModel" "top" "[I") (by decide +kernel)) (fun _ h9 => h9) rfl dX12_put1_104 ?_
        refine lv_bipush (v := 9) hx hb dX12_put1_107 (by decide) ?_
        refine lv_iload_n hx hb dX12_put1_109 rfl (lv_at hl 1 rfl) ?_
        refine lv_imul hx hb dX12_put1_110 ?_
        refine lv_topi (fun y3 hy3 => ?_)
        obtain rfl : (nI (9 * vn)) = y3 := (hy3.trans (pk_mul 9 vn)).symm
        refine lv_iload_n hx hb dX12_put1_111 rfl (lv_at hl 2 rfl) ?_
        refine lv_iadd hx hb dX12_put1_112 ?_
        refine lv_topi (fun y4 hy4 => ?_)
        obtain rfl : (nI ((9 * vn) + kn)) = y4 := (hy4.trans (nI_add (9 * vn) kn)).symm
        refine lv_lload hx hb dX12_put1_113 (lv_at hl 4 rfl) ?_
        refine lv_l2i hx hb dX12_put1_115 rfl ?_
        refine va_iast (cA := k 49) (n := 900) (f := (vF 49)) hx hb hK hP hD hS 50 49 (WR_get 49 (by decide)) (TR_get 49 (by decide)) (vp_in_nI (show ((9 * vn) + kn) < 900 by omega) (by omega)) dX12_put1_116 (fun H locs hP hD hS => ?_)
        have hP : va_P (dC, dI) vwCl (WR a k h0 (fT (fT vi 21 s3) 22 p3) vj (fT vF 49 (upd (vF 49) ((nI ((9 * vn) + kn))).toNatClampNeg ((aw).toInt32))) vG) H := fz_w (WR_F 49 (by decide) _ rfl) hP
        have hD : va_D A (WR a k h0 (fT (fT vi 21 s3) 22 p3) vj (fT vF 49 (upd (vF 49) ((nI ((9 * vn) + kn))).toNatClampNeg ((aw).toInt32))) vG) := fz_wD (WR_F 49 (by decide) _ rfl) hD
        refine lv_aload_n hx hb dX12_put1_117 rfl (lv_at hl 0 rfl) ?_
        refine va_get (D := (dC, dI)) (ci := 12) (v := .ref (a 50)) (C := RX12) (T := TX12) (N := 163) (fs := fM (vS a (fT (fT vi 21 s3) 22 p3) vj)) hx hb hts iwsRX12_put1_in12 hown hK hP 0 rfl rfl 79 (by decide) (hts (.fieldLink RX12 173 "OptimaWorksModel" "under" "[I") (by decide +kernel)) (fun _ h9 => h9) rfl dX12_put1_118 ?_
        refine lv_bipush (v := 9) hx hb dX12_put1_121 (by decide) ?_
        refine lv_iload_n hx hb dX12_put1_123 rfl (lv_at hl 1 rfl) ?_
        refine lv_imul hx hb dX12_put1_124 ?_
        refine lv_topi (fun y5 hy5 => ?_)
        obtain rfl : (nI (9 * vn)) = y5 := (hy5.trans (pk_mul 9 vn)).symm
        refine lv_iload_n hx hb dX12_put1_125 rfl (lv_at hl 2 rfl) ?_
        refine lv_iadd hx hb dX12_put1_126 ?_
        refine lv_topi (fun y6 hy6 => ?_)
        obtain rfl : (nI ((9 * vn) + kn)) = y6 := (hy6.trans (nI_add (9 * vn) kn)).symm
        refine lv_lload hx hb dX12_put1_127 (lv_at hl 5 rfl) ?_
        refine lv_l2i hx hb dX12_put1_129 rfl ?_
        refine va_iast (cA := k 50) (n := 900) (f := (vF 50)) hx hb hK hP hD hS 51 50 (WR_get 50 (by decide)) (TR_get 50 (by decide)) (vp_in_nI (show ((9 * vn) + kn) < 900 by omega) (by omega)) dX12_put1_130 (fun H locs hP hD hS => ?_)
        have hP : va_P (dC, dI) vwCl (WR a k h0 (fT (fT vi 21 s3) 22 p3) vj (fT (fT vF 49 (upd (vF 49) ((nI ((9 * vn) + kn))).toNatClampNeg ((aw).toInt32))) 50 (upd (vF 50) ((nI ((9 * vn) + kn))).toNatClampNeg ((bw).toInt32))) vG) H := fz_w (WR_F 50 (by decide) _ rfl) hP
        have hD : va_D A (WR a k h0 (fT (fT vi 21 s3) 22 p3) vj (fT (fT vF 49 (upd (vF 49) ((nI ((9 * vn) + kn))).toNatClampNeg ((aw).toInt32))) 50 (upd (vF 50) ((nI ((9 * vn) + kn))).toNatClampNeg ((bw).toInt32))) vG) := fz_wD (WR_F 50 (by decide) _ rfl) hD
        refine W.widen (k := 0) (n := 0) (by decide +kernel) (by decide +kernel) ?_
        exact W.vret hx hb hr (fun t9_ ht hW => ⟨⟨(s3, p3, (upd (vF 49) ((nI ((9 * vn) + kn))).toNatClampNeg ((aw).toInt32)), (upd (vF 50) ((nI ((9 * vn) + kn))).toNatClampNeg ((bw).toInt32))), rfl, by (try dsimp only); (have h9 := hs3.resolve_left (fun h => h (by omega))); exact Or.inr ⟨by omega, h9.1, _, _, ⟨by rw [l2i_small ⟨h9.2.1, h9.2.2.1⟩]; omega, by rw [l2i_small ⟨h9.2.1, h9.2.2.1⟩]; omega, by rw [l2i_small (by omega)]; omega, by rw [l2i_small (by omega)]; omega⟩, rfl, rfl⟩, by rw [ht]; exact hP, hD⟩, hS.F ht⟩) hS.2.2 dX12_put1_131
      · have t_99 : ¬ (s3).toInt ≤ 0 := toI_nle c_99 rfl (by decide)
        refine W.widen (k := 0) (n := 0) (by decide +kernel) (by decide +kernel) ?_
        have e9 : fT (fT vF 49 (vF 49)) 50 (vF 50) = vF := (fT_id _ _ (fT_ne _ _ (Nat.ne_of_beq_eq_false rfl))).trans (fT_id _ _ (rfl))
        have hP := wr_PF e9 hP
        have hD := wr_DF e9 hD
        clear e9
        exact W.vret hx hb hr (fun t9_ ht hW => ⟨⟨(s3, p3, (vF 49), (vF 50)), rfl, by (try dsimp only); exact Or.inl ⟨by omega, rfl, rfl⟩, by rw [ht]; exact hP, hD⟩, hS.F ht⟩) hS.2.2 dX12_put1_102
end
section
/-- the numbers of a row on the pile are in their bounds -/
def RowU (f g : Nat → Int32) (v : Nat) : Prop := ∀ q, q < 9 → -2000000 ≤ (f (9 * v + q)).toInt ∧ (f (9 * v + q)).toInt ≤ 2000000 ∧ 1 ≤ (g (9 * v + q)).toInt ∧ (g (9 * v + q)).toInt ≤ 2000000
theorem RowU.put {f g : Nat → Int32} {u v k : Nat} {x y : Int32} (hv : v < 100) (hu : u < 100) (hk : k < 9) (h : RowU f g u) (hx : (x).toInt ≤ 1000000 ∧ -1000000 ≤ (x).toInt ∧ 1 ≤ (y).toInt ∧ (y).toInt ≤ 1000000) : RowU (upd f (nI (9 * v + k)).toNatClampNeg x) (upd g (nI (9 * v + k)).toNatClampNeg y) u := by
  intro q hq
  rw [upd_at (by omega), upd_at (by omega)]
  by_cases e : 9 * u + q = 9 * v + k
  · rw [if_pos e, if_pos e]; omega
  · rw [if_neg e, if_neg e]; exact h q hq
end
section
theorem hd_yX12_put1_RX12 : yX12_put1.cls = RX12 ∧ yX12_put1.cls ≠ "java/lang/invoke/MethodHandle" ∧ yX12_put1.cls ≠ "java/lang/invoke/VarHandle" ∧ (parseMethodDescriptor yX12_put1.desc).map (fun d => d.parameters.length) = some 5 := by decide +kernel
theorem dX12_join_0 : decode cX12_join 0 = .ok (.iconst 0, 1) := dk_3 (by decide +kernel)
theorem dX12_join_1 : decode cX12_join 1 = .ok (.istore 5, 2) := dk_54 (by decide +kernel)
theorem dX12_join_3 : decode cX12_join 3 = .ok (.iload 5, 2) := dk_21 (by decide +kernel)
theorem dX12_join_5 : decode cX12_join 5 = .ok (.bipush 9, 2) := dk_16 (by decide +kernel)
theorem dX12_join_7 : decode cX12_join 7 = .ok (.if_icmp .ge 110, 3) := dk_162 (by decide +kernel)
theorem dX12_join_10 : decode cX12_join 10 = .ok (.aload_n 0, 1) := dk_42 (by decide +kernel)
theorem dX12_join_11 : decode cX12_join 11 = .ok (.getfield 515, 3) := dk_180 (by decide +kernel)
theorem dX12_join_14 : decode cX12_join 14 = .ok (.ifCond .ne 103, 3) := dk_154 (by decide +kernel)
theorem dX12_join_17 : decode cX12_join 17 = .ok (.aload_n 0, 1) := dk_42 (by decide +kernel)
theorem dX12_join_18 : decode cX12_join 18 = .ok (.iload_n 1, 1) := dk_27 (by decide +kernel)
theorem dX12_join_19 : decode cX12_join 19 = .ok (.iload 5, 2) := dk_21 (by decide +kernel)
theorem dX12_join_21 : decode cX12_join 21 = .ok (.aload_n 0, 1) := dk_42 (by decide +kernel)
theorem dX12_join_22 : decode cX12_join 22 = .ok (.getfield 170, 3) := dk_180 (by decide +kernel)
theorem dX12_join_25 : decode cX12_join 25 = .ok (.bipush 9, 2) := dk_16 (by decide +kernel)
theorem dX12_join_27 : decode cX12_join 27 = .ok (.iload_n 1, 1) := dk_27 (by decide +kernel)
theorem dX12_join_28 : decode cX12_join 28 = .ok (.imul, 1) := dk_104 (by decide +kernel)
theorem dX12_join_29 : decode cX12_join 29 = .ok (.iload 5, 2) := dk_21 (by decide +kernel)
theorem dX12_join_31 : decode cX12_join 31 = .ok (.iadd, 1) := dk_96 (by decide +kernel)
theorem dX12_join_32 : decode cX12_join 32 = .ok (.iaload, 1) := dk_46 (by decide +kernel)
theorem dX12_join_33 : decode cX12_join 33 = .ok (.i2l, 1) := dk_133 (by decide +kernel)
theorem dX12_join_34 : decode cX12_join 34 = .ok (.aload_n 0, 1) := dk_42 (by decide +kernel)
theorem dX12_join_35 : decode cX12_join 35 = .ok (.getfield 173, 3) := dk_180 (by decide +kernel)
theorem dX12_join_38 : decode cX12_join 38 = .ok (.bipush 9, 2) := dk_16 (by decide +kernel)
theorem dX12_join_40 : decode cX12_join 40 = .ok (.iload_n 2, 1) := dk_28 (by decide +kernel)
theorem dX12_join_41 : decode cX12_join 41 = .ok (.imul, 1) := dk_104 (by decide +kernel)
theorem dX12_join_42 : decode cX12_join 42 = .ok (.iload 5, 2) := dk_21 (by decide +kernel)
theorem dX12_join_44 : decode cX12_join 44 = .ok (.iadd, 1) := dk_96 (by decide +kernel)
theorem dX12_join_45 : decode cX12_join 45 = .ok (.iaload, 1) := dk_46 (by decide +kernel)
theorem dX12_join_46 : decode cX12_join 46 = .ok (.i2l, 1) := dk_133 (by decide +kernel)
theorem dX12_join_47 : decode cX12_join 47 = .ok (.lmul, 1) := dk_105 (by decide +kernel)
theorem dX12_join_48 : decode cX12_join 48 = .ok (.iload_n 3, 1) := dk_29 (by decide +kernel)
theorem dX12_join_49 : decode cX12_join 49 = .ok (.i2l, 1) := dk_133 (by decide +kernel)
theorem dX12_join_50 : decode cX12_join 50 = .ok (.aload_n 0, 1) := dk_42 (by decide +kernel)
theorem dX12_join_51 : decode cX12_join 51 = .ok (.getfield 170, 3) := dk_180 (by decide +kernel)
theorem dX12_join_54 : decode cX12_join 54 = .ok (.bipush 9, 2) := dk_16 (by decide +kernel)
theorem dX12_join_56 : decode cX12_join 56 = .ok (.iload_n 2, 1) := dk_28 (by decide +kernel)
theorem dX12_join_57 : decode cX12_join 57 = .ok (.imul, 1) := dk_104 (by decide +kernel)
theorem dX12_join_58 : decode cX12_join 58 = .ok (.iload 5, 2) := dk_21 (by decide +kernel)
theorem dX12_join_60 : decode cX12_join 60 = .ok (.iadd, 1) := dk_96 (by decide +kernel)
theorem dX12_join_61 : decode cX12_join 61 = .ok (.iaload, 1) := dk_46 (by decide +kernel)
theorem dX12_join_62 : decode cX12_join 62 = .ok (.i2l, 1) := dk_133 (by decide +kernel)
theorem dX12_join_63 : decode cX12_join 63 = .ok (.lmul, 1) := dk_105 (by decide +kernel)
theorem dX12_join_64 : decode cX12_join 64 = .ok (.aload_n 0, 1) := dk_42 (by decide +kernel)
theorem dX12_join_65 : decode cX12_join 65 = .ok (.getfield 173, 3) := dk_180 (by decide +kernel)
theorem dX12_join_68 : decode cX12_join 68 = .ok (.bipush 9, 2) := dk_16 (by decide +kernel)
theorem dX12_join_70 : decode cX12_join 70 = .ok (.iload_n 1, 1) := dk_27 (by decide +kernel)
theorem dX12_join_71 : decode cX12_join 71 = .ok (.imul, 1) := dk_104 (by decide +kernel)
theorem dX12_join_72 : decode cX12_join 72 = .ok (.iload 5, 2) := dk_21 (by decide +kernel)
theorem dX12_join_74 : decode cX12_join 74 = .ok (.iadd, 1) := dk_96 (by decide +kernel)
theorem dX12_join_75 : decode cX12_join 75 = .ok (.iaload, 1) := dk_46 (by decide +kernel)
theorem dX12_join_76 : decode cX12_join 76 = .ok (.i2l, 1) := dk_133 (by decide +kernel)
theorem dX12_join_77 : decode cX12_join 77 = .ok (.lmul, 1) := dk_105 (by decide +kernel)
theorem dX12_join_78 : decode cX12_join 78 = .ok (.ladd, 1) := dk_97 (by decide +kernel)
theorem dX12_join_79 : decode cX12_join 79 = .ok (.aload_n 0, 1) := dk_42 (by decide +kernel)
theorem dX12_join_80 : decode cX12_join 80 = .ok (.getfield 173, 3) := dk_180 (by decide +kernel)
theorem dX12_join_83 : decode cX12_join 83 = .ok (.bipush 9, 2) := dk_16 (by decide +kernel)
theorem dX12_join_85 : decode cX12_join 85 = .ok (.iload_n 1, 1) := dk_27 (by decide +kernel)
theorem dX12_join_86 : decode cX12_join 86 = .ok (.imul, 1) := dk_104 (by decide +kernel)
theorem dX12_join_87 : decode cX12_join 87 = .ok (.iload 5, 2) := dk_21 (by decide +kernel)
theorem dX12_join_89 : decode cX12_join 89 = .ok (.iadd, 1) := dk_96 (by decide +kernel)
theorem dX12_join_90 : decode cX12_join 90 = .ok (.iaload, 1) := dk_46 (by decide +kernel)
theorem dX12_join_91 : decode cX12_join 91 = .ok (.i2l, 1) := dk_133 (by decide +kernel)
theorem dX12_join_92 : decode cX12_join 92 = .ok (.aload_n 0, 1) := dk_42 (by decide +kernel)
theorem dX12_join_93 : decode cX12_join 93 = .ok (.getfield 173, 3) := dk_180 (by decide +kernel)
theorem dX12_join_96 : decode cX12_join 96 = .ok (.bipush 9, 2) := dk_16 (by decide +kernel)
theorem dX12_join_98 : decode cX12_join 98 = .ok (.iload_n 2, 1) := dk_28 (by decide +kernel)
theorem dX12_join_99 : decode cX12_join 99 = .ok (.imul, 1) := dk_104 (by decide +kernel)
theorem dX12_join_100 : decode cX12_join 100 = .ok (.iload 5, 2) := dk_21 (by decide +kernel)
theorem dX12_join_102 : decode cX12_join 102 = .ok (.iadd, 1) := dk_96 (by decide +kernel)
theorem dX12_join_103 : decode cX12_join 103 = .ok (.iaload, 1) := dk_46 (by decide +kernel)
theorem dX12_join_104 : decode cX12_join 104 = .ok (.i2l, 1) := dk_133 (by decide +kernel)
theorem dX12_join_105 : decode cX12_join 105 = .ok (.lmul, 1) := dk_105 (by decide +kernel)
theorem dX12_join_106 : decode cX12_join 106 = .ok (.iload 4, 2) := dk_21 (by decide +kernel)
theorem dX12_join_108 : decode cX12_join 108 = .ok (.invokevirtual 634, 3) := dk_182 (by decide +kernel)
theorem dX12_join_111 : decode cX12_join 111 = .ok (.iinc 5 1, 3) := dk_132 (by decide +kernel)
theorem dX12_join_114 : decode cX12_join 114 = .ok (.goto (-111), 3) := dk_167 (by decide +kernel)
theorem dX12_join_117 : decode cX12_join 117 = .ok (.return_, 1) := dk_177 (by decide +kernel)
def wsRX12_join : List Cond := .code yX12_join cX12_join 6 none :: ([.fieldLink RX12 515 "OptimaWorksModel" "stop" "I", .fieldLink RX12 170 "OptimaWorksModel" "top" "[I", .fieldLink RX12 173 "OptimaWorksModel" "under" "[I"] ++ wsX120 ++ (wsV RX12 634 RX12 yX12_put1 wsRX12_put1))
theorem iwsRX12_join_in12 : ∀ w ∈ wsX120, w ∈ wsRX12_join := fun _ h => List.mem_cons_of_mem _ (List.mem_append_left _ (List.mem_append_right _ h))
theorem gwsRX12_join_0 : GoodIn wsRX12_join (wsV RX12 634 RX12 yX12_put1 wsRX12_put1) := goodIn_sub (fun _ h => List.mem_cons_of_mem _ (List.mem_append_right _ h)) (gdV (by decide +kernel) gdwsRX12_put1)
theorem gdwsRX12_join : wsRX12_join.all goodWord = true := gdC rfl (gdA (gdA (by decide +kernel : ([.fieldLink RX12 515 "OptimaWorksModel" "stop" "I", .fieldLink RX12 170 "OptimaWorksModel" "top" "[I", .fieldLink RX12 173 "OptimaWorksModel" "under" "[I"] : List Cond).all goodWord = true) gdwsX120) (gdV (by decide +kernel) gdwsRX12_put1))
theorem hm_r_X12_join_0 : (.fieldLink RX12 170 "OptimaWorksModel" "top" "[I" : Cond) ∈ wsRX12_join := by decide +kernel
theorem hm_r_X12_join_1 : (.fieldLink RX12 173 "OptimaWorksModel" "under" "[I" : Cond) ∈ wsRX12_join := by decide +kernel
set_option maxHeartbeats 4000000 in
set_option maxRecDepth 100000 in
/-- join(v, w, how, p) -/
theorem r_X12_join (l : Launch) (dC : Nat → ClassId) (dI : Nat → Nat → Nat) (a : Nat → Nat) (k : Nat → ClassId) (h0 : Nat) (vi : Nat → Int32) (vj : Nat → Int64) (vF : Nat → Nat → Int32) (vG : Nat → Nat → Int64) (vn : Nat) (wn : Nat) (hw : Int32) (hI : Int) (pv : Int32) (hvn : vn < 100) (hwn : wn < 100) (hhI : (hw).toInt = hI) (hI1 : hI = 1 ∨ hI = -1) (hrv : RowU (vF 49) (vF 50) vn) (hrw : RowU (vF 49) (vF 50) wn) (sz : Nat) : Met l yX12_join wsRX12_join ({ frames := 2, cells := 0, slots := 0, locals := 62 }) (va_Pc [.ref h0, .int (nI vn), .int (nI wn), .int hw, .int pv] (fun U => U.heap.size = sz ∧ va_P (dC, dI) vwCl (WR a k h0 vi vj vF vG) U.heap ∧ va_K (dC, dI) vwCl (tX12 k) U ∧ va_D (fun _ => True) (WR a k h0 vi vj vF vG))) (va_Qv (fun (u : (Int32) × (Int32) × (Nat → Int32) × (Nat → Int32)) => (∀ v9, v9 < 100 → RowU (vF 49) (vF 50) v9 → RowU (u.2.2.1) (u.2.2.2) v9) ∧ (∀ q, (q < 9 * vn ∨ 9 * vn + 9 ≤ q) → (u.2.2.1) q = vF 49 q) ∧ (∀ q, (q < 9 * vn ∨ 9 * vn + 9 ≤ q) → (u.2.2.2) q = vF 50 q) ∧ ((u.1) = vi 21 ∨ 0 < ((u.1)).toInt)) (fun (u : (Int32) × (Int32) × (Nat → Int32) × (Nat → Int32)) t => va_P (dC, dI) vwCl (WR a k h0 (fT (fT vi 21 (u.1)) 22 (u.2.1)) vj (fT (fT vF 49 (u.2.2.1)) 50 (u.2.2.2)) vG) t.heap ∧ va_D (va_A (WR a k h0 vi vj vF vG) sz) (WR a k h0 (fT (fT vi 21 (u.1)) 22 (u.2.1)) vj (fT (fT vF 49 (u.2.2.1)) 50 (u.2.2.2)) vG)) (va_A (WR a k h0 vi vj vF vG) sz)) 0 0 (va_A (WR a k h0 vi vj vF vG) sz) := by
  refine Met.ofW (cc := cX12_join) (maxL := 6) (ret := none) (by decide) rfl ?_
  intro p e s m args below meth c s₁ B hml hv
  obtain ⟨rfl, hsz, hP, hK, hD0⟩ := hv
  have hx := B.exec
  have hb := B.bytes
  have hr := B.returns
  have hts := atoms_spec (ws := wsRX12_join) B.pre
  have hown : s.vm.findClass RX12 = some m.cls := findClass_of_methodNamed B.named
  have hlocks := B.notSynchronized
  subst hsz
  have hD := hD0.self (sz := s.heap.size)
  generalize hAe : va_A (WR a k h0 vi vj vF vG) s.heap.size = A at hD ⊢
  have hA : ∀ q : Nat, s.heap.size ≤ q → A q := fun q h => by rw [← hAe]; exact Or.inr h
  have hS : va_S A s.heap s.heap [] := va_S.rf
  have hl := lv_entry ([.ref h0, .int (nI vn), .int (nI wn), .int hw, .int pv]) (n := 6) (Nat.le_of_ble_eq_true rfl)
  rw [lg_entry_eq]
  generalize (lg_sl ([.ref h0, .int (nI vn), .int (nI wn), .int hw, .int pv]) ++ List.replicate (6 - (lg_sl ([.ref h0, .int (nI vn), .int (nI wn), .int hw, .int pv])).length) Slot.unset).toArray = ls at hl ⊢
  have hl : lv_has ls 6 [(0, .ref h0), (1, .int (nI vn)), (2, .int (nI wn)), (3, .int hw), (4, .int pv)] := hl
  refine lv_iconst (v := 0) hx hb dX12_join_0 (by decide) ?_
  refine lv_istore hx hb dX12_join_1 hl (by decide) rfl (fun ls (hl : lv_has ls _ ([(5, .int 0), (0, .ref h0), (1, .int (nI vn)), (2, .int (nI wn)), (3, .int hw), (4, .int pv)])) => ?_)
  have e9 : fT (fT vi 21 (vi 21)) 22 (vi 22) = vi := by funext q9; by_cases h9_21 : q9 = 21; (subst h9_21; exact ((fT_ne _ _ (Nat.ne_of_beq_eq_false rfl)).trans (fT_eq _ _ _)).trans (Eq.trans (by first | with_reducible rfl | with_reducible assumption | (symm; with_reducible assumption) | rfl | assumption | (symm; assumption) | (subst_vars; rfl)) (Eq.refl _).symm)); by_cases h9_22 : q9 = 22; (subst h9_22; exact (fT_eq _ _ _).trans (Eq.trans (by first | with_reducible rfl | with_reducible assumption | (symm; with_reducible assumption) | rfl | assumption | (symm; assumption) | (subst_vars; rfl)) (Eq.refl _).symm)); exact ((fT_ne _ _ h9_22).trans (fT_ne _ _ h9_21)).trans (Eq.refl _).symm
  have hP := wr_Pi e9 hP
  have hD := wr_Di e9 hD
  clear e9
  have e9 : fT (fT vF 49 (vF 49)) 50 (vF 50) = vF := by funext q9; by_cases h9_49 : q9 = 49; (subst h9_49; exact ((fT_ne _ _ (Nat.ne_of_beq_eq_false rfl)).trans (fT_eq _ _ _)).trans (Eq.trans (by first | with_reducible rfl | with_reducible assumption | (symm; with_reducible assumption) | rfl | assumption | (symm; assumption) | (subst_vars; rfl)) (Eq.refl _).symm)); by_cases h9_50 : q9 = 50; (subst h9_50; exact (fT_eq _ _ _).trans (Eq.trans (by first | with_reducible rfl | with_reducible assumption | (symm; with_reducible assumption) | rfl | assumption | (symm; assumption) | (subst_vars; rfl)) (Eq.refl _).symm)); exact ((fT_ne _ _ h9_50).trans (fT_ne _ _ h9_49)).trans (Eq.refl _).symm
  have hP := wr_PF e9 hP
  have hD := wr_DF e9 hD
  clear e9
  have hl : lv_has _ _ ([(0, .ref h0), (1, .int (nI vn)), (2, .int (nI wn)), (3, .int hw), (4, .int pv), (5, .int (nI 0))]) := lv_sub hl [1, 2, 3, 4, 5, 0] rfl
  refine (fun (loop : ∀ (n9 : Nat) (k5 : Nat) (s3 : Int32) (p3 : Int32) (f49 : Nat → Int32) (f50 : Nat → Int32) (H : Heap) (locs : List Loc) (ls : Array Slot), (k5 ≤ 9) → (∀ v9, v9 < 100 → RowU (vF 49) (vF 50) v9 → RowU f49 f50 v9) → (∀ q, (q < 9 * vn ∨ 9 * vn + 9 ≤ q) → f49 q = vF 49 q) → (∀ q, (q < 9 * vn ∨ 9 * vn + 9 ≤ q) → f50 q = vF 50 q) → (s3 = vi 21 ∨ 0 < (s3).toInt) →  (9 < k5 + n9) → va_P (dC, dI) vwCl (WR a k h0 (fT (fT vi 21 s3) 22 p3) vj (fT (fT vF 49 f49) 50 f50) vG) H → va_D A (WR a k h0 (fT (fT vi 21 s3) 22 p3) vj (fT (fT vF 49 f49) 50 f50) vG) → va_S A s.heap H locs → lv_has ls 6 [(0, .ref h0), (1, .int (nI vn)), (2, .int (nI wn)), (3, .int hw), (4, .int pv), (5, .int (nI k5))] → W p l e _ s m _ below meth c H locs 0 0 _ (F0 m 3 ls [])) => loop (10) 0 (vi 21) (vi 22) (vF 49) (vF 50) _ _ _ (by omega) (fun u _ h => h) (fun q _ => rfl) (fun q _ => rfl) (Or.inl rfl) (by omega) hP hD hS hl) ?_
  intro n9
  induction n9 with
  | zero => intro k5 s3 p3 f49 f50 H locs ls hk5 hpr ho1 ho2 hst hf9; exact False.elim (by omega)
  | succ n9 ih3 =>
    intro k5 s3 p3 f49 f50 H locs ls hk5 hpr ho1 ho2 hst hf3 hP hD hS hl
    refine lv_iload hx hb dX12_join_3 (lv_at hl 5 rfl) ?_
    refine lv_bipush (v := 9) hx hb dX12_join_5 (by decide) ?_
    refine lv_icmp_ge (tgt := 117) hx hb dX12_join_7 (by decide) (fun c_7 => ?_) (fun c_7 => ?_)
    · have t_7 : ((k5 : Nat) : Int) ≥ 9 := toI_ge c_7 (nI_toInt (by omega)) (by decide)
      refine W.widen (k := 0) (n := 0) (by decide +kernel) (by decide +kernel) ?_
      exact W.vret hx hb hr (fun t9_ ht hW => ⟨⟨(s3, p3, f49, f50), rfl, by (try dsimp only); exact ⟨hpr, ho1, ho2, hst⟩, by rw [ht]; exact hP, hD⟩, hS.F ht⟩) hS.2.2 dX12_join_117
    · have t_7 : ¬ ((k5 : Nat) : Int) ≥ 9 := toI_nge c_7 (nI_toInt (by omega)) (by decide)
      refine lv_aload_n hx hb dX12_join_10 rfl (lv_at hl 0 rfl) ?_
      refine va_get (D := (dC, dI)) (ci := 12) (v := .int s3) (C := RX12) (T := TX12) (N := 163) (fs := fM (vS a (fT (fT vi 21 s3) 22 p3) vj)) hx hb hts iwsRX12_join_in12 hown hK hP 0 rfl rfl 21 (by decide) (hts (.fieldLink RX12 515 "OptimaWorksModel" "stop" "I") (by decide +kernel)) (fun _ h9 => h9) rfl dX12_join_11 ?_
      refine lv_if_ne (tgt := 117) hx hb dX12_join_14 (by decide) (fun c_14 => ?_) (fun c_14 => ?_)
      · have t_14 : (s3).toInt ≠ 0 := toI_ne c_14 rfl (by decide)
        refine W.widen (k := 0) (n := 0) (by decide +kernel) (by decide +kernel) ?_
        exact W.vret hx hb hr (fun t9_ ht hW => ⟨⟨(s3, p3, f49, f50), rfl, by (try dsimp only); exact ⟨hpr, ho1, ho2, hst⟩, by rw [ht]; exact hP, hD⟩, hS.F ht⟩) hS.2.2 dX12_join_117
      · have t_14 : (s3).toInt = 0 := toI_nne c_14 rfl (by decide)
        have r1 := hpr vn hvn hrv k5 (by omega)
        have r2 := hpr wn hwn hrw k5 (by omega)
        have m1 := mulI (x := (f49 (9 * vn + k5))) (y := (f50 (9 * wn + k5)))
        have m2 := mulI (x := hw) (y := (f49 (9 * wn + k5)))
        have m4 := mulI (x := (f50 (9 * vn + k5))) (y := (f50 (9 * wn + k5)))
        have b1 : ((f49 (9 * vn + k5)).toInt * (f50 (9 * wn + k5)).toInt).natAbs ≤ 2000000 * 2000000 := mul_box (by omega) (by omega)
        have b2 : (hI * (f49 (9 * wn + k5)).toInt).natAbs ≤ 1 * 2000000 := mul_box (by omega) (by omega)
        have m3 := mulQ (x := hw.toInt64 * (f49 (9 * wn + k5)).toInt64) (y := (f50 (9 * vn + k5)).toInt64) (by rw [m2, hhI]; omega) (by rw [i64T]; omega)
        rw [m2, i64T, hhI] at m3
        have b3 : (hI * (f49 (9 * wn + k5)).toInt * (f50 (9 * vn + k5)).toInt).natAbs ≤ 2000000 * 2000000 := mul_box (by omega) (by omega)
        have b4 : ((f50 (9 * vn + k5)).toInt * (f50 (9 * wn + k5)).toInt).natAbs ≤ 2000000 * 2000000 := mul_box (by omega) (by omega)
        have b5 : 0 < (f50 (9 * vn + k5)).toInt * (f50 (9 * wn + k5)).toInt := Int.mul_pos (by omega) (by omega)
        refine lv_aload_n hx hb dX12_join_17 rfl (lv_at hl 0 rfl) ?_
        refine lv_iload_n hx hb dX12_join_18 rfl (lv_at hl 1 rfl) ?_
        refine lv_iload hx hb dX12_join_19 (lv_at hl 5 rfl) ?_
        refine lv_aload_n hx hb dX12_join_21 rfl (lv_at hl 0 rfl) ?_
        refine va_get (D := (dC, dI)) (ci := 12) (v := .ref (a 49)) (C := RX12) (T := TX12) (N := 163) (fs := fM (vS a (fT (fT vi 21 s3) 22 p3) vj)) hx hb hts iwsRX12_join_in12 hown hK hP 0 rfl rfl 78 (by decide) (hts _ hm_r_X12_join_0) (fun _ h9 => h9) rfl dX12_join_22 ?_
        refine lv_bipush (v := 9) hx hb dX12_join_25 (by decide) ?_
        refine lv_iload_n hx hb dX12_join_27 rfl (lv_at hl 1 rfl) ?_
        refine lv_imul hx hb dX12_join_28 ?_
        refine lv_topi (fun y1 hy1 => ?_)
        obtain rfl : (nI (9 * vn)) = y1 := (hy1.trans (pk_mul 9 vn)).symm
        refine lv_iload hx hb dX12_join_29 (lv_at hl 5 rfl) ?_
        refine lv_iadd hx hb dX12_join_31 ?_
        refine lv_topi (fun y2 hy2 => ?_)
        obtain rfl : (nI ((9 * vn) + k5)) = y2 := (hy2.trans (nI_add (9 * vn) k5)).symm
        refine va_iald (cA := k 49) (n := 900) (f := f49) hx hb hK hP 50 49 (WR_get 49 (by decide)) (TR_get 49 (by decide)) (vp_in_nI (show ((9 * vn) + k5) < 900 by omega) (by omega)) dX12_join_32 ?_
        refine lv_topi (fun y3 hy3 => ?_)
        obtain rfl : (f49 ((9 * vn) + k5)) = y3 := (hy3.trans (by rw [nI_clamp (by omega)])).symm
        refine lv_i2l hx hb dX12_join_33 rfl ?_
        refine lv_aload_n hx hb dX12_join_34 rfl (lv_at hl 0 rfl) ?_
        refine va_get (D := (dC, dI)) (ci := 12) (v := .ref (a 50)) (C := RX12) (T := TX12) (N := 163) (fs := fM (vS a (fT (fT vi 21 s3) 22 p3) vj)) hx hb hts iwsRX12_join_in12 hown hK hP 0 rfl rfl 79 (by decide) (hts _ hm_r_X12_join_1) (fun _ h9 => h9) rfl dX12_join_35 ?_
        refine lv_bipush (v := 9) hx hb dX12_join_38 (by decide) ?_
        refine lv_iload_n hx hb dX12_join_40 rfl (lv_at hl 2 rfl) ?_
        refine lv_imul hx hb dX12_join_41 ?_
        refine lv_topi (fun y4 hy4 => ?_)
        obtain rfl : (nI (9 * wn)) = y4 := (hy4.trans (pk_mul 9 wn)).symm
        refine lv_iload hx hb dX12_join_42 (lv_at hl 5 rfl) ?_
        refine lv_iadd hx hb dX12_join_44 ?_
        refine lv_topi (fun y5 hy5 => ?_)
        obtain rfl : (nI ((9 * wn) + k5)) = y5 := (hy5.trans (nI_add (9 * wn) k5)).symm
        refine va_iald (cA := k 50) (n := 900) (f := f50) hx hb hK hP 51 50 (WR_get 50 (by decide)) (TR_get 50 (by decide)) (vp_in_nI (show ((9 * wn) + k5) < 900 by omega) (by omega)) dX12_join_45 ?_
        refine lv_topi (fun y6 hy6 => ?_)
        obtain rfl : (f50 ((9 * wn) + k5)) = y6 := (hy6.trans (by rw [nI_clamp (by omega)])).symm
        refine lv_i2l hx hb dX12_join_46 rfl ?_
        refine lv_lmul hx hb dX12_join_47 ?_
        refine lv_iload_n hx hb dX12_join_48 rfl (lv_at hl 3 rfl) ?_
        refine lv_i2l hx hb dX12_join_49 rfl ?_
        refine lv_aload_n hx hb dX12_join_50 rfl (lv_at hl 0 rfl) ?_
        refine va_get (D := (dC, dI)) (ci := 12) (v := .ref (a 49)) (C := RX12) (T := TX12) (N := 163) (fs := fM (vS a (fT (fT vi 21 s3) 22 p3) vj)) hx hb hts iwsRX12_join_in12 hown hK hP 0 rfl rfl 78 (by decide) (hts _ hm_r_X12_join_0) (fun _ h9 => h9) rfl dX12_join_51 ?_
        refine lv_bipush (v := 9) hx hb dX12_join_54 (by decide) ?_
        refine lv_iload_n hx hb dX12_join_56 rfl (lv_at hl 2 rfl) ?_
        refine lv_imul hx hb dX12_join_57 ?_
        refine lv_topi (fun y7 hy7 => ?_)
        obtain rfl : (nI (9 * wn)) = y7 := (hy7.trans (pk_mul 9 wn)).symm
        refine lv_iload hx hb dX12_join_58 (lv_at hl 5 rfl) ?_
        refine lv_iadd hx hb dX12_join_60 ?_
        refine lv_topi (fun y8 hy8 => ?_)
        obtain rfl : (nI ((9 * wn) + k5)) = y8 := (hy8.trans (nI_add (9 * wn) k5)).symm
        refine va_iald (cA := k 49) (n := 900) (f := f49) hx hb hK hP 50 49 (WR_get 49 (by decide)) (TR_get 49 (by decide)) (vp_in_nI (show ((9 * wn) + k5) < 900 by omega) (by omega)) dX12_join_61 ?_
        refine lv_topi (fun y9 hy9 => ?_)
        obtain rfl : (f49 ((9 * wn) + k5)) = y9 := (hy9.trans (by rw [nI_clamp (by omega)])).symm
        refine lv_i2l hx hb dX12_join_62 rfl ?_
        refine lv_lmul hx hb dX12_join_63 ?_
        refine lv_aload_n hx hb dX12_join_64 rfl (lv_at hl 0 rfl) ?_
        refine va_get (D := (dC, dI)) (ci := 12) (v := .ref (a 50)) (C := RX12) (T := TX12) (N := 163) (fs := fM (vS a (fT (fT vi 21 s3) 22 p3) vj)) hx hb hts iwsRX12_join_in12 hown hK hP 0 rfl rfl 79 (by decide) (hts _ hm_r_X12_join_1) (fun _ h9 => h9) rfl dX12_join_65 ?_
        refine lv_bipush (v := 9) hx hb dX12_join_68 (by decide) ?_
        refine lv_iload_n hx hb dX12_join_70 rfl (lv_at hl 1 rfl) ?_
        refine lv_imul hx hb dX12_join_71 ?_
        refine lv_topi (fun y10 hy10 => ?_)
        obtain rfl : (nI (9 * vn)) = y10 := (hy10.trans (pk_mul 9 vn)).symm
        refine lv_iload hx hb dX12_join_72 (lv_at hl 5 rfl) ?_
        refine lv_iadd hx hb dX12_join_74 ?_
        refine lv_topi (fun y11 hy11 => ?_)
        obtain rfl : (nI ((9 * vn) + k5)) = y11 := (hy11.trans (nI_add (9 * vn) k5)).symm
        refine va_iald (cA := k 50) (n := 900) (f := f50) hx hb hK hP 51 50 (WR_get 50 (by decide)) (TR_get 50 (by decide)) (vp_in_nI (show ((9 * vn) + k5) < 900 by omega) (by omega)) dX12_join_75 ?_
        refine lv_topi (fun y12 hy12 => ?_)
        obtain rfl : (f50 ((9 * vn) + k5)) = y12 := (hy12.trans (by rw [nI_clamp (by omega)])).symm
        refine lv_i2l hx hb dX12_join_76 rfl ?_
        refine lv_lmul hx hb dX12_join_77 ?_
        refine lv_ladd hx hb dX12_join_78 ?_
        obtain ⟨n9_, hn9⟩ : ∃ n9_, n9_ = (((((f49 ((9 * vn) + k5))).toInt64 * ((f50 ((9 * wn) + k5))).toInt64) + (((hw).toInt64 * ((f49 ((9 * wn) + k5))).toInt64) * ((f50 ((9 * vn) + k5))).toInt64)) : Int64) := ⟨_, rfl⟩
        have en9 : n9_.toInt = (f49 (9 * vn + k5)).toInt * (f50 (9 * wn + k5)).toInt + hI * (f49 (9 * wn + k5)).toInt * (f50 (9 * vn + k5)).toInt := by rw [hn9, addJ (by omega) (by omega), m1, m3.1]
        refine lv_topl (fun y13 hy13 => ?_)
        obtain rfl : n9_ = y13 := (hy13.trans (hn9.symm)).symm
        refine lv_aload_n hx hb dX12_join_79 rfl (lv_at hl 0 rfl) ?_
        refine va_get (D := (dC, dI)) (ci := 12) (v := .ref (a 50)) (C := RX12) (T := TX12) (N := 163) (fs := fM (vS a (fT (fT vi 21 s3) 22 p3) vj)) hx hb hts iwsRX12_join_in12 hown hK hP 0 rfl rfl 79 (by decide) (hts _ hm_r_X12_join_1) (fun _ h9 => h9) rfl dX12_join_80 ?_
        refine lv_bipush (v := 9) hx hb dX12_join_83 (by decide) ?_
        refine lv_iload_n hx hb dX12_join_85 rfl (lv_at hl 1 rfl) ?_
        refine lv_imul hx hb dX12_join_86 ?_
        refine lv_topi (fun y14 hy14 => ?_)
        obtain rfl : (nI (9 * vn)) = y14 := (hy14.trans (pk_mul 9 vn)).symm
        refine lv_iload hx hb dX12_join_87 (lv_at hl 5 rfl) ?_
        refine lv_iadd hx hb dX12_join_89 ?_
        refine lv_topi (fun y15 hy15 => ?_)
        obtain rfl : (nI ((9 * vn) + k5)) = y15 := (hy15.trans (nI_add (9 * vn) k5)).symm
        refine va_iald (cA := k 50) (n := 900) (f := f50) hx hb hK hP 51 50 (WR_get 50 (by decide)) (TR_get 50 (by decide)) (vp_in_nI (show ((9 * vn) + k5) < 900 by omega) (by omega)) dX12_join_90 ?_
        refine lv_topi (fun y16 hy16 => ?_)
        obtain rfl : (f50 ((9 * vn) + k5)) = y16 := (hy16.trans (by rw [nI_clamp (by omega)])).symm
        refine lv_i2l hx hb dX12_join_91 rfl ?_
        refine lv_aload_n hx hb dX12_join_92 rfl (lv_at hl 0 rfl) ?_
        refine va_get (D := (dC, dI)) (ci := 12) (v := .ref (a 50)) (C := RX12) (T := TX12) (N := 163) (fs := fM (vS a (fT (fT vi 21 s3) 22 p3) vj)) hx hb hts iwsRX12_join_in12 hown hK hP 0 rfl rfl 79 (by decide) (hts _ hm_r_X12_join_1) (fun _ h9 => h9) rfl dX12_join_93 ?_
        refine lv_bipush (v := 9) hx hb dX12_join_96 (by decide) ?_
        refine lv_iload_n hx hb dX12_join_98 rfl (lv_at hl 2 rfl) ?_
        refine lv_imul hx hb dX12_join_99 ?_
        refine lv_topi (fun y17 hy17 => ?_)
        obtain rfl : (nI (9 * wn)) = y17 := (hy17.trans (pk_mul 9 wn)).symm
        refine lv_iload hx hb dX12_join_100 (lv_at hl 5 rfl) ?_
        refine lv_iadd hx hb dX12_join_102 ?_
        refine lv_topi (fun y18 hy18 => ?_)
        obtain rfl : (nI ((9 * wn) + k5)) = y18 := (hy18.trans (nI_add (9 * wn) k5)).symm
        refine va_iald (cA := k 50) (n := 900) (f := f50) hx hb hK hP 51 50 (WR_get 50 (by decide)) (TR_get 50 (by decide)) (vp_in_nI (show ((9 * wn) + k5) < 900 by omega) (by omega)) dX12_join_103 ?_
        refine lv_topi (fun y19 hy19 => ?_)
        obtain rfl : (f50 ((9 * wn) + k5)) = y19 := (hy19.trans (by rw [nI_clamp (by omega)])).symm
        refine lv_i2l hx hb dX12_join_104 rfl ?_
        refine lv_lmul hx hb dX12_join_105 ?_
        obtain ⟨d9_, hd9⟩ : ∃ d9_, d9_ = ((((f50 ((9 * vn) + k5))).toInt64 * ((f50 ((9 * wn) + k5))).toInt64) : Int64) := ⟨_, rfl⟩
        have ed9 : d9_.toInt = (f50 (9 * vn + k5)).toInt * (f50 (9 * wn + k5)).toInt := by rw [hd9, m4]
        refine lv_topl (fun y20 hy20 => ?_)
        obtain rfl : d9_ = y20 := (hy20.trans (hd9.symm)).symm
        refine lv_iload hx hb dX12_join_106 (lv_at hl 4 rfl) ?_
        have hFc := allFree hD hS hA
        refine va_callv (va_runV (As := [.int (nI vn), .int (nI k5), .long n9_, .long d9_, .int pv]) (rest := []) ⟨hx, hb, hml, hown, hts⟩ (r_X12_put1 l dC dI a k h0 (fT (fT vi 21 s3) 22 p3) vj (fT (fT vF 49 f49) 50 f50) vG vn k5 n9_ d9_ pv (by first | with_reducible assumption | decide | omega | rfl | assumption) (by first | with_reducible assumption | decide | omega | rfl | assumption) (by omega) (by omega) (by omega) H.size) (cwV 5 hts gwsRX12_join_0 rfl rfl rfl hd_yX12_put1_RX12 (by decide +kernel)) (fz_pre (va_recv hK hP (ci := 12) (q0 := 0) rfl rfl) hP hK hD) rfl rfl hl.1 rfl (lv_room (Nat.le_of_ble_eq_true rfl)) dX12_join_108 (by decide +kernel)) hS (fun q _ h => hFc q h) hFc (fun u t9_ H locs ht hvm hw9 hB9 hz1 hk1 hS => ?_)
        revert u hw9 hB9
        refine fz_p4 ?_
        intro s2108 p2108 f49108 f50108 hw9 hB9
        try dsimp only at hw9 hB9
        have e9i : fT (fT vi 21 s2108) 22 p2108 = fT (fT (fT (fT vi 21 s3) 22 p3) 21 s2108) 22 p2108 := ((congrArg (fun g9 => fT g9 22 p2108) ((fT_sw _ _ _ (Nat.ne_of_beq_eq_false rfl)).trans (congrArg (fun g9 => fT g9 22 p3) (fT_sm _ _ _ _)))).trans (fT_sm _ _ _ _)).symm
        have e9F : fT (fT vF 49 f49108) 50 f50108 = fT (fT (fT (fT vF 49 f49) 50 f50) 49 f49108) 50 f50108 := ((congrArg (fun g9 => fT g9 50 f50108) ((fT_sw _ _ _ (Nat.ne_of_beq_eq_false rfl)).trans (congrArg (fun g9 => fT g9 50 f50) (fT_sm _ _ _ _)))).trans (fT_sm _ _ _ _)).symm
        have hP := wr_PF e9F (wr_Pi e9i (fz_P ht hB9.1))
        have hD := wr_DF e9F (wr_Di e9i (hB9.2.weaken (fun _ q _ h => hFc q.1 h)))
        clear e9i e9F
        have f108_0 := hw9
        try dsimp only at f108_0
        have f108_0 : (¬ (s2108).toInt ≤ 0 ∧ f49108 = f49 ∧ f50108 = f50) ∨ ((s2108).toInt ≤ 0 ∧ s2108 = s3 ∧ ∃ tv uv : Int32, ((tv).toInt ≤ 1000000 ∧ -1000000 ≤ (tv).toInt ∧ 1 ≤ (uv).toInt ∧ (uv).toInt ≤ 1000000) ∧ f49108 = upd f49 (nI (9 * vn + k5)).toNatClampNeg tv ∧ f50108 = upd f50 (nI (9 * vn + k5)).toNatClampNeg uv) := f108_0
        refine lv_iinc (v := (nI (k5 + 1))) hx hb dX12_join_111 hl (k := 5) rfl (nI_add k5 1) (by decide) rfl (fun ls (hl : lv_has ls _ ([(5, .int (nI (k5 + 1))), (0, .ref h0), (1, .int (nI vn)), (2, .int (nI wn)), (3, .int hw), (4, .int pv)])) => ?_)
        refine lv_goto (tgt := 3) hx hb dX12_join_114 (by decide) ?_
        have hl : lv_has _ _ ([(0, .ref h0), (1, .int (nI vn)), (2, .int (nI wn)), (3, .int hw), (4, .int pv), (5, .int (nI (k5 + 1)))]) := lv_sub hl [1, 2, 3, 4, 5, 0] rfl
        exact ih3 (k5 + 1) s2108 p2108 f49108 f50108 _ _ _ (by omega) (fun u hu h0 => by rcases f108_0 with ⟨h9, h8, h7⟩ | ⟨h9, h8, tv, uv, h7, h6, h5⟩; (rw [h8, h7]; exact hpr u hu h0); (rw [h6, h5]; exact (hpr u hu h0).put hvn hu (by omega) h7)) (fun q hq => by rcases f108_0 with ⟨h9, h8, h7⟩ | ⟨h9, h8, tv, uv, h7, h6, h5⟩; (rw [h8]; exact ho1 q hq); (rw [h6, upd_at (by omega), if_neg (by omega)]; exact ho1 q hq)) (fun q hq => by rcases f108_0 with ⟨h9, h8, h7⟩ | ⟨h9, h8, tv, uv, h7, h6, h5⟩; (rw [h7]; exact ho2 q hq); (rw [h5, upd_at (by omega), if_neg (by omega)]; exact ho2 q hq)) (by rcases f108_0 with ⟨h9, h8⟩ | ⟨h9, h8, h7⟩; (exact Or.inr (by omega)); (rw [h8]; exact hst)) (by omega) hP hD hS hl
end
section
theorem hd_yX12_hasVariables_RX12 : yX12_hasVariables.cls = RX12 ∧ yX12_hasVariables.cls ≠ "java/lang/invoke/MethodHandle" ∧ yX12_hasVariables.cls ≠ "java/lang/invoke/VarHandle" ∧ (parseMethodDescriptor yX12_hasVariables.desc).map (fun d => d.parameters.length) = some 1 := by decide +kernel
theorem dX12_scale_0 : decode cX12_scale 0 = .ok (.iload_n 3, 1) := dk_29 (by decide +kernel)
theorem dX12_scale_1 : decode cX12_scale 1 = .ok (.ifCond .eq 14, 3) := dk_153 (by decide +kernel)
theorem dX12_scale_4 : decode cX12_scale 4 = .ok (.aload_n 0, 1) := dk_42 (by decide +kernel)
theorem dX12_scale_5 : decode cX12_scale 5 = .ok (.iload_n 2, 1) := dk_28 (by decide +kernel)
theorem dX12_scale_6 : decode cX12_scale 6 = .ok (.invokevirtual 638, 3) := dk_182 (by decide +kernel)
theorem dX12_scale_9 : decode cX12_scale 9 = .ok (.ifCond .eq 32, 3) := dk_153 (by decide +kernel)
theorem dX12_scale_12 : decode cX12_scale 12 = .ok (.goto 19, 3) := dk_167 (by decide +kernel)
theorem dX12_scale_15 : decode cX12_scale 15 = .ok (.aload_n 0, 1) := dk_42 (by decide +kernel)
theorem dX12_scale_16 : decode cX12_scale 16 = .ok (.iload_n 1, 1) := dk_27 (by decide +kernel)
theorem dX12_scale_17 : decode cX12_scale 17 = .ok (.invokevirtual 638, 3) := dk_182 (by decide +kernel)
theorem dX12_scale_20 : decode cX12_scale 20 = .ok (.ifCond .eq 21, 3) := dk_153 (by decide +kernel)
theorem dX12_scale_23 : decode cX12_scale 23 = .ok (.aload_n 0, 1) := dk_42 (by decide +kernel)
theorem dX12_scale_24 : decode cX12_scale 24 = .ok (.iload_n 2, 1) := dk_28 (by decide +kernel)
theorem dX12_scale_25 : decode cX12_scale 25 = .ok (.invokevirtual 638, 3) := dk_182 (by decide +kernel)
theorem dX12_scale_28 : decode cX12_scale 28 = .ok (.ifCond .eq 13, 3) := dk_153 (by decide +kernel)
theorem dX12_scale_31 : decode cX12_scale 31 = .ok (.aload_n 0, 1) := dk_42 (by decide +kernel)
theorem dX12_scale_32 : decode cX12_scale 32 = .ok (.iconst 5, 1) := dk_8 (by decide +kernel)
theorem dX12_scale_33 : decode cX12_scale 33 = .ok (.iload 4, 2) := dk_21 (by decide +kernel)
theorem dX12_scale_35 : decode cX12_scale 35 = .ok (.invokevirtual 518, 3) := dk_182 (by decide +kernel)
theorem dX12_scale_38 : decode cX12_scale 38 = .ok (.goto 27, 3) := dk_167 (by decide +kernel)
theorem dX12_scale_41 : decode cX12_scale 41 = .ok (.iload_n 3, 1) := dk_29 (by decide +kernel)
theorem dX12_scale_42 : decode cX12_scale 42 = .ok (.ifCond .eq 23, 3) := dk_153 (by decide +kernel)
theorem dX12_scale_45 : decode cX12_scale 45 = .ok (.aload_n 0, 1) := dk_42 (by decide +kernel)
theorem dX12_scale_46 : decode cX12_scale 46 = .ok (.getfield 170, 3) := dk_180 (by decide +kernel)
theorem dX12_scale_49 : decode cX12_scale 49 = .ok (.bipush 9, 2) := dk_16 (by decide +kernel)
theorem dX12_scale_51 : decode cX12_scale 51 = .ok (.iload_n 2, 1) := dk_28 (by decide +kernel)
theorem dX12_scale_52 : decode cX12_scale 52 = .ok (.imul, 1) := dk_104 (by decide +kernel)
theorem dX12_scale_53 : decode cX12_scale 53 = .ok (.iaload, 1) := dk_46 (by decide +kernel)
theorem dX12_scale_54 : decode cX12_scale 54 = .ok (.ifCond .ne 11, 3) := dk_154 (by decide +kernel)
theorem dX12_scale_57 : decode cX12_scale 57 = .ok (.aload_n 0, 1) := dk_42 (by decide +kernel)
theorem dX12_scale_58 : decode cX12_scale 58 = .ok (.bipush 6, 2) := dk_16 (by decide +kernel)
theorem dX12_scale_60 : decode cX12_scale 60 = .ok (.iload 4, 2) := dk_21 (by decide +kernel)
theorem dX12_scale_62 : decode cX12_scale 62 = .ok (.invokevirtual 518, 3) := dk_182 (by decide +kernel)
theorem dX12_scale_65 : decode cX12_scale 65 = .ok (.aload_n 0, 1) := dk_42 (by decide +kernel)
theorem dX12_scale_66 : decode cX12_scale 66 = .ok (.getfield 515, 3) := dk_180 (by decide +kernel)
theorem dX12_scale_69 : decode cX12_scale 69 = .ok (.ifCond .le 4, 3) := dk_158 (by decide +kernel)
theorem dX12_scale_72 : decode cX12_scale 72 = .ok (.return_, 1) := dk_177 (by decide +kernel)
theorem dX12_scale_73 : decode cX12_scale 73 = .ok (.aload_n 0, 1) := dk_42 (by decide +kernel)
theorem dX12_scale_74 : decode cX12_scale 74 = .ok (.iload_n 2, 1) := dk_28 (by decide +kernel)
theorem dX12_scale_75 : decode cX12_scale 75 = .ok (.invokevirtual 638, 3) := dk_182 (by decide +kernel)
theorem dX12_scale_78 : decode cX12_scale 78 = .ok (.istore 5, 2) := dk_54 (by decide +kernel)
theorem dX12_scale_80 : decode cX12_scale 80 = .ok (.iload 5, 2) := dk_21 (by decide +kernel)
theorem dX12_scale_82 : decode cX12_scale 82 = .ok (.ifCond .eq 7, 3) := dk_153 (by decide +kernel)
theorem dX12_scale_85 : decode cX12_scale 85 = .ok (.iload_n 2, 1) := dk_28 (by decide +kernel)
theorem dX12_scale_86 : decode cX12_scale 86 = .ok (.goto 4, 3) := dk_167 (by decide +kernel)
theorem dX12_scale_89 : decode cX12_scale 89 = .ok (.iload_n 1, 1) := dk_27 (by decide +kernel)
theorem dX12_scale_90 : decode cX12_scale 90 = .ok (.istore 6, 2) := dk_54 (by decide +kernel)
theorem dX12_scale_92 : decode cX12_scale 92 = .ok (.iload 5, 2) := dk_21 (by decide +kernel)
theorem dX12_scale_94 : decode cX12_scale 94 = .ok (.ifCond .eq 7, 3) := dk_153 (by decide +kernel)
theorem dX12_scale_97 : decode cX12_scale 97 = .ok (.iload_n 1, 1) := dk_27 (by decide +kernel)
theorem dX12_scale_98 : decode cX12_scale 98 = .ok (.goto 4, 3) := dk_167 (by decide +kernel)
theorem dX12_scale_101 : decode cX12_scale 101 = .ok (.iload_n 2, 1) := dk_28 (by decide +kernel)
theorem dX12_scale_102 : decode cX12_scale 102 = .ok (.istore 7, 2) := dk_54 (by decide +kernel)
theorem dX12_scale_104 : decode cX12_scale 104 = .ok (.iload_n 3, 1) := dk_29 (by decide +kernel)
theorem dX12_scale_105 : decode cX12_scale 105 = .ok (.ifCond .eq 17, 3) := dk_153 (by decide +kernel)
theorem dX12_scale_108 : decode cX12_scale 108 = .ok (.aload_n 0, 1) := dk_42 (by decide +kernel)
theorem dX12_scale_109 : decode cX12_scale 109 = .ok (.getfield 173, 3) := dk_180 (by decide +kernel)
theorem dX12_scale_112 : decode cX12_scale 112 = .ok (.bipush 9, 2) := dk_16 (by decide +kernel)
theorem dX12_scale_114 : decode cX12_scale 114 = .ok (.iload 7, 2) := dk_21 (by decide +kernel)
theorem dX12_scale_116 : decode cX12_scale 116 = .ok (.imul, 1) := dk_104 (by decide +kernel)
theorem dX12_scale_117 : decode cX12_scale 117 = .ok (.iaload, 1) := dk_46 (by decide +kernel)
theorem dX12_scale_118 : decode cX12_scale 118 = .ok (.i2l, 1) := dk_133 (by decide +kernel)
theorem dX12_scale_119 : decode cX12_scale 119 = .ok (.goto 14, 3) := dk_167 (by decide +kernel)
theorem dX12_scale_122 : decode cX12_scale 122 = .ok (.aload_n 0, 1) := dk_42 (by decide +kernel)
theorem dX12_scale_123 : decode cX12_scale 123 = .ok (.getfield 170, 3) := dk_180 (by decide +kernel)
theorem dX12_scale_126 : decode cX12_scale 126 = .ok (.bipush 9, 2) := dk_16 (by decide +kernel)
theorem dX12_scale_128 : decode cX12_scale 128 = .ok (.iload 7, 2) := dk_21 (by decide +kernel)
theorem dX12_scale_130 : decode cX12_scale 130 = .ok (.imul, 1) := dk_104 (by decide +kernel)
theorem dX12_scale_131 : decode cX12_scale 131 = .ok (.iaload, 1) := dk_46 (by decide +kernel)
theorem dX12_scale_132 : decode cX12_scale 132 = .ok (.i2l, 1) := dk_133 (by decide +kernel)
theorem dX12_scale_133 : decode cX12_scale 133 = .ok (.lstore 8, 2) := dk_55 (by decide +kernel)
theorem dX12_scale_135 : decode cX12_scale 135 = .ok (.iload_n 3, 1) := dk_29 (by decide +kernel)
theorem dX12_scale_136 : decode cX12_scale 136 = .ok (.ifCond .eq 17, 3) := dk_153 (by decide +kernel)
theorem dX12_scale_139 : decode cX12_scale 139 = .ok (.aload_n 0, 1) := dk_42 (by decide +kernel)
theorem dX12_scale_140 : decode cX12_scale 140 = .ok (.getfield 170, 3) := dk_180 (by decide +kernel)
theorem dX12_scale_143 : decode cX12_scale 143 = .ok (.bipush 9, 2) := dk_16 (by decide +kernel)
theorem dX12_scale_145 : decode cX12_scale 145 = .ok (.iload 7, 2) := dk_21 (by decide +kernel)
theorem dX12_scale_147 : decode cX12_scale 147 = .ok (.imul, 1) := dk_104 (by decide +kernel)
theorem dX12_scale_148 : decode cX12_scale 148 = .ok (.iaload, 1) := dk_46 (by decide +kernel)
theorem dX12_scale_149 : decode cX12_scale 149 = .ok (.i2l, 1) := dk_133 (by decide +kernel)
theorem dX12_scale_150 : decode cX12_scale 150 = .ok (.goto 14, 3) := dk_167 (by decide +kernel)
theorem dX12_scale_153 : decode cX12_scale 153 = .ok (.aload_n 0, 1) := dk_42 (by decide +kernel)
theorem dX12_scale_154 : decode cX12_scale 154 = .ok (.getfield 173, 3) := dk_180 (by decide +kernel)
theorem dX12_scale_157 : decode cX12_scale 157 = .ok (.bipush 9, 2) := dk_16 (by decide +kernel)
theorem dX12_scale_159 : decode cX12_scale 159 = .ok (.iload 7, 2) := dk_21 (by decide +kernel)
theorem dX12_scale_161 : decode cX12_scale 161 = .ok (.imul, 1) := dk_104 (by decide +kernel)
theorem dX12_scale_162 : decode cX12_scale 162 = .ok (.iaload, 1) := dk_46 (by decide +kernel)
theorem dX12_scale_163 : decode cX12_scale 163 = .ok (.i2l, 1) := dk_133 (by decide +kernel)
theorem dX12_scale_164 : decode cX12_scale 164 = .ok (.lstore 10, 2) := dk_55 (by decide +kernel)
theorem dX12_scale_166 : decode cX12_scale 166 = .ok (.iconst 0, 1) := dk_3 (by decide +kernel)
theorem dX12_scale_167 : decode cX12_scale 167 = .ok (.istore 12, 2) := dk_54 (by decide +kernel)
theorem dX12_scale_169 : decode cX12_scale 169 = .ok (.iload 12, 2) := dk_21 (by decide +kernel)
theorem dX12_scale_171 : decode cX12_scale 171 = .ok (.bipush 9, 2) := dk_16 (by decide +kernel)
theorem dX12_scale_173 : decode cX12_scale 173 = .ok (.if_icmp .ge 59, 3) := dk_162 (by decide +kernel)
theorem dX12_scale_176 : decode cX12_scale 176 = .ok (.aload_n 0, 1) := dk_42 (by decide +kernel)
theorem dX12_scale_177 : decode cX12_scale 177 = .ok (.getfield 515, 3) := dk_180 (by decide +kernel)
theorem dX12_scale_180 : decode cX12_scale 180 = .ok (.ifCond .ne 52, 3) := dk_154 (by decide +kernel)
theorem dX12_scale_183 : decode cX12_scale 183 = .ok (.aload_n 0, 1) := dk_42 (by decide +kernel)
theorem dX12_scale_184 : decode cX12_scale 184 = .ok (.iload_n 1, 1) := dk_27 (by decide +kernel)
theorem dX12_scale_185 : decode cX12_scale 185 = .ok (.iload 12, 2) := dk_21 (by decide +kernel)
theorem dX12_scale_187 : decode cX12_scale 187 = .ok (.lload 8, 2) := dk_22 (by decide +kernel)
theorem dX12_scale_189 : decode cX12_scale 189 = .ok (.aload_n 0, 1) := dk_42 (by decide +kernel)
theorem dX12_scale_190 : decode cX12_scale 190 = .ok (.getfield 170, 3) := dk_180 (by decide +kernel)
theorem dX12_scale_193 : decode cX12_scale 193 = .ok (.bipush 9, 2) := dk_16 (by decide +kernel)
theorem dX12_scale_195 : decode cX12_scale 195 = .ok (.iload 6, 2) := dk_21 (by decide +kernel)
theorem dX12_scale_197 : decode cX12_scale 197 = .ok (.imul, 1) := dk_104 (by decide +kernel)
theorem dX12_scale_198 : decode cX12_scale 198 = .ok (.iload 12, 2) := dk_21 (by decide +kernel)
theorem dX12_scale_200 : decode cX12_scale 200 = .ok (.iadd, 1) := dk_96 (by decide +kernel)
theorem dX12_scale_201 : decode cX12_scale 201 = .ok (.iaload, 1) := dk_46 (by decide +kernel)
theorem dX12_scale_202 : decode cX12_scale 202 = .ok (.i2l, 1) := dk_133 (by decide +kernel)
theorem dX12_scale_203 : decode cX12_scale 203 = .ok (.lmul, 1) := dk_105 (by decide +kernel)
theorem dX12_scale_204 : decode cX12_scale 204 = .ok (.lload 10, 2) := dk_22 (by decide +kernel)
theorem dX12_scale_206 : decode cX12_scale 206 = .ok (.aload_n 0, 1) := dk_42 (by decide +kernel)
theorem dX12_scale_207 : decode cX12_scale 207 = .ok (.getfield 173, 3) := dk_180 (by decide +kernel)
theorem dX12_scale_210 : decode cX12_scale 210 = .ok (.bipush 9, 2) := dk_16 (by decide +kernel)
theorem dX12_scale_212 : decode cX12_scale 212 = .ok (.iload 6, 2) := dk_21 (by decide +kernel)
theorem dX12_scale_214 : decode cX12_scale 214 = .ok (.imul, 1) := dk_104 (by decide +kernel)
theorem dX12_scale_215 : decode cX12_scale 215 = .ok (.iload 12, 2) := dk_21 (by decide +kernel)
theorem dX12_scale_217 : decode cX12_scale 217 = .ok (.iadd, 1) := dk_96 (by decide +kernel)
theorem dX12_scale_218 : decode cX12_scale 218 = .ok (.iaload, 1) := dk_46 (by decide +kernel)
theorem dX12_scale_219 : decode cX12_scale 219 = .ok (.i2l, 1) := dk_133 (by decide +kernel)
theorem dX12_scale_220 : decode cX12_scale 220 = .ok (.lmul, 1) := dk_105 (by decide +kernel)
theorem dX12_scale_221 : decode cX12_scale 221 = .ok (.iload 4, 2) := dk_21 (by decide +kernel)
theorem dX12_scale_223 : decode cX12_scale 223 = .ok (.invokevirtual 634, 3) := dk_182 (by decide +kernel)
theorem dX12_scale_226 : decode cX12_scale 226 = .ok (.iinc 12 1, 3) := dk_132 (by decide +kernel)
theorem dX12_scale_229 : decode cX12_scale 229 = .ok (.goto (-60), 3) := dk_167 (by decide +kernel)
theorem dX12_scale_232 : decode cX12_scale 232 = .ok (.return_, 1) := dk_177 (by decide +kernel)
def wsRX12_scale : List Cond := .code yX12_scale cX12_scale 13 none :: ([.fieldLink RX12 170 "OptimaWorksModel" "top" "[I", .fieldLink RX12 515 "OptimaWorksModel" "stop" "I", .fieldLink RX12 173 "OptimaWorksModel" "under" "[I"] ++ wsX120 ++ (wsV RX12 638 RX12 yX12_hasVariables wsRX12_hasVariables) ++ (wsV RX12 518 RX12 yX12_faultAt wsRX12_faultAt) ++ (wsV RX12 634 RX12 yX12_put1 wsRX12_put1))
theorem iwsRX12_scale_in12 : ∀ w ∈ wsX120, w ∈ wsRX12_scale := fun _ h => List.mem_cons_of_mem _ (List.mem_append_left _ (List.mem_append_left _ (List.mem_append_left _ (List.mem_append_right _ h))))
theorem gwsRX12_scale_0 : GoodIn wsRX12_scale (wsV RX12 638 RX12 yX12_hasVariables wsRX12_hasVariables) := goodIn_sub (fun _ h => List.mem_cons_of_mem _ (List.mem_append_left _ (List.mem_append_left _ (List.mem_append_right _ h)))) (gdV (by decide +kernel) gdwsRX12_hasVariables)
theorem gwsRX12_scale_1 : GoodIn wsRX12_scale (wsV RX12 518 RX12 yX12_faultAt wsRX12_faultAt) := goodIn_sub (fun _ h => List.mem_cons_of_mem _ (List.mem_append_left _ (List.mem_append_right _ h))) (gdV (by decide +kernel) gdwsRX12_faultAt)
theorem gwsRX12_scale_2 : GoodIn wsRX12_scale (wsV RX12 634 RX12 yX12_put1 wsRX12_put1) := goodIn_sub (fun _ h => List.mem_cons_of_mem _ (List.mem_append_right _ h)) (gdV (by decide +kernel) gdwsRX12_put1)
theorem gdwsRX12_scale : wsRX12_scale.all goodWord = true := gdC rfl (gdA (gdA (gdA (gdA (by decide +kernel : ([.fieldLink RX12 170 "OptimaWorksModel" "top" "[I", .fieldLink RX12 515 "OptimaWorksModel" "stop" "I", .fieldLink RX12 173 "OptimaWorksModel" "under" "[I"] : List Cond).all goodWord = true) gdwsX120) (gdV (by decide +kernel) gdwsRX12_hasVariables)) (gdV (by decide +kernel) gdwsRX12_faultAt)) (gdV (by decide +kernel) gdwsRX12_put1))
theorem hm_r_X12_scale_0 : (.fieldLink RX12 170 "OptimaWorksModel" "top" "[I" : Cond) ∈ wsRX12_scale := by decide +kernel
theorem hm_r_X12_scale_1 : (.fieldLink RX12 515 "OptimaWorksModel" "stop" "I" : Cond) ∈ wsRX12_scale := by decide +kernel
theorem hm_r_X12_scale_2 : (.fieldLink RX12 173 "OptimaWorksModel" "under" "[I" : Cond) ∈ wsRX12_scale := by decide +kernel
set_option maxHeartbeats 4000000 in
set_option maxRecDepth 100000 in
/-- scale(v, w, by, p) -/
theorem r_X12_scale (l : Launch) (dC : Nat → ClassId) (dI : Nat → Nat → Nat) (a : Nat → Nat) (k : Nat → ClassId) (h0 : Nat) (vi : Nat → Int32) (vj : Nat → Int64) (vF : Nat → Nat → Int32) (vG : Nat → Nat → Int64) (vn : Nat) (wn : Nat) (bY : Int32) (pv : Int32) (hvn : vn < 100) (hwn : wn < 100) (hrv : RowU (vF 49) (vF 50) vn) (hrw : RowU (vF 49) (vF 50) wn) (sz : Nat) : Met l yX12_scale wsRX12_scale ({ frames := 2, cells := 0, slots := 0, locals := 62 }) (va_Pc [.ref h0, .int (nI vn), .int (nI wn), .int bY, .int pv] (fun U => U.heap.size = sz ∧ va_P (dC, dI) vwCl (WR a k h0 vi vj vF vG) U.heap ∧ va_K (dC, dI) vwCl (tX12 k) U ∧ va_D (fun _ => True) (WR a k h0 vi vj vF vG))) (va_Qv (fun (u : (Int32) × (Int32) × (Nat → Int32) × (Nat → Int32)) => (∀ v9, v9 < 100 → RowU (vF 49) (vF 50) v9 → RowU (u.2.2.1) (u.2.2.2) v9) ∧ (∀ q, (q < 9 * vn ∨ 9 * vn + 9 ≤ q) → (u.2.2.1) q = vF 49 q) ∧ (∀ q, (q < 9 * vn ∨ 9 * vn + 9 ≤ q) → (u.2.2.2) q = vF 50 q) ∧ ((u.1) = vi 21 ∨ 0 < ((u.1)).toInt)) (fun (u : (Int32) × (Int32) × (Nat → Int32) × (Nat → Int32)) t => va_P (dC, dI) vwCl (WR a k h0 (fT (fT vi 21 (u.1)) 22 (u.2.1)) vj (fT (fT vF 49 (u.2.2.1)) 50 (u.2.2.2)) vG) t.heap ∧ va_D (va_A (WR a k h0 vi vj vF vG) sz) (WR a k h0 (fT (fT vi 21 (u.1)) 22 (u.2.1)) vj (fT (fT vF 49 (u.2.2.1)) 50 (u.2.2.2)) vG)) (va_A (WR a k h0 vi vj vF vG) sz)) 0 0 (va_A (WR a k h0 vi vj vF vG) sz) := by
  refine Met.ofW (cc := cX12_scale) (maxL := 13) (ret := none) (by decide) rfl ?_
  intro p e s m args below meth c s₁ B hml hv
  obtain ⟨rfl, hsz, hP, hK, hD0⟩ := hv
  have hx := B.exec
  have hb := B.bytes
  have hr := B.returns
  have hts := atoms_spec (ws := wsRX12_scale) B.pre
  have hown : s.vm.findClass RX12 = some m.cls := findClass_of_methodNamed B.named
  have hlocks := B.notSynchronized
  subst hsz
  have hD := hD0.self (sz := s.heap.size)
  generalize hAe : va_A (WR a k h0 vi vj vF vG) s.heap.size = A at hD ⊢
  have hA : ∀ q : Nat, s.heap.size ≤ q → A q := fun q h => by rw [← hAe]; exact Or.inr h
  have hS : va_S A s.heap s.heap [] := va_S.rf
  have hl := lv_entry ([.ref h0, .int (nI vn), .int (nI wn), .int bY, .int pv]) (n := 13) (Nat.le_of_ble_eq_true rfl)
  rw [lg_entry_eq]
  generalize (lg_sl ([.ref h0, .int (nI vn), .int (nI wn), .int bY, .int pv]) ++ List.replicate (13 - (lg_sl ([.ref h0, .int (nI vn), .int (nI wn), .int bY, .int pv])).length) Slot.unset).toArray = ls at hl ⊢
  have hl : lv_has ls 13 [(0, .ref h0), (1, .int (nI vn)), (2, .int (nI wn)), (3, .int bY), (4, .int pv)] := hl
  refine lv_iload_n hx hb dX12_scale_0 rfl (lv_at hl 3 rfl) ?_
  refine W.cut (pc := 65) (fun H locs ls stk => ∃ (s3 : Int32) (p3 : Int32), (¬ (s3).toInt ≤ 0 ∨ (s3 = vi 21 ∧ (bY = 0 ∨ ((∀ q, 1 ≤ q → q < 9 → vF 49 (9 * wn + q) = 0) ∧ vF 49 (9 * wn) ≠ 0)))) ∧  stk = [] ∧ va_P (dC, dI) vwCl (WR a k h0 (fT (fT vi 21 s3) 22 p3) vj vF vG) H ∧ va_D A (WR a k h0 (fT (fT vi 21 s3) 22 p3) vj vF vG) ∧ va_S A s.heap H locs ∧ lv_has ls 13 [(0, .ref h0), (1, .int (nI vn)), (2, .int (nI wn)), (3, .int bY), (4, .int pv)]) (fun join1 => ?_) ?_
  · refine lv_if_eq (tgt := 15) hx hb dX12_scale_1 (by decide) (fun c_1 => ?_) (fun c_1 => ?_)
    · have t_1 : (bY).toInt = 0 := toI_eq c_1 rfl (by decide)
      refine lv_aload_n hx hb dX12_scale_15 rfl (lv_at hl 0 rfl) ?_
      refine lv_iload_n hx hb dX12_scale_16 rfl (lv_at hl 1 rfl) ?_
      have hFc := allFree hD hS hA
      refine va_calli (va_runV (As := [.int (nI vn)]) (rest := []) ⟨hx, hb, hml, hown, hts⟩ (r_X12_hasVariables l dC dI a k h0 vi vj vF vG vn (by first | with_reducible assumption | decide | omega | rfl | assumption) s.heap.size) (cwV 1 hts gwsRX12_scale_0 rfl rfl rfl hd_yX12_hasVariables_RX12 (by decide +kernel)) (fz_pre (va_recv hK hP (ci := 12) (q0 := 0) rfl rfl) hP hK hD) rfl rfl hl.1 rfl (lv_room (Nat.le_of_ble_eq_true rfl)) dX12_scale_17 (by decide +kernel)) hS (fun q _ h => hFc q h) hFc (fun r17 u t9_ H locs ht hvm hw9 hB9 hz1 hk1 hS => ?_)
      have hP : va_P (dC, dI) vwCl (WR a k h0 vi vj vF vG) H := fz_P ht hB9.1
      have hD := fz_sd hP (hB9.2.weaken (fun _ q _ h => hFc q.1 h)) rfl
      have f17_0 := hw9
      try dsimp only at f17_0
      have f17_0 : ((r17) = 0 ∧ ∀ q, 1 ≤ q → q < 9 → (vF 49) (9 * vn + q) = 0) ∨ ((r17) = 1 ∧ ∃ q, 1 ≤ q ∧ q < 9 ∧ (vF 49) (9 * vn + q) ≠ 0) := f17_0
      refine lv_if_eq (tgt := 41) hx hb dX12_scale_20 (by decide) (fun c_20 => ?_) (fun c_20 => ?_)
      · have t_20 : (r17).toInt = 0 := toI_eq c_20 rfl (by decide)
        refine lv_iload_n hx hb dX12_scale_41 rfl (lv_at hl 3 rfl) ?_
        refine lv_if_eq (tgt := 65) hx hb dX12_scale_42 (by decide) (fun c_42 => ?_) (fun c9 => False.elim (by have t9 : ¬ (bY).toInt = 0 := toI_neq c9 rfl (by decide); omega))
        have t_42 : (bY).toInt = 0 := toI_eq c_42 rfl (by decide)
        have e9 : fT (fT vi 21 (vi 21)) 22 (vi 22) = vi := by funext q9; by_cases h9_21 : q9 = 21; (subst h9_21; exact ((fT_ne _ _ (Nat.ne_of_beq_eq_false rfl)).trans (fT_eq _ _ _)).trans (Eq.trans (by first | with_reducible rfl | with_reducible assumption | (symm; with_reducible assumption) | rfl | assumption | (symm; assumption) | (subst_vars; rfl)) (Eq.refl _).symm)); by_cases h9_22 : q9 = 22; (subst h9_22; exact (fT_eq _ _ _).trans (Eq.trans (by first | with_reducible rfl | with_reducible assumption | (symm; with_reducible assumption) | rfl | assumption | (symm; assumption) | (subst_vars; rfl)) (Eq.refl _).symm)); exact ((fT_ne _ _ h9_22).trans (fT_ne _ _ h9_21)).trans (Eq.refl _).symm
        have hP := wr_Pi e9 hP
        have hD := wr_Di e9 hD
        clear e9
        have hl : lv_has _ _ ([(0, .ref h0), (1, .int (nI vn)), (2, .int (nI wn)), (3, .int bY), (4, .int pv)]) := lv_sub hl [0, 1, 2, 3, 4] rfl
        exact join1 _ _ _ _ ⟨(vi 21), (vi 22), Or.inr ⟨rfl, Or.inl c_1⟩, rfl, hP, hD, hS, hl⟩
      · have t_20 : ¬ (r17).toInt = 0 := toI_neq c_20 rfl (by decide)
        refine lv_aload_n hx hb dX12_scale_23 rfl (lv_at hl 0 rfl) ?_
        refine lv_iload_n hx hb dX12_scale_24 rfl (lv_at hl 2 rfl) ?_
        have hFc := allFree hD hS hA
        refine va_calli (va_runV (As := [.int (nI wn)]) (rest := []) ⟨hx, hb, hml, hown, hts⟩ (r_X12_hasVariables l dC dI a k h0 vi vj vF vG wn (by first | with_reducible assumption | decide | omega | rfl | assumption) H.size) (cwV 1 hts gwsRX12_scale_0 rfl rfl rfl hd_yX12_hasVariables_RX12 (by decide +kernel)) (fz_pre (va_recv hK hP (ci := 12) (q0 := 0) rfl rfl) hP hK hD) rfl rfl hl.1 rfl (lv_room (Nat.le_of_ble_eq_true rfl)) dX12_scale_25 (by decide +kernel)) hS (fun q _ h => hFc q h) hFc (fun r25 u t9_ H locs ht hvm hw9 hB9 hz1 hk1 hS => ?_)
        have hP : va_P (dC, dI) vwCl (WR a k h0 vi vj vF vG) H := fz_P ht hB9.1
        have hD := fz_sd hP (hB9.2.weaken (fun _ q _ h => hFc q.1 h)) rfl
        have f25_0 := hw9
        try dsimp only at f25_0
        have f25_0 : ((r25) = 0 ∧ ∀ q, 1 ≤ q → q < 9 → (vF 49) (9 * wn + q) = 0) ∨ ((r25) = 1 ∧ ∃ q, 1 ≤ q ∧ q < 9 ∧ (vF 49) (9 * wn + q) ≠ 0) := f25_0
        refine lv_if_eq (tgt := 41) hx hb dX12_scale_28 (by decide) (fun c_28 => ?_) (fun c_28 => ?_)
        · have t_28 : (r25).toInt = 0 := toI_eq c_28 rfl (by decide)
          refine lv_iload_n hx hb dX12_scale_41 rfl (lv_at hl 3 rfl) ?_
          refine lv_if_eq (tgt := 65) hx hb dX12_scale_42 (by decide) (fun c_42 => ?_) (fun c9 => False.elim (by have t9 : ¬ (bY).toInt = 0 := toI_neq c9 rfl (by decide); omega))
          have t_42 : (bY).toInt = 0 := toI_eq c_42 rfl (by decide)
          have e9 : fT (fT vi 21 (vi 21)) 22 (vi 22) = vi := by funext q9; by_cases h9_21 : q9 = 21; (subst h9_21; exact ((fT_ne _ _ (Nat.ne_of_beq_eq_false rfl)).trans (fT_eq _ _ _)).trans (Eq.trans (by first | with_reducible rfl | with_reducible assumption | (symm; with_reducible assumption) | rfl | assumption | (symm; assumption) | (subst_vars; rfl)) (Eq.refl _).symm)); by_cases h9_22 : q9 = 22; (subst h9_22; exact (fT_eq _ _ _).trans (Eq.trans (by first | with_reducible rfl | with_reducible assumption | (symm; with_reducible assumption) | rfl | assumption | (symm; assumption) | (subst_vars; rfl)) (Eq.refl _).symm)); exact ((fT_ne _ _ h9_22).trans (fT_ne _ _ h9_21)).trans (Eq.refl _).symm
          have hP := wr_Pi e9 hP
          have hD := wr_Di e9 hD
          clear e9
          have hl : lv_has _ _ ([(0, .ref h0), (1, .int (nI vn)), (2, .int (nI wn)), (3, .int bY), (4, .int pv)]) := lv_sub hl [0, 1, 2, 3, 4] rfl
          exact join1 _ _ _ _ ⟨(vi 21), (vi 22), Or.inr ⟨rfl, Or.inl c_1⟩, rfl, hP, hD, hS, hl⟩
        · have t_28 : ¬ (r25).toInt = 0 := toI_neq c_28 rfl (by decide)
          refine lv_aload_n hx hb dX12_scale_31 rfl (lv_at hl 0 rfl) ?_
          refine lv_iconst (v := 5) hx hb dX12_scale_32 (by decide) ?_
          refine lv_iload hx hb dX12_scale_33 (lv_at hl 4 rfl) ?_
          have hFc := allFree hD hS hA
          refine va_callv (va_runV (As := [.int 5, .int pv]) (rest := []) ⟨hx, hb, hml, hown, hts⟩ (r_X12_faultAt l dC dI a k h0 vi vj vF vG 5 pv (by first | with_reducible assumption | decide | omega | rfl | assumption) H.size) (cwV 2 hts gwsRX12_scale_1 rfl rfl rfl hd_yX12_faultAt_RX12 (by decide +kernel)) (fz_pre (va_recv hK hP (ci := 12) (q0 := 0) rfl rfl) hP hK hD) rfl rfl hl.1 rfl (lv_room (Nat.le_of_ble_eq_true rfl)) dX12_scale_35 (by decide +kernel)) hS (fun q _ h => hFc q h) hFc (fun u t9_ H locs ht hvm hw9 hB9 hz1 hk1 hS => ?_)
          revert u hw9 hB9
          refine fz_p2 ?_
          intro s235 p235 hw9 hB9
          try dsimp only at hw9 hB9
          have hP : va_P (dC, dI) vwCl (WR a k h0 (fT (fT vi 21 s235) 22 p235) vj vF vG) H := fz_P ht hB9.1
          have hD := fz_sd hP (hB9.2.weaken (fun _ q _ h => hFc q.1 h)) rfl
          revert hw9
          refine fz_a2 ?_
          intro f35_0 f35_1
          have f35_0 : (0 < (vi 21).toInt ∧ s235 = (vi 21) ∧ p235 = (vi 22)) ∨ (¬ 0 < (vi 21).toInt ∧ s235 = 5 ∧ p235 = pv) := f35_0
          refine lv_goto (tgt := 65) hx hb dX12_scale_38 (by decide) ?_
          have hl : lv_has _ _ ([(0, .ref h0), (1, .int (nI vn)), (2, .int (nI wn)), (3, .int bY), (4, .int pv)]) := lv_sub hl [0, 1, 2, 3, 4] rfl
          exact join1 _ _ _ _ ⟨s235, p235, Or.inl (by rcases f35_0 with h9 | h9; (rw [h9.2.1]; omega); (rw [h9.2.1]; decide)), rfl, hP, hD, hS, hl⟩
    · have t_1 : ¬ (bY).toInt = 0 := toI_neq c_1 rfl (by decide)
      refine lv_aload_n hx hb dX12_scale_4 rfl (lv_at hl 0 rfl) ?_
      refine lv_iload_n hx hb dX12_scale_5 rfl (lv_at hl 2 rfl) ?_
      have hFc := allFree hD hS hA
      refine va_calli (va_runV (As := [.int (nI wn)]) (rest := []) ⟨hx, hb, hml, hown, hts⟩ (r_X12_hasVariables l dC dI a k h0 vi vj vF vG wn (by first | with_reducible assumption | decide | omega | rfl | assumption) s.heap.size) (cwV 1 hts gwsRX12_scale_0 rfl rfl rfl hd_yX12_hasVariables_RX12 (by decide +kernel)) (fz_pre (va_recv hK hP (ci := 12) (q0 := 0) rfl rfl) hP hK hD) rfl rfl hl.1 rfl (lv_room (Nat.le_of_ble_eq_true rfl)) dX12_scale_6 (by decide +kernel)) hS (fun q _ h => hFc q h) hFc (fun r6 u t9_ H locs ht hvm hw9 hB9 hz1 hk1 hS => ?_)
      have hP : va_P (dC, dI) vwCl (WR a k h0 vi vj vF vG) H := fz_P ht hB9.1
      have hD := fz_sd hP (hB9.2.weaken (fun _ q _ h => hFc q.1 h)) rfl
      have f6_0 := hw9
      try dsimp only at f6_0
      have f6_0 : ((r6) = 0 ∧ ∀ q, 1 ≤ q → q < 9 → (vF 49) (9 * wn + q) = 0) ∨ ((r6) = 1 ∧ ∃ q, 1 ≤ q ∧ q < 9 ∧ (vF 49) (9 * wn + q) ≠ 0) := f6_0
      refine lv_if_eq (tgt := 41) hx hb dX12_scale_9 (by decide) (fun c_9 => ?_) (fun c_9 => ?_)
      · have t_9 : (r6).toInt = 0 := toI_eq c_9 rfl (by decide)
        refine lv_iload_n hx hb dX12_scale_41 rfl (lv_at hl 3 rfl) ?_
        refine lv_if_eq (tgt := 65) hx hb dX12_scale_42 (by decide) (fun c9 => False.elim (by have t9 : (bY).toInt = 0 := toI_eq c9 rfl (by decide); omega)) (fun c_42 => ?_)
        have t_42 : ¬ (bY).toInt = 0 := toI_neq c_42 rfl (by decide)
        refine lv_aload_n hx hb dX12_scale_45 rfl (lv_at hl 0 rfl) ?_
        refine va_get (D := (dC, dI)) (ci := 12) (v := .ref (a 49)) (C := RX12) (T := TX12) (N := 163) (fs := fM (vS a vi vj)) hx hb hts iwsRX12_scale_in12 hown hK hP 0 rfl rfl 78 (by decide) (hts _ hm_r_X12_scale_0) (fun _ h9 => h9) rfl dX12_scale_46 ?_
        refine lv_bipush (v := 9) hx hb dX12_scale_49 (by decide) ?_
        refine lv_iload_n hx hb dX12_scale_51 rfl (lv_at hl 2 rfl) ?_
        refine lv_imul hx hb dX12_scale_52 ?_
        refine lv_topi (fun y1 hy1 => ?_)
        obtain rfl : (nI (9 * wn)) = y1 := (hy1.trans (pk_mul 9 wn)).symm
        refine va_iald (cA := k 49) (n := 900) (f := (vF 49)) hx hb hK hP 50 49 (WR_get 49 (by decide)) (TR_get 49 (by decide)) (vp_in_nI (show (9 * wn) < 900 by omega) (by omega)) dX12_scale_53 ?_
        refine lv_topi (fun y2 hy2 => ?_)
        obtain rfl : ((vF 49) (9 * wn)) = y2 := (hy2.trans (by rw [nI_clamp (by omega)])).symm
        refine lv_if_ne (tgt := 65) hx hb dX12_scale_54 (by decide) (fun c_54 => ?_) (fun c_54 => ?_)
        · have t_54 : (((vF 49) (9 * wn))).toInt ≠ 0 := toI_ne c_54 rfl (by decide)
          have e9 : fT (fT vi 21 (vi 21)) 22 (vi 22) = vi := by funext q9; by_cases h9_21 : q9 = 21; (subst h9_21; exact ((fT_ne _ _ (Nat.ne_of_beq_eq_false rfl)).trans (fT_eq _ _ _)).trans (Eq.trans (by first | with_reducible rfl | with_reducible assumption | (symm; with_reducible assumption) | rfl | assumption | (symm; assumption) | (subst_vars; rfl)) (Eq.refl _).symm)); by_cases h9_22 : q9 = 22; (subst h9_22; exact (fT_eq _ _ _).trans (Eq.trans (by first | with_reducible rfl | with_reducible assumption | (symm; with_reducible assumption) | rfl | assumption | (symm; assumption) | (subst_vars; rfl)) (Eq.refl _).symm)); exact ((fT_ne _ _ h9_22).trans (fT_ne _ _ h9_21)).trans (Eq.refl _).symm
          have hP := wr_Pi e9 hP
          have hD := wr_Di e9 hD
          clear e9
          have hl : lv_has _ _ ([(0, .ref h0), (1, .int (nI vn)), (2, .int (nI wn)), (3, .int bY), (4, .int pv)]) := lv_sub hl [0, 1, 2, 3, 4] rfl
          exact join1 _ _ _ _ ⟨(vi 21), (vi 22), Or.inr ⟨rfl, Or.inr ⟨(f6_0.resolve_right (fun h => by (have h9 := h.1); rw [h9] at c_9; exact absurd c_9 (by decide))).2, c_54⟩⟩, rfl, hP, hD, hS, hl⟩
        · have t_54 : (((vF 49) (9 * wn))).toInt = 0 := toI_nne c_54 rfl (by decide)
          refine lv_aload_n hx hb dX12_scale_57 rfl (lv_at hl 0 rfl) ?_
          refine lv_bipush (v := 6) hx hb dX12_scale_58 (by decide) ?_
          refine lv_iload hx hb dX12_scale_60 (lv_at hl 4 rfl) ?_
          have hFc := allFree hD hS hA
          refine va_callv (va_runV (As := [.int 6, .int pv]) (rest := []) ⟨hx, hb, hml, hown, hts⟩ (r_X12_faultAt l dC dI a k h0 vi vj vF vG 6 pv (by first | with_reducible assumption | decide | omega | rfl | assumption) H.size) (cwV 2 hts gwsRX12_scale_1 rfl rfl rfl hd_yX12_faultAt_RX12 (by decide +kernel)) (fz_pre (va_recv hK hP (ci := 12) (q0 := 0) rfl rfl) hP hK hD) rfl rfl hl.1 rfl (lv_room (Nat.le_of_ble_eq_true rfl)) dX12_scale_62 (by decide +kernel)) hS (fun q _ h => hFc q h) hFc (fun u t9_ H locs ht hvm hw9 hB9 hz1 hk1 hS => ?_)
          revert u hw9 hB9
          refine fz_p2 ?_
          intro s262 p262 hw9 hB9
          try dsimp only at hw9 hB9
          have hP : va_P (dC, dI) vwCl (WR a k h0 (fT (fT vi 21 s262) 22 p262) vj vF vG) H := fz_P ht hB9.1
          have hD := fz_sd hP (hB9.2.weaken (fun _ q _ h => hFc q.1 h)) rfl
          revert hw9
          refine fz_a2 ?_
          intro f62_0 f62_1
          have f62_0 : (0 < (vi 21).toInt ∧ s262 = (vi 21) ∧ p262 = (vi 22)) ∨ (¬ 0 < (vi 21).toInt ∧ s262 = 6 ∧ p262 = pv) := f62_0
          have hl : lv_has _ _ ([(0, .ref h0), (1, .int (nI vn)), (2, .int (nI wn)), (3, .int bY), (4, .int pv)]) := lv_sub hl [0, 1, 2, 3, 4] rfl
          exact join1 _ _ _ _ ⟨s262, p262, Or.inl (by rcases f62_0 with h9 | h9; (rw [h9.2.1]; omega); (rw [h9.2.1]; decide)), rfl, hP, hD, hS, hl⟩
      · have t_9 : ¬ (r6).toInt = 0 := toI_neq c_9 rfl (by decide)
        refine lv_goto (tgt := 31) hx hb dX12_scale_12 (by decide) ?_
        refine lv_aload_n hx hb dX12_scale_31 rfl (lv_at hl 0 rfl) ?_
        refine lv_iconst (v := 5) hx hb dX12_scale_32 (by decide) ?_
        refine lv_iload hx hb dX12_scale_33 (lv_at hl 4 rfl) ?_
        have hFc := allFree hD hS hA
        refine va_callv (va_runV (As := [.int 5, .int pv]) (rest := []) ⟨hx, hb, hml, hown, hts⟩ (r_X12_faultAt l dC dI a k h0 vi vj vF vG 5 pv (by first | with_reducible assumption | decide | omega | rfl | assumption) H.size) (cwV 2 hts gwsRX12_scale_1 rfl rfl rfl hd_yX12_faultAt_RX12 (by decide +kernel)) (fz_pre (va_recv hK hP (ci := 12) (q0 := 0) rfl rfl) hP hK hD) rfl rfl hl.1 rfl (lv_room (Nat.le_of_ble_eq_true rfl)) dX12_scale_35 (by decide +kernel)) hS (fun q _ h => hFc q h) hFc (fun u t9_ H locs ht hvm hw9 hB9 hz1 hk1 hS => ?_)
        revert u hw9 hB9
        refine fz_p2 ?_
        intro s235_1 p235_1 hw9 hB9
        try dsimp only at hw9 hB9
        have hP : va_P (dC, dI) vwCl (WR a k h0 (fT (fT vi 21 s235_1) 22 p235_1) vj vF vG) H := fz_P ht hB9.1
        have hD := fz_sd hP (hB9.2.weaken (fun _ q _ h => hFc q.1 h)) rfl
        revert hw9
        refine fz_a2 ?_
        intro f35_1_0 f35_1_1
        have f35_1_0 : (0 < (vi 21).toInt ∧ s235_1 = (vi 21) ∧ p235_1 = (vi 22)) ∨ (¬ 0 < (vi 21).toInt ∧ s235_1 = 5 ∧ p235_1 = pv) := f35_1_0
        refine lv_goto (tgt := 65) hx hb dX12_scale_38 (by decide) ?_
        have hl : lv_has _ _ ([(0, .ref h0), (1, .int (nI vn)), (2, .int (nI wn)), (3, .int bY), (4, .int pv)]) := lv_sub hl [0, 1, 2, 3, 4] rfl
        exact join1 _ _ _ _ ⟨s235_1, p235_1, Or.inl (by rcases f35_1_0 with h9 | h9; (rw [h9.2.1]; omega); (rw [h9.2.1]; decide)), rfl, hP, hD, hS, hl⟩
  · rintro H locs ls stk ⟨s3, p3, hs3, rfl, hP, hD, hS, hl⟩
    refine lv_aload_n hx hb dX12_scale_65 rfl (lv_at hl 0 rfl) ?_
    refine va_get (D := (dC, dI)) (ci := 12) (v := .int s3) (C := RX12) (T := TX12) (N := 163) (fs := fM (vS a (fT (fT vi 21 s3) 22 p3) vj)) hx hb hts iwsRX12_scale_in12 hown hK hP 0 rfl rfl 21 (by decide) (hts _ hm_r_X12_scale_1) (fun _ h9 => h9) rfl dX12_scale_66 ?_
    refine lv_if_le (tgt := 73) hx hb dX12_scale_69 (by decide) (fun c_69 => ?_) (fun c_69 => ?_)
    · have t_69 : (s3).toInt ≤ 0 := toI_le c_69 rfl (by decide)
      have h39 := hs3.resolve_left (fun h => h (by omega))
      refine lv_aload_n hx hb dX12_scale_73 rfl (lv_at hl 0 rfl) ?_
      refine lv_iload_n hx hb dX12_scale_74 rfl (lv_at hl 2 rfl) ?_
      have hFc := allFree hD hS hA
      refine va_calli (va_runV (As := [.int (nI wn)]) (rest := []) ⟨hx, hb, hml, hown, hts⟩ (r_X12_hasVariables l dC dI a k h0 (fT (fT vi 21 s3) 22 p3) vj vF vG wn (by first | with_reducible assumption | decide | omega | rfl | assumption) H.size) (cwV 1 hts gwsRX12_scale_0 rfl rfl rfl hd_yX12_hasVariables_RX12 (by decide +kernel)) (fz_pre (va_recv hK hP (ci := 12) (q0 := 0) rfl rfl) hP hK hD) rfl rfl hl.1 rfl (lv_room (Nat.le_of_ble_eq_true rfl)) dX12_scale_75 (by decide +kernel)) hS (fun q _ h => hFc q h) hFc (fun r75 u t9_ H locs ht hvm hw9 hB9 hz1 hk1 hS => ?_)
      have hP : va_P (dC, dI) vwCl (WR a k h0 (fT (fT vi 21 s3) 22 p3) vj vF vG) H := fz_P ht hB9.1
      have hD := fz_sd hP (hB9.2.weaken (fun _ q _ h => hFc q.1 h)) rfl
      have f75_0 := hw9
      try dsimp only at f75_0
      have f75_0 : ((r75) = 0 ∧ ∀ q, 1 ≤ q → q < 9 → (vF 49) (9 * wn + q) = 0) ∨ ((r75) = 1 ∧ ∃ q, 1 ≤ q ∧ q < 9 ∧ (vF 49) (9 * wn + q) ≠ 0) := f75_0
      refine lv_istore hx hb dX12_scale_78 hl (by decide) rfl (fun ls (hl : lv_has ls _ ([(5, .int r75), (0, .ref h0), (1, .int (nI vn)), (2, .int (nI wn)), (3, .int bY), (4, .int pv)])) => ?_)
      refine lv_iload hx hb dX12_scale_80 (lv_at hl 0 rfl) ?_
      refine W.cut (pc := 104) (fun H locs ls stk => ∃ (ax : Nat) (bx : Nat), ((ax = wn ∧ bx = vn ∧ ¬ r75 = 0) ∨ (ax = vn ∧ bx = wn ∧ r75 = 0)) ∧  stk = [] ∧ va_P (dC, dI) vwCl (WR a k h0 (fT (fT vi 21 s3) 22 p3) vj vF vG) H ∧ va_D A (WR a k h0 (fT (fT vi 21 s3) 22 p3) vj vF vG) ∧ va_S A s.heap H locs ∧ lv_has ls 13 [(0, .ref h0), (1, .int (nI vn)), (2, .int (nI wn)), (3, .int bY), (4, .int pv), (6, .int (nI ax)), (7, .int (nI bx))]) (fun join2 => ?_) ?_
      · refine lv_if_eq (tgt := 89) hx hb dX12_scale_82 (by decide) (fun c_82 => ?_) (fun c_82 => ?_)
        · have t_82 : (r75).toInt = 0 := toI_eq c_82 rfl (by decide)
          refine lv_iload_n hx hb dX12_scale_89 rfl (lv_at hl 2 rfl) ?_
          refine lv_istore hx hb dX12_scale_90 hl (by decide) rfl (fun ls (hl : lv_has ls _ ([(6, .int (nI vn)), (5, .int r75), (0, .ref h0), (1, .int (nI vn)), (2, .int (nI wn)), (3, .int bY), (4, .int pv)])) => ?_)
          refine lv_iload hx hb dX12_scale_92 (lv_at hl 1 rfl) ?_
          refine lv_if_eq (tgt := 101) hx hb dX12_scale_94 (by decide) (fun c_94 => ?_) (fun c9 => False.elim (by have t9 : ¬ (r75).toInt = 0 := toI_neq c9 rfl (by decide); omega))
          have t_94 : (r75).toInt = 0 := toI_eq c_94 rfl (by decide)
          refine lv_iload_n hx hb dX12_scale_101 rfl (lv_at hl 4 rfl) ?_
          refine lv_istore hx hb dX12_scale_102 hl (by decide) rfl (fun ls (hl : lv_has ls _ ([(7, .int (nI wn)), (6, .int (nI vn)), (5, .int r75), (0, .ref h0), (1, .int (nI vn)), (2, .int (nI wn)), (3, .int bY), (4, .int pv)])) => ?_)
          have hl : lv_has _ _ ([(0, .ref h0), (1, .int (nI vn)), (2, .int (nI wn)), (3, .int bY), (4, .int pv), (6, .int (nI vn)), (7, .int (nI wn))]) := lv_sub hl [3, 4, 5, 6, 7, 1, 0] rfl
          exact join2 _ _ _ _ ⟨vn, wn, Or.inr ⟨rfl, rfl, c_82⟩, rfl, hP, hD, hS, hl⟩
        · have t_82 : ¬ (r75).toInt = 0 := toI_neq c_82 rfl (by decide)
          refine lv_iload_n hx hb dX12_scale_85 rfl (lv_at hl 3 rfl) ?_
          refine lv_goto (tgt := 90) hx hb dX12_scale_86 (by decide) ?_
          refine lv_istore hx hb dX12_scale_90 hl (by decide) rfl (fun ls (hl : lv_has ls _ ([(6, .int (nI wn)), (5, .int r75), (0, .ref h0), (1, .int (nI vn)), (2, .int (nI wn)), (3, .int bY), (4, .int pv)])) => ?_)
          refine lv_iload hx hb dX12_scale_92 (lv_at hl 1 rfl) ?_
          refine lv_if_eq (tgt := 101) hx hb dX12_scale_94 (by decide) (fun c9 => False.elim (by have t9 : (r75).toInt = 0 := toI_eq c9 rfl (by decide); omega)) (fun c_94 => ?_)
          have t_94 : ¬ (r75).toInt = 0 := toI_neq c_94 rfl (by decide)
          refine lv_iload_n hx hb dX12_scale_97 rfl (lv_at hl 3 rfl) ?_
          refine lv_goto (tgt := 102) hx hb dX12_scale_98 (by decide) ?_
          refine lv_istore hx hb dX12_scale_102 hl (by decide) rfl (fun ls (hl : lv_has ls _ ([(7, .int (nI vn)), (6, .int (nI wn)), (5, .int r75), (0, .ref h0), (1, .int (nI vn)), (2, .int (nI wn)), (3, .int bY), (4, .int pv)])) => ?_)
          have hl : lv_has _ _ ([(0, .ref h0), (1, .int (nI vn)), (2, .int (nI wn)), (3, .int bY), (4, .int pv), (6, .int (nI wn)), (7, .int (nI vn))]) := lv_sub hl [3, 4, 5, 6, 7, 1, 0] rfl
          exact join2 _ _ _ _ ⟨wn, vn, Or.inl ⟨rfl, rfl, c_82⟩, rfl, hP, hD, hS, hl⟩
      · rintro H locs ls stk ⟨ax, bx, hjx, rfl, hP, hD, hS, hl⟩
        refine lv_iload_n hx hb dX12_scale_104 rfl (lv_at hl 3 rfl) ?_
        refine W.cut (pc := 135) (fun H locs ls stk => ∃ (nl : Int64), (-2000000 ≤ (nl).toInt ∧ (nl).toInt ≤ 2000000) ∧  stk = [] ∧ va_P (dC, dI) vwCl (WR a k h0 (fT (fT vi 21 s3) 22 p3) vj vF vG) H ∧ va_D A (WR a k h0 (fT (fT vi 21 s3) 22 p3) vj vF vG) ∧ va_S A s.heap H locs ∧ lv_has ls 13 [(0, .ref h0), (1, .int (nI vn)), (2, .int (nI wn)), (3, .int bY), (4, .int pv), (6, .int (nI ax)), (7, .int (nI bx)), (8, .long nl)]) (fun join3 => ?_) ?_
        · refine lv_if_eq (tgt := 122) hx hb dX12_scale_105 (by decide) (fun c_105 => ?_) (fun c_105 => ?_)
          · have t_105 : (bY).toInt = 0 := toI_eq c_105 rfl (by decide)
            refine lv_aload_n hx hb dX12_scale_122 rfl (lv_at hl 0 rfl) ?_
            refine va_get (D := (dC, dI)) (ci := 12) (v := .ref (a 49)) (C := RX12) (T := TX12) (N := 163) (fs := fM (vS a (fT (fT vi 21 s3) 22 p3) vj)) hx hb hts iwsRX12_scale_in12 hown hK hP 0 rfl rfl 78 (by decide) (hts _ hm_r_X12_scale_0) (fun _ h9 => h9) rfl dX12_scale_123 ?_
            refine lv_bipush (v := 9) hx hb dX12_scale_126 (by decide) ?_
            refine lv_iload hx hb dX12_scale_128 (lv_at hl 6 rfl) ?_
            refine lv_imul hx hb dX12_scale_130 ?_
            refine lv_topi (fun y3 hy3 => ?_)
            obtain rfl : (nI (9 * bx)) = y3 := (hy3.trans (pk_mul 9 bx)).symm
            refine va_iald (cA := k 49) (n := 900) (f := (vF 49)) hx hb hK hP 50 49 (WR_get 49 (by decide)) (TR_get 49 (by decide)) (vp_in_nI (show (9 * bx) < 900 by omega) (by omega)) dX12_scale_131 ?_
            refine lv_topi (fun y4 hy4 => ?_)
            obtain rfl : ((vF 49) (9 * bx)) = y4 := (hy4.trans (by rw [nI_clamp (by omega)])).symm
            refine lv_i2l hx hb dX12_scale_132 rfl ?_
            refine lv_lstore hx hb dX12_scale_133 hl (by decide) rfl (fun ls (hl : lv_has ls _ ([(8, .long (((vF 49) (9 * bx))).toInt64), (0, .ref h0), (1, .int (nI vn)), (2, .int (nI wn)), (3, .int bY), (4, .int pv), (6, .int (nI ax)), (7, .int (nI bx))])) => ?_)
            have hl : lv_has _ _ ([(0, .ref h0), (1, .int (nI vn)), (2, .int (nI wn)), (3, .int bY), (4, .int pv), (6, .int (nI ax)), (7, .int (nI bx)), (8, .long ((((vF 49) (9 * bx))).toInt64))]) := lv_sub hl [1, 2, 3, 4, 5, 6, 7, 0] rfl
            exact join3 _ _ _ _ ⟨(((vF 49) (9 * bx))).toInt64, by (have q1 := hrv 0 (by omega)); (have q2 := hrw 0 (by omega)); rw [i64T]; rcases hjx with h9 | h9 <;> rw [h9.2.1] <;> (simp only [Nat.add_zero] at q1 q2) <;> omega, rfl, hP, hD, hS, hl⟩
          · have t_105 : ¬ (bY).toInt = 0 := toI_neq c_105 rfl (by decide)
            refine lv_aload_n hx hb dX12_scale_108 rfl (lv_at hl 0 rfl) ?_
            refine va_get (D := (dC, dI)) (ci := 12) (v := .ref (a 50)) (C := RX12) (T := TX12) (N := 163) (fs := fM (vS a (fT (fT vi 21 s3) 22 p3) vj)) hx hb hts iwsRX12_scale_in12 hown hK hP 0 rfl rfl 79 (by decide) (hts _ hm_r_X12_scale_2) (fun _ h9 => h9) rfl dX12_scale_109 ?_
            refine lv_bipush (v := 9) hx hb dX12_scale_112 (by decide) ?_
            refine lv_iload hx hb dX12_scale_114 (lv_at hl 6 rfl) ?_
            refine lv_imul hx hb dX12_scale_116 ?_
            refine lv_topi (fun y5 hy5 => ?_)
            obtain rfl : (nI (9 * bx)) = y5 := (hy5.trans (pk_mul 9 bx)).symm
            refine va_iald (cA := k 50) (n := 900) (f := (vF 50)) hx hb hK hP 51 50 (WR_get 50 (by decide)) (TR_get 50 (by decide)) (vp_in_nI (show (9 * bx) < 900 by omega) (by omega)) dX12_scale_117 ?_
            refine lv_topi (fun y6 hy6 => ?_)
            obtain rfl : ((vF 50) (9 * bx)) = y6 := (hy6.trans (by rw [nI_clamp (by omega)])).symm
            refine lv_i2l hx hb dX12_scale_118 rfl ?_
            refine lv_goto (tgt := 133) hx hb dX12_scale_119 (by decide) ?_
            refine lv_lstore hx hb dX12_scale_133 hl (by decide) rfl (fun ls (hl : lv_has ls _ ([(8, .long (((vF 50) (9 * bx))).toInt64), (0, .ref h0), (1, .int (nI vn)), (2, .int (nI wn)), (3, .int bY), (4, .int pv), (6, .int (nI ax)), (7, .int (nI bx))])) => ?_)
            have hl : lv_has _ _ ([(0, .ref h0), (1, .int (nI vn)), (2, .int (nI wn)), (3, .int bY), (4, .int pv), (6, .int (nI ax)), (7, .int (nI bx)), (8, .long ((((vF 50) (9 * bx))).toInt64))]) := lv_sub hl [1, 2, 3, 4, 5, 6, 7, 0] rfl
            exact join3 _ _ _ _ ⟨(((vF 50) (9 * bx))).toInt64, by (have q1 := hrv 0 (by omega)); (have q2 := hrw 0 (by omega)); rw [i64T]; rcases hjx with h9 | h9 <;> rw [h9.2.1] <;> (simp only [Nat.add_zero] at q1 q2) <;> omega, rfl, hP, hD, hS, hl⟩
        · rintro H locs ls stk ⟨nl, hnl, rfl, hP, hD, hS, hl⟩
          refine lv_iload_n hx hb dX12_scale_135 rfl (lv_at hl 3 rfl) ?_
          refine W.cut (pc := 166) (fun H locs ls stk => ∃ (dl : Int64), ((-2000000 ≤ (dl).toInt ∧ (dl).toInt ≤ 2000000) ∧ dl.toInt ≠ 0) ∧  stk = [] ∧ va_P (dC, dI) vwCl (WR a k h0 (fT (fT vi 21 s3) 22 p3) vj vF vG) H ∧ va_D A (WR a k h0 (fT (fT vi 21 s3) 22 p3) vj vF vG) ∧ va_S A s.heap H locs ∧ lv_has ls 13 [(0, .ref h0), (1, .int (nI vn)), (2, .int (nI wn)), (3, .int bY), (4, .int pv), (6, .int (nI ax)), (8, .long nl), (10, .long dl)]) (fun join4 => ?_) ?_
          · refine lv_if_eq (tgt := 153) hx hb dX12_scale_136 (by decide) (fun c_136 => ?_) (fun c_136 => ?_)
            · have t_136 : (bY).toInt = 0 := toI_eq c_136 rfl (by decide)
              refine lv_aload_n hx hb dX12_scale_153 rfl (lv_at hl 0 rfl) ?_
              refine va_get (D := (dC, dI)) (ci := 12) (v := .ref (a 50)) (C := RX12) (T := TX12) (N := 163) (fs := fM (vS a (fT (fT vi 21 s3) 22 p3) vj)) hx hb hts iwsRX12_scale_in12 hown hK hP 0 rfl rfl 79 (by decide) (hts _ hm_r_X12_scale_2) (fun _ h9 => h9) rfl dX12_scale_154 ?_
              refine lv_bipush (v := 9) hx hb dX12_scale_157 (by decide) ?_
              refine lv_iload hx hb dX12_scale_159 (lv_at hl 6 rfl) ?_
              refine lv_imul hx hb dX12_scale_161 ?_
              refine lv_topi (fun y7 hy7 => ?_)
              obtain rfl : (nI (9 * bx)) = y7 := (hy7.trans (pk_mul 9 bx)).symm
              refine va_iald (cA := k 50) (n := 900) (f := (vF 50)) hx hb hK hP 51 50 (WR_get 50 (by decide)) (TR_get 50 (by decide)) (vp_in_nI (show (9 * bx) < 900 by omega) (by omega)) dX12_scale_162 ?_
              refine lv_topi (fun y8 hy8 => ?_)
              obtain rfl : ((vF 50) (9 * bx)) = y8 := (hy8.trans (by rw [nI_clamp (by omega)])).symm
              refine lv_i2l hx hb dX12_scale_163 rfl ?_
              refine lv_lstore hx hb dX12_scale_164 hl (by decide) rfl (fun ls (hl : lv_has ls _ ([(10, .long (((vF 50) (9 * bx))).toInt64), (0, .ref h0), (1, .int (nI vn)), (2, .int (nI wn)), (3, .int bY), (4, .int pv), (6, .int (nI ax)), (7, .int (nI bx)), (8, .long nl)])) => ?_)
              have hl : lv_has _ _ ([(0, .ref h0), (1, .int (nI vn)), (2, .int (nI wn)), (3, .int bY), (4, .int pv), (6, .int (nI ax)), (8, .long nl), (10, .long ((((vF 50) (9 * bx))).toInt64))]) := lv_sub hl [1, 2, 3, 4, 5, 6, 8, 0] rfl
              exact join4 _ _ _ _ ⟨(((vF 50) (9 * bx))).toInt64, by (have q1 := hrv 0 (by omega)); (have q2 := hrw 0 (by omega)); rw [i64T]; rcases hjx with h9 | h9 <;> rw [h9.2.1] <;> (simp only [Nat.add_zero] at q1 q2) <;> omega, rfl, hP, hD, hS, hl⟩
            · have t_136 : ¬ (bY).toInt = 0 := toI_neq c_136 rfl (by decide)
              refine lv_aload_n hx hb dX12_scale_139 rfl (lv_at hl 0 rfl) ?_
              refine va_get (D := (dC, dI)) (ci := 12) (v := .ref (a 49)) (C := RX12) (T := TX12) (N := 163) (fs := fM (vS a (fT (fT vi 21 s3) 22 p3) vj)) hx hb hts iwsRX12_scale_in12 hown hK hP 0 rfl rfl 78 (by decide) (hts _ hm_r_X12_scale_0) (fun _ h9 => h9) rfl dX12_scale_140 ?_
              refine lv_bipush (v := 9) hx hb dX12_scale_143 (by decide) ?_
              refine lv_iload hx hb dX12_scale_145 (lv_at hl 6 rfl) ?_
              refine lv_imul hx hb dX12_scale_147 ?_
              refine lv_topi (fun y9 hy9 => ?_)
              obtain rfl : (nI (9 * bx)) = y9 := (hy9.trans (pk_mul 9 bx)).symm
              refine va_iald (cA := k 49) (n := 900) (f := (vF 49)) hx hb hK hP 50 49 (WR_get 49 (by decide)) (TR_get 49 (by decide)) (vp_in_nI (show (9 * bx) < 900 by omega) (by omega)) dX12_scale_148 ?_
              refine lv_topi (fun y10 hy10 => ?_)
              obtain rfl : ((vF 49) (9 * bx)) = y10 := (hy10.trans (by rw [nI_clamp (by omega)])).symm
              refine lv_i2l hx hb dX12_scale_149 rfl ?_
              refine lv_goto (tgt := 164) hx hb dX12_scale_150 (by decide) ?_
              refine lv_lstore hx hb dX12_scale_164 hl (by decide) rfl (fun ls (hl : lv_has ls _ ([(10, .long (((vF 49) (9 * bx))).toInt64), (0, .ref h0), (1, .int (nI vn)), (2, .int (nI wn)), (3, .int bY), (4, .int pv), (6, .int (nI ax)), (7, .int (nI bx)), (8, .long nl)])) => ?_)
              have hl : lv_has _ _ ([(0, .ref h0), (1, .int (nI vn)), (2, .int (nI wn)), (3, .int bY), (4, .int pv), (6, .int (nI ax)), (8, .long nl), (10, .long ((((vF 49) (9 * bx))).toInt64))]) := lv_sub hl [1, 2, 3, 4, 5, 6, 8, 0] rfl
              exact join4 _ _ _ _ ⟨(((vF 49) (9 * bx))).toInt64, by (have q2 := hrw 0 (by omega)); (have hb9 : bx = wn := by rcases hjx with h9 | h9; (exfalso; obtain ⟨h8, h7⟩ := (h39.2.resolve_left (fun h => c_136 h)); rcases f75_0 with h6 | ⟨h6, q5, h5, h4, h3⟩; (exact h9.2.2 h6.1); (exact h3 (h8 q5 h5 h4))); exact h9.2.1); rw [i64T, hb9]; (simp only [Nat.add_zero] at q2); (have hn9 : (vF 49 (9 * wn)).toInt ≠ 0 := fun h => (h39.2.resolve_left (fun h => c_136 h)).2 (Int32.toInt_inj.mp (by rw [h]; decide))); omega, rfl, hP, hD, hS, hl⟩
          · rintro H locs ls stk ⟨dl, hdl, rfl, hP, hD, hS, hl⟩
            refine lv_iconst (v := 0) hx hb dX12_scale_166 (by decide) ?_
            refine lv_istore hx hb dX12_scale_167 hl (by decide) rfl (fun ls (hl : lv_has ls _ ([(12, .int 0), (0, .ref h0), (1, .int (nI vn)), (2, .int (nI wn)), (3, .int bY), (4, .int pv), (6, .int (nI ax)), (8, .long nl), (10, .long dl)])) => ?_)
            have e9 : fT (fT vF 49 (vF 49)) 50 (vF 50) = vF := by funext q9; by_cases h9_49 : q9 = 49; (subst h9_49; exact ((fT_ne _ _ (Nat.ne_of_beq_eq_false rfl)).trans (fT_eq _ _ _)).trans (Eq.trans (by first | with_reducible rfl | with_reducible assumption | (symm; with_reducible assumption) | rfl | assumption | (symm; assumption) | (subst_vars; rfl)) (Eq.refl _).symm)); by_cases h9_50 : q9 = 50; (subst h9_50; exact (fT_eq _ _ _).trans (Eq.trans (by first | with_reducible rfl | with_reducible assumption | (symm; with_reducible assumption) | rfl | assumption | (symm; assumption) | (subst_vars; rfl)) (Eq.refl _).symm)); exact ((fT_ne _ _ h9_50).trans (fT_ne _ _ h9_49)).trans (Eq.refl _).symm
            have hP := wr_PF e9 hP
            have hD := wr_DF e9 hD
            clear e9
            have hl : lv_has _ _ ([(0, .ref h0), (1, .int (nI vn)), (2, .int (nI wn)), (4, .int pv), (6, .int (nI ax)), (8, .long nl), (10, .long dl), (12, .int (nI 0))]) := lv_sub hl [1, 2, 3, 5, 6, 7, 8, 0] rfl
            refine (fun (loop : ∀ (n9 : Nat) (k5 : Nat) (s4 : Int32) (p4 : Int32) (f49 : Nat → Int32) (f50 : Nat → Int32) (H : Heap) (locs : List Loc) (ls : Array Slot), (k5 ≤ 9) → (∀ v9, v9 < 100 → RowU (vF 49) (vF 50) v9 → RowU f49 f50 v9) → (∀ q, (q < 9 * vn ∨ 9 * vn + 9 ≤ q) → f49 q = vF 49 q) → (∀ q, (q < 9 * vn ∨ 9 * vn + 9 ≤ q) → f50 q = vF 50 q) → (s4 = vi 21 ∨ 0 < (s4).toInt) →  (9 < k5 + n9) → va_P (dC, dI) vwCl (WR a k h0 (fT (fT vi 21 s4) 22 p4) vj (fT (fT vF 49 f49) 50 f50) vG) H → va_D A (WR a k h0 (fT (fT vi 21 s4) 22 p4) vj (fT (fT vF 49 f49) 50 f50) vG) → va_S A s.heap H locs → lv_has ls 13 [(0, .ref h0), (1, .int (nI vn)), (2, .int (nI wn)), (4, .int pv), (6, .int (nI ax)), (8, .long nl), (10, .long dl), (12, .int (nI k5))] → W p l e _ s m _ below meth c H locs 0 0 _ (F0 m 169 ls [])) => loop (10) 0 s3 p3 (vF 49) (vF 50) _ _ _ (by omega) (fun u _ h => h) (fun q _ => rfl) (fun q _ => rfl) (Or.inl h39.1) (by omega) hP hD hS hl) ?_
            intro n9
            induction n9 with
            | zero => intro k5 s4 p4 f49 f50 H locs ls hk5 hpr ho1 ho2 hst hf9; exact False.elim (by omega)
            | succ n9 ih169 =>
              intro k5 s4 p4 f49 f50 H locs ls hk5 hpr ho1 ho2 hst hf169 hP hD hS hl
              refine lv_iload hx hb dX12_scale_169 (lv_at hl 7 rfl) ?_
              refine lv_bipush (v := 9) hx hb dX12_scale_171 (by decide) ?_
              refine lv_icmp_ge (tgt := 232) hx hb dX12_scale_173 (by decide) (fun c_173 => ?_) (fun c_173 => ?_)
              · have t_173 : ((k5 : Nat) : Int) ≥ 9 := toI_ge c_173 (nI_toInt (by omega)) (by decide)
                refine W.widen (k := 0) (n := 0) (by decide +kernel) (by decide +kernel) ?_
                exact W.vret hx hb hr (fun t9_ ht hW => ⟨⟨(s4, p4, f49, f50), rfl, by (try dsimp only); exact ⟨hpr, ho1, ho2, hst⟩, by rw [ht]; exact hP, hD⟩, hS.F ht⟩) hS.2.2 dX12_scale_232
              · have t_173 : ¬ ((k5 : Nat) : Int) ≥ 9 := toI_nge c_173 (nI_toInt (by omega)) (by decide)
                refine lv_aload_n hx hb dX12_scale_176 rfl (lv_at hl 0 rfl) ?_
                refine va_get (D := (dC, dI)) (ci := 12) (v := .int s4) (C := RX12) (T := TX12) (N := 163) (fs := fM (vS a (fT (fT vi 21 s4) 22 p4) vj)) hx hb hts iwsRX12_scale_in12 hown hK hP 0 rfl rfl 21 (by decide) (hts _ hm_r_X12_scale_1) (fun _ h9 => h9) rfl dX12_scale_177 ?_
                refine lv_if_ne (tgt := 232) hx hb dX12_scale_180 (by decide) (fun c_180 => ?_) (fun c_180 => ?_)
                · have t_180 : (s4).toInt ≠ 0 := toI_ne c_180 rfl (by decide)
                  refine W.widen (k := 0) (n := 0) (by decide +kernel) (by decide +kernel) ?_
                  exact W.vret hx hb hr (fun t9_ ht hW => ⟨⟨(s4, p4, f49, f50), rfl, by (try dsimp only); exact ⟨hpr, ho1, ho2, hst⟩, by rw [ht]; exact hP, hD⟩, hS.F ht⟩) hS.2.2 dX12_scale_232
                · have t_180 : (s4).toInt = 0 := toI_nne c_180 rfl (by decide)
                  have hax : ax < 100 := by omega
                  have hra : RowU (vF 49) (vF 50) ax := by rcases hjx with h9 | h9; (rw [h9.1]; exact hrw); (rw [h9.1]; exact hrv)
                  have r1 := hpr ax hax hra k5 (by omega)
                  have m1 := mulQ (x := nl) (y := (f49 (9 * ax + k5)).toInt64) (by omega) (by rw [i64T]; omega)
                  have m2 := mulQ (x := dl) (y := (f50 (9 * ax + k5)).toInt64) (by omega) (by rw [i64T]; omega)
                  rw [i64T] at m1 m2
                  have hne : dl.toInt * (f50 (9 * ax + k5)).toInt ≠ 0 := Int.mul_ne_zero (by omega) (by omega)
                  refine lv_aload_n hx hb dX12_scale_183 rfl (lv_at hl 0 rfl) ?_
                  refine lv_iload_n hx hb dX12_scale_184 rfl (lv_at hl 1 rfl) ?_
                  refine lv_iload hx hb dX12_scale_185 (lv_at hl 7 rfl) ?_
                  refine lv_lload hx hb dX12_scale_187 (lv_at hl 5 rfl) ?_
                  refine lv_aload_n hx hb dX12_scale_189 rfl (lv_at hl 0 rfl) ?_
                  refine va_get (D := (dC, dI)) (ci := 12) (v := .ref (a 49)) (C := RX12) (T := TX12) (N := 163) (fs := fM (vS a (fT (fT vi 21 s4) 22 p4) vj)) hx hb hts iwsRX12_scale_in12 hown hK hP 0 rfl rfl 78 (by decide) (hts _ hm_r_X12_scale_0) (fun _ h9 => h9) rfl dX12_scale_190 ?_
                  refine lv_bipush (v := 9) hx hb dX12_scale_193 (by decide) ?_
                  refine lv_iload hx hb dX12_scale_195 (lv_at hl 4 rfl) ?_
                  refine lv_imul hx hb dX12_scale_197 ?_
                  refine lv_topi (fun y11 hy11 => ?_)
                  obtain rfl : (nI (9 * ax)) = y11 := (hy11.trans (pk_mul 9 ax)).symm
                  refine lv_iload hx hb dX12_scale_198 (lv_at hl 7 rfl) ?_
                  refine lv_iadd hx hb dX12_scale_200 ?_
                  refine lv_topi (fun y12 hy12 => ?_)
                  obtain rfl : (nI ((9 * ax) + k5)) = y12 := (hy12.trans (nI_add (9 * ax) k5)).symm
                  refine va_iald (cA := k 49) (n := 900) (f := f49) hx hb hK hP 50 49 (WR_get 49 (by decide)) (TR_get 49 (by decide)) (vp_in_nI (show ((9 * ax) + k5) < 900 by omega) (by omega)) dX12_scale_201 ?_
                  refine lv_topi (fun y13 hy13 => ?_)
                  obtain rfl : (f49 ((9 * ax) + k5)) = y13 := (hy13.trans (by rw [nI_clamp (by omega)])).symm
                  refine lv_i2l hx hb dX12_scale_202 rfl ?_
                  refine lv_lmul hx hb dX12_scale_203 ?_
                  refine lv_lload hx hb dX12_scale_204 (lv_at hl 6 rfl) ?_
                  refine lv_aload_n hx hb dX12_scale_206 rfl (lv_at hl 0 rfl) ?_
                  refine va_get (D := (dC, dI)) (ci := 12) (v := .ref (a 50)) (C := RX12) (T := TX12) (N := 163) (fs := fM (vS a (fT (fT vi 21 s4) 22 p4) vj)) hx hb hts iwsRX12_scale_in12 hown hK hP 0 rfl rfl 79 (by decide) (hts _ hm_r_X12_scale_2) (fun _ h9 => h9) rfl dX12_scale_207 ?_
                  refine lv_bipush (v := 9) hx hb dX12_scale_210 (by decide) ?_
                  refine lv_iload hx hb dX12_scale_212 (lv_at hl 4 rfl) ?_
                  refine lv_imul hx hb dX12_scale_214 ?_
                  refine lv_topi (fun y14 hy14 => ?_)
                  obtain rfl : (nI (9 * ax)) = y14 := (hy14.trans (pk_mul 9 ax)).symm
                  refine lv_iload hx hb dX12_scale_215 (lv_at hl 7 rfl) ?_
                  refine lv_iadd hx hb dX12_scale_217 ?_
                  refine lv_topi (fun y15 hy15 => ?_)
                  obtain rfl : (nI ((9 * ax) + k5)) = y15 := (hy15.trans (nI_add (9 * ax) k5)).symm
                  refine va_iald (cA := k 50) (n := 900) (f := f50) hx hb hK hP 51 50 (WR_get 50 (by decide)) (TR_get 50 (by decide)) (vp_in_nI (show ((9 * ax) + k5) < 900 by omega) (by omega)) dX12_scale_218 ?_
                  refine lv_topi (fun y16 hy16 => ?_)
                  obtain rfl : (f50 ((9 * ax) + k5)) = y16 := (hy16.trans (by rw [nI_clamp (by omega)])).symm
                  refine lv_i2l hx hb dX12_scale_219 rfl ?_
                  refine lv_lmul hx hb dX12_scale_220 ?_
                  refine lv_iload hx hb dX12_scale_221 (lv_at hl 3 rfl) ?_
                  have hFc := allFree hD hS hA
                  refine va_callv (va_runV (As := [.int (nI vn), .int (nI k5), .long (nl * ((f49 ((9 * ax) + k5))).toInt64), .long (dl * ((f50 ((9 * ax) + k5))).toInt64), .int pv]) (rest := []) ⟨hx, hb, hml, hown, hts⟩ (r_X12_put1 l dC dI a k h0 (fT (fT vi 21 s4) 22 p4) vj (fT (fT vF 49 f49) 50 f50) vG vn k5 (nl * ((f49 ((9 * ax) + k5))).toInt64) (dl * ((f50 ((9 * ax) + k5))).toInt64) pv (by first | with_reducible assumption | decide | omega | rfl | assumption) (by first | with_reducible assumption | decide | omega | rfl | assumption) (by rw [m1.1]; omega) (by rw [m2.1]; omega) (by rw [m2.1]; exact hne) H.size) (cwV 5 hts gwsRX12_scale_2 rfl rfl rfl hd_yX12_put1_RX12 (by decide +kernel)) (fz_pre (va_recv hK hP (ci := 12) (q0 := 0) rfl rfl) hP hK hD) rfl rfl hl.1 rfl (lv_room (Nat.le_of_ble_eq_true rfl)) dX12_scale_223 (by decide +kernel)) hS (fun q _ h => hFc q h) hFc (fun u t9_ H locs ht hvm hw9 hB9 hz1 hk1 hS => ?_)
                  revert u hw9 hB9
                  refine fz_p4 ?_
                  intro s2223 p2223 f49223 f50223 hw9 hB9
                  try dsimp only at hw9 hB9
                  have e9i : fT (fT vi 21 s2223) 22 p2223 = fT (fT (fT (fT vi 21 s4) 22 p4) 21 s2223) 22 p2223 := ((congrArg (fun g9 => fT g9 22 p2223) ((fT_sw _ _ _ (Nat.ne_of_beq_eq_false rfl)).trans (congrArg (fun g9 => fT g9 22 p4) (fT_sm _ _ _ _)))).trans (fT_sm _ _ _ _)).symm
                  have e9F : fT (fT vF 49 f49223) 50 f50223 = fT (fT (fT (fT vF 49 f49) 50 f50) 49 f49223) 50 f50223 := ((congrArg (fun g9 => fT g9 50 f50223) ((fT_sw _ _ _ (Nat.ne_of_beq_eq_false rfl)).trans (congrArg (fun g9 => fT g9 50 f50) (fT_sm _ _ _ _)))).trans (fT_sm _ _ _ _)).symm
                  have hP := wr_PF e9F (wr_Pi e9i (fz_P ht hB9.1))
                  have hD := wr_DF e9F (wr_Di e9i (hB9.2.weaken (fun _ q _ h => hFc q.1 h)))
                  clear e9i e9F
                  have f223_0 := hw9
                  try dsimp only at f223_0
                  have f223_0 : (¬ (s2223).toInt ≤ 0 ∧ f49223 = f49 ∧ f50223 = f50) ∨ ((s2223).toInt ≤ 0 ∧ s2223 = s4 ∧ ∃ tv uv : Int32, ((tv).toInt ≤ 1000000 ∧ -1000000 ≤ (tv).toInt ∧ 1 ≤ (uv).toInt ∧ (uv).toInt ≤ 1000000) ∧ f49223 = upd f49 (nI (9 * vn + k5)).toNatClampNeg tv ∧ f50223 = upd f50 (nI (9 * vn + k5)).toNatClampNeg uv) := f223_0
                  refine lv_iinc (v := (nI (k5 + 1))) hx hb dX12_scale_226 hl (k := 7) rfl (nI_add k5 1) (by decide) rfl (fun ls (hl : lv_has ls _ ([(12, .int (nI (k5 + 1))), (0, .ref h0), (1, .int (nI vn)), (2, .int (nI wn)), (4, .int pv), (6, .int (nI ax)), (8, .long nl), (10, .long dl)])) => ?_)
                  refine lv_goto (tgt := 169) hx hb dX12_scale_229 (by decide) ?_
                  have hl : lv_has _ _ ([(0, .ref h0), (1, .int (nI vn)), (2, .int (nI wn)), (4, .int pv), (6, .int (nI ax)), (8, .long nl), (10, .long dl), (12, .int (nI (k5 + 1)))]) := lv_sub hl [1, 2, 3, 4, 5, 6, 7, 0] rfl
                  exact ih169 (k5 + 1) s2223 p2223 f49223 f50223 _ _ _ (by omega) (fun u hu h0 => by rcases f223_0 with ⟨h9, h8, h7⟩ | ⟨h9, h8, tv, uv, h7, h6, h5⟩; (rw [h8, h7]; exact hpr u hu h0); (rw [h6, h5]; exact (hpr u hu h0).put hvn hu (by omega) h7)) (fun q hq => by rcases f223_0 with ⟨h9, h8, h7⟩ | ⟨h9, h8, tv, uv, h7, h6, h5⟩; (rw [h8]; exact ho1 q hq); (rw [h6, upd_at (by omega), if_neg (by omega)]; exact ho1 q hq)) (fun q hq => by rcases f223_0 with ⟨h9, h8, h7⟩ | ⟨h9, h8, tv, uv, h7, h6, h5⟩; (rw [h7]; exact ho2 q hq); (rw [h5, upd_at (by omega), if_neg (by omega)]; exact ho2 q hq)) (by rcases f223_0 with ⟨h9, h8⟩ | ⟨h9, h8, h7⟩; (exact Or.inr (by omega)); (rw [h8]; exact hst)) (by omega) hP hD hS hl
    · have t_69 : ¬ (s3).toInt ≤ 0 := toI_nle c_69 rfl (by decide)
      refine W.widen (k := 0) (n := 0) (by decide +kernel) (by decide +kernel) ?_
      have e9 : fT (fT vF 49 (vF 49)) 50 (vF 50) = vF := (fT_id _ _ (fT_ne _ _ (Nat.ne_of_beq_eq_false rfl))).trans (fT_id _ _ (rfl))
      have hP := wr_PF e9 hP
      have hD := wr_DF e9 hD
      clear e9
      exact W.vret hx hb hr (fun t9_ ht hW => ⟨⟨(s3, p3, (vF 49), (vF 50)), rfl, by (try dsimp only); exact ⟨fun u _ h => h, fun q _ => rfl, fun q _ => rfl, Or.inr (by omega)⟩, by rw [ht]; exact hP, hD⟩, hS.F ht⟩) hS.2.2 dX12_scale_72
end
section
theorem row_lt {C a b : Nat} (h : a ≤ b) : a * (C + 1) ≤ b * (C + 1) := Nat.mul_le_mul_right _ h
theorem GldG.more {C R T : Nat} {m m2 : Nat → Int} (h : GldG C R T m) (hRT : R < T) (e : ∀ p, 30 ≤ p → p < 30 + T * (C + 1) → m2 p = m p) (hr : ∀ j, j ≤ C → (m2 (30 + T * (C + 1) + j)).natAbs < 2 ^ 74) : GldG C R (T + 1) m2 := by
  have h2 := h.frame hRT e
  refine ⟨h2.1, fun i h1 h3 j hj => ?_⟩
  by_cases e9 : i = T
  · subst e9; exact hr j hj
  · exact h2.2 i h1 (by omega) j hj
theorem VaO.first {f56 f57 f58 g : Nat → Int32} {vn : Nat} (h : ∀ k, k < vn → (f56 k).toInt ≤ (f57 k).toInt) (h3 : ∀ q, q < vn → g q = f56 q) : VaO f56 f57 f58 g vn := fun q hq => by
  rw [h3 q hq]; exact ⟨h q hq, fun _ => rfl, Int.le_refl _, h q hq⟩
def WmO (f59 : Nat → Int32) (mr : Nat) : Prop := ∀ r, r < mr → ∃ w : Nat, f59 r = nI w ∧ 1 ≤ w ∧ w ≤ 3
theorem ChO.first {f59 g : Nat → Int32} {mr : Nat} (h : WmO f59 mr) (h3 : ∀ q, q < mr → g q = 0) : ChO f59 g mr := fun q hq => by
  obtain ⟨w, h1, h2, h4⟩ := h q hq
  exact ⟨w, 0, h1, h2, h4, (h3 q hq).trans nI_0.symm, by omega⟩
theorem MdlB.val {F : Nat → Nat → Int32} {gq : Nat} (h : MdlB F gq) {f : Nat → Int32} (hf : ∀ k, k < 9 → -999 ≤ (f k).toInt ∧ (f k).toInt ≤ 999) : MdlB (fT F 70 f) gq :=
  ⟨h.1, h.2.1, h.2.2.1, h.2.2.2.1, h.2.2.2.2.1, h.2.2.2.2.2.1, hf⟩
/-- values within their bounds stay within 999 -/
theorem VaO.box {F : Nat → Nat → Int32} {gq vn : Nat} {f58 f : Nat → Int32} (hM : MdlB F gq) (h : VaO (F 56) (F 57) f58 f vn) (h2 : ∀ q, vn ≤ q → f q = F 70 q) : ∀ k, k < 9 → -999 ≤ (f k).toInt ∧ (f k).toInt ≤ 999 := fun k hk => by
  by_cases e : k < vn
  · obtain ⟨h3, _, h4, h5⟩ := h k e
    have h6 := hM.1 k hk
    have h7 := hM.2.1 k hk
    omega
  · rw [h2 k (by omega)]; exact hM.2.2.2.2.2.2 k hk
theorem AnsB.taken {m m2 : Nat → Int} (h : AnsB m 1020) (e : ∀ k, k < 16 → m2 (1000 + k) = m (1020 + k)) : AnsB m2 1000 :=
  ⟨fun k hk => by rw [e k (by omega)]; exact h.1 k hk, fun g hg => by rw [show 1000 + 10 + g = 1000 + (10 + g) by omega, show 1000 + 13 + g = 1000 + (13 + g) by omega, e _ (by omega), e _ (by omega)]; exact ⟨by have := (h.2 g hg).1; rw [show 1020 + (10 + g) = 1020 + 10 + g by omega]; exact this, by have := (h.2 g hg).2; rw [show 1020 + (13 + g) = 1020 + 13 + g by omega]; exact this⟩⟩
/-- the answer's divisors are above nought -/
def AnsP (m : Nat → Int) (b gq : Nat) : Prop := 0 < m (b + 8) ∧ ∀ g, g < gq → 0 < m (b + 13 + g)
theorem AnsP.frame {m m2 : Nat → Int} {b gq : Nat} (h : AnsP m b gq) (hg : gq ≤ 3) (e : ∀ p, b ≤ p → p < b + 16 → m2 p = m p) : AnsP m2 b gq :=
  ⟨by rw [e _ (by omega) (by omega)]; exact h.1, fun g hg2 => by rw [e _ (by omega) (by omega)]; exact h.2 g hg2⟩
theorem AnsP.taken {m m2 : Nat → Int} {gq : Nat} (h : 0 < m 1028 ∧ ∀ g, g < gq → 0 < m (1033 + g)) (hg : gq ≤ 3) (e : ∀ k, k < 16 → m2 (1000 + k) = m (1020 + k)) : AnsP m2 1000 gq :=
  ⟨by rw [e 8 (by omega)]; exact h.1, fun g hg2 => by rw [show 1000 + 13 + g = 1000 + (13 + g) by omega, e _ (by omega), show 1020 + (13 + g) = 1033 + g by omega]; exact h.2 g hg2⟩
end
section
theorem hd_yX12_begin_RX12 : yX12_begin.cls = RX12 ∧ yX12_begin.cls ≠ "java/lang/invoke/MethodHandle" ∧ yX12_begin.cls ≠ "java/lang/invoke/VarHandle" ∧ (parseMethodDescriptor yX12_begin.desc).map (fun d => d.parameters.length) = some 1 := by decide +kernel
theorem hd_yX12_start_RX12 : yX12_start.cls = RX12 ∧ yX12_start.cls ≠ "java/lang/invoke/MethodHandle" ∧ yX12_start.cls ≠ "java/lang/invoke/VarHandle" ∧ (parseMethodDescriptor yX12_start.desc).map (fun d => d.parameters.length) = some 0 := by decide +kernel
theorem hd_yX12_canKeep_RX12 : yX12_canKeep.cls = RX12 ∧ yX12_canKeep.cls ≠ "java/lang/invoke/MethodHandle" ∧ yX12_canKeep.cls ≠ "java/lang/invoke/VarHandle" ∧ (parseMethodDescriptor yX12_canKeep.desc).map (fun d => d.parameters.length) = some 0 := by decide +kernel
theorem hd_yX12_tryIt_RX12 : yX12_tryIt.cls = RX12 ∧ yX12_tryIt.cls ≠ "java/lang/invoke/MethodHandle" ∧ yX12_tryIt.cls ≠ "java/lang/invoke/VarHandle" ∧ (parseMethodDescriptor yX12_tryIt.desc).map (fun d => d.parameters.length) = some 0 := by decide +kernel
theorem hd_yX12_waysOf_RX12 : yX12_waysOf.cls = RX12 ∧ yX12_waysOf.cls ≠ "java/lang/invoke/MethodHandle" ∧ yX12_waysOf.cls ≠ "java/lang/invoke/VarHandle" ∧ (parseMethodDescriptor yX12_waysOf.desc).map (fun d => d.parameters.length) = some 1 := by decide +kernel
theorem dX12_solves_0 : decode cX12_solves 0 = .ok (.aload_n 0, 1) := dk_42 (by decide +kernel)
theorem dX12_solves_1 : decode cX12_solves 1 = .ok (.iload_n 1, 1) := dk_27 (by decide +kernel)
theorem dX12_solves_2 : decode cX12_solves 2 = .ok (.ifCond .ne 7, 3) := dk_154 (by decide +kernel)
theorem dX12_solves_5 : decode cX12_solves 5 = .ok (.iconst 1, 1) := dk_4 (by decide +kernel)
theorem dX12_solves_6 : decode cX12_solves 6 = .ok (.goto 4, 3) := dk_167 (by decide +kernel)
theorem dX12_solves_9 : decode cX12_solves 9 = .ok (.iconst 0, 1) := dk_3 (by decide +kernel)
theorem dX12_solves_10 : decode cX12_solves 10 = .ok (.putfield 829, 3) := dk_181 (by decide +kernel)
theorem dX12_solves_13 : decode cX12_solves 13 = .ok (.aload_n 0, 1) := dk_42 (by decide +kernel)
theorem dX12_solves_14 : decode cX12_solves 14 = .ok (.aload_n 0, 1) := dk_42 (by decide +kernel)
theorem dX12_solves_15 : decode cX12_solves 15 = .ok (.getfield 774, 3) := dk_180 (by decide +kernel)
theorem dX12_solves_18 : decode cX12_solves 18 = .ok (.invokevirtual 835, 3) := dk_182 (by decide +kernel)
theorem dX12_solves_21 : decode cX12_solves 21 = .ok (.iconst 0, 1) := dk_3 (by decide +kernel)
theorem dX12_solves_22 : decode cX12_solves 22 = .ok (.istore_n 3, 1) := dk_62 (by decide +kernel)
theorem dX12_solves_23 : decode cX12_solves 23 = .ok (.iload_n 3, 1) := dk_29 (by decide +kernel)
theorem dX12_solves_24 : decode cX12_solves 24 = .ok (.aload_n 0, 1) := dk_42 (by decide +kernel)
theorem dX12_solves_25 : decode cX12_solves 25 = .ok (.getfield 786, 3) := dk_180 (by decide +kernel)
theorem dX12_solves_28 : decode cX12_solves 28 = .ok (.if_icmp .ge 45, 3) := dk_162 (by decide +kernel)
theorem dX12_solves_31 : decode cX12_solves 31 = .ok (.iload_n 1, 1) := dk_27 (by decide +kernel)
theorem dX12_solves_32 : decode cX12_solves 32 = .ok (.ifCond .eq 13, 3) := dk_153 (by decide +kernel)
theorem dX12_solves_35 : decode cX12_solves 35 = .ok (.aload_n 0, 1) := dk_42 (by decide +kernel)
theorem dX12_solves_36 : decode cX12_solves 36 = .ok (.getfield 200, 3) := dk_180 (by decide +kernel)
theorem dX12_solves_39 : decode cX12_solves 39 = .ok (.iload_n 3, 1) := dk_29 (by decide +kernel)
theorem dX12_solves_40 : decode cX12_solves 40 = .ok (.iaload, 1) := dk_46 (by decide +kernel)
theorem dX12_solves_41 : decode cX12_solves 41 = .ok (.iconst 1, 1) := dk_4 (by decide +kernel)
theorem dX12_solves_42 : decode cX12_solves 42 = .ok (.if_icmp .ne 25, 3) := dk_160 (by decide +kernel)
theorem dX12_solves_45 : decode cX12_solves 45 = .ok (.aload_n 0, 1) := dk_42 (by decide +kernel)
theorem dX12_solves_46 : decode cX12_solves 46 = .ok (.iconst 3, 1) := dk_6 (by decide +kernel)
theorem dX12_solves_47 : decode cX12_solves 47 = .ok (.iload_n 3, 1) := dk_29 (by decide +kernel)
theorem dX12_solves_48 : decode cX12_solves 48 = .ok (.imul, 1) := dk_104 (by decide +kernel)
theorem dX12_solves_49 : decode cX12_solves 49 = .ok (.iload_n 1, 1) := dk_27 (by decide +kernel)
theorem dX12_solves_50 : decode cX12_solves 50 = .ok (.ifCond .eq 7, 3) := dk_153 (by decide +kernel)
theorem dX12_solves_53 : decode cX12_solves 53 = .ok (.iconst 0, 1) := dk_3 (by decide +kernel)
theorem dX12_solves_54 : decode cX12_solves 54 = .ok (.goto 9, 3) := dk_167 (by decide +kernel)
theorem dX12_solves_57 : decode cX12_solves 57 = .ok (.aload_n 0, 1) := dk_42 (by decide +kernel)
theorem dX12_solves_58 : decode cX12_solves 58 = .ok (.getfield 230, 3) := dk_180 (by decide +kernel)
theorem dX12_solves_61 : decode cX12_solves 61 = .ok (.iload_n 3, 1) := dk_29 (by decide +kernel)
theorem dX12_solves_62 : decode cX12_solves 62 = .ok (.iaload, 1) := dk_46 (by decide +kernel)
theorem dX12_solves_63 : decode cX12_solves 63 = .ok (.iadd, 1) := dk_96 (by decide +kernel)
theorem dX12_solves_64 : decode cX12_solves 64 = .ok (.invokevirtual 838, 3) := dk_182 (by decide +kernel)
theorem dX12_solves_67 : decode cX12_solves 67 = .ok (.iinc 3 1, 3) := dk_132 (by decide +kernel)
theorem dX12_solves_70 : decode cX12_solves 70 = .ok (.goto (-47), 3) := dk_167 (by decide +kernel)
theorem dX12_solves_73 : decode cX12_solves 73 = .ok (.iconst 0, 1) := dk_3 (by decide +kernel)
theorem dX12_solves_74 : decode cX12_solves 74 = .ok (.istore_n 3, 1) := dk_62 (by decide +kernel)
theorem dX12_solves_75 : decode cX12_solves 75 = .ok (.iload_n 3, 1) := dk_29 (by decide +kernel)
theorem dX12_solves_76 : decode cX12_solves 76 = .ok (.aload_n 0, 1) := dk_42 (by decide +kernel)
theorem dX12_solves_77 : decode cX12_solves 77 = .ok (.getfield 774, 3) := dk_180 (by decide +kernel)
theorem dX12_solves_80 : decode cX12_solves 80 = .ok (.if_icmp .ge 82, 3) := dk_162 (by decide +kernel)
theorem dX12_solves_83 : decode cX12_solves 83 = .ok (.aload_n 0, 1) := dk_42 (by decide +kernel)
theorem dX12_solves_84 : decode cX12_solves 84 = .ok (.getfield 829, 3) := dk_180 (by decide +kernel)
theorem dX12_solves_87 : decode cX12_solves 87 = .ok (.ifCond .eq 23, 3) := dk_153 (by decide +kernel)
theorem dX12_solves_90 : decode cX12_solves 90 = .ok (.aload_n 0, 1) := dk_42 (by decide +kernel)
theorem dX12_solves_91 : decode cX12_solves 91 = .ok (.getfield 197, 3) := dk_180 (by decide +kernel)
theorem dX12_solves_94 : decode cX12_solves 94 = .ok (.iload_n 3, 1) := dk_29 (by decide +kernel)
theorem dX12_solves_95 : decode cX12_solves 95 = .ok (.iaload, 1) := dk_46 (by decide +kernel)
theorem dX12_solves_96 : decode cX12_solves 96 = .ok (.iconst 1, 1) := dk_4 (by decide +kernel)
theorem dX12_solves_97 : decode cX12_solves 97 = .ok (.if_icmp .ne 13, 3) := dk_160 (by decide +kernel)
theorem dX12_solves_100 : decode cX12_solves 100 = .ok (.aload_n 0, 1) := dk_42 (by decide +kernel)
theorem dX12_solves_101 : decode cX12_solves 101 = .ok (.getfield 29, 3) := dk_180 (by decide +kernel)
theorem dX12_solves_104 : decode cX12_solves 104 = .ok (.iload_n 3, 1) := dk_29 (by decide +kernel)
theorem dX12_solves_105 : decode cX12_solves 105 = .ok (.iconst 1, 1) := dk_4 (by decide +kernel)
theorem dX12_solves_106 : decode cX12_solves 106 = .ok (.bastore, 1) := dk_84 (by decide +kernel)
theorem dX12_solves_107 : decode cX12_solves 107 = .ok (.goto 49, 3) := dk_167 (by decide +kernel)
theorem dX12_solves_110 : decode cX12_solves 110 = .ok (.aload_n 0, 1) := dk_42 (by decide +kernel)
theorem dX12_solves_111 : decode cX12_solves 111 = .ok (.invokevirtual 823, 3) := dk_182 (by decide +kernel)
theorem dX12_solves_114 : decode cX12_solves 114 = .ok (.istore 4, 2) := dk_54 (by decide +kernel)
theorem dX12_solves_116 : decode cX12_solves 116 = .ok (.aload_n 0, 1) := dk_42 (by decide +kernel)
theorem dX12_solves_117 : decode cX12_solves 117 = .ok (.aload_n 0, 1) := dk_42 (by decide +kernel)
theorem dX12_solves_118 : decode cX12_solves 118 = .ok (.iload 4, 2) := dk_21 (by decide +kernel)
theorem dX12_solves_120 : decode cX12_solves 120 = .ok (.iload_n 3, 1) := dk_29 (by decide +kernel)
theorem dX12_solves_121 : decode cX12_solves 121 = .ok (.invokevirtual 405, 3) := dk_182 (by decide +kernel)
theorem dX12_solves_124 : decode cX12_solves 124 = .ok (.lconst 1, 1) := dk_10 (by decide +kernel)
theorem dX12_solves_125 : decode cX12_solves 125 = .ok (.invokevirtual 369, 3) := dk_182 (by decide +kernel)
theorem dX12_solves_128 : decode cX12_solves 128 = .ok (.aload_n 0, 1) := dk_42 (by decide +kernel)
theorem dX12_solves_129 : decode cX12_solves 129 = .ok (.aload_n 0, 1) := dk_42 (by decide +kernel)
theorem dX12_solves_130 : decode cX12_solves 130 = .ok (.iload 4, 2) := dk_21 (by decide +kernel)
theorem dX12_solves_132 : decode cX12_solves 132 = .ok (.aload_n 0, 1) := dk_42 (by decide +kernel)
theorem dX12_solves_133 : decode cX12_solves 133 = .ok (.getfield 396, 3) := dk_180 (by decide +kernel)
theorem dX12_solves_136 : decode cX12_solves 136 = .ok (.invokevirtual 405, 3) := dk_182 (by decide +kernel)
theorem dX12_solves_139 : decode cX12_solves 139 = .ok (.aload_n 0, 1) := dk_42 (by decide +kernel)
theorem dX12_solves_140 : decode cX12_solves 140 = .ok (.getfield 194, 3) := dk_180 (by decide +kernel)
theorem dX12_solves_143 : decode cX12_solves 143 = .ok (.iload_n 3, 1) := dk_29 (by decide +kernel)
theorem dX12_solves_144 : decode cX12_solves 144 = .ok (.iaload, 1) := dk_46 (by decide +kernel)
theorem dX12_solves_145 : decode cX12_solves 145 = .ok (.aload_n 0, 1) := dk_42 (by decide +kernel)
theorem dX12_solves_146 : decode cX12_solves 146 = .ok (.getfield 191, 3) := dk_180 (by decide +kernel)
theorem dX12_solves_149 : decode cX12_solves 149 = .ok (.iload_n 3, 1) := dk_29 (by decide +kernel)
theorem dX12_solves_150 : decode cX12_solves 150 = .ok (.iaload, 1) := dk_46 (by decide +kernel)
theorem dX12_solves_151 : decode cX12_solves 151 = .ok (.isub, 1) := dk_100 (by decide +kernel)
theorem dX12_solves_152 : decode cX12_solves 152 = .ok (.i2l, 1) := dk_133 (by decide +kernel)
theorem dX12_solves_153 : decode cX12_solves 153 = .ok (.invokevirtual 369, 3) := dk_182 (by decide +kernel)
theorem dX12_solves_156 : decode cX12_solves 156 = .ok (.iinc 3 1, 3) := dk_132 (by decide +kernel)
theorem dX12_solves_159 : decode cX12_solves 159 = .ok (.goto (-84), 3) := dk_167 (by decide +kernel)
theorem dX12_solves_162 : decode cX12_solves 162 = .ok (.aload_n 0, 1) := dk_42 (by decide +kernel)
theorem dX12_solves_163 : decode cX12_solves 163 = .ok (.invokevirtual 841, 3) := dk_182 (by decide +kernel)
theorem dX12_solves_166 : decode cX12_solves 166 = .ok (.iconst 0, 1) := dk_3 (by decide +kernel)
theorem dX12_solves_167 : decode cX12_solves 167 = .ok (.istore_n 3, 1) := dk_62 (by decide +kernel)
theorem dX12_solves_168 : decode cX12_solves 168 = .ok (.iload_n 3, 1) := dk_29 (by decide +kernel)
theorem dX12_solves_169 : decode cX12_solves 169 = .ok (.aload_n 0, 1) := dk_42 (by decide +kernel)
theorem dX12_solves_170 : decode cX12_solves 170 = .ok (.getfield 805, 3) := dk_180 (by decide +kernel)
theorem dX12_solves_173 : decode cX12_solves 173 = .ok (.if_icmp .ge 87, 3) := dk_162 (by decide +kernel)
theorem dX12_solves_176 : decode cX12_solves 176 = .ok (.iload_n 2, 1) := dk_28 (by decide +kernel)
theorem dX12_solves_177 : decode cX12_solves 177 = .ok (.ifCond .eq 83, 3) := dk_153 (by decide +kernel)
theorem dX12_solves_180 : decode cX12_solves 180 = .ok (.aload_n 0, 1) := dk_42 (by decide +kernel)
theorem dX12_solves_181 : decode cX12_solves 181 = .ok (.invokevirtual 459, 3) := dk_182 (by decide +kernel)
theorem dX12_solves_184 : decode cX12_solves 184 = .ok (.istore 4, 2) := dk_54 (by decide +kernel)
theorem dX12_solves_186 : decode cX12_solves 186 = .ok (.aload_n 0, 1) := dk_42 (by decide +kernel)
theorem dX12_solves_187 : decode cX12_solves 187 = .ok (.iload_n 3, 1) := dk_29 (by decide +kernel)
theorem dX12_solves_188 : decode cX12_solves 188 = .ok (.invokevirtual 844, 3) := dk_182 (by decide +kernel)
theorem dX12_solves_191 : decode cX12_solves 191 = .ok (.iconst 0, 1) := dk_3 (by decide +kernel)
theorem dX12_solves_192 : decode cX12_solves 192 = .ok (.istore 5, 2) := dk_54 (by decide +kernel)
theorem dX12_solves_194 : decode cX12_solves 194 = .ok (.iload 5, 2) := dk_21 (by decide +kernel)
theorem dX12_solves_196 : decode cX12_solves 196 = .ok (.aload_n 0, 1) := dk_42 (by decide +kernel)
theorem dX12_solves_197 : decode cX12_solves 197 = .ok (.getfield 774, 3) := dk_180 (by decide +kernel)
theorem dX12_solves_200 : decode cX12_solves 200 = .ok (.if_icmp .ge 54, 3) := dk_162 (by decide +kernel)
theorem dX12_solves_203 : decode cX12_solves 203 = .ok (.aload_n 0, 1) := dk_42 (by decide +kernel)
theorem dX12_solves_204 : decode cX12_solves 204 = .ok (.iload_n 3, 1) := dk_29 (by decide +kernel)
theorem dX12_solves_205 : decode cX12_solves 205 = .ok (.iload 5, 2) := dk_21 (by decide +kernel)
theorem dX12_solves_207 : decode cX12_solves 207 = .ok (.iconst 1, 1) := dk_4 (by decide +kernel)
theorem dX12_solves_208 : decode cX12_solves 208 = .ok (.iadd, 1) := dk_96 (by decide +kernel)
theorem dX12_solves_209 : decode cX12_solves 209 = .ok (.invokevirtual 847, 3) := dk_182 (by decide +kernel)
theorem dX12_solves_212 : decode cX12_solves 212 = .ok (.aload_n 0, 1) := dk_42 (by decide +kernel)
theorem dX12_solves_213 : decode cX12_solves 213 = .ok (.aload_n 0, 1) := dk_42 (by decide +kernel)
theorem dX12_solves_214 : decode cX12_solves 214 = .ok (.iload 4, 2) := dk_21 (by decide +kernel)
theorem dX12_solves_216 : decode cX12_solves 216 = .ok (.iload 5, 2) := dk_21 (by decide +kernel)
theorem dX12_solves_218 : decode cX12_solves 218 = .ok (.invokevirtual 405, 3) := dk_182 (by decide +kernel)
theorem dX12_solves_221 : decode cX12_solves 221 = .ok (.bipush 17, 2) := dk_16 (by decide +kernel)
theorem dX12_solves_223 : decode cX12_solves 223 = .ok (.invokevirtual 365, 3) := dk_182 (by decide +kernel)
theorem dX12_solves_226 : decode cX12_solves 226 = .ok (.aload_n 0, 1) := dk_42 (by decide +kernel)
theorem dX12_solves_227 : decode cX12_solves 227 = .ok (.getfield 218, 3) := dk_180 (by decide +kernel)
theorem dX12_solves_230 : decode cX12_solves 230 = .ok (.iload_n 3, 1) := dk_29 (by decide +kernel)
theorem dX12_solves_231 : decode cX12_solves 231 = .ok (.iaload, 1) := dk_46 (by decide +kernel)
theorem dX12_solves_232 : decode cX12_solves 232 = .ok (.iconst 1, 1) := dk_4 (by decide +kernel)
theorem dX12_solves_233 : decode cX12_solves 233 = .ok (.if_icmp .ne 15, 3) := dk_160 (by decide +kernel)
theorem dX12_solves_236 : decode cX12_solves 236 = .ok (.aload_n 0, 1) := dk_42 (by decide +kernel)
theorem dX12_solves_237 : decode cX12_solves 237 = .ok (.aload_n 0, 1) := dk_42 (by decide +kernel)
theorem dX12_solves_238 : decode cX12_solves 238 = .ok (.iload 4, 2) := dk_21 (by decide +kernel)
theorem dX12_solves_240 : decode cX12_solves 240 = .ok (.iload 5, 2) := dk_21 (by decide +kernel)
theorem dX12_solves_242 : decode cX12_solves 242 = .ok (.invokevirtual 405, 3) := dk_182 (by decide +kernel)
theorem dX12_solves_245 : decode cX12_solves 245 = .ok (.invokevirtual 379, 3) := dk_182 (by decide +kernel)
theorem dX12_solves_248 : decode cX12_solves 248 = .ok (.iinc 5 1, 3) := dk_132 (by decide +kernel)
theorem dX12_solves_251 : decode cX12_solves 251 = .ok (.goto (-57), 3) := dk_167 (by decide +kernel)
theorem dX12_solves_254 : decode cX12_solves 254 = .ok (.iinc 3 1, 3) := dk_132 (by decide +kernel)
theorem dX12_solves_257 : decode cX12_solves 257 = .ok (.goto (-89), 3) := dk_167 (by decide +kernel)
theorem dX12_solves_260 : decode cX12_solves 260 = .ok (.iconst 0, 1) := dk_3 (by decide +kernel)
theorem dX12_solves_261 : decode cX12_solves 261 = .ok (.istore_n 3, 1) := dk_62 (by decide +kernel)
theorem dX12_solves_262 : decode cX12_solves 262 = .ok (.iload_n 3, 1) := dk_29 (by decide +kernel)
theorem dX12_solves_263 : decode cX12_solves 263 = .ok (.aload_n 0, 1) := dk_42 (by decide +kernel)
theorem dX12_solves_264 : decode cX12_solves 264 = .ok (.getfield 774, 3) := dk_180 (by decide +kernel)
theorem dX12_solves_267 : decode cX12_solves 267 = .ok (.if_icmp .ge 27, 3) := dk_162 (by decide +kernel)
theorem dX12_solves_270 : decode cX12_solves 270 = .ok (.iload_n 2, 1) := dk_28 (by decide +kernel)
theorem dX12_solves_271 : decode cX12_solves 271 = .ok (.ifCond .eq 23, 3) := dk_153 (by decide +kernel)
theorem dX12_solves_274 : decode cX12_solves 274 = .ok (.aload_n 0, 1) := dk_42 (by decide +kernel)
theorem dX12_solves_275 : decode cX12_solves 275 = .ok (.aload_n 0, 1) := dk_42 (by decide +kernel)
theorem dX12_solves_276 : decode cX12_solves 276 = .ok (.aload_n 0, 1) := dk_42 (by decide +kernel)
theorem dX12_solves_277 : decode cX12_solves 277 = .ok (.invokevirtual 459, 3) := dk_182 (by decide +kernel)
theorem dX12_solves_280 : decode cX12_solves 280 = .ok (.iload_n 3, 1) := dk_29 (by decide +kernel)
theorem dX12_solves_281 : decode cX12_solves 281 = .ok (.invokevirtual 405, 3) := dk_182 (by decide +kernel)
theorem dX12_solves_284 : decode cX12_solves 284 = .ok (.lconst 1, 1) := dk_10 (by decide +kernel)
theorem dX12_solves_285 : decode cX12_solves 285 = .ok (.invokevirtual 369, 3) := dk_182 (by decide +kernel)
theorem dX12_solves_288 : decode cX12_solves 288 = .ok (.iinc 3 1, 3) := dk_132 (by decide +kernel)
theorem dX12_solves_291 : decode cX12_solves 291 = .ok (.goto (-29), 3) := dk_167 (by decide +kernel)
theorem dX12_solves_294 : decode cX12_solves 294 = .ok (.aload_n 0, 1) := dk_42 (by decide +kernel)
theorem dX12_solves_295 : decode cX12_solves 295 = .ok (.invokevirtual 850, 3) := dk_182 (by decide +kernel)
theorem dX12_solves_298 : decode cX12_solves 298 = .ok (.ifCond .ne 10, 3) := dk_154 (by decide +kernel)
theorem dX12_solves_301 : decode cX12_solves 301 = .ok (.aload_n 0, 1) := dk_42 (by decide +kernel)
theorem dX12_solves_302 : decode cX12_solves 302 = .ok (.iconst 0, 1) := dk_3 (by decide +kernel)
theorem dX12_solves_303 : decode cX12_solves 303 = .ok (.putfield 414, 3) := dk_181 (by decide +kernel)
theorem dX12_solves_306 : decode cX12_solves 306 = .ok (.iconst 0, 1) := dk_3 (by decide +kernel)
theorem dX12_solves_307 : decode cX12_solves 307 = .ok (.ireturn, 1) := dk_172 (by decide +kernel)
theorem dX12_solves_308 : decode cX12_solves 308 = .ok (.iload_n 2, 1) := dk_28 (by decide +kernel)
theorem dX12_solves_309 : decode cX12_solves 309 = .ok (.ifCond .eq 15, 3) := dk_153 (by decide +kernel)
theorem dX12_solves_312 : decode cX12_solves 312 = .ok (.aload_n 0, 1) := dk_42 (by decide +kernel)
theorem dX12_solves_313 : decode cX12_solves 313 = .ok (.getfield 805, 3) := dk_180 (by decide +kernel)
theorem dX12_solves_316 : decode cX12_solves 316 = .ok (.aload_n 0, 1) := dk_42 (by decide +kernel)
theorem dX12_solves_317 : decode cX12_solves 317 = .ok (.getfield 774, 3) := dk_180 (by decide +kernel)
theorem dX12_solves_320 : decode cX12_solves 320 = .ok (.iadd, 1) := dk_96 (by decide +kernel)
theorem dX12_solves_321 : decode cX12_solves 321 = .ok (.goto 4, 3) := dk_167 (by decide +kernel)
theorem dX12_solves_324 : decode cX12_solves 324 = .ok (.iconst 0, 1) := dk_3 (by decide +kernel)
theorem dX12_solves_325 : decode cX12_solves 325 = .ok (.istore_n 3, 1) := dk_62 (by decide +kernel)
theorem dX12_solves_326 : decode cX12_solves 326 = .ok (.iconst 1, 1) := dk_4 (by decide +kernel)
theorem dX12_solves_327 : decode cX12_solves 327 = .ok (.istore 4, 2) := dk_54 (by decide +kernel)
theorem dX12_solves_329 : decode cX12_solves 329 = .ok (.iload 4, 2) := dk_21 (by decide +kernel)
theorem dX12_solves_331 : decode cX12_solves 331 = .ok (.iload_n 3, 1) := dk_29 (by decide +kernel)
theorem dX12_solves_332 : decode cX12_solves 332 = .ok (.if_icmp .gt 21, 3) := dk_163 (by decide +kernel)
theorem dX12_solves_335 : decode cX12_solves 335 = .ok (.aload_n 0, 1) := dk_42 (by decide +kernel)
theorem dX12_solves_336 : decode cX12_solves 336 = .ok (.aload_n 0, 1) := dk_42 (by decide +kernel)
theorem dX12_solves_337 : decode cX12_solves 337 = .ok (.getfield 399, 3) := dk_180 (by decide +kernel)
theorem dX12_solves_340 : decode cX12_solves 340 = .ok (.iload 4, 2) := dk_21 (by decide +kernel)
theorem dX12_solves_342 : decode cX12_solves 342 = .ok (.iadd, 1) := dk_96 (by decide +kernel)
theorem dX12_solves_343 : decode cX12_solves 343 = .ok (.invokevirtual 465, 3) := dk_182 (by decide +kernel)
theorem dX12_solves_346 : decode cX12_solves 346 = .ok (.pop, 1) := dk_87 (by decide +kernel)
theorem dX12_solves_347 : decode cX12_solves 347 = .ok (.iinc 4 1, 3) := dk_132 (by decide +kernel)
theorem dX12_solves_350 : decode cX12_solves 350 = .ok (.goto (-21), 3) := dk_167 (by decide +kernel)
theorem dX12_solves_353 : decode cX12_solves 353 = .ok (.aload_n 0, 1) := dk_42 (by decide +kernel)
theorem dX12_solves_354 : decode cX12_solves 354 = .ok (.invokevirtual 440, 3) := dk_182 (by decide +kernel)
theorem dX12_solves_357 : decode cX12_solves 357 = .ok (.iload_n 2, 1) := dk_28 (by decide +kernel)
theorem dX12_solves_358 : decode cX12_solves 358 = .ok (.ifCond .eq 7, 3) := dk_153 (by decide +kernel)
theorem dX12_solves_361 : decode cX12_solves 361 = .ok (.aload_n 0, 1) := dk_42 (by decide +kernel)
theorem dX12_solves_362 : decode cX12_solves 362 = .ok (.invokevirtual 853, 3) := dk_182 (by decide +kernel)
theorem dX12_solves_365 : decode cX12_solves 365 = .ok (.iconst 1, 1) := dk_4 (by decide +kernel)
theorem dX12_solves_366 : decode cX12_solves 366 = .ok (.ireturn, 1) := dk_172 (by decide +kernel)
def wsRX12_solves : List Cond := .code yX12_solves cX12_solves 6 (some .boolean) :: ([.fieldLink RX12 829 "OptimaWorksModel" "fixes" "Z", .fieldLink RX12 774 "OptimaWorksModel" "variables" "I", .fieldLink RX12 786 "OptimaWorksModel" "modelRows" "I", .fieldLink RX12 805 "OptimaWorksModel" "modelGoals" "I", .fieldLink RX12 218 "OptimaWorksModel" "goalMax" "[I", .fieldLink RX12 414 "OptimaWorksModel" "quick" "Z", .fieldLink RX12 399 "OptimaWorksModel" "rows" "I", .fieldLink RX12 197 "OptimaWorksModel" "whole" "[I", .fieldLink RX12 29 "OptimaWorksModel" "still" "[Z", .fieldLink RX12 396 "OptimaWorksModel" "columns" "I", .fieldLink RX12 194 "OptimaWorksModel" "high" "[I", .fieldLink RX12 191 "OptimaWorksModel" "low" "[I", .fieldLink RX12 230 "OptimaWorksModel" "chosen" "[I", .fieldLink RX12 200 "OptimaWorksModel" "wayMany" "[I"] ++ wsX120 ++ (wsV RX12 835 RX12 yX12_begin wsRX12_begin) ++ (wsV RX12 841 RX12 yX12_start wsRX12_start) ++ (wsV RX12 459 RX12 yX12_goalRow wsRX12_goalRow) ++ (wsV RX12 844 RX12 yX12_scaleOf wsRX12_scaleOf) ++ (wsV RX12 847 RX12 yX12_goalNumber wsRX12_goalNumber) ++ (wsV RX12 405 RX12 yX12_at wsRX12_at) ++ (wsV RX12 365 RX12 yX12_copy wsRX12_copy) ++ (wsV RX12 379 RX12 yX12_turn wsRX12_turn) ++ (wsV RX12 369 RX12 yX12_put wsRX12_put) ++ (wsV RX12 850 RX12 yX12_canKeep wsRX12_canKeep) ++ (wsV RX12 440 RX12 yX12_spill wsRX12_spill) ++ (wsV RX12 853 RX12 yX12_tryIt wsRX12_tryIt) ++ (wsV RX12 465 RX12 yX12_raise wsRX12_raise) ++ (wsV RX12 823 RX12 yX12_newLine wsRX12_newLine) ++ (wsV RX12 838 RX12 yX12_waysOf wsRX12_waysOf))
theorem iwsRX12_solves_in12 : ∀ w ∈ wsX120, w ∈ wsRX12_solves := fun _ h => List.mem_cons_of_mem _ (List.mem_append_left _ (List.mem_append_left _ (List.mem_append_left _ (List.mem_append_left _ (List.mem_append_left _ (List.mem_append_left _ (List.mem_append_left _ (List.mem_append_left _ (List.mem_append_left _ (List.mem_append_left _ (List.mem_append_left _ (List.mem_append_left _ (List.mem_append_left _ (List.mem_append_left _ (List.mem_append_left _ (List.mem_append_right _ h))))))))))))))))
theorem gwsRX12_solves_0 : GoodIn wsRX12_solves (wsV RX12 835 RX12 yX12_begin wsRX12_begin) := goodIn_sub (fun _ h => List.mem_cons_of_mem _ (List.mem_append_left _ (List.mem_append_left _ (List.mem_append_left _ (List.mem_append_left _ (List.mem_append_left _ (List.mem_append_left _ (List.mem_append_left _ (List.mem_append_left _ (List.mem_append_left _ (List.mem_append_left _ (List.mem_append_left _ (List.mem_append_left _ (List.mem_append_left _ (List.mem_append_left _ (List.mem_append_right _ h)))))))))))))))) (gdV (by decide +kernel) gdwsRX12_begin)
theorem gwsRX12_solves_1 : GoodIn wsRX12_solves (wsV RX12 841 RX12 yX12_start wsRX12_start) := goodIn_sub (fun _ h => List.mem_cons_of_mem _ (List.mem_append_left _ (List.mem_append_left _ (List.mem_append_left _ (List.mem_append_left _ (List.mem_append_left _ (List.mem_append_left _ (List.mem_append_left _ (List.mem_append_left _ (List.mem_append_left _ (List.mem_append_left _ (List.mem_append_left _ (List.mem_append_left _ (List.mem_append_left _ (List.mem_append_right _ h))))))))))))))) (gdV (by decide +kernel) gdwsRX12_start)
theorem gwsRX12_solves_2 : GoodIn wsRX12_solves (wsV RX12 459 RX12 yX12_goalRow wsRX12_goalRow) := goodIn_sub (fun _ h => List.mem_cons_of_mem _ (List.mem_append_left _ (List.mem_append_left _ (List.mem_append_left _ (List.mem_append_left _ (List.mem_append_left _ (List.mem_append_left _ (List.mem_append_left _ (List.mem_append_left _ (List.mem_append_left _ (List.mem_append_left _ (List.mem_append_left _ (List.mem_append_left _ (List.mem_append_right _ h)))))))))))))) (gdV (by decide +kernel) gdwsRX12_goalRow)
theorem gwsRX12_solves_3 : GoodIn wsRX12_solves (wsV RX12 844 RX12 yX12_scaleOf wsRX12_scaleOf) := goodIn_sub (fun _ h => List.mem_cons_of_mem _ (List.mem_append_left _ (List.mem_append_left _ (List.mem_append_left _ (List.mem_append_left _ (List.mem_append_left _ (List.mem_append_left _ (List.mem_append_left _ (List.mem_append_left _ (List.mem_append_left _ (List.mem_append_left _ (List.mem_append_left _ (List.mem_append_right _ h))))))))))))) (gdV (by decide +kernel) gdwsRX12_scaleOf)
theorem gwsRX12_solves_4 : GoodIn wsRX12_solves (wsV RX12 847 RX12 yX12_goalNumber wsRX12_goalNumber) := goodIn_sub (fun _ h => List.mem_cons_of_mem _ (List.mem_append_left _ (List.mem_append_left _ (List.mem_append_left _ (List.mem_append_left _ (List.mem_append_left _ (List.mem_append_left _ (List.mem_append_left _ (List.mem_append_left _ (List.mem_append_left _ (List.mem_append_left _ (List.mem_append_right _ h)))))))))))) (gdV (by decide +kernel) gdwsRX12_goalNumber)
theorem gwsRX12_solves_5 : GoodIn wsRX12_solves (wsV RX12 405 RX12 yX12_at wsRX12_at) := goodIn_sub (fun _ h => List.mem_cons_of_mem _ (List.mem_append_left _ (List.mem_append_left _ (List.mem_append_left _ (List.mem_append_left _ (List.mem_append_left _ (List.mem_append_left _ (List.mem_append_left _ (List.mem_append_left _ (List.mem_append_left _ (List.mem_append_right _ h))))))))))) (gdV (by decide +kernel) gdwsRX12_at)
theorem gwsRX12_solves_6 : GoodIn wsRX12_solves (wsV RX12 365 RX12 yX12_copy wsRX12_copy) := goodIn_sub (fun _ h => List.mem_cons_of_mem _ (List.mem_append_left _ (List.mem_append_left _ (List.mem_append_left _ (List.mem_append_left _ (List.mem_append_left _ (List.mem_append_left _ (List.mem_append_left _ (List.mem_append_left _ (List.mem_append_right _ h)))))))))) (gdV (by decide +kernel) gdwsRX12_copy)
theorem gwsRX12_solves_7 : GoodIn wsRX12_solves (wsV RX12 379 RX12 yX12_turn wsRX12_turn) := goodIn_sub (fun _ h => List.mem_cons_of_mem _ (List.mem_append_left _ (List.mem_append_left _ (List.mem_append_left _ (List.mem_append_left _ (List.mem_append_left _ (List.mem_append_left _ (List.mem_append_left _ (List.mem_append_right _ h))))))))) (gdV (by decide +kernel) gdwsRX12_turn)
theorem gwsRX12_solves_8 : GoodIn wsRX12_solves (wsV RX12 369 RX12 yX12_put wsRX12_put) := goodIn_sub (fun _ h => List.mem_cons_of_mem _ (List.mem_append_left _ (List.mem_append_left _ (List.mem_append_left _ (List.mem_append_left _ (List.mem_append_left _ (List.mem_append_left _ (List.mem_append_right _ h)))))))) (gdV (by decide +kernel) gdwsRX12_put)
theorem gwsRX12_solves_9 : GoodIn wsRX12_solves (wsV RX12 850 RX12 yX12_canKeep wsRX12_canKeep) := goodIn_sub (fun _ h => List.mem_cons_of_mem _ (List.mem_append_left _ (List.mem_append_left _ (List.mem_append_left _ (List.mem_append_left _ (List.mem_append_left _ (List.mem_append_right _ h))))))) (gdV (by decide +kernel) gdwsRX12_canKeep)
theorem gwsRX12_solves_10 : GoodIn wsRX12_solves (wsV RX12 440 RX12 yX12_spill wsRX12_spill) := goodIn_sub (fun _ h => List.mem_cons_of_mem _ (List.mem_append_left _ (List.mem_append_left _ (List.mem_append_left _ (List.mem_append_left _ (List.mem_append_right _ h)))))) (gdV (by decide +kernel) gdwsRX12_spill)
theorem gwsRX12_solves_11 : GoodIn wsRX12_solves (wsV RX12 853 RX12 yX12_tryIt wsRX12_tryIt) := goodIn_sub (fun _ h => List.mem_cons_of_mem _ (List.mem_append_left _ (List.mem_append_left _ (List.mem_append_left _ (List.mem_append_right _ h))))) (gdV (by decide +kernel) gdwsRX12_tryIt)
theorem gwsRX12_solves_12 : GoodIn wsRX12_solves (wsV RX12 465 RX12 yX12_raise wsRX12_raise) := goodIn_sub (fun _ h => List.mem_cons_of_mem _ (List.mem_append_left _ (List.mem_append_left _ (List.mem_append_right _ h)))) (gdV (by decide +kernel) gdwsRX12_raise)
theorem gwsRX12_solves_13 : GoodIn wsRX12_solves (wsV RX12 823 RX12 yX12_newLine wsRX12_newLine) := goodIn_sub (fun _ h => List.mem_cons_of_mem _ (List.mem_append_left _ (List.mem_append_right _ h))) (gdV (by decide +kernel) gdwsRX12_newLine)
theorem gwsRX12_solves_14 : GoodIn wsRX12_solves (wsV RX12 838 RX12 yX12_waysOf wsRX12_waysOf) := goodIn_sub (fun _ h => List.mem_cons_of_mem _ (List.mem_append_right _ h)) (gdV (by decide +kernel) gdwsRX12_waysOf)
theorem gdwsRX12_solves : wsRX12_solves.all goodWord = true := gdC rfl (gdA (gdA (gdA (gdA (gdA (gdA (gdA (gdA (gdA (gdA (gdA (gdA (gdA (gdA (gdA (gdA (by decide +kernel : ([.fieldLink RX12 829 "OptimaWorksModel" "fixes" "Z", .fieldLink RX12 774 "OptimaWorksModel" "variables" "I", .fieldLink RX12 786 "OptimaWorksModel" "modelRows" "I", .fieldLink RX12 805 "OptimaWorksModel" "modelGoals" "I", .fieldLink RX12 218 "OptimaWorksModel" "goalMax" "[I", .fieldLink RX12 414 "OptimaWorksModel" "quick" "Z", .fieldLink RX12 399 "OptimaWorksModel" "rows" "I", .fieldLink RX12 197 "OptimaWorksModel" "whole" "[I", .fieldLink RX12 29 "OptimaWorksModel" "still" "[Z", .fieldLink RX12 396 "OptimaWorksModel" "columns" "I", .fieldLink RX12 194 "OptimaWorksModel" "high" "[I", .fieldLink RX12 191 "OptimaWorksModel" "low" "[I", .fieldLink RX12 230 "OptimaWorksModel" "chosen" "[I", .fieldLink RX12 200 "OptimaWorksModel" "wayMany" "[I"] : List Cond).all goodWord = true) gdwsX120) (gdV (by decide +kernel) gdwsRX12_begin)) (gdV (by decide +kernel) gdwsRX12_start)) (gdV (by decide +kernel) gdwsRX12_goalRow)) (gdV (by decide +kernel) gdwsRX12_scaleOf)) (gdV (by decide +kernel) gdwsRX12_goalNumber)) (gdV (by decide +kernel) gdwsRX12_at)) (gdV (by decide +kernel) gdwsRX12_copy)) (gdV (by decide +kernel) gdwsRX12_turn)) (gdV (by decide +kernel) gdwsRX12_put)) (gdV (by decide +kernel) gdwsRX12_canKeep)) (gdV (by decide +kernel) gdwsRX12_spill)) (gdV (by decide +kernel) gdwsRX12_tryIt)) (gdV (by decide +kernel) gdwsRX12_raise)) (gdV (by decide +kernel) gdwsRX12_newLine)) (gdV (by decide +kernel) gdwsRX12_waysOf))
theorem hm_r_X12_solves_0 : (.fieldLink RX12 829 "OptimaWorksModel" "fixes" "Z" : Cond) ∈ wsRX12_solves := by decide +kernel
theorem hm_r_X12_solves_1 : (.fieldLink RX12 774 "OptimaWorksModel" "variables" "I" : Cond) ∈ wsRX12_solves := by decide +kernel
theorem hm_r_X12_solves_2 : (.fieldLink RX12 805 "OptimaWorksModel" "modelGoals" "I" : Cond) ∈ wsRX12_solves := by decide +kernel
theorem hm_r_X12_solves_3 : (.fieldLink RX12 230 "OptimaWorksModel" "chosen" "[I" : Cond) ∈ wsRX12_solves := by decide +kernel
set_option maxHeartbeats 4000000 in
set_option maxRecDepth 100000 in
/-- solves(relaxed, all) -/
theorem r_X12_solves (l : Launch) (dC : Nat → ClassId) (dI : Nat → Nat → Nat) (a : Nat → Nat) (k : Nat → ClassId) (h0 : Nat) (vi : Nat → Int32) (vj : Nat → Int64) (vF : Nat → Nat → Int32) (vG : Nat → Nat → Int64) (rx : Int32) (al : Int32) (vn : Nat) (mr : Nat) (gq : Nat) (mg : Nat → Int) (hBg : Bg (vF 0) mg) (hvn : vi 90 = nI vn) (hvn8 : vn ≤ 8) (hmr : vi 91 = nI mr) (hmr12 : mr ≤ 12) (hmg : vi 93 = nI gq) (hgq : gq ≤ 3) (hM : MdlB vF gq) (hch : rx = 0 → ChO (vF 59) (vF 69) mr) (hAn : AnsB mg 1020) (sz : Nat) : Met l yX12_solves wsRX12_solves ({ frames := 6, cells := 0, slots := 0, locals := 157 }) (va_Pc [.ref h0, .int rx, .int al] (fun U => U.heap.size = sz ∧ va_P (dC, dI) vwCl (WR a k h0 vi vj vF vG) U.heap ∧ va_K (dC, dI) vwCl (tX12 k) U ∧ va_D (fun _ => True) (WR a k h0 vi vj vF vG))) (va_Qi (fun (r : Int32) (u : (Nat → Int32) × (Nat → Int32) × (Nat → Int32) × (Nat → Int32) × (Nat → Int32) × (Nat → Int32) × (Nat → Int64) × (Nat → Int64) × (Nat → Int64) × (Int64) × (Int32) × (Int32) × (Int32) × (Int32) × (Nat → Int)) => (Bg (u.1) (u.2.2.2.2.2.2.2.2.2.2.2.2.2.2)) ∧ (AnsB (u.2.2.2.2.2.2.2.2.2.2.2.2.2.2) 1020) ∧ (∀ q, ((1000 ≤ q ∧ q < 1020) ∨ 1036 ≤ q) → (u.2.2.2.2.2.2.2.2.2.2.2.2.2.2) q = mg q) ∧ ((r) = 0 ∨ (r) = 1) ∧ ((r) = 0 ∨ al = 0 ∨ (0 < (u.2.2.2.2.2.2.2.2.2.2.2.2.2.2) 1028 ∧ ∀ g9, g9 < gq → 0 < (u.2.2.2.2.2.2.2.2.2.2.2.2.2.2) (1033 + g9)))) (fun (u : (Nat → Int32) × (Nat → Int32) × (Nat → Int32) × (Nat → Int32) × (Nat → Int32) × (Nat → Int32) × (Nat → Int64) × (Nat → Int64) × (Nat → Int64) × (Int64) × (Int32) × (Int32) × (Int32) × (Int32) × (Nat → Int)) t => va_P (dC, dI) vwCl (WR a k h0 (fT (fT (fT (fT (fT vi 116 (u.2.2.2.2.2.2.2.2.2.2.1)) 5 (u.2.2.2.2.2.2.2.2.2.2.2.1)) 6 (u.2.2.2.2.2.2.2.2.2.2.2.2.1)) 7 (u.2.2.2.2.2.2.2.2.2.2.2.2.2.1)) 11 0) (fT vj 12 (u.2.2.2.2.2.2.2.2.2.1)) (fT (fT (fT (fT (fT (fT vF 0 (u.1)) 4 (u.2.2.2.1)) 6 (u.2.2.2.2.2.1)) 5 (u.2.2.2.2.1)) 2 (u.2.1)) 3 (u.2.2.1)) (fT (fT (fT vG 1 (u.2.2.2.2.2.2.1)) 7 (u.2.2.2.2.2.2.2.1)) 8 (u.2.2.2.2.2.2.2.2.1))) t.heap ∧ va_D (va_A (WR a k h0 vi vj vF vG) sz) (WR a k h0 (fT (fT (fT (fT (fT vi 116 (u.2.2.2.2.2.2.2.2.2.2.1)) 5 (u.2.2.2.2.2.2.2.2.2.2.2.1)) 6 (u.2.2.2.2.2.2.2.2.2.2.2.2.1)) 7 (u.2.2.2.2.2.2.2.2.2.2.2.2.2.1)) 11 0) (fT vj 12 (u.2.2.2.2.2.2.2.2.2.1)) (fT (fT (fT (fT (fT (fT vF 0 (u.1)) 4 (u.2.2.2.1)) 6 (u.2.2.2.2.2.1)) 5 (u.2.2.2.2.1)) 2 (u.2.1)) 3 (u.2.2.1)) (fT (fT (fT vG 1 (u.2.2.2.2.2.2.1)) 7 (u.2.2.2.2.2.2.2.1)) 8 (u.2.2.2.2.2.2.2.2.1)))) (va_A (WR a k h0 vi vj vF vG) sz)) 0 0 (va_A (WR a k h0 vi vj vF vG) sz) := by
  refine Met.ofW (cc := cX12_solves) (maxL := 6) (ret := (some .boolean)) (by decide) rfl ?_
  intro p e s m args below meth c s₁ B hml hv
  obtain ⟨rfl, hsz, hP, hK, hD0⟩ := hv
  have hx := B.exec
  have hb := B.bytes
  have hr := B.returns
  have hts := atoms_spec (ws := wsRX12_solves) B.pre
  have hown : s.vm.findClass RX12 = some m.cls := findClass_of_methodNamed B.named
  have hlocks := B.notSynchronized
  subst hsz
  have hD := hD0.self (sz := s.heap.size)
  generalize hAe : va_A (WR a k h0 vi vj vF vG) s.heap.size = A at hD ⊢
  have hA : ∀ q : Nat, s.heap.size ≤ q → A q := fun q h => by rw [← hAe]; exact Or.inr h
  have hS : va_S A s.heap s.heap [] := va_S.rf
  have hl := lv_entry ([.ref h0, .int rx, .int al]) (n := 6) (Nat.le_of_ble_eq_true rfl)
  rw [lg_entry_eq]
  generalize (lg_sl ([.ref h0, .int rx, .int al]) ++ List.replicate (6 - (lg_sl ([.ref h0, .int rx, .int al])).length) Slot.unset).toArray = ls at hl ⊢
  have hl : lv_has ls 6 [(0, .ref h0), (1, .int rx), (2, .int al)] := hl
  have z9 := nI_0
  refine lv_aload_n hx hb dX12_solves_0 rfl (lv_at hl 0 rfl) ?_
  refine lv_iload_n hx hb dX12_solves_1 rfl (lv_at hl 1 rfl) ?_
  refine W.cut (pc := 13) (fun H locs ls stk => ∃ (fx : Int32),  stk = [] ∧ va_P (dC, dI) vwCl (WR a k h0 (fT vi 116 fx) vj vF vG) H ∧ va_D A (WR a k h0 (fT vi 116 fx) vj vF vG) ∧ va_S A s.heap H locs ∧ lv_has ls 6 [(0, .ref h0), (1, .int rx), (2, .int al)]) (fun join1 => ?_) ?_
  · refine lv_if_ne (tgt := 9) hx hb dX12_solves_2 (by decide) (fun c_2 => ?_) (fun c_2 => ?_)
    · have t_2 : (rx).toInt ≠ 0 := toI_ne c_2 rfl (by decide)
      refine lv_iconst (v := 0) hx hb dX12_solves_9 (by decide) ?_
      refine va_put (D := (dC, dI)) (ci := 12) (v := .int 0) (ty := .boolean) (C := RX12) (T := TX12) (N := 163) (fs := fM (vS a vi vj)) hx hb hts iwsRX12_solves_in12 tyX12 tyX12_ok nmX12 hown hK hP hD hS 0 rfl rfl 116 (by decide) (hts _ hm_r_X12_solves_0) (fun _ h9 => h9) rfl (by decide +kernel) rfl rfl (Nat.le_of_ble_eq_true rfl) dX12_solves_10 (fun H locs hP hD hS => ?_)
      have hP : va_P (dC, dI) vwCl (WR a k h0 (fT vi 116 0) vj vF vG) H := fz_w (WR_i 116 _ rfl) hP
      have hD : va_D A (WR a k h0 (fT vi 116 0) vj vF vG) := fz_wD (WR_i 116 _ rfl) hD
      have hl : lv_has _ _ ([(0, .ref h0), (1, .int rx), (2, .int al)]) := lv_sub hl [0, 1, 2] rfl
      exact join1 _ _ _ _ ⟨0, rfl, hP, hD, hS, hl⟩
    · have t_2 : (rx).toInt = 0 := toI_nne c_2 rfl (by decide)
      refine lv_iconst (v := 1) hx hb dX12_solves_5 (by decide) ?_
      refine lv_goto (tgt := 10) hx hb dX12_solves_6 (by decide) ?_
      refine va_put (D := (dC, dI)) (ci := 12) (v := .int 1) (ty := .boolean) (C := RX12) (T := TX12) (N := 163) (fs := fM (vS a vi vj)) hx hb hts iwsRX12_solves_in12 tyX12 tyX12_ok nmX12 hown hK hP hD hS 0 rfl rfl 116 (by decide) (hts _ hm_r_X12_solves_0) (fun _ h9 => h9) rfl (by decide +kernel) rfl rfl (Nat.le_of_ble_eq_true rfl) dX12_solves_10 (fun H locs hP hD hS => ?_)
      have hP : va_P (dC, dI) vwCl (WR a k h0 (fT vi 116 1) vj vF vG) H := fz_w (WR_i 116 _ rfl) hP
      have hD : va_D A (WR a k h0 (fT vi 116 1) vj vF vG) := fz_wD (WR_i 116 _ rfl) hD
      have hl : lv_has _ _ ([(0, .ref h0), (1, .int rx), (2, .int al)]) := lv_sub hl [0, 1, 2] rfl
      exact join1 _ _ _ _ ⟨1, rfl, hP, hD, hS, hl⟩
  · rintro H locs ls stk ⟨fx, rfl, hP, hD, hS, hl⟩
    refine lv_aload_n hx hb dX12_solves_13 rfl (lv_at hl 0 rfl) ?_
    refine lv_aload_n hx hb dX12_solves_14 rfl (lv_at hl 0 rfl) ?_
    refine va_get (D := (dC, dI)) (ci := 12) (v := .int (vi 90)) (C := RX12) (T := TX12) (N := 163) (fs := fM (vS a (fT vi 116 fx) vj)) hx hb hts iwsRX12_solves_in12 hown hK hP 0 rfl rfl 90 (by decide) (hts _ hm_r_X12_solves_1) (fun _ h9 => h9) rfl dX12_solves_15 ?_
    refine lv_topi (fun y1 hy1 => ?_)
    obtain rfl : (nI vn) = y1 := (hy1.trans (hvn)).symm
    have hFc := allFree hD hS hA
    refine va_callv (va_runV (As := [.int (nI vn)]) (rest := []) ⟨hx, hb, hml, hown, hts⟩ (r_X12_begin l dC dI a k h0 (fT vi 116 fx) vj vF vG vn mg hBg (by first | with_reducible assumption | decide | omega | rfl | assumption) H.size) (cwV 1 hts gwsRX12_solves_0 rfl rfl rfl hd_yX12_begin_RX12 (by decide +kernel)) (fz_pre (va_recv hK hP (ci := 12) (q0 := 0) rfl rfl) hP hK hD) rfl rfl hl.1 rfl (lv_room (Nat.le_of_ble_eq_true rfl)) dX12_solves_18 (by decide +kernel)) hS (fun q _ h => hFc q h) hFc (fun u t9_ H locs ht hvm hw9 hB9 hz1 hk1 hS => ?_)
    revert u hw9 hB9
    refine fz_p3 ?_
    intro g18 f418 f618 hw9 hB9
    try dsimp only at hw9 hB9
    have hP : va_P (dC, dI) vwCl (WR a k h0 (fT (fT (fT (fT vi 116 fx) 5 (nI (vn + 1))) 6 0) 7 0) vj (fT (fT (fT vF 0 g18) 4 f418) 6 f618) vG) H := fz_P ht hB9.1
    have hD := fz_sd hP (hB9.2.weaken (fun _ q _ h => hFc q.1 h)) rfl
    revert hw9
    refine fz_a3 ?_
    intro f18_0 f18_1 f18_2
    refine lv_iconst (v := 0) hx hb dX12_solves_21 (by decide) ?_
    refine lv_istore_n hx hb dX12_solves_22 rfl hl (by decide) rfl (fun ls (hl : lv_has ls _ ([(3, .int 0), (0, .ref h0), (1, .int rx), (2, .int al)])) => ?_)
    have e9 : fT (fT (fT (fT vi 116 fx) 5 (nI (vn + 1))) 6 (nI 0)) 7 0 = fT (fT (fT (fT vi 116 fx) 5 (nI (vn + 1))) 6 0) 7 0 := Eq.trans (mv_1 rfl) (Eq.trans (congrArg (fT _ 6) (show nI 0 = 0 from (by first | with_reducible rfl | with_reducible assumption | (symm; with_reducible assumption) | rfl | assumption | (symm; assumption) | (subst_vars; rfl)))) (mv_1 rfl))
    have hP := wr_Pi e9 hP
    have hD := wr_Di e9 hD
    clear e9
    have e9 : fT (fT (fT (fT vF 0 g18) 4 f418) 6 f618) 5 (vF 5) = fT (fT (fT vF 0 g18) 4 f418) 6 f618 := id_3 rfl
    have hP := wr_PF e9 hP
    have hD := wr_DF e9 hD
    clear e9
    have hl : lv_has _ _ ([(0, .ref h0), (1, .int rx), (2, .int al), (3, .int (nI 0))]) := lv_sub hl [1, 2, 3, 0] rfl
    refine (fun (loop : ∀ (n9 : Nat) (r5 : Nat) (R : Nat) (g1 : Nat → Int32) (f51 : Nat → Int32) (m1 : Nat → Int) (H : Heap) (locs : List Loc) (ls : Array Slot), (Bg g1 m1) → (r5 ≤ mr) → (R ≤ 2 * r5) → (BldL (vn + 1) R m1 f51) → (m1 20 = 1) → (∀ q, 1000 ≤ q → m1 q = mg q) →  (mr < r5 + n9) → va_P (dC, dI) vwCl (WR a k h0 (fT (fT (fT (fT vi 116 fx) 5 (nI (vn + 1))) 6 (nI R)) 7 0) vj (fT (fT (fT (fT vF 0 g1) 4 f418) 6 f618) 5 f51) vG) H → va_D A (WR a k h0 (fT (fT (fT (fT vi 116 fx) 5 (nI (vn + 1))) 6 (nI R)) 7 0) vj (fT (fT (fT (fT vF 0 g1) 4 f418) 6 f618) 5 f51) vG) → va_S A s.heap H locs → lv_has ls 6 [(0, .ref h0), (1, .int rx), (2, .int al), (3, .int (nI r5))] → W p l e _ s m _ below meth c H locs 0 0 _ (F0 m 23 ls [])) => loop (mr + 1) 0 0 g18 (vF 5) (fT mg 20 1) _ _ _ (f18_0) (by omega) (by omega) (fun i hi => absurd hi (by omega)) ((by rw [fT_eq])) (fun q hq => by (rw [fT_ne _ _ (by omega)])) (by omega) hP hD hS hl) ?_
    intro n9
    induction n9 with
    | zero => intro r5 R g1 f51 m1 H locs ls hB1 hr5 hR24 hBl h20 ho hf9; exact False.elim (by omega)
    | succ n9 ih23 =>
      intro r5 R g1 f51 m1 H locs ls hB1 hr5 hR24 hBl h20 ho hf23 hP hD hS hl
      refine lv_iload_n hx hb dX12_solves_23 rfl (lv_at hl 3 rfl) ?_
      refine lv_aload_n hx hb dX12_solves_24 rfl (lv_at hl 0 rfl) ?_
      refine va_get (D := (dC, dI)) (ci := 12) (v := .int (vi 91)) (C := RX12) (T := TX12) (N := 163) (fs := fM (vS a (fT (fT (fT (fT vi 116 fx) 5 (nI (vn + 1))) 6 (nI R)) 7 0) vj)) hx hb hts iwsRX12_solves_in12 hown hK hP 0 rfl rfl 91 (by decide) (hts (.fieldLink RX12 786 "OptimaWorksModel" "modelRows" "I") (by decide +kernel)) (fun _ h9 => h9) rfl dX12_solves_25 ?_
      refine lv_topi (fun y2 hy2 => ?_)
      obtain rfl : (nI mr) = y2 := (hy2.trans (hmr)).symm
      refine lv_icmp_ge (tgt := 73) hx hb dX12_solves_28 (by decide) (fun c_28 => ?_) (fun c_28 => ?_)
      · have t_28 : ((r5 : Nat) : Int) ≥ ((mr : Nat) : Int) := toI_ge c_28 (nI_toInt (by omega)) (nI_toInt (by omega))
        refine lv_iconst (v := 0) hx hb dX12_solves_73 (by decide) ?_
        refine lv_istore_n hx hb dX12_solves_74 rfl hl (by decide) rfl (fun ls (hl : lv_has ls _ ([(3, .int 0), (0, .ref h0), (1, .int rx), (2, .int al)])) => ?_)
        have hl : lv_has _ _ ([(0, .ref h0), (1, .int rx), (2, .int al), (3, .int (nI 0))]) := lv_sub hl [1, 2, 3, 0] rfl
        refine (fun (loop : ∀ (n9 : Nat) (k5 : Nat) (R2 : Nat) (g2 : Nat → Int32) (f52 : Nat → Int32) (f62 : Nat → Int32) (m2a : Nat → Int) (H : Heap) (locs : List Loc) (ls : Array Slot), (Bg g2 m2a) → (k5 ≤ vn) → (R2 ≤ 24 + k5) → (BldL (vn + 1) R2 m2a f52) → (m2a 20 = 1) → (∀ q, 1000 ≤ q → m2a q = mg q) →  (vn < k5 + n9) → va_P (dC, dI) vwCl (WR a k h0 (fT (fT (fT (fT vi 116 fx) 5 (nI (vn + 1))) 6 (nI R2)) 7 0) vj (fT (fT (fT (fT vF 0 g2) 4 f418) 6 f62) 5 f52) vG) H → va_D A (WR a k h0 (fT (fT (fT (fT vi 116 fx) 5 (nI (vn + 1))) 6 (nI R2)) 7 0) vj (fT (fT (fT (fT vF 0 g2) 4 f418) 6 f62) 5 f52) vG) → va_S A s.heap H locs → lv_has ls 6 [(0, .ref h0), (1, .int rx), (2, .int al), (3, .int (nI k5))] → W p l e _ s m _ below meth c H locs 0 0 _ (F0 m 75 ls [])) => loop (vn + 1) 0 R g1 f51 f618 m1 _ _ _ (hB1) (by omega) (by omega) (hBl) (h20) (ho) (by omega) hP hD hS hl) ?_
        intro n9
        induction n9 with
        | zero => intro k5 R2 g2 f52 f62 m2a H locs ls hB2 hk5 hR32 hBl2 h202 ho2 hf9; exact False.elim (by omega)
        | succ n9 ih75_1 =>
          intro k5 R2 g2 f52 f62 m2a H locs ls hB2 hk5 hR32 hBl2 h202 ho2 hf75_1 hP hD hS hl
          refine lv_iload_n hx hb dX12_solves_75 rfl (lv_at hl 3 rfl) ?_
          refine lv_aload_n hx hb dX12_solves_76 rfl (lv_at hl 0 rfl) ?_
          refine va_get (D := (dC, dI)) (ci := 12) (v := .int (vi 90)) (C := RX12) (T := TX12) (N := 163) (fs := fM (vS a (fT (fT (fT (fT vi 116 fx) 5 (nI (vn + 1))) 6 (nI R2)) 7 0) vj)) hx hb hts iwsRX12_solves_in12 hown hK hP 0 rfl rfl 90 (by decide) (hts _ hm_r_X12_solves_1) (fun _ h9 => h9) rfl dX12_solves_77 ?_
          refine lv_topi (fun y3 hy3 => ?_)
          obtain rfl : (nI vn) = y3 := (hy3.trans (hvn)).symm
          refine lv_icmp_ge (tgt := 162) hx hb dX12_solves_80 (by decide) (fun c_80 => ?_) (fun c_80 => ?_)
          · have t_80 : ((k5 : Nat) : Int) ≥ ((vn : Nat) : Int) := toI_ge c_80 (nI_toInt (by omega)) (nI_toInt (by omega))
            have hk5v : k5 = vn := by omega
            have hmul : R2 * (vn + 1 + 1) ≤ 32 * 10 := Nat.mul_le_mul (by omega) (by omega)
            have hx0 : (R2 + 0) * (vn + 1 + 1) = R2 * (vn + 1 + 1) := rfl
            have hex : ∀ y, y ≤ 12 → (R2 + y) * (vn + 1 + 1) ≤ 44 * 10 := fun y hy => Nat.mul_le_mul (by omega) (by omega)
            refine lv_aload_n hx hb dX12_solves_162 rfl (lv_at hl 0 rfl) ?_
            have hFc := allFree hD hS hA
            refine va_callv (va_runV (As := []) (rest := []) ⟨hx, hb, hml, hown, hts⟩ (r_X12_start l dC dI a k h0 (fT (fT (fT (fT vi 116 fx) 5 (nI (vn + 1))) 6 (nI R2)) 7 0) vj (fT (fT (fT (fT vF 0 g2) 4 f418) 6 f62) 5 f52) vG (vn + 1) R2 0 m2a hB2 (by first | with_reducible assumption | decide | omega | rfl | assumption) (rfl) (nI_0.symm) (by first | with_reducible assumption | decide | omega | rfl | assumption) (by first | with_reducible assumption | decide | omega | rfl | assumption) (by first | with_reducible assumption | decide | omega | rfl | assumption) H.size) (cwV 0 hts gwsRX12_solves_1 rfl rfl rfl hd_yX12_start_RX12 (by decide +kernel)) (fz_pre (va_recv hK hP (ci := 12) (q0 := 0) rfl rfl) hP hK hD) rfl rfl hl.1 rfl (lv_room (Nat.le_of_ble_eq_true rfl)) dX12_solves_163 (by decide +kernel)) hS (fun q _ h => hFc q h) hFc (fun u t9_ H locs ht hvm hw9 hB9 hz1 hk1 hS => ?_)
            revert u hw9 hB9
            refine fz_p2 ?_
            intro g163 m2163 hw9 hB9
            try dsimp only at hw9 hB9
            have e9i : fT (fT (fT (fT vi 116 fx) 5 (nI (vn + 1))) 6 (nI R2)) 7 (nI (0 + 1)) = fT (fT (fT (fT (fT vi 116 fx) 5 (nI (vn + 1))) 6 (nI R2)) 7 0) 7 (nI (0 + 1)) := (fT_sm _ _ _ _).symm
            have e9F : fT (fT (fT (fT vF 0 g163) 4 f418) 6 f62) 5 f52 = fT (fT (fT (fT (fT vF 0 g2) 4 f418) 6 f62) 5 f52) 0 g163 := ((fT_sw _ _ _ (Nat.ne_of_beq_eq_false rfl)).trans (congrArg (fun g9 => fT g9 5 f52) ((fT_sw _ _ _ (Nat.ne_of_beq_eq_false rfl)).trans (congrArg (fun g9 => fT g9 6 f62) ((fT_sw _ _ _ (Nat.ne_of_beq_eq_false rfl)).trans (congrArg (fun g9 => fT g9 4 f418) (fT_sm _ _ _ _))))))).symm
            have hP := wr_PF e9F (wr_Pi e9i (fz_P ht hB9.1))
            have hD := wr_DF e9F (wr_Di e9i (hB9.2.weaken (fun _ q _ h => hFc q.1 h)))
            clear e9i e9F
            revert hw9
            refine fz_a3 ?_
            intro f163_0 f163_1 f163_2
            refine W.cut (pc := 260) (fun H locs ls stk => ∃ (GA : Nat) (gA : Nat → Int32) (f2A : Nat → Int32) (f3A : Nat → Int32) (gsA : Nat → Int64) (mA : Nat → Int), (Bg gA mA) ∧ (1 ≤ GA ∧ GA ≤ 1 + gq) ∧ (al = 0 ∨ GA = 1 + gq) ∧ (GldG (vn + 1) R2 (R2 + GA) mA) ∧ (BldL (vn + 1) R2 mA f52) ∧ (mA 20 = 1) ∧ (∀ q, 1000 ≤ q → mA q = mg q) ∧  stk = [] ∧ va_P (dC, dI) vwCl (WR a k h0 (fT (fT (fT (fT vi 116 fx) 5 (nI (vn + 1))) 6 (nI R2)) 7 (nI GA)) vj (fT (fT (fT (fT (fT (fT vF 0 gA) 4 f418) 6 f62) 5 f52) 2 f2A) 3 f3A) (fT vG 1 gsA)) H ∧ va_D A (WR a k h0 (fT (fT (fT (fT vi 116 fx) 5 (nI (vn + 1))) 6 (nI R2)) 7 (nI GA)) vj (fT (fT (fT (fT (fT (fT vF 0 gA) 4 f418) 6 f62) 5 f52) 2 f2A) 3 f3A) (fT vG 1 gsA)) ∧ va_S A s.heap H locs ∧ lv_has ls 6 [(0, .ref h0), (1, .int rx), (2, .int al)]) (fun join2 => ?_) ?_
            · refine lv_iconst (v := 0) hx hb dX12_solves_166 (by decide) ?_
              refine lv_istore_n hx hb dX12_solves_167 rfl hl (by decide) rfl (fun ls (hl : lv_has ls _ ([(3, .int 0), (0, .ref h0), (1, .int rx), (2, .int al)])) => ?_)
              have e9 : fT (fT (fT (fT vi 116 fx) 5 (nI (vn + 1))) 6 (nI R2)) 7 (nI (1 + 0)) = fT (fT (fT (fT vi 116 fx) 5 (nI (vn + 1))) 6 (nI R2)) 7 (nI (0 + 1)) := congrArg (fT _ 7) (show nI (1 + 0) = nI (0 + 1) from (by first | with_reducible rfl | with_reducible assumption | (symm; with_reducible assumption) | rfl | assumption | (symm; assumption) | (subst_vars; rfl)))
              have hP := wr_Pi e9 hP
              have hD := wr_Di e9 hD
              clear e9
              have e9 : fT (fT (fT (fT (fT (fT vF 0 g163) 4 f418) 6 f62) 5 f52) 2 (vF 2)) 3 (vF 3) = fT (fT (fT (fT vF 0 g163) 4 f418) 6 f62) 5 f52 := Eq.trans (mv_1 rfl) (Eq.trans (id_5 rfl) (id_4 rfl))
              have hP := wr_PF e9 hP
              have hD := wr_DF e9 hD
              clear e9
              have e9 : fT vG 1 (vG 1) = vG := by funext q9; by_cases h9_1 : q9 = 1; (subst h9_1; exact (fT_eq _ _ _).trans (Eq.trans (by first | with_reducible rfl | with_reducible assumption | (symm; with_reducible assumption) | rfl | assumption | (symm; assumption) | (subst_vars; rfl)) (Eq.refl _).symm)); exact (fT_ne _ _ h9_1).trans (Eq.refl _).symm
              have hP := wr_PG e9 hP
              have hD := wr_DG e9 hD
              clear e9
              have hl : lv_has _ _ ([(0, .ref h0), (1, .int rx), (2, .int al), (3, .int (nI 0))]) := lv_sub hl [1, 2, 3, 0] rfl
              refine (fun (loop : ∀ (n9 : Nat) (g5 : Nat) (g3 : Nat → Int32) (f23 : Nat → Int32) (f33 : Nat → Int32) (gs3 : Nat → Int64) (m3 : Nat → Int) (H : Heap) (locs : List Loc) (ls : Array Slot), (Bg g3 m3) → (g5 ≤ gq) → (GldG (vn + 1) R2 (R2 + (1 + g5)) m3) → (BldL (vn + 1) R2 m3 f52) → (m3 20 = 1) → (∀ q, 1000 ≤ q → m3 q = mg q) →  (gq < g5 + n9) → va_P (dC, dI) vwCl (WR a k h0 (fT (fT (fT (fT vi 116 fx) 5 (nI (vn + 1))) 6 (nI R2)) 7 (nI (1 + g5))) vj (fT (fT (fT (fT (fT (fT vF 0 g3) 4 f418) 6 f62) 5 f52) 2 f23) 3 f33) (fT vG 1 gs3)) H → va_D A (WR a k h0 (fT (fT (fT (fT vi 116 fx) 5 (nI (vn + 1))) 6 (nI R2)) 7 (nI (1 + g5))) vj (fT (fT (fT (fT (fT (fT vF 0 g3) 4 f418) 6 f62) 5 f52) 2 f23) 3 f33) (fT vG 1 gs3)) → va_S A s.heap H locs → lv_has ls 6 [(0, .ref h0), (1, .int rx), (2, .int al), (3, .int (nI g5))] → W p l e _ s m _ below meth c H locs 0 0 _ (F0 m 168 ls [])) => loop (gq + 1) 0 g163 (vF 2) (vF 3) (vG 1) m2163 _ _ _ (f163_0) (by omega) (⟨fun j hj => f163_1 j hj, fun i h1 h2 => absurd h2 (by omega)⟩) (hBl2.frame (fun p h1 h2 => by (rw [f163_2 _ (by omega)]))) (by (rw [f163_2 _ (by omega)]); exact h202) (fun q hq => by (rw [f163_2 _ (by omega)]); exact ho2 q hq) (by omega) hP hD hS hl) ?_
              intro n9
              induction n9 with
              | zero => intro g5 g3 f23 f33 gs3 m3 H locs ls hB3 hg5 hGlm3 hBlm3 h20m3 hom3 hf9; exact False.elim (by omega)
              | succ n9 ih168_2 =>
                intro g5 g3 f23 f33 gs3 m3 H locs ls hB3 hg5 hGlm3 hBlm3 h20m3 hom3 hf168_2 hP hD hS hl
                refine lv_iload_n hx hb dX12_solves_168 rfl (lv_at hl 3 rfl) ?_
                refine lv_aload_n hx hb dX12_solves_169 rfl (lv_at hl 0 rfl) ?_
                refine va_get (D := (dC, dI)) (ci := 12) (v := .int (vi 93)) (C := RX12) (T := TX12) (N := 163) (fs := fM (vS a (fT (fT (fT (fT vi 116 fx) 5 (nI (vn + 1))) 6 (nI R2)) 7 (nI (1 + g5))) vj)) hx hb hts iwsRX12_solves_in12 hown hK hP 0 rfl rfl 93 (by decide) (hts _ hm_r_X12_solves_2) (fun _ h9 => h9) rfl dX12_solves_170 ?_
                refine lv_topi (fun y4 hy4 => ?_)
                obtain rfl : (nI gq) = y4 := (hy4.trans (hmg)).symm
                refine lv_icmp_ge (tgt := 260) hx hb dX12_solves_173 (by decide) (fun c_173 => ?_) (fun c_173 => ?_)
                · have t_173 : ((g5 : Nat) : Int) ≥ ((gq : Nat) : Int) := toI_ge c_173 (nI_toInt (by omega)) (nI_toInt (by omega))
                  have hl : lv_has _ _ ([(0, .ref h0), (1, .int rx), (2, .int al)]) := lv_sub hl [0, 1, 2] rfl
                  exact join2 _ _ _ _ ⟨(1 + g5), g3, f23, f33, gs3, m3, hB3, by omega, Or.inr (by omega), hGlm3, hBlm3, h20m3, hom3, rfl, hP, hD, hS, hl⟩
                · have t_173 : ¬ ((g5 : Nat) : Int) ≥ ((gq : Nat) : Int) := toI_nge c_173 (nI_toInt (by omega)) (nI_toInt (by omega))
                  refine lv_iload_n hx hb dX12_solves_176 rfl (lv_at hl 2 rfl) ?_
                  refine lv_if_eq (tgt := 260) hx hb dX12_solves_177 (by decide) (fun c_177 => ?_) (fun c_177 => ?_)
                  · have t_177 : (al).toInt = 0 := toI_eq c_177 rfl (by decide)
                    have hl : lv_has _ _ ([(0, .ref h0), (1, .int rx), (2, .int al)]) := lv_sub hl [0, 1, 2] rfl
                    exact join2 _ _ _ _ ⟨(1 + g5), g3, f23, f33, gs3, m3, hB3, by omega, Or.inl c_177, hGlm3, hBlm3, h20m3, hom3, rfl, hP, hD, hS, hl⟩
                  · have t_177 : ¬ (al).toInt = 0 := toI_neq c_177 rfl (by decide)
                    have hx8 := hex (1 + g5 + 1) (by omega)
                    have hx9 := hex (1 + g5) (by omega)
                    have hx7 : (R2 + (1 + g5) + 1) * (vn + 1 + 1) = (R2 + (1 + g5)) * (vn + 1 + 1) + (vn + 1 + 1) := Nat.succ_mul _ _
                    refine lv_aload_n hx hb dX12_solves_180 rfl (lv_at hl 0 rfl) ?_
                    have hFc := allFree hD hS hA
                    refine va_calli (va_runV (As := []) (rest := []) ⟨hx, hb, hml, hown, hts⟩ (r_X12_goalRow l dC dI a k h0 (fT (fT (fT (fT vi 116 fx) 5 (nI (vn + 1))) 6 (nI R2)) 7 (nI (1 + g5))) vj (fT (fT (fT (fT (fT (fT vF 0 g3) 4 f418) 6 f62) 5 f52) 2 f23) 3 f33) (fT vG 1 gs3) (vn + 1) R2 (1 + g5) m3 hB3 (by first | with_reducible assumption | decide | omega | rfl | assumption) (by first | with_reducible assumption | decide | omega | rfl | assumption) (by first | with_reducible assumption | decide | omega | rfl | assumption) (by first | with_reducible assumption | decide | omega | rfl | assumption) (by first | with_reducible assumption | decide | omega | rfl | assumption) (by first | with_reducible assumption | decide | omega | rfl | assumption) H.size) (cwV 0 hts gwsRX12_solves_2 rfl rfl rfl hd_yX12_goalRow_RX12 (by decide +kernel)) (fz_pre (va_recv hK hP (ci := 12) (q0 := 0) rfl rfl) hP hK hD) rfl rfl hl.1 rfl (lv_room (Nat.le_of_ble_eq_true rfl)) dX12_solves_181 (by decide +kernel)) hS (fun q _ h => hFc q h) hFc (fun r181 u t9_ H locs ht hvm hw9 hB9 hz1 hk1 hS => ?_)
                    revert u hw9 hB9
                    refine fz_p2 ?_
                    intro g181 m2181 hw9 hB9
                    try dsimp only at hw9 hB9
                    have e9i : fT (fT (fT (fT vi 116 fx) 5 (nI (vn + 1))) 6 (nI R2)) 7 (nI ((1 + g5) + 1)) = fT (fT (fT (fT (fT vi 116 fx) 5 (nI (vn + 1))) 6 (nI R2)) 7 (nI (1 + g5))) 7 (nI ((1 + g5) + 1)) := (fT_sm _ _ _ _).symm
                    have e9F : fT (fT (fT (fT (fT (fT vF 0 g181) 4 f418) 6 f62) 5 f52) 2 f23) 3 f33 = fT (fT (fT (fT (fT (fT (fT vF 0 g3) 4 f418) 6 f62) 5 f52) 2 f23) 3 f33) 0 g181 := ((fT_sw _ _ _ (Nat.ne_of_beq_eq_false rfl)).trans (congrArg (fun g9 => fT g9 3 f33) ((fT_sw _ _ _ (Nat.ne_of_beq_eq_false rfl)).trans (congrArg (fun g9 => fT g9 2 f23) ((fT_sw _ _ _ (Nat.ne_of_beq_eq_false rfl)).trans (congrArg (fun g9 => fT g9 5 f52) ((fT_sw _ _ _ (Nat.ne_of_beq_eq_false rfl)).trans (congrArg (fun g9 => fT g9 6 f62) ((fT_sw _ _ _ (Nat.ne_of_beq_eq_false rfl)).trans (congrArg (fun g9 => fT g9 4 f418) (fT_sm _ _ _ _))))))))))).symm
                    have hP := wr_PF e9F (wr_Pi e9i (fz_P ht hB9.1))
                    have hD := wr_DF e9F (wr_Di e9i (hB9.2.weaken (fun _ q _ h => hFc q.1 h)))
                    clear e9i e9F
                    obtain ⟨rfl, f181_0, f181_1, f181_2⟩ := hw9
                    refine lv_istore hx hb dX12_solves_184 hl (by decide) rfl (fun ls (hl : lv_has ls _ ([(4, .int (nI (R2 + (1 + g5)))), (0, .ref h0), (1, .int rx), (2, .int al), (3, .int (nI g5))])) => ?_)
                    refine lv_aload_n hx hb dX12_solves_186 rfl (lv_at hl 1 rfl) ?_
                    refine lv_iload_n hx hb dX12_solves_187 rfl (lv_at hl 4 rfl) ?_
                    have hFc := allFree hD hS hA
                    refine va_callv (va_runV (As := [.int (nI g5)]) (rest := []) ⟨hx, hb, hml, hown, hts⟩ (r_X12_scaleOf l dC dI a k h0 (fT (fT (fT (fT vi 116 fx) 5 (nI (vn + 1))) 6 (nI R2)) 7 (nI ((1 + g5) + 1))) vj (fT (fT (fT (fT (fT (fT vF 0 g181) 4 f418) 6 f62) 5 f52) 2 f23) 3 f33) (fT vG 1 gs3) g5 gq m2181 f181_0 (by omega) (by first | with_reducible assumption | decide | omega | rfl | assumption) (by first | with_reducible assumption | decide | omega | rfl | assumption) H.size) (cwV 1 hts gwsRX12_solves_3 rfl rfl rfl hd_yX12_scaleOf_RX12 (by decide +kernel)) (fz_pre (va_recv hK hP (ci := 12) (q0 := 0) rfl rfl) hP hK hD) rfl rfl hl.1 rfl (lv_room (Nat.le_of_ble_eq_true rfl)) dX12_solves_188 (by decide +kernel)) hS (fun q _ h => hFc q h) hFc (fun u t9_ H locs ht hvm hw9 hB9 hz1 hk1 hS => ?_)
                    revert u hw9 hB9
                    refine fz_p5 ?_
                    intro g188 f2w188 f3w188 gs188 m2188 hw9 hB9
                    try dsimp only at hw9 hB9
                    have e9F : fT (fT (fT (fT (fT (fT vF 0 g188) 4 f418) 6 f62) 5 f52) 2 f2w188) 3 f3w188 = fT (fT (fT (fT (fT (fT (fT (fT (fT vF 0 g181) 4 f418) 6 f62) 5 f52) 2 f23) 3 f33) 0 g188) 2 f2w188) 3 f3w188 := Eq.symm (Eq.trans (congrArg (fun g9 => fT g9 3 f3w188) (Eq.trans (congrArg (fun g9 => fT g9 2 f2w188) (up_5 rfl)) (up_1 rfl))) (up_0 rfl))
                    have e9G : fT vG 1 gs188 = fT (fT vG 1 gs3) 1 gs188 := (fT_sm _ _ _ _).symm
                    have hP := wr_PG e9G (wr_PF e9F (fz_P ht hB9.1))
                    have hD := wr_DG e9G (wr_DF e9F (hB9.2.weaken (fun _ q _ h => hFc q.1 h)))
                    clear e9F e9G
                    revert hw9
                    refine fz_a4 ?_
                    intro f188_0 f188_1 f188_2 f188_3
                    refine lv_iconst (v := 0) hx hb dX12_solves_191 (by decide) ?_
                    refine lv_istore hx hb dX12_solves_192 hl (by decide) rfl (fun ls (hl : lv_has ls _ ([(5, .int 0), (4, .int (nI (R2 + (1 + g5)))), (0, .ref h0), (1, .int rx), (2, .int al), (3, .int (nI g5))])) => ?_)
                    have hl : lv_has _ _ ([(0, .ref h0), (1, .int rx), (2, .int al), (3, .int (nI g5)), (4, .int (nI (R2 + (1 + g5)))), (5, .int (nI 0))]) := lv_sub hl [2, 3, 4, 5, 1, 0] rfl
                    refine (fun (loop : ∀ (n9 : Nat) (k6 : Nat) (g4 : Nat → Int32) (f24 : Nat → Int32) (f34 : Nat → Int32) (gs4 : Nat → Int64) (m4 : Nat → Int) (x19 : Int) (H : Heap) (locs : List Loc) (ls : Array Slot), (Bg g4 m4) → (m4 19 = x19) → (k6 ≤ vn) → (x19.natAbs < 2 ^ 67) → (∀ j, j ≤ vn + 1 → (m4 (30 + (R2 + (1 + g5)) * (vn + 1 + 1) + j)).natAbs < 2 ^ 74) → (∀ q, 19 < q → (q < 30 + (R2 + (1 + g5)) * (vn + 1 + 1) ∨ 30 + (R2 + (1 + g5)) * (vn + 1 + 1) + (vn + 1) < q) → m4 q = m3 q) →  (vn < k6 + n9) → va_P (dC, dI) vwCl (WR a k h0 (fT (fT (fT (fT vi 116 fx) 5 (nI (vn + 1))) 6 (nI R2)) 7 (nI ((1 + g5) + 1))) vj (fT (fT (fT (fT (fT (fT vF 0 g4) 4 f418) 6 f62) 5 f52) 2 f24) 3 f34) (fT vG 1 gs4)) H → va_D A (WR a k h0 (fT (fT (fT (fT vi 116 fx) 5 (nI (vn + 1))) 6 (nI R2)) 7 (nI ((1 + g5) + 1))) vj (fT (fT (fT (fT (fT (fT vF 0 g4) 4 f418) 6 f62) 5 f52) 2 f24) 3 f34) (fT vG 1 gs4)) → va_S A s.heap H locs → lv_has ls 6 [(0, .ref h0), (1, .int rx), (2, .int al), (3, .int (nI g5)), (4, .int (nI (R2 + (1 + g5)))), (5, .int (nI k6))] → W p l e _ s m _ below meth c H locs 0 0 _ (F0 m 194 ls [])) => loop (vn + 1) 0 g188 f2w188 f3w188 gs188 m2188 (m2188 19) _ _ _ (f188_0) (rfl) (by omega) (f188_2) (fun j hj => by rw [f188_3 _ (by omega), f181_1 j hj]; decide) (fun q h1 h2 => by (rw [f188_3 _ (by omega), f181_2 _ (by omega)])) (by omega) hP hD hS hl) ?_
                    intro n9
                    induction n9 with
                    | zero => intro k6 g4 f24 f34 gs4 m4 x19 H locs ls hB4 v_x19 hk6 h19b hrow hfr hf9; exact False.elim (by omega)
                    | succ n9 ih194_3 =>
                      intro k6 g4 f24 f34 gs4 m4 x19 H locs ls hB4 v_x19 hk6 h19b hrow hfr hf194_3 hP hD hS hl
                      refine lv_iload hx hb dX12_solves_194 (lv_at hl 5 rfl) ?_
                      refine lv_aload_n hx hb dX12_solves_196 rfl (lv_at hl 0 rfl) ?_
                      refine va_get (D := (dC, dI)) (ci := 12) (v := .int (vi 90)) (C := RX12) (T := TX12) (N := 163) (fs := fM (vS a (fT (fT (fT (fT vi 116 fx) 5 (nI (vn + 1))) 6 (nI R2)) 7 (nI ((1 + g5) + 1))) vj)) hx hb hts iwsRX12_solves_in12 hown hK hP 0 rfl rfl 90 (by decide) (hts _ hm_r_X12_solves_1) (fun _ h9 => h9) rfl dX12_solves_197 ?_
                      refine lv_topi (fun y5 hy5 => ?_)
                      obtain rfl : (nI vn) = y5 := (hy5.trans (hvn)).symm
                      refine lv_icmp_ge (tgt := 254) hx hb dX12_solves_200 (by decide) (fun c_200 => ?_) (fun c_200 => ?_)
                      · have t_200 : ((k6 : Nat) : Int) ≥ ((vn : Nat) : Int) := toI_ge c_200 (nI_toInt (by omega)) (nI_toInt (by omega))
                        have hx9 := hex (1 + g5) (by omega)
                        have hGl9 : GldG (vn + 1) R2 (R2 + (1 + (g5 + 1))) m4 := hGlm3.more (T := R2 + (1 + g5)) (by omega) (fun p h1 h2 => hfr p (by omega) (Or.inl h2)) hrow
                        have hBl9b : BldL (vn + 1) R2 m4 f52 := hBlm3.frame (fun p h1 h2 => hfr p (by omega) (Or.inl (by have h9 := row_lt (C := vn + 1) (show R2 ≤ R2 + (1 + g5) by omega); omega)))
                        have h209 : m4 20 = 1 := (hfr 20 (by omega) (by omega)).trans h20m3
                        have ho9 : ∀ q, 1000 ≤ q → m4 q = mg q := fun q hq => (hfr q (by omega) (by omega)).trans (hom3 q hq)
                        refine lv_iinc (v := (nI (g5 + 1))) hx hb dX12_solves_254 hl (k := 3) rfl (nI_add g5 1) (by decide) rfl (fun ls (hl : lv_has ls _ ([(3, .int (nI (g5 + 1))), (0, .ref h0), (1, .int rx), (2, .int al), (4, .int (nI (R2 + (1 + g5)))), (5, .int (nI k6))])) => ?_)
                        refine lv_goto (tgt := 168) hx hb dX12_solves_257 (by decide) ?_
                        have e9 : fT (fT (fT (fT vi 116 fx) 5 (nI (vn + 1))) 6 (nI R2)) 7 (nI (1 + (g5 + 1))) = fT (fT (fT (fT vi 116 fx) 5 (nI (vn + 1))) 6 (nI R2)) 7 (nI ((1 + g5) + 1)) := congrArg (fT _ 7) (show nI (1 + (g5 + 1)) = nI ((1 + g5) + 1) from (by first | with_reducible rfl | with_reducible assumption | (symm; with_reducible assumption) | rfl | assumption | (symm; assumption) | (subst_vars; rfl)))
                        have hP := wr_Pi e9 hP
                        have hD := wr_Di e9 hD
                        clear e9
                        have hl : lv_has _ _ ([(0, .ref h0), (1, .int rx), (2, .int al), (3, .int (nI (g5 + 1)))]) := lv_sub hl [1, 2, 3, 0] rfl
                        exact ih168_2 (g5 + 1) g4 f24 f34 gs4 m4 _ _ _ (hB4) (by omega) (hGl9) (hBl9b) (h209) (ho9) (by omega) hP hD hS hl
                      · have t_200 : ¬ ((k6 : Nat) : Int) ≥ ((vn : Nat) : Int) := toI_nge c_200 (nI_toInt (by omega)) (nI_toInt (by omega))
                        refine lv_aload_n hx hb dX12_solves_203 rfl (lv_at hl 0 rfl) ?_
                        refine lv_iload_n hx hb dX12_solves_204 rfl (lv_at hl 3 rfl) ?_
                        refine lv_iload hx hb dX12_solves_205 (lv_at hl 5 rfl) ?_
                        refine lv_iconst (v := 1) hx hb dX12_solves_207 (by decide) ?_
                        refine lv_iadd hx hb dX12_solves_208 ?_
                        refine lv_topi (fun y6 hy6 => ?_)
                        obtain rfl : (nI (k6 + 1)) = y6 := (hy6.trans (nI_add k6 1)).symm
                        have hFc := allFree hD hS hA
                        refine va_callv (va_runV (As := [.int (nI g5), .int (nI (k6 + 1))]) (rest := []) ⟨hx, hb, hml, hown, hts⟩ (r_X12_goalNumber l dC dI a k h0 (fT (fT (fT (fT vi 116 fx) 5 (nI (vn + 1))) 6 (nI R2)) 7 (nI ((1 + g5) + 1))) vj (fT (fT (fT (fT (fT (fT vF 0 g4) 4 f418) 6 f62) 5 f52) 2 f24) 3 f34) (fT vG 1 gs4) g5 (k6 + 1) gq m4 hB4 x19 (by rw [v_x19]) (by first | with_reducible assumption | decide | omega | rfl | assumption) (by first | with_reducible assumption | decide | omega | rfl | assumption) (by first | with_reducible assumption | decide | omega | rfl | assumption) (by first | with_reducible assumption | decide | omega | rfl | assumption) (h19b) H.size) (cwV 2 hts gwsRX12_solves_4 rfl rfl rfl hd_yX12_goalNumber_RX12 (by decide +kernel)) (fz_pre (va_recv hK hP (ci := 12) (q0 := 0) rfl rfl) hP hK hD) rfl rfl hl.1 rfl (lv_room (Nat.le_of_ble_eq_true rfl)) dX12_solves_209 (by decide +kernel)) hS (fun q _ h => hFc q h) hFc (fun u t9_ H locs ht hvm hw9 hB9 hz1 hk1 hS => ?_)
                        revert u hw9 hB9
                        refine fz_p5 ?_
                        intro g209 f2w209 f3w209 gs209 m2209 hw9 hB9
                        try dsimp only at hw9 hB9
                        have e9F : fT (fT (fT (fT (fT (fT vF 0 g209) 4 f418) 6 f62) 5 f52) 2 f2w209) 3 f3w209 = fT (fT (fT (fT (fT (fT (fT (fT (fT vF 0 g4) 4 f418) 6 f62) 5 f52) 2 f24) 3 f34) 0 g209) 2 f2w209) 3 f3w209 := Eq.symm (Eq.trans (congrArg (fun g9 => fT g9 3 f3w209) (Eq.trans (congrArg (fun g9 => fT g9 2 f2w209) (up_5 rfl)) (up_1 rfl))) (up_0 rfl))
                        have e9G : fT vG 1 gs209 = fT (fT vG 1 gs4) 1 gs209 := (fT_sm _ _ _ _).symm
                        have hP := wr_PG e9G (wr_PF e9F (fz_P ht hB9.1))
                        have hD := wr_DG e9G (wr_DF e9F (hB9.2.weaken (fun _ q _ h => hFc q.1 h)))
                        clear e9F e9G
                        revert hw9
                        refine fz_a4 ?_
                        intro f209_0 f209_1 f209_2 f209_3
                        refine lv_aload_n hx hb dX12_solves_212 rfl (lv_at hl 0 rfl) ?_
                        refine lv_aload_n hx hb dX12_solves_213 rfl (lv_at hl 0 rfl) ?_
                        refine lv_iload hx hb dX12_solves_214 (lv_at hl 4 rfl) ?_
                        refine lv_iload hx hb dX12_solves_216 (lv_at hl 5 rfl) ?_
                        have hFc := allFree hD hS hA
                        refine va_calli (va_runV (As := [.int (nI (R2 + (1 + g5))), .int (nI k6)]) (rest := [.ref h0]) ⟨hx, hb, hml, hown, hts⟩ (r_X12_at l dC dI a k h0 (fT (fT (fT (fT vi 116 fx) 5 (nI (vn + 1))) 6 (nI R2)) 7 (nI ((1 + g5) + 1))) vj (fT (fT (fT (fT (fT (fT vF 0 g209) 4 f418) 6 f62) 5 f52) 2 f2w209) 3 f3w209) (fT vG 1 gs209) (R2 + (1 + g5)) k6 (vn + 1) (by first | with_reducible assumption | decide | omega | rfl | assumption) H.size) (cwV 2 hts gwsRX12_solves_5 rfl rfl rfl hd_yX12_at_RX12 (by decide +kernel)) (fz_pre (va_recv hK hP (ci := 12) (q0 := 0) rfl rfl) hP hK hD) rfl rfl hl.1 rfl (lv_room (Nat.le_of_ble_eq_true rfl)) dX12_solves_218 (by decide +kernel)) hS (fun q _ h => hFc q h) hFc (fun r218 u t9_ H locs ht hvm hw9 hB9 hz1 hk1 hS => ?_)
                        have hP : va_P (dC, dI) vwCl (WR a k h0 (fT (fT (fT (fT vi 116 fx) 5 (nI (vn + 1))) 6 (nI R2)) 7 (nI ((1 + g5) + 1))) vj (fT (fT (fT (fT (fT (fT vF 0 g209) 4 f418) 6 f62) 5 f52) 2 f2w209) 3 f3w209) (fT vG 1 gs209)) H := fz_P ht hB9.1
                        have hD := fz_sd hP (hB9.2.weaken (fun _ q _ h => hFc q.1 h)) rfl
                        obtain rfl := hw9
                        have b17 := gn_bd1 h19b f209_2
                        refine lv_bipush (v := 17) hx hb dX12_solves_221 (by decide) ?_
                        have hFc := allFree hD hS hA
                        refine va_callv (va_runV (As := [.int (nI (30 + (R2 + (1 + g5)) * ((vn + 1) + 1) + k6)), .int 17]) (rest := []) ⟨hx, hb, hml, hown, hts⟩ (b_X12_copy l dC dI a k h0 (fT (fT (fT (fT vi 116 fx) 5 (nI (vn + 1))) 6 (nI R2)) 7 (nI ((1 + g5) + 1))) vj (fT (fT (fT (fT (fT (fT vF 0 g209) 4 f418) 6 f62) 5 f52) 2 f2w209) 3 f3w209) (fT vG 1 gs209) (30 + (R2 + (1 + g5)) * ((vn + 1) + 1) + k6) 17 m2209 f209_0 (m2209 17) rfl (by first | with_reducible assumption | decide | omega | rfl | assumption) (by first | with_reducible assumption | decide | omega | rfl | assumption) (by first | with_reducible assumption | decide | omega | rfl | assumption) H.size) (cwV 2 hts gwsRX12_solves_6 rfl rfl rfl hd_yX12_copy_RX12 (by decide +kernel)) (fz_pre (va_recv hK hP (ci := 12) (q0 := 0) rfl rfl) hP hK hD) rfl rfl hl.1 rfl (lv_room (Nat.le_of_ble_eq_true rfl)) dX12_solves_223 (by decide +kernel)) hS (fun q _ h => hFc q h) hFc (fun g223 t9_ H locs ht hvm hw9 hB9 hz1 hk1 hS => ?_)
                        have e9F : fT (fT (fT (fT (fT (fT vF 0 g223) 4 f418) 6 f62) 5 f52) 2 f2w209) 3 f3w209 = fT (fT (fT (fT (fT (fT (fT vF 0 g209) 4 f418) 6 f62) 5 f52) 2 f2w209) 3 f3w209) 0 g223 := ((fT_sw _ _ _ (Nat.ne_of_beq_eq_false rfl)).trans (congrArg (fun g9 => fT g9 3 f3w209) ((fT_sw _ _ _ (Nat.ne_of_beq_eq_false rfl)).trans (congrArg (fun g9 => fT g9 2 f2w209) ((fT_sw _ _ _ (Nat.ne_of_beq_eq_false rfl)).trans (congrArg (fun g9 => fT g9 5 f52) ((fT_sw _ _ _ (Nat.ne_of_beq_eq_false rfl)).trans (congrArg (fun g9 => fT g9 6 f62) ((fT_sw _ _ _ (Nat.ne_of_beq_eq_false rfl)).trans (congrArg (fun g9 => fT g9 4 f418) (fT_sm _ _ _ _))))))))))).symm
                        have hP := wr_PF e9F (fz_P ht hB9.1)
                        have hD := wr_DF e9F (hB9.2.weaken (fun _ q _ h => hFc q.1 h))
                        clear e9F
                        have f223_0 := hw9
                        try dsimp only at f223_0
                        refine lv_aload_n hx hb dX12_solves_226 rfl (lv_at hl 0 rfl) ?_
                        refine va_get (D := (dC, dI)) (ci := 12) (v := .ref (a 65)) (C := RX12) (T := TX12) (N := 163) (fs := fM (vS a (fT (fT (fT (fT vi 116 fx) 5 (nI (vn + 1))) 6 (nI R2)) 7 (nI ((1 + g5) + 1))) vj)) hx hb hts iwsRX12_solves_in12 hown hK hP 0 rfl rfl 105 (by decide) (hts (.fieldLink RX12 218 "OptimaWorksModel" "goalMax" "[I") (by decide +kernel)) (fun _ h9 => h9) rfl dX12_solves_227 ?_
                        refine lv_iload_n hx hb dX12_solves_230 rfl (lv_at hl 3 rfl) ?_
                        refine va_iald (cA := k 65) (n := 3) (f := (vF 65)) hx hb hK hP 66 65 (WR_get 65 (by decide)) (TR_get 65 (by decide)) (vp_in_nI (show g5 < 3 by omega) (by omega)) dX12_solves_231 ?_
                        refine lv_topi (fun y7 hy7 => ?_)
                        obtain rfl : ((vF 65) g5) = y7 := (hy7.trans (by rw [nI_clamp (by omega)])).symm
                        refine lv_iconst (v := 1) hx hb dX12_solves_232 (by decide) ?_
                        refine lv_icmp_ne (tgt := 248) hx hb dX12_solves_233 (by decide) (fun c_233 => ?_) (fun c_233 => ?_)
                        · have t_233 : (((vF 65) g5)).toInt ≠ 1 := toI_ne c_233 rfl (by decide)
                          refine lv_iinc (v := (nI (k6 + 1))) hx hb dX12_solves_248 hl (k := 5) rfl (nI_add k6 1) (by decide) rfl (fun ls (hl : lv_has ls _ ([(5, .int (nI (k6 + 1))), (0, .ref h0), (1, .int rx), (2, .int al), (3, .int (nI g5)), (4, .int (nI (R2 + (1 + g5))))])) => ?_)
                          refine lv_goto (tgt := 194) hx hb dX12_solves_251 (by decide) ?_
                          have hl : lv_has _ _ ([(0, .ref h0), (1, .int rx), (2, .int al), (3, .int (nI g5)), (4, .int (nI (R2 + (1 + g5)))), (5, .int (nI (k6 + 1)))]) := lv_sub hl [1, 2, 3, 4, 5, 0] rfl
                          exact ih194_3 (k6 + 1) g223 f2w209 f3w209 gs209 (fT m2209 (30 + (R2 + (1 + g5)) * ((vn + 1) + 1) + k6) (m2209 17)) x19 _ _ _ (f223_0) ((by rw [fT_ne _ _ (by omega), f209_1])) (by omega) (h19b) (fun j hj => by by_cases e9 : j = k6; (rw [e9, fT_eq]; exact b17); (rw [fT_ne _ _ (by omega), f209_3 _ (by omega)]; exact hrow j hj)) (fun q h1 h2 => by (rw [fT_ne _ _ (by omega), f209_3 _ (by omega)]); exact hfr q h1 h2) (by omega) hP hD hS hl
                        · have t_233 : (((vF 65) g5)).toInt = 1 := toI_nne c_233 rfl (by decide)
                          refine lv_aload_n hx hb dX12_solves_236 rfl (lv_at hl 0 rfl) ?_
                          refine lv_aload_n hx hb dX12_solves_237 rfl (lv_at hl 0 rfl) ?_
                          refine lv_iload hx hb dX12_solves_238 (lv_at hl 4 rfl) ?_
                          refine lv_iload hx hb dX12_solves_240 (lv_at hl 5 rfl) ?_
                          have hFc := allFree hD hS hA
                          refine va_calli (va_runV (As := [.int (nI (R2 + (1 + g5))), .int (nI k6)]) (rest := [.ref h0]) ⟨hx, hb, hml, hown, hts⟩ (r_X12_at l dC dI a k h0 (fT (fT (fT (fT vi 116 fx) 5 (nI (vn + 1))) 6 (nI R2)) 7 (nI ((1 + g5) + 1))) vj (fT (fT (fT (fT (fT (fT vF 0 g223) 4 f418) 6 f62) 5 f52) 2 f2w209) 3 f3w209) (fT vG 1 gs209) (R2 + (1 + g5)) k6 (vn + 1) (by first | with_reducible assumption | decide | omega | rfl | assumption) H.size) (cwV 2 hts gwsRX12_solves_5 rfl rfl rfl hd_yX12_at_RX12 (by decide +kernel)) (fz_pre (va_recv hK hP (ci := 12) (q0 := 0) rfl rfl) hP hK hD) rfl rfl hl.1 rfl (lv_room (Nat.le_of_ble_eq_true rfl)) dX12_solves_242 (by decide +kernel)) hS (fun q _ h => hFc q h) hFc (fun r242 u t9_ H locs ht hvm hw9 hB9 hz1 hk1 hS => ?_)
                          have hP : va_P (dC, dI) vwCl (WR a k h0 (fT (fT (fT (fT vi 116 fx) 5 (nI (vn + 1))) 6 (nI R2)) 7 (nI ((1 + g5) + 1))) vj (fT (fT (fT (fT (fT (fT vF 0 g223) 4 f418) 6 f62) 5 f52) 2 f2w209) 3 f3w209) (fT vG 1 gs209)) H := fz_P ht hB9.1
                          have hD := fz_sd hP (hB9.2.weaken (fun _ q _ h => hFc q.1 h)) rfl
                          obtain rfl := hw9
                          have hFc := allFree hD hS hA
                          refine va_callv (va_runV (As := [.int (nI (30 + (R2 + (1 + g5)) * ((vn + 1) + 1) + k6))]) (rest := []) ⟨hx, hb, hml, hown, hts⟩ (b_X12_turn l dC dI a k h0 (fT (fT (fT (fT vi 116 fx) 5 (nI (vn + 1))) 6 (nI R2)) 7 (nI ((1 + g5) + 1))) vj (fT (fT (fT (fT (fT (fT vF 0 g223) 4 f418) 6 f62) 5 f52) 2 f2w209) 3 f3w209) (fT vG 1 gs209) (30 + (R2 + (1 + g5)) * ((vn + 1) + 1) + k6) (fT m2209 (30 + (R2 + (1 + g5)) * ((vn + 1) + 1) + k6) (m2209 17)) f223_0 (m2209 17) (by rw [fT_eq]) (by first | with_reducible assumption | decide | omega | rfl | assumption) H.size) (cwV 1 hts gwsRX12_solves_7 rfl rfl rfl hd_yX12_turn_RX12 (by decide +kernel)) (fz_pre (va_recv hK hP (ci := 12) (q0 := 0) rfl rfl) hP hK hD) rfl rfl hl.1 rfl (lv_room (Nat.le_of_ble_eq_true rfl)) dX12_solves_245 (by decide +kernel)) hS (fun q _ h => hFc q h) hFc (fun u t9_ H locs ht hvm hw9 hB9 hz1 hk1 hS => ?_)
                          have e9F : fT (fT (fT (fT (fT (fT vF 0 (upd g223 (nI (24 * (30 + (R2 + (1 + g5)) * ((vn + 1) + 1) + k6))).toNatClampNeg (-(g223 (24 * (30 + (R2 + (1 + g5)) * ((vn + 1) + 1) + k6)))))) 4 f418) 6 f62) 5 f52) 2 f2w209) 3 f3w209 = fT (fT (fT (fT (fT (fT (fT vF 0 g223) 4 f418) 6 f62) 5 f52) 2 f2w209) 3 f3w209) 0 (upd g223 (nI (24 * (30 + (R2 + (1 + g5)) * ((vn + 1) + 1) + k6))).toNatClampNeg (-(g223 (24 * (30 + (R2 + (1 + g5)) * ((vn + 1) + 1) + k6))))) := ((fT_sw _ _ _ (Nat.ne_of_beq_eq_false rfl)).trans (congrArg (fun g9 => fT g9 3 f3w209) ((fT_sw _ _ _ (Nat.ne_of_beq_eq_false rfl)).trans (congrArg (fun g9 => fT g9 2 f2w209) ((fT_sw _ _ _ (Nat.ne_of_beq_eq_false rfl)).trans (congrArg (fun g9 => fT g9 5 f52) ((fT_sw _ _ _ (Nat.ne_of_beq_eq_false rfl)).trans (congrArg (fun g9 => fT g9 6 f62) ((fT_sw _ _ _ (Nat.ne_of_beq_eq_false rfl)).trans (congrArg (fun g9 => fT g9 4 f418) (fT_sm _ _ _ _))))))))))).symm
                          have hP := wr_PF e9F (fz_P ht hB9.1)
                          have hD := wr_DF e9F (hB9.2.weaken (fun _ q _ h => hFc q.1 h))
                          clear e9F
                          have f245_0 := hw9
                          try dsimp only at f245_0
                          have f245_0 : Bg (upd g223 (nI (24 * (30 + (R2 + (1 + g5)) * ((vn + 1) + 1) + k6))).toNatClampNeg (-(g223 (24 * (30 + (R2 + (1 + g5)) * ((vn + 1) + 1) + k6))))) (fT (fT m2209 (30 + (R2 + (1 + g5)) * ((vn + 1) + 1) + k6) (m2209 17)) (30 + (R2 + (1 + g5)) * ((vn + 1) + 1) + k6) (-(m2209 17))) := f245_0
                          refine lv_iinc (v := (nI (k6 + 1))) hx hb dX12_solves_248 hl (k := 5) rfl (nI_add k6 1) (by decide) rfl (fun ls (hl : lv_has ls _ ([(5, .int (nI (k6 + 1))), (0, .ref h0), (1, .int rx), (2, .int al), (3, .int (nI g5)), (4, .int (nI (R2 + (1 + g5))))])) => ?_)
                          refine lv_goto (tgt := 194) hx hb dX12_solves_251 (by decide) ?_
                          have hl : lv_has _ _ ([(0, .ref h0), (1, .int rx), (2, .int al), (3, .int (nI g5)), (4, .int (nI (R2 + (1 + g5)))), (5, .int (nI (k6 + 1)))]) := lv_sub hl [1, 2, 3, 4, 5, 0] rfl
                          exact ih194_3 (k6 + 1) (upd g223 (nI (24 * (30 + (R2 + (1 + g5)) * ((vn + 1) + 1) + k6))).toNatClampNeg (-(g223 (24 * (30 + (R2 + (1 + g5)) * ((vn + 1) + 1) + k6))))) f2w209 f3w209 gs209 (fT (fT m2209 (30 + (R2 + (1 + g5)) * ((vn + 1) + 1) + k6) (m2209 17)) (30 + (R2 + (1 + g5)) * ((vn + 1) + 1) + k6) (-(m2209 17))) x19 _ _ _ (f245_0) ((by rw [fT_ne _ _ (by omega), fT_ne _ _ (by omega), f209_1])) (by omega) (h19b) (fun j hj => by by_cases e9 : j = k6; (rw [e9, fT_eq]; rw [Int.natAbs_neg]; exact b17); (rw [fT_ne _ _ (by omega), fT_ne _ _ (by omega), f209_3 _ (by omega)]; exact hrow j hj)) (fun q h1 h2 => by (rw [fT_ne _ _ (by omega), fT_ne _ _ (by omega), f209_3 _ (by omega)]); exact hfr q h1 h2) (by omega) hP hD hS hl
            · rintro H locs ls stk ⟨GA, gA, f2A, f3A, gsA, mA, hBA, hGA, halA, hGlmA, hBlmA, h20mA, homA, rfl, hP, hD, hS, hl⟩
              refine W.cut (pc := 294) (fun H locs ls stk => ∃ (GB : Nat) (gB : Nat → Int32) (mB : Nat → Int), (Bg gB mB) ∧ (1 ≤ GB ∧ GB ≤ 12) ∧ (al = 0 ∨ GB = 1 + gq + vn) ∧ (GldG (vn + 1) R2 (R2 + GB) mB) ∧ (BldL (vn + 1) R2 mB f52) ∧ (mB 20 = 1) ∧ (∀ q, 1000 ≤ q → mB q = mg q) ∧  stk = [] ∧ va_P (dC, dI) vwCl (WR a k h0 (fT (fT (fT (fT vi 116 fx) 5 (nI (vn + 1))) 6 (nI R2)) 7 (nI GB)) vj (fT (fT (fT (fT (fT (fT vF 0 gB) 4 f418) 6 f62) 5 f52) 2 f2A) 3 f3A) (fT vG 1 gsA)) H ∧ va_D A (WR a k h0 (fT (fT (fT (fT vi 116 fx) 5 (nI (vn + 1))) 6 (nI R2)) 7 (nI GB)) vj (fT (fT (fT (fT (fT (fT vF 0 gB) 4 f418) 6 f62) 5 f52) 2 f2A) 3 f3A) (fT vG 1 gsA)) ∧ va_S A s.heap H locs ∧ lv_has ls 6 [(0, .ref h0), (1, .int rx), (2, .int al)]) (fun join3 => ?_) ?_
              · refine lv_iconst (v := 0) hx hb dX12_solves_260 (by decide) ?_
                refine lv_istore_n hx hb dX12_solves_261 rfl hl (by decide) rfl (fun ls (hl : lv_has ls _ ([(3, .int 0), (0, .ref h0), (1, .int rx), (2, .int al)])) => ?_)
                have e9 : fT (fT (fT (fT vi 116 fx) 5 (nI (vn + 1))) 6 (nI R2)) 7 (nI (GA + 0)) = fT (fT (fT (fT vi 116 fx) 5 (nI (vn + 1))) 6 (nI R2)) 7 (nI GA) := congrArg (fT _ 7) (show nI (GA + 0) = nI GA from (by first | with_reducible rfl | with_reducible assumption | (symm; with_reducible assumption) | rfl | assumption | (symm; assumption) | (subst_vars; rfl)))
                have hP := wr_Pi e9 hP
                have hD := wr_Di e9 hD
                clear e9
                have hl : lv_has _ _ ([(0, .ref h0), (1, .int rx), (2, .int al), (3, .int (nI 0))]) := lv_sub hl [1, 2, 3, 0] rfl
                refine (fun (loop : ∀ (n9 : Nat) (k7 : Nat) (g5w : Nat → Int32) (m5 : Nat → Int) (H : Heap) (locs : List Loc) (ls : Array Slot), (Bg g5w m5) → (k7 ≤ vn) → (GldG (vn + 1) R2 (R2 + (GA + k7)) m5) → (BldL (vn + 1) R2 m5 f52) → (m5 20 = 1) → (∀ q, 1000 ≤ q → m5 q = mg q) →  (vn < k7 + n9) → va_P (dC, dI) vwCl (WR a k h0 (fT (fT (fT (fT vi 116 fx) 5 (nI (vn + 1))) 6 (nI R2)) 7 (nI (GA + k7))) vj (fT (fT (fT (fT (fT (fT vF 0 g5w) 4 f418) 6 f62) 5 f52) 2 f2A) 3 f3A) (fT vG 1 gsA)) H → va_D A (WR a k h0 (fT (fT (fT (fT vi 116 fx) 5 (nI (vn + 1))) 6 (nI R2)) 7 (nI (GA + k7))) vj (fT (fT (fT (fT (fT (fT vF 0 g5w) 4 f418) 6 f62) 5 f52) 2 f2A) 3 f3A) (fT vG 1 gsA)) → va_S A s.heap H locs → lv_has ls 6 [(0, .ref h0), (1, .int rx), (2, .int al), (3, .int (nI k7))] → W p l e _ s m _ below meth c H locs 0 0 _ (F0 m 262 ls [])) => loop (vn + 1) 0 gA mA _ _ _ (hBA) (by omega) (hGlmA) (hBlmA) (h20mA) (homA) (by omega) hP hD hS hl) ?_
                intro n9
                induction n9 with
                | zero => intro k7 g5w m5 H locs ls hB5 hk7 hGlm5 hBlm5 h20m5 hom5 hf9; exact False.elim (by omega)
                | succ n9 ih262_4 =>
                  intro k7 g5w m5 H locs ls hB5 hk7 hGlm5 hBlm5 h20m5 hom5 hf262_4 hP hD hS hl
                  refine lv_iload_n hx hb dX12_solves_262 rfl (lv_at hl 3 rfl) ?_
                  refine lv_aload_n hx hb dX12_solves_263 rfl (lv_at hl 0 rfl) ?_
                  refine va_get (D := (dC, dI)) (ci := 12) (v := .int (vi 90)) (C := RX12) (T := TX12) (N := 163) (fs := fM (vS a (fT (fT (fT (fT vi 116 fx) 5 (nI (vn + 1))) 6 (nI R2)) 7 (nI (GA + k7))) vj)) hx hb hts iwsRX12_solves_in12 hown hK hP 0 rfl rfl 90 (by decide) (hts _ hm_r_X12_solves_1) (fun _ h9 => h9) rfl dX12_solves_264 ?_
                  refine lv_topi (fun y8 hy8 => ?_)
                  obtain rfl : (nI vn) = y8 := (hy8.trans (hvn)).symm
                  refine lv_icmp_ge (tgt := 294) hx hb dX12_solves_267 (by decide) (fun c_267 => ?_) (fun c_267 => ?_)
                  · have t_267 : ((k7 : Nat) : Int) ≥ ((vn : Nat) : Int) := toI_ge c_267 (nI_toInt (by omega)) (nI_toInt (by omega))
                    have hl : lv_has _ _ ([(0, .ref h0), (1, .int rx), (2, .int al)]) := lv_sub hl [0, 1, 2] rfl
                    exact join3 _ _ _ _ ⟨(GA + k7), g5w, m5, hB5, by omega, halA.imp id (fun h9 => by omega), hGlm5, hBlm5, h20m5, hom5, rfl, hP, hD, hS, hl⟩
                  · have t_267 : ¬ ((k7 : Nat) : Int) ≥ ((vn : Nat) : Int) := toI_nge c_267 (nI_toInt (by omega)) (nI_toInt (by omega))
                    refine lv_iload_n hx hb dX12_solves_270 rfl (lv_at hl 2 rfl) ?_
                    refine lv_if_eq (tgt := 294) hx hb dX12_solves_271 (by decide) (fun c_271 => ?_) (fun c_271 => ?_)
                    · have t_271 : (al).toInt = 0 := toI_eq c_271 rfl (by decide)
                      have hl : lv_has _ _ ([(0, .ref h0), (1, .int rx), (2, .int al)]) := lv_sub hl [0, 1, 2] rfl
                      exact join3 _ _ _ _ ⟨(GA + k7), g5w, m5, hB5, by omega, Or.inl c_271, hGlm5, hBlm5, h20m5, hom5, rfl, hP, hD, hS, hl⟩
                    · have t_271 : ¬ (al).toInt = 0 := toI_neq c_271 rfl (by decide)
                      have hx8 := hex (GA + k7 + 1) (by omega)
                      have hx9 := hex (GA + k7) (by omega)
                      have hx7 : (R2 + (GA + k7) + 1) * (vn + 1 + 1) = (R2 + (GA + k7)) * (vn + 1 + 1) + (vn + 1 + 1) := Nat.succ_mul _ _
                      refine lv_aload_n hx hb dX12_solves_274 rfl (lv_at hl 0 rfl) ?_
                      refine lv_aload_n hx hb dX12_solves_275 rfl (lv_at hl 0 rfl) ?_
                      refine lv_aload_n hx hb dX12_solves_276 rfl (lv_at hl 0 rfl) ?_
                      have hFc := allFree hD hS hA
                      refine va_calli (va_runV (As := []) (rest := [.ref h0, .ref h0]) ⟨hx, hb, hml, hown, hts⟩ (r_X12_goalRow l dC dI a k h0 (fT (fT (fT (fT vi 116 fx) 5 (nI (vn + 1))) 6 (nI R2)) 7 (nI (GA + k7))) vj (fT (fT (fT (fT (fT (fT vF 0 g5w) 4 f418) 6 f62) 5 f52) 2 f2A) 3 f3A) (fT vG 1 gsA) (vn + 1) R2 (GA + k7) m5 hB5 (by first | with_reducible assumption | decide | omega | rfl | assumption) (by first | with_reducible assumption | decide | omega | rfl | assumption) (by first | with_reducible assumption | decide | omega | rfl | assumption) (by first | with_reducible assumption | decide | omega | rfl | assumption) (by first | with_reducible assumption | decide | omega | rfl | assumption) (by first | with_reducible assumption | decide | omega | rfl | assumption) H.size) (cwV 0 hts gwsRX12_solves_2 rfl rfl rfl hd_yX12_goalRow_RX12 (by decide +kernel)) (fz_pre (va_recv hK hP (ci := 12) (q0 := 0) rfl rfl) hP hK hD) rfl rfl hl.1 rfl (lv_room (Nat.le_of_ble_eq_true rfl)) dX12_solves_277 (by decide +kernel)) hS (fun q _ h => hFc q h) hFc (fun r277 u t9_ H locs ht hvm hw9 hB9 hz1 hk1 hS => ?_)
                      revert u hw9 hB9
                      refine fz_p2 ?_
                      intro g277 m2277 hw9 hB9
                      try dsimp only at hw9 hB9
                      have e9i : fT (fT (fT (fT vi 116 fx) 5 (nI (vn + 1))) 6 (nI R2)) 7 (nI ((GA + k7) + 1)) = fT (fT (fT (fT (fT vi 116 fx) 5 (nI (vn + 1))) 6 (nI R2)) 7 (nI (GA + k7))) 7 (nI ((GA + k7) + 1)) := (fT_sm _ _ _ _).symm
                      have e9F : fT (fT (fT (fT (fT (fT vF 0 g277) 4 f418) 6 f62) 5 f52) 2 f2A) 3 f3A = fT (fT (fT (fT (fT (fT (fT vF 0 g5w) 4 f418) 6 f62) 5 f52) 2 f2A) 3 f3A) 0 g277 := ((fT_sw _ _ _ (Nat.ne_of_beq_eq_false rfl)).trans (congrArg (fun g9 => fT g9 3 f3A) ((fT_sw _ _ _ (Nat.ne_of_beq_eq_false rfl)).trans (congrArg (fun g9 => fT g9 2 f2A) ((fT_sw _ _ _ (Nat.ne_of_beq_eq_false rfl)).trans (congrArg (fun g9 => fT g9 5 f52) ((fT_sw _ _ _ (Nat.ne_of_beq_eq_false rfl)).trans (congrArg (fun g9 => fT g9 6 f62) ((fT_sw _ _ _ (Nat.ne_of_beq_eq_false rfl)).trans (congrArg (fun g9 => fT g9 4 f418) (fT_sm _ _ _ _))))))))))).symm
                      have hP := wr_PF e9F (wr_Pi e9i (fz_P ht hB9.1))
                      have hD := wr_DF e9F (wr_Di e9i (hB9.2.weaken (fun _ q _ h => hFc q.1 h)))
                      clear e9i e9F
                      obtain ⟨rfl, f277_0, f277_1, f277_2⟩ := hw9
                      refine lv_iload_n hx hb dX12_solves_280 rfl (lv_at hl 3 rfl) ?_
                      have hFc := allFree hD hS hA
                      refine va_calli (va_runV (As := [.int (nI (R2 + (GA + k7))), .int (nI k7)]) (rest := [.ref h0]) ⟨hx, hb, hml, hown, hts⟩ (r_X12_at l dC dI a k h0 (fT (fT (fT (fT vi 116 fx) 5 (nI (vn + 1))) 6 (nI R2)) 7 (nI ((GA + k7) + 1))) vj (fT (fT (fT (fT (fT (fT vF 0 g277) 4 f418) 6 f62) 5 f52) 2 f2A) 3 f3A) (fT vG 1 gsA) (R2 + (GA + k7)) k7 (vn + 1) (by first | with_reducible assumption | decide | omega | rfl | assumption) H.size) (cwV 2 hts gwsRX12_solves_5 rfl rfl rfl hd_yX12_at_RX12 (by decide +kernel)) (fz_pre (va_recv hK hP (ci := 12) (q0 := 0) rfl rfl) hP hK hD) rfl rfl hl.1 rfl (lv_room (Nat.le_of_ble_eq_true rfl)) dX12_solves_281 (by decide +kernel)) hS (fun q _ h => hFc q h) hFc (fun r281 u t9_ H locs ht hvm hw9 hB9 hz1 hk1 hS => ?_)
                      have hP : va_P (dC, dI) vwCl (WR a k h0 (fT (fT (fT (fT vi 116 fx) 5 (nI (vn + 1))) 6 (nI R2)) 7 (nI ((GA + k7) + 1))) vj (fT (fT (fT (fT (fT (fT vF 0 g277) 4 f418) 6 f62) 5 f52) 2 f2A) 3 f3A) (fT vG 1 gsA)) H := fz_P ht hB9.1
                      have hD := fz_sd hP (hB9.2.weaken (fun _ q _ h => hFc q.1 h)) rfl
                      obtain rfl := hw9
                      refine lv_lconst (v := 1) hx hb dX12_solves_284 (by decide) ?_
                      have hFc := allFree hD hS hA
                      refine va_callv (va_runV (As := [.int (nI (30 + (R2 + (GA + k7)) * ((vn + 1) + 1) + k7)), .long 1]) (rest := []) ⟨hx, hb, hml, hown, hts⟩ (b_X12_put l dC dI a k h0 (fT (fT (fT (fT vi 116 fx) 5 (nI (vn + 1))) 6 (nI R2)) 7 (nI ((GA + k7) + 1))) vj (fT (fT (fT (fT (fT (fT vF 0 g277) 4 f418) 6 f62) 5 f52) 2 f2A) 3 f3A) (fT vG 1 gsA) (30 + (R2 + (GA + k7)) * ((vn + 1) + 1) + k7) 1 1 m2277 f277_0 (by first | with_reducible assumption | decide | omega | rfl | assumption) (by decide) (by first | with_reducible assumption | decide | omega | rfl | assumption) H.size) (cwV 2 hts gwsRX12_solves_8 rfl rfl rfl hd_yX12_put_RX12 (by decide +kernel)) (fz_pre (va_recv hK hP (ci := 12) (q0 := 0) rfl rfl) hP hK hD) rfl rfl hl.1 rfl (lv_room (Nat.le_of_ble_eq_true rfl)) dX12_solves_285 (by decide +kernel)) hS (fun q _ h => hFc q h) hFc (fun g285 t9_ H locs ht hvm hw9 hB9 hz1 hk1 hS => ?_)
                      have e9F : fT (fT (fT (fT (fT (fT vF 0 g285) 4 f418) 6 f62) 5 f52) 2 f2A) 3 f3A = fT (fT (fT (fT (fT (fT (fT vF 0 g277) 4 f418) 6 f62) 5 f52) 2 f2A) 3 f3A) 0 g285 := ((fT_sw _ _ _ (Nat.ne_of_beq_eq_false rfl)).trans (congrArg (fun g9 => fT g9 3 f3A) ((fT_sw _ _ _ (Nat.ne_of_beq_eq_false rfl)).trans (congrArg (fun g9 => fT g9 2 f2A) ((fT_sw _ _ _ (Nat.ne_of_beq_eq_false rfl)).trans (congrArg (fun g9 => fT g9 5 f52) ((fT_sw _ _ _ (Nat.ne_of_beq_eq_false rfl)).trans (congrArg (fun g9 => fT g9 6 f62) ((fT_sw _ _ _ (Nat.ne_of_beq_eq_false rfl)).trans (congrArg (fun g9 => fT g9 4 f418) (fT_sm _ _ _ _))))))))))).symm
                      have hP := wr_PF e9F (fz_P ht hB9.1)
                      have hD := wr_DF e9F (hB9.2.weaken (fun _ q _ h => hFc q.1 h))
                      clear e9F
                      have f285_0 := hw9
                      try dsimp only at f285_0
                      have hGl8 : GldG (vn + 1) R2 (R2 + (GA + (k7 + 1))) (fT m2277 (30 + (R2 + (GA + k7)) * ((vn + 1) + 1) + k7) 1) := hGlm5.more (T := R2 + (GA + k7)) (by omega) (fun p h1 h2 => by (rw [fT_ne _ _ (by omega), f277_2 _ (by omega)])) (fun j hj => by by_cases e9 : j = k7; (rw [e9, fT_eq]; decide); (rw [fT_ne _ _ (by omega), f277_1 j hj]; decide))
                      have hBl8 : BldL (vn + 1) R2 (fT m2277 (30 + (R2 + (GA + k7)) * ((vn + 1) + 1) + k7) 1) f52 := hBlm5.frame (fun p h1 h2 => by have h9 := row_lt (C := vn + 1) (show R2 ≤ R2 + (GA + k7) by omega); (rw [fT_ne _ _ (by omega), f277_2 _ (by omega)]))
                      refine lv_iinc (v := (nI (k7 + 1))) hx hb dX12_solves_288 hl (k := 3) rfl (nI_add k7 1) (by decide) rfl (fun ls (hl : lv_has ls _ ([(3, .int (nI (k7 + 1))), (0, .ref h0), (1, .int rx), (2, .int al)])) => ?_)
                      refine lv_goto (tgt := 262) hx hb dX12_solves_291 (by decide) ?_
                      have e9 : fT (fT (fT (fT vi 116 fx) 5 (nI (vn + 1))) 6 (nI R2)) 7 (nI (GA + (k7 + 1))) = fT (fT (fT (fT vi 116 fx) 5 (nI (vn + 1))) 6 (nI R2)) 7 (nI ((GA + k7) + 1)) := congrArg (fT _ 7) (show nI (GA + (k7 + 1)) = nI ((GA + k7) + 1) from (by first | with_reducible rfl | with_reducible assumption | (symm; with_reducible assumption) | rfl | assumption | (symm; assumption) | (subst_vars; rfl)))
                      have hP := wr_Pi e9 hP
                      have hD := wr_Di e9 hD
                      clear e9
                      have hl : lv_has _ _ ([(0, .ref h0), (1, .int rx), (2, .int al), (3, .int (nI (k7 + 1)))]) := lv_sub hl [1, 2, 3, 0] rfl
                      exact ih262_4 (k7 + 1) g285 (fT m2277 (30 + (R2 + (GA + k7)) * ((vn + 1) + 1) + k7) 1) _ _ _ (f285_0) (by omega) (hGl8) (hBl8) (by (rw [fT_ne _ _ (by omega), f277_2 _ (by omega)]); exact h20m5) (fun q hq => by (rw [fT_ne _ _ (by omega), f277_2 _ (by omega)]); exact hom5 q hq) (by omega) hP hD hS hl
              · rintro H locs ls stk ⟨GB, gB, mB, hBB, hGB, halB, hGlmB, hBlmB, h20mB, homB, rfl, hP, hD, hS, hl⟩
                have hx8 := hex GB (by omega)
                have hcs := case_small (C := vn + 1) (R := R2) (T := R2 + GB) (m := mB) (f5 := f52) (by omega) (by omega) (by omega) hBlmB hGlmB
                have hsm : Small (vn + 1) R2 (R2 + GB) (fun i j => mB (30 + i * (vn + 1 + 1) + j)) := fun t D rl cl h => ⟨Nat.lt_of_lt_of_le (hcs t D rl cl h).1.1 (Nat.pow_le_pow_right (by decide) (by decide)), (hcs t D rl cl h).2⟩
                refine lv_aload_n hx hb dX12_solves_294 rfl (lv_at hl 0 rfl) ?_
                have hFc := allFree hD hS hA
                refine va_calli (va_runV (As := []) (rest := []) ⟨hx, hb, hml, hown, hts⟩ (r_X12_canKeep l dC dI a k h0 (fT (fT (fT (fT vi 116 fx) 5 (nI (vn + 1))) 6 (nI R2)) 7 (nI GB)) vj (fT (fT (fT (fT (fT (fT vF 0 gB) 4 f418) 6 f62) 5 f52) 2 f2A) 3 f3A) (fT vG 1 gsA) (vn + 1) R2 GB (fun i j => mB (30 + i * (vn + 1 + 1) + j)) mB hBB (by first | with_reducible assumption | decide | omega | rfl | assumption) (by first | with_reducible assumption | decide | omega | rfl | assumption) (by first | with_reducible assumption | decide | omega | rfl | assumption) (by first | with_reducible assumption | decide | omega | rfl | assumption) (by first | with_reducible assumption | decide | omega | rfl | assumption) (by first | with_reducible assumption | decide | omega | rfl | assumption) (⟨fun i _ j _ => rfl, h20mB⟩) (f18_1) (fun i hi => (hBlmB i hi).1) (fun i hi => (hBlmB i hi).2.2.1) (hGlmB.1) (by first | with_reducible assumption | decide | omega | rfl | assumption) (hsm) H.size) (cwV 0 hts gwsRX12_solves_9 rfl rfl rfl hd_yX12_canKeep_RX12 (by decide +kernel)) (fz_pre (va_recv hK hP (ci := 12) (q0 := 0) rfl rfl) hP hK hD) rfl rfl hl.1 rfl (lv_room (Nat.le_of_ble_eq_true rfl)) dX12_solves_295 (by decide +kernel)) hS (fun q _ h => hFc q h) hFc (fun r295 u t9_ H locs ht hvm hw9 hB9 hz1 hk1 hS => ?_)
                revert u hw9 hB9
                refine fz_p14 ?_
                intro g295 f2w295 f3w295 f4295 f5295 f6295 gs295 F295 L8295 qk295 qd295 m2295 t2295 D2295 hw9 hB9
                try dsimp only at hw9 hB9
                have e9F : fT (fT (fT (fT (fT (fT vF 0 g295) 4 f4295) 6 f6295) 5 f5295) 2 f2w295) 3 f3w295 = fT (fT (fT (fT (fT (fT (fT (fT (fT (fT (fT (fT vF 0 gB) 4 f418) 6 f62) 5 f52) 2 f2A) 3 f3A) 0 g295) 2 f2w295) 3 f3w295) 4 f4295) 5 f5295) 6 f6295 := Eq.symm (Eq.trans (congrArg (fun g9 => fT g9 6 f6295) (Eq.trans (congrArg (fun g9 => fT g9 5 f5295) (Eq.trans (congrArg (fun g9 => fT g9 4 f4295) (Eq.trans (congrArg (fun g9 => fT g9 3 f3w295) (Eq.trans (congrArg (fun g9 => fT g9 2 f2w295) (up_5 rfl)) (up_1 rfl))) (up_0 rfl))) (up_4 rfl))) (up_2 rfl))) (up_3 rfl))
                have e9G : fT (fT (fT vG 1 gs295) 7 F295) 8 L8295 = fT (fT (fT (fT vG 1 gsA) 7 F295) 1 gs295) 8 L8295 := (congrArg (fun g9 => fT g9 8 L8295) ((fT_sw _ _ _ (Nat.ne_of_beq_eq_false rfl)).trans (congrArg (fun g9 => fT g9 7 F295) (fT_sm _ _ _ _)))).symm
                have hP := wr_PG e9G (wr_PF e9F (fz_P ht hB9.1))
                have hD := wr_DG e9G (wr_DF e9F (hB9.2.weaken (fun _ q _ h => hFc q.1 h)))
                clear e9F e9G
                rcases hw9 with ⟨rfl, f295_0, f295_1, f295_2, f295_3, f295_4⟩ | ⟨rfl, f295_0, f295_1, f295_2, f295_3, f295_4⟩
                · refine lv_if_ne (tgt := 308) hx hb dX12_solves_298 (by decide) (fun c9 => absurd c9 (by decide)) (fun _ => ?_)
                  refine lv_aload_n hx hb dX12_solves_301 rfl (lv_at hl 0 rfl) ?_
                  refine lv_iconst (v := 0) hx hb dX12_solves_302 (by decide) ?_
                  refine va_put (D := (dC, dI)) (ci := 12) (v := .int 0) (ty := .boolean) (C := RX12) (T := TX12) (N := 163) (fs := fM (vS a (fT (fT (fT (fT (fT vi 116 fx) 5 (nI (vn + 1))) 6 (nI R2)) 7 (nI GB)) 11 qk295) (fT vj 12 qd295))) hx hb hts iwsRX12_solves_in12 tyX12 tyX12_ok nmX12 hown hK hP hD hS 0 rfl rfl 11 (by decide) (hts (.fieldLink RX12 414 "OptimaWorksModel" "quick" "Z") (by decide +kernel)) (fun _ h9 => h9) rfl (by decide +kernel) rfl rfl (Nat.le_of_ble_eq_true rfl) dX12_solves_303 (fun H locs hP hD hS => ?_)
                  have e9 : fT (fT (fT (fT (fT vi 116 fx) 5 (nI (vn + 1))) 6 (nI R2)) 7 (nI GB)) 11 0 = fT (fT (fT (fT (fT (fT vi 116 fx) 5 (nI (vn + 1))) 6 (nI R2)) 7 (nI GB)) 11 qk295) 11 0 := (fT_sm _ _ _ _).symm
                  have hP := wr_Pi e9 (fz_w (WR_i 11 _ rfl) hP)
                  have hD := wr_Di e9 (fz_wD (WR_i 11 _ rfl) hD)
                  clear e9
                  refine lv_iconst (v := 0) hx hb dX12_solves_306 (by decide) ?_
                  refine W.widen (k := 0) (n := 0) (by decide +kernel) (by decide +kernel) ?_
                  exact W.zret (v := 0) hx hb hr rfl (fun t9_ ht hW => ⟨⟨0, (g295, f2w295, f3w295, f4295, f5295, f6295, gs295, F295, L8295, qd295, fx, (nI (vn + 1)), (nI R2), (nI GB), m2295), rfl, by (try dsimp only); exact ⟨f295_0, hAn.frame (fun p h1 h2 => by (rw [f295_4 _ (by omega)]); exact homB p (by omega)), fun q hq => by (rw [f295_4 _ (by omega)]); exact homB q (by omega), Or.inl rfl, Or.inl rfl⟩, by rw [ht]; exact hP, hD⟩, hS.F ht⟩) hS.2.2 dX12_solves_307
                · refine lv_if_ne (tgt := 308) hx hb dX12_solves_298 (by decide) (fun _ => ?_) (fun c9 => absurd c9 (by decide))
                  refine lv_iload_n hx hb dX12_solves_308 rfl (lv_at hl 2 rfl) ?_
                  refine W.cut (pc := 325) (fun H locs ls stk => ∃ (nn : Nat), (nn < GB) ∧  stk = [.int (nI nn)] ∧ va_P (dC, dI) vwCl (WR a k h0 (fT (fT (fT (fT (fT vi 116 fx) 5 (nI (vn + 1))) 6 (nI R2)) 7 (nI GB)) 11 qk295) (fT vj 12 qd295) (fT (fT (fT (fT (fT (fT vF 0 g295) 4 f4295) 6 f6295) 5 f5295) 2 f2w295) 3 f3w295) (fT (fT (fT vG 1 gs295) 7 F295) 8 L8295)) H ∧ va_D A (WR a k h0 (fT (fT (fT (fT (fT vi 116 fx) 5 (nI (vn + 1))) 6 (nI R2)) 7 (nI GB)) 11 qk295) (fT vj 12 qd295) (fT (fT (fT (fT (fT (fT vF 0 g295) 4 f4295) 6 f6295) 5 f5295) 2 f2w295) 3 f3w295) (fT (fT (fT vG 1 gs295) 7 F295) 8 L8295)) ∧ va_S A s.heap H locs ∧ lv_has ls 6 [(0, .ref h0), (2, .int al)]) (fun join4 => ?_) ?_
                  · refine lv_if_eq (tgt := 324) hx hb dX12_solves_309 (by decide) (fun c_309 => ?_) (fun c_309 => ?_)
                    · have t_309 : (al).toInt = 0 := toI_eq c_309 rfl (by decide)
                      refine lv_iconst (v := 0) hx hb dX12_solves_324 (by decide) ?_
                      have hl : lv_has _ _ ([(0, .ref h0), (2, .int al)]) := lv_sub hl [0, 2] rfl
                      exact join4 _ _ _ _ ⟨0, by omega, rfl, hP, hD, hS, hl⟩
                    · have t_309 : ¬ (al).toInt = 0 := toI_neq c_309 rfl (by decide)
                      refine lv_aload_n hx hb dX12_solves_312 rfl (lv_at hl 0 rfl) ?_
                      refine va_get (D := (dC, dI)) (ci := 12) (v := .int (vi 93)) (C := RX12) (T := TX12) (N := 163) (fs := fM (vS a (fT (fT (fT (fT (fT vi 116 fx) 5 (nI (vn + 1))) 6 (nI R2)) 7 (nI GB)) 11 qk295) (fT vj 12 qd295))) hx hb hts iwsRX12_solves_in12 hown hK hP 0 rfl rfl 93 (by decide) (hts _ hm_r_X12_solves_2) (fun _ h9 => h9) rfl dX12_solves_313 ?_
                      refine lv_topi (fun y9 hy9 => ?_)
                      obtain rfl : (nI gq) = y9 := (hy9.trans (hmg)).symm
                      refine lv_aload_n hx hb dX12_solves_316 rfl (lv_at hl 0 rfl) ?_
                      refine va_get (D := (dC, dI)) (ci := 12) (v := .int (vi 90)) (C := RX12) (T := TX12) (N := 163) (fs := fM (vS a (fT (fT (fT (fT (fT vi 116 fx) 5 (nI (vn + 1))) 6 (nI R2)) 7 (nI GB)) 11 qk295) (fT vj 12 qd295))) hx hb hts iwsRX12_solves_in12 hown hK hP 0 rfl rfl 90 (by decide) (hts _ hm_r_X12_solves_1) (fun _ h9 => h9) rfl dX12_solves_317 ?_
                      refine lv_topi (fun y10 hy10 => ?_)
                      obtain rfl : (nI vn) = y10 := (hy10.trans (hvn)).symm
                      refine lv_iadd hx hb dX12_solves_320 ?_
                      refine lv_topi (fun y11 hy11 => ?_)
                      obtain rfl : (nI (gq + vn)) = y11 := (hy11.trans (nI_add gq vn)).symm
                      refine lv_goto (tgt := 325) hx hb dX12_solves_321 (by decide) ?_
                      have hl : lv_has _ _ ([(0, .ref h0), (2, .int al)]) := lv_sub hl [0, 2] rfl
                      exact join4 _ _ _ _ ⟨(gq + vn), by (have h9 := halB.resolve_left c_309); omega, rfl, hP, hD, hS, hl⟩
                  · rintro H locs ls stk ⟨nn, hnn, rfl, hP, hD, hS, hl⟩
                    refine lv_istore_n hx hb dX12_solves_325 rfl hl (by decide) rfl (fun ls (hl : lv_has ls _ ([(3, .int (nI nn)), (0, .ref h0), (2, .int al)])) => ?_)
                    refine lv_iconst (v := 1) hx hb dX12_solves_326 (by decide) ?_
                    refine lv_istore hx hb dX12_solves_327 hl (by decide) rfl (fun ls (hl : lv_has ls _ ([(4, .int 1), (3, .int (nI nn)), (0, .ref h0), (2, .int al)])) => ?_)
                    have hl : lv_has _ _ ([(0, .ref h0), (2, .int al), (3, .int (nI nn)), (4, .int (nI 1))]) := lv_sub hl [2, 3, 1, 0] rfl
                    refine (fun (loop : ∀ (n9 : Nat) (k8 : Nat) (t7 : Nat → Nat → Int) (D7 : Int) (g7 : Nat → Int32) (f27 : Nat → Int32) (f37 : Nat → Int32) (f47 : Nat → Int32) (f57 : Nat → Int32) (f67 : Nat → Int32) (gs7 : Nat → Int64) (F7 : Nat → Int64) (L87 : Nat → Int64) (qk7 : Int32) (qd7 : Int64) (m7 : Nat → Int) (H : Heap) (locs : List Loc) (ls : Array Slot), (Bg g7 m7) → (1 ≤ k8 ∧ k8 ≤ nn + 1) → (Tab qk7 (vn + 1) (R2 + GB) m7 F7 qd7 t7 D7) → (Sx (vn + 1) R2 (R2 + GB) (fun i j => mB (30 + i * (vn + 1 + 1) + j)) t7 D7 f47 f57) → (∀ i, i < R2 → 0 ≤ t7 i (vn + 1)) → (∀ q, 1000 ≤ q → m7 q = mg q) →  (nn + 1 < k8 + n9) → va_P (dC, dI) vwCl (WR a k h0 (fT (fT (fT (fT (fT vi 116 fx) 5 (nI (vn + 1))) 6 (nI R2)) 7 (nI GB)) 11 qk7) (fT vj 12 qd7) (fT (fT (fT (fT (fT (fT vF 0 g7) 4 f47) 6 f67) 5 f57) 2 f27) 3 f37) (fT (fT (fT vG 1 gs7) 7 F7) 8 L87)) H → va_D A (WR a k h0 (fT (fT (fT (fT (fT vi 116 fx) 5 (nI (vn + 1))) 6 (nI R2)) 7 (nI GB)) 11 qk7) (fT vj 12 qd7) (fT (fT (fT (fT (fT (fT vF 0 g7) 4 f47) 6 f67) 5 f57) 2 f27) 3 f37) (fT (fT (fT vG 1 gs7) 7 F7) 8 L87)) → va_S A s.heap H locs → lv_has ls 6 [(0, .ref h0), (2, .int al), (3, .int (nI nn)), (4, .int (nI k8))] → W p l e _ s m _ below meth c H locs 0 0 _ (F0 m 329 ls [])) => loop (nn + 2) 1 t2295 D2295 g295 f2w295 f3w295 f4295 f5295 f6295 gs295 F295 L8295 qk295 qd295 m2295 _ _ _ (f295_0) (by omega) (f295_1) (f295_2) (f295_3) (fun q hq => by (rw [f295_4 _ (by omega)]); exact homB q hq) (by omega) hP hD hS hl) ?_
                    intro n9
                    induction n9 with
                    | zero => intro k8 t7 D7 g7 f27 f37 f47 f57 f67 gs7 F7 L87 qk7 qd7 m7 H locs ls hB7 hk8 hT7 hS7 hG7 ho7 hf9; exact False.elim (by omega)
                    | succ n9 ih329_5 =>
                      intro k8 t7 D7 g7 f27 f37 f47 f57 f67 gs7 F7 L87 qk7 qd7 m7 H locs ls hB7 hk8 hT7 hS7 hG7 ho7 hf329_5 hP hD hS hl
                      refine lv_iload hx hb dX12_solves_329 (lv_at hl 3 rfl) ?_
                      refine lv_iload_n hx hb dX12_solves_331 rfl (lv_at hl 2 rfl) ?_
                      refine lv_icmp_gt (tgt := 353) hx hb dX12_solves_332 (by decide) (fun c_332 => ?_) (fun c_332 => ?_)
                      · have t_332 : ((k8 : Nat) : Int) > ((nn : Nat) : Int) := toI_gt c_332 (nI_toInt (by omega)) (nI_toInt (by omega))
                        have hD7 := hS7.1.2.1
                        refine lv_aload_n hx hb dX12_solves_353 rfl (lv_at hl 0 rfl) ?_
                        have hFc := allFree hD hS hA
                        refine va_callv (va_runV (As := []) (rest := []) ⟨hx, hb, hml, hown, hts⟩ (r_X12_spill l dC dI a k h0 (fT (fT (fT (fT (fT vi 116 fx) 5 (nI (vn + 1))) 6 (nI R2)) 7 (nI GB)) 11 qk7) (fT vj 12 qd7) (fT (fT (fT (fT (fT (fT vF 0 g7) 4 f47) 6 f67) 5 f57) 2 f27) 3 f37) (fT (fT (fT vG 1 gs7) 7 F7) 8 L87) (vn + 1) R2 GB t7 D7 m7 hB7 (by first | with_reducible assumption | decide | omega | rfl | assumption) (by first | with_reducible assumption | decide | omega | rfl | assumption) (by first | with_reducible assumption | decide | omega | rfl | assumption) (by first | with_reducible assumption | decide | omega | rfl | assumption) (by first | with_reducible assumption | decide | omega | rfl | assumption) (by first | with_reducible assumption | decide | omega | rfl | assumption) (hT7) (hD7) H.size) (cwV 0 hts gwsRX12_solves_10 rfl rfl rfl hd_yX12_spill_RX12 (by decide +kernel)) (fz_pre (va_recv hK hP (ci := 12) (q0 := 0) rfl rfl) hP hK hD) rfl rfl hl.1 rfl (lv_room (Nat.le_of_ble_eq_true rfl)) dX12_solves_354 (by decide +kernel)) hS (fun q _ h => hFc q h) hFc (fun u t9_ H locs ht hvm hw9 hB9 hz1 hk1 hS => ?_)
                        revert u hw9 hB9
                        refine fz_p2 ?_
                        intro g354 m2354 hw9 hB9
                        try dsimp only at hw9 hB9
                        have e9i : fT (fT (fT (fT (fT vi 116 fx) 5 (nI (vn + 1))) 6 (nI R2)) 7 (nI GB)) 11 0 = fT (fT (fT (fT (fT (fT vi 116 fx) 5 (nI (vn + 1))) 6 (nI R2)) 7 (nI GB)) 11 qk7) 11 0 := (fT_sm _ _ _ _).symm
                        have e9F : fT (fT (fT (fT (fT (fT vF 0 g354) 4 f47) 6 f67) 5 f57) 2 f27) 3 f37 = fT (fT (fT (fT (fT (fT (fT vF 0 g7) 4 f47) 6 f67) 5 f57) 2 f27) 3 f37) 0 g354 := ((fT_sw _ _ _ (Nat.ne_of_beq_eq_false rfl)).trans (congrArg (fun g9 => fT g9 3 f37) ((fT_sw _ _ _ (Nat.ne_of_beq_eq_false rfl)).trans (congrArg (fun g9 => fT g9 2 f27) ((fT_sw _ _ _ (Nat.ne_of_beq_eq_false rfl)).trans (congrArg (fun g9 => fT g9 5 f57) ((fT_sw _ _ _ (Nat.ne_of_beq_eq_false rfl)).trans (congrArg (fun g9 => fT g9 6 f67) ((fT_sw _ _ _ (Nat.ne_of_beq_eq_false rfl)).trans (congrArg (fun g9 => fT g9 4 f47) (fT_sm _ _ _ _))))))))))).symm
                        have hP := wr_PF e9F (wr_Pi e9i (fz_P ht hB9.1))
                        have hD := wr_DF e9F (wr_Di e9i (hB9.2.weaken (fun _ q _ h => hFc q.1 h)))
                        clear e9i e9F
                        revert hw9
                        refine fz_a3 ?_
                        intro f354_0 f354_1 f354_2
                        refine lv_iload_n hx hb dX12_solves_357 rfl (lv_at hl 1 rfl) ?_
                        refine lv_if_eq (tgt := 365) hx hb dX12_solves_358 (by decide) (fun c_358 => ?_) (fun c_358 => ?_)
                        · have t_358 : (al).toInt = 0 := toI_eq c_358 rfl (by decide)
                          refine lv_iconst (v := 1) hx hb dX12_solves_365 (by decide) ?_
                          refine W.widen (k := 0) (n := 0) (by decide +kernel) (by decide +kernel) ?_
                          exact W.zret (v := 1) hx hb hr rfl (fun t9_ ht hW => ⟨⟨1, (g354, f27, f37, f47, f57, f67, gs7, F7, L87, qd7, fx, (nI (vn + 1)), (nI R2), (nI GB), m2354), rfl, by (try dsimp only); exact ⟨f354_0, hAn.frame (fun p h1 h2 => by (rw [f354_2 _ (by omega) (by omega)]); exact ho7 p (by omega)), fun q hq => by (rw [f354_2 _ (by omega) (by omega)]); exact ho7 q (by omega), Or.inr rfl, Or.inr (Or.inl c_358)⟩, by rw [ht]; exact hP, hD⟩, hS.F ht⟩) hS.2.2 dX12_solves_366
                        · have t_358 : ¬ (al).toInt = 0 := toI_neq c_358 rfl (by decide)
                          have hb7 := hcs _ _ _ _ hS7.1
                          refine lv_aload_n hx hb dX12_solves_361 rfl (lv_at hl 0 rfl) ?_
                          have hFc := allFree hD hS hA
                          refine va_callv (va_runV (As := []) (rest := []) ⟨hx, hb, hml, hown, hts⟩ (r_X12_tryIt l dC dI a k h0 (fT (fT (fT (fT (fT vi 116 fx) 5 (nI (vn + 1))) 6 (nI R2)) 7 (nI GB)) 11 0) (fT vj 12 qd7) (fT (fT (fT (fT (fT (fT vF 0 g354) 4 f47) 6 f67) 5 f57) 2 f27) 3 f37) (fT (fT (fT vG 1 gs7) 7 F7) 8 L87) (vn + 1) R2 GB t7 D7 gq m2354 f354_0 (by first | with_reducible assumption | decide | omega | rfl | assumption) (by first | with_reducible assumption | decide | omega | rfl | assumption) (by first | with_reducible assumption | decide | omega | rfl | assumption) (by first | with_reducible assumption | decide | omega | rfl | assumption) (by first | with_reducible assumption | decide | omega | rfl | assumption) (by first | with_reducible assumption | decide | omega | rfl | assumption) (hvn) (by first | with_reducible assumption | decide | omega | rfl | assumption) (by first | with_reducible assumption | decide | omega | rfl | assumption) (by first | with_reducible assumption | decide | omega | rfl | assumption) (by first | with_reducible assumption | decide | omega | rfl | assumption) (f354_1) (hb7.1.1) (fun i hi => hb7.1.2 i hi _ (Nat.le_refl _)) (hAn.frame (fun p h1 h2 => by (rw [f354_2 _ (by omega) (by omega)]); exact ho7 p (by omega))) (by first | with_reducible assumption | decide | omega | rfl | assumption) H.size) (cwV 0 hts gwsRX12_solves_11 rfl rfl rfl hd_yX12_tryIt_RX12 (by decide +kernel)) (fz_pre (va_recv hK hP (ci := 12) (q0 := 0) rfl rfl) hP hK hD) rfl rfl hl.1 rfl (lv_room (Nat.le_of_ble_eq_true rfl)) dX12_solves_362 (by decide +kernel)) hS (fun q _ h => hFc q h) hFc (fun u t9_ H locs ht hvm hw9 hB9 hz1 hk1 hS => ?_)
                          revert u hw9 hB9
                          refine fz_p5 ?_
                          intro g362 f2w362 f3w362 gs362 m2362 hw9 hB9
                          try dsimp only at hw9 hB9
                          have e9F : fT (fT (fT (fT (fT (fT vF 0 g362) 4 f47) 6 f67) 5 f57) 2 f2w362) 3 f3w362 = fT (fT (fT (fT (fT (fT (fT (fT (fT vF 0 g354) 4 f47) 6 f67) 5 f57) 2 f27) 3 f37) 0 g362) 2 f2w362) 3 f3w362 := Eq.symm (Eq.trans (congrArg (fun g9 => fT g9 3 f3w362) (Eq.trans (congrArg (fun g9 => fT g9 2 f2w362) (up_5 rfl)) (up_1 rfl))) (up_0 rfl))
                          have e9G : fT (fT (fT vG 1 gs362) 7 F7) 8 L87 = fT (fT (fT (fT vG 1 gs7) 7 F7) 8 L87) 1 gs362 := ((fT_sw _ _ _ (Nat.ne_of_beq_eq_false rfl)).trans (congrArg (fun g9 => fT g9 8 L87) ((fT_sw _ _ _ (Nat.ne_of_beq_eq_false rfl)).trans (congrArg (fun g9 => fT g9 7 F7) (fT_sm _ _ _ _))))).symm
                          have hP := wr_PG e9G (wr_PF e9F (fz_P ht hB9.1))
                          have hD := wr_DG e9G (wr_DF e9F (hB9.2.weaken (fun _ q _ h => hFc q.1 h)))
                          clear e9F e9G
                          revert hw9
                          refine fz_a5 ?_
                          intro f362_0 f362_1 f362_2 f362_3 f362_4
                          refine lv_iconst (v := 1) hx hb dX12_solves_365 (by decide) ?_
                          refine W.widen (k := 0) (n := 0) (by decide +kernel) (by decide +kernel) ?_
                          exact W.zret (v := 1) hx hb hr rfl (fun t9_ ht hW => ⟨⟨1, (g362, f2w362, f3w362, f47, f57, f67, gs362, F7, L87, qd7, fx, (nI (vn + 1)), (nI R2), (nI GB), m2362), rfl, by (try dsimp only); exact ⟨f362_0, f362_1, fun q hq => by (rw [f362_2 _ (by omega) (by omega) (by omega), f354_2 _ (by omega) (by omega)]); exact ho7 q (by omega), Or.inr rfl, Or.inr (Or.inr ⟨by rw [f362_3]; exact hD7, f362_4⟩)⟩, by rw [ht]; exact hP, hD⟩, hS.F ht⟩) hS.2.2 dX12_solves_366
                      · have t_332 : ¬ ((k8 : Nat) : Int) > ((nn : Nat) : Int) := toI_ngt c_332 (nI_toInt (by omega)) (nI_toInt (by omega))
                        refine lv_aload_n hx hb dX12_solves_335 rfl (lv_at hl 0 rfl) ?_
                        refine lv_aload_n hx hb dX12_solves_336 rfl (lv_at hl 0 rfl) ?_
                        refine va_get (D := (dC, dI)) (ci := 12) (v := .int (nI R2)) (C := RX12) (T := TX12) (N := 163) (fs := fM (vS a (fT (fT (fT (fT (fT vi 116 fx) 5 (nI (vn + 1))) 6 (nI R2)) 7 (nI GB)) 11 qk7) (fT vj 12 qd7))) hx hb hts iwsRX12_solves_in12 hown hK hP 0 rfl rfl 6 (by decide) (hts (.fieldLink RX12 399 "OptimaWorksModel" "rows" "I") (by decide +kernel)) (fun _ h9 => h9) rfl dX12_solves_337 ?_
                        refine lv_iload hx hb dX12_solves_340 (lv_at hl 3 rfl) ?_
                        refine lv_iadd hx hb dX12_solves_342 ?_
                        refine lv_topi (fun y12 hy12 => ?_)
                        obtain rfl : (nI (R2 + k8)) = y12 := (hy12.trans (nI_add R2 k8)).symm
                        have hFc := allFree hD hS hA
                        refine va_calli (va_runV (As := [.int (nI (R2 + k8))]) (rest := []) ⟨hx, hb, hml, hown, hts⟩ (r_X12_raise l dC dI a k h0 (fT (fT (fT (fT (fT vi 116 fx) 5 (nI (vn + 1))) 6 (nI R2)) 7 (nI GB)) 11 qk7) (fT vj 12 qd7) (fT (fT (fT (fT (fT (fT vF 0 g7) 4 f47) 6 f67) 5 f57) 2 f27) 3 f37) (fT (fT (fT vG 1 gs7) 7 F7) 8 L87) (R2 + k8) (fun i j => mB (30 + i * (vn + 1 + 1) + j)) (vn + 1) R2 GB t7 D7 m7 hB7 (by first | with_reducible assumption | decide | omega | rfl | assumption) (by first | with_reducible assumption | decide | omega | rfl | assumption) (by first | with_reducible assumption | decide | omega | rfl | assumption) (by first | with_reducible assumption | decide | omega | rfl | assumption) (by first | with_reducible assumption | decide | omega | rfl | assumption) (by first | with_reducible assumption | decide | omega | rfl | assumption) (hT7) (hS7) (hsm) (hG7) (by first | with_reducible assumption | decide | omega | rfl | assumption) (by first | with_reducible assumption | decide | omega | rfl | assumption) H.size) (cwV 1 hts gwsRX12_solves_12 rfl rfl rfl hd_yX12_raise_RX12 (by decide +kernel)) (fz_pre (va_recv hK hP (ci := 12) (q0 := 0) rfl rfl) hP hK hD) rfl rfl hl.1 rfl (lv_room (Nat.le_of_ble_eq_true rfl)) dX12_solves_343 (by decide +kernel)) hS (fun q _ h => hFc q h) hFc (fun r343 u t9_ H locs ht hvm hw9 hB9 hz1 hk1 hS => ?_)
                        revert u hw9 hB9
                        refine fz_p14 ?_
                        intro g343 f2w343 f3w343 f4343 f5343 f6343 gs343 F343 L8343 qk343 qd343 m2343 t2343 D2343 hw9 hB9
                        try dsimp only at hw9 hB9
                        have e9i : fT (fT (fT (fT (fT vi 116 fx) 5 (nI (vn + 1))) 6 (nI R2)) 7 (nI GB)) 11 qk343 = fT (fT (fT (fT (fT (fT vi 116 fx) 5 (nI (vn + 1))) 6 (nI R2)) 7 (nI GB)) 11 qk7) 11 qk343 := (fT_sm _ _ _ _).symm
                        have e9j : fT vj 12 qd343 = fT (fT vj 12 qd7) 12 qd343 := (fT_sm _ _ _ _).symm
                        have e9F : fT (fT (fT (fT (fT (fT vF 0 g343) 4 f4343) 6 f6343) 5 f5343) 2 f2w343) 3 f3w343 = fT (fT (fT (fT (fT (fT (fT (fT (fT (fT (fT (fT vF 0 g7) 4 f47) 6 f67) 5 f57) 2 f27) 3 f37) 0 g343) 2 f2w343) 3 f3w343) 4 f4343) 5 f5343) 6 f6343 := Eq.symm (Eq.trans (congrArg (fun g9 => fT g9 6 f6343) (Eq.trans (congrArg (fun g9 => fT g9 5 f5343) (Eq.trans (congrArg (fun g9 => fT g9 4 f4343) (Eq.trans (congrArg (fun g9 => fT g9 3 f3w343) (Eq.trans (congrArg (fun g9 => fT g9 2 f2w343) (up_5 rfl)) (up_1 rfl))) (up_0 rfl))) (up_4 rfl))) (up_2 rfl))) (up_3 rfl))
                        have e9G : fT (fT (fT vG 1 gs343) 7 F343) 8 L8343 = fT (fT (fT (fT (fT (fT vG 1 gs7) 7 F7) 8 L87) 1 gs343) 7 F343) 8 L8343 := ((congrArg (fun g9 => fT (fT g9 7 F343) 8 L8343) ((fT_sw _ _ _ (Nat.ne_of_beq_eq_false rfl)).trans (congrArg (fun g9 => fT g9 8 L87) ((fT_sw _ _ _ (Nat.ne_of_beq_eq_false rfl)).trans (congrArg (fun g9 => fT g9 7 F7) (fT_sm _ _ _ _)))))).trans ((congrArg (fun g9 => fT g9 8 L8343) ((fT_sw _ _ _ (Nat.ne_of_beq_eq_false rfl)).trans (congrArg (fun g9 => fT g9 8 L87) (fT_sm _ _ _ _)))).trans (fT_sm _ _ _ _))).symm
                        have hP := wr_PG e9G (wr_PF e9F (wr_Pj e9j (wr_Pi e9i (fz_P ht hB9.1))))
                        have hD := wr_DG e9G (wr_DF e9F (wr_Dj e9j (wr_Di e9i (hB9.2.weaken (fun _ q _ h => hFc q.1 h)))))
                        clear e9i e9j e9F e9G
                        revert hw9
                        refine fz_a6 ?_
                        intro f343_0 f343_1 f343_2 f343_3 f343_4 f343_5
                        refine lv_pop hx hb dX12_solves_346 rfl ?_
                        refine lv_iinc (v := (nI (k8 + 1))) hx hb dX12_solves_347 hl (k := 3) rfl (nI_add k8 1) (by decide) rfl (fun ls (hl : lv_has ls _ ([(4, .int (nI (k8 + 1))), (0, .ref h0), (2, .int al), (3, .int (nI nn))])) => ?_)
                        refine lv_goto (tgt := 329) hx hb dX12_solves_350 (by decide) ?_
                        have hl : lv_has _ _ ([(0, .ref h0), (2, .int al), (3, .int (nI nn)), (4, .int (nI (k8 + 1)))]) := lv_sub hl [1, 2, 3, 0] rfl
                        exact ih329_5 (k8 + 1) t2343 D2343 g343 f2w343 f3w343 f4343 f5343 f6343 gs343 F343 L8343 qk343 qd343 m2343 _ _ _ (f343_0) (by omega) (f343_1) (f343_2) (f343_3) (fun q hq => by (rw [f343_4 _ (by omega)]); exact ho7 q hq) (by omega) hP hD hS hl
          · have t_80 : ¬ ((k5 : Nat) : Int) ≥ ((vn : Nat) : Int) := toI_nge c_80 (nI_toInt (by omega)) (nI_toInt (by omega))
            refine lv_aload_n hx hb dX12_solves_83 rfl (lv_at hl 0 rfl) ?_
            refine va_get (D := (dC, dI)) (ci := 12) (v := .int fx) (C := RX12) (T := TX12) (N := 163) (fs := fM (vS a (fT (fT (fT (fT vi 116 fx) 5 (nI (vn + 1))) 6 (nI R2)) 7 0) vj)) hx hb hts iwsRX12_solves_in12 hown hK hP 0 rfl rfl 116 (by decide) (hts _ hm_r_X12_solves_0) (fun _ h9 => h9) rfl dX12_solves_84 ?_
            refine W.cut (pc := 110) (fun H locs ls stk =>  stk = [] ∧ va_P (dC, dI) vwCl (WR a k h0 (fT (fT (fT (fT vi 116 fx) 5 (nI (vn + 1))) 6 (nI R2)) 7 0) vj (fT (fT (fT (fT vF 0 g2) 4 f418) 6 f62) 5 f52) vG) H ∧ va_D A (WR a k h0 (fT (fT (fT (fT vi 116 fx) 5 (nI (vn + 1))) 6 (nI R2)) 7 0) vj (fT (fT (fT (fT vF 0 g2) 4 f418) 6 f62) 5 f52) vG) ∧ va_S A s.heap H locs ∧ lv_has ls 6 [(0, .ref h0), (1, .int rx), (2, .int al), (3, .int (nI k5))]) (fun join5 => ?_) ?_
            · refine lv_if_eq (tgt := 110) hx hb dX12_solves_87 (by decide) (fun c_87 => ?_) (fun c_87 => ?_)
              · have t_87 : (fx).toInt = 0 := toI_eq c_87 rfl (by decide)
                have hl : lv_has _ _ ([(0, .ref h0), (1, .int rx), (2, .int al), (3, .int (nI k5))]) := lv_sub hl [0, 1, 2, 3] rfl
                exact join5 _ _ _ _ ⟨rfl, hP, hD, hS, hl⟩
              · have t_87 : ¬ (fx).toInt = 0 := toI_neq c_87 rfl (by decide)
                refine lv_aload_n hx hb dX12_solves_90 rfl (lv_at hl 0 rfl) ?_
                refine va_get (D := (dC, dI)) (ci := 12) (v := .ref (a 58)) (C := RX12) (T := TX12) (N := 163) (fs := fM (vS a (fT (fT (fT (fT vi 116 fx) 5 (nI (vn + 1))) 6 (nI R2)) 7 0) vj)) hx hb hts iwsRX12_solves_in12 hown hK hP 0 rfl rfl 98 (by decide) (hts (.fieldLink RX12 197 "OptimaWorksModel" "whole" "[I") (by decide +kernel)) (fun _ h9 => h9) rfl dX12_solves_91 ?_
                refine lv_iload_n hx hb dX12_solves_94 rfl (lv_at hl 3 rfl) ?_
                refine va_iald (cA := k 58) (n := 9) (f := (vF 58)) hx hb hK hP 59 58 (WR_get 58 (by decide)) (TR_get 58 (by decide)) (vp_in_nI (show k5 < 9 by omega) (by omega)) dX12_solves_95 ?_
                refine lv_topi (fun y13 hy13 => ?_)
                obtain rfl : ((vF 58) k5) = y13 := (hy13.trans (by rw [nI_clamp (by omega)])).symm
                refine lv_iconst (v := 1) hx hb dX12_solves_96 (by decide) ?_
                refine lv_icmp_ne (tgt := 110) hx hb dX12_solves_97 (by decide) (fun c_97 => ?_) (fun c_97 => ?_)
                · have t_97 : (((vF 58) k5)).toInt ≠ 1 := toI_ne c_97 rfl (by decide)
                  have hl : lv_has _ _ ([(0, .ref h0), (1, .int rx), (2, .int al), (3, .int (nI k5))]) := lv_sub hl [0, 1, 2, 3] rfl
                  exact join5 _ _ _ _ ⟨rfl, hP, hD, hS, hl⟩
                · have t_97 : (((vF 58) k5)).toInt = 1 := toI_nne c_97 rfl (by decide)
                  refine lv_aload_n hx hb dX12_solves_100 rfl (lv_at hl 0 rfl) ?_
                  refine va_get (D := (dC, dI)) (ci := 12) (v := .ref (a 6)) (C := RX12) (T := TX12) (N := 163) (fs := fM (vS a (fT (fT (fT (fT vi 116 fx) 5 (nI (vn + 1))) 6 (nI R2)) 7 0) vj)) hx hb hts iwsRX12_solves_in12 hown hK hP 0 rfl rfl 10 (by decide) (hts (.fieldLink RX12 29 "OptimaWorksModel" "still" "[Z") (by decide +kernel)) (fun _ h9 => h9) rfl dX12_solves_101 ?_
                  refine lv_iload_n hx hb dX12_solves_104 rfl (lv_at hl 3 rfl) ?_
                  refine lv_iconst (v := 1) hx hb dX12_solves_105 (by decide) ?_
                  refine va_zast (cA := k 6) (n := 46) (f := f62) hx hb hK hP hD hS 7 6 (WR_get 6 (by decide)) (TR_get 6 (by decide)) (vp_in_nI (show k5 < 46 by omega) (by omega)) dX12_solves_106 (fun H locs hP hD hS => ?_)
                  have e9 : fT (fT (fT (fT vF 0 g2) 4 f418) 6 (upd f62 ((nI k5)).toNatClampNeg (vp_nar FieldType.boolean 1))) 5 f52 = fT (fT (fT (fT (fT vF 0 g2) 4 f418) 6 f62) 5 f52) 6 (upd f62 ((nI k5)).toNatClampNeg (vp_nar FieldType.boolean 1)) := ((fT_sw _ _ _ (Nat.ne_of_beq_eq_false rfl)).trans (congrArg (fun g9 => fT g9 5 f52) (fT_sm _ _ _ _))).symm
                  have hP := wr_PF e9 (fz_w (WR_F 6 (by decide) _ rfl) hP)
                  have hD := wr_DF e9 (fz_wD (WR_F 6 (by decide) _ rfl) hD)
                  clear e9
                  refine lv_goto (tgt := 156) hx hb dX12_solves_107 (by decide) ?_
                  refine lv_iinc (v := (nI (k5 + 1))) hx hb dX12_solves_156 hl (k := 3) rfl (nI_add k5 1) (by decide) rfl (fun ls (hl : lv_has ls _ ([(3, .int (nI (k5 + 1))), (0, .ref h0), (1, .int rx), (2, .int al)])) => ?_)
                  refine lv_goto (tgt := 75) hx hb dX12_solves_159 (by decide) ?_
                  have hl : lv_has _ _ ([(0, .ref h0), (1, .int rx), (2, .int al), (3, .int (nI (k5 + 1)))]) := lv_sub hl [1, 2, 3, 0] rfl
                  exact ih75_1 (k5 + 1) R2 g2 f52 (upd f62 ((nI k5)).toNatClampNeg (vp_nar FieldType.boolean 1)) m2a _ _ _ (hB2) (by omega) (by omega) (hBl2) (h202) (ho2) (by omega) hP hD hS hl
            · rintro H locs ls stk ⟨rfl, hP, hD, hS, hl⟩
              have hmul : R2 * (vn + 1 + 1) ≤ 40 * 10 := Nat.mul_le_mul (by omega) (by omega)
              have bl9 := hM.1 k5 (by omega)
              have bh9 := hM.2.1 k5 (by omega)
              have es9 : (vF 57 k5 - vF 56 k5).toInt = (vF 57 k5).toInt - (vF 56 k5).toInt := subB (by omega) (by omega)
              refine lv_aload_n hx hb dX12_solves_110 rfl (lv_at hl 0 rfl) ?_
              have hFc := allFree hD hS hA
              refine va_calli (va_runV (As := []) (rest := []) ⟨hx, hb, hml, hown, hts⟩ (r_X12_newLine l dC dI a k h0 (fT (fT (fT (fT vi 116 fx) 5 (nI (vn + 1))) 6 (nI R2)) 7 0) vj (fT (fT (fT (fT vF 0 g2) 4 f418) 6 f62) 5 f52) vG (vn + 1) R2 m2a hB2 (by first | with_reducible assumption | decide | omega | rfl | assumption) (by first | with_reducible assumption | decide | omega | rfl | assumption) (by first | with_reducible assumption | decide | omega | rfl | assumption) (by first | with_reducible assumption | decide | omega | rfl | assumption) (by first | with_reducible assumption | decide | omega | rfl | assumption) (by first | with_reducible assumption | decide | omega | rfl | assumption) H.size) (cwV 0 hts gwsRX12_solves_13 rfl rfl rfl hd_yX12_newLine_RX12 (by decide +kernel)) (fz_pre (va_recv hK hP (ci := 12) (q0 := 0) rfl rfl) hP hK hD) rfl rfl hl.1 rfl (lv_room (Nat.le_of_ble_eq_true rfl)) dX12_solves_111 (by decide +kernel)) hS (fun q _ h => hFc q h) hFc (fun r111 u t9_ H locs ht hvm hw9 hB9 hz1 hk1 hS => ?_)
              revert u hw9 hB9
              refine fz_p2 ?_
              intro g111 m2111 hw9 hB9
              try dsimp only at hw9 hB9
              have e9i : fT (fT (fT (fT vi 116 fx) 5 (nI (vn + 1))) 6 (nI (R2 + 1))) 7 0 = fT (fT (fT (fT (fT vi 116 fx) 5 (nI (vn + 1))) 6 (nI R2)) 7 0) 6 (nI (R2 + 1)) := ((fT_sw _ _ _ (Nat.ne_of_beq_eq_false rfl)).trans (congrArg (fun g9 => fT g9 7 0) (fT_sm _ _ _ _))).symm
              have e9F : fT (fT (fT (fT vF 0 g111) 4 f418) 6 f62) 5 (upd f52 (nI R2).toNatClampNeg (nI ((vn + 1) + R2))) = fT (fT (fT (fT (fT (fT vF 0 g2) 4 f418) 6 f62) 5 f52) 0 g111) 5 (upd f52 (nI R2).toNatClampNeg (nI ((vn + 1) + R2))) := ((congrArg (fun g9 => fT g9 5 (upd f52 (nI R2).toNatClampNeg (nI ((vn + 1) + R2)))) ((fT_sw _ _ _ (Nat.ne_of_beq_eq_false rfl)).trans (congrArg (fun g9 => fT g9 5 f52) ((fT_sw _ _ _ (Nat.ne_of_beq_eq_false rfl)).trans (congrArg (fun g9 => fT g9 6 f62) ((fT_sw _ _ _ (Nat.ne_of_beq_eq_false rfl)).trans (congrArg (fun g9 => fT g9 4 f418) (fT_sm _ _ _ _)))))))).trans (fT_sm _ _ _ _)).symm
              have hP := wr_PF e9F (wr_Pi e9i (fz_P ht hB9.1))
              have hD := wr_DF e9F (wr_Di e9i (hB9.2.weaken (fun _ q _ h => hFc q.1 h)))
              clear e9i e9F
              obtain ⟨rfl, f111_0, f111_1, f111_2⟩ := hw9
              refine lv_istore hx hb dX12_solves_114 hl (by decide) rfl (fun ls (hl : lv_has ls _ ([(4, .int (nI R2)), (0, .ref h0), (1, .int rx), (2, .int al), (3, .int (nI k5))])) => ?_)
              refine lv_aload_n hx hb dX12_solves_116 rfl (lv_at hl 1 rfl) ?_
              refine lv_aload_n hx hb dX12_solves_117 rfl (lv_at hl 1 rfl) ?_
              refine lv_iload hx hb dX12_solves_118 (lv_at hl 0 rfl) ?_
              refine lv_iload_n hx hb dX12_solves_120 rfl (lv_at hl 4 rfl) ?_
              have hFc := allFree hD hS hA
              refine va_calli (va_runV (As := [.int (nI R2), .int (nI k5)]) (rest := [.ref h0]) ⟨hx, hb, hml, hown, hts⟩ (r_X12_at l dC dI a k h0 (fT (fT (fT (fT vi 116 fx) 5 (nI (vn + 1))) 6 (nI (R2 + 1))) 7 0) vj (fT (fT (fT (fT vF 0 g111) 4 f418) 6 f62) 5 (upd f52 (nI R2).toNatClampNeg (nI ((vn + 1) + R2)))) vG R2 k5 (vn + 1) (by first | with_reducible assumption | decide | omega | rfl | assumption) H.size) (cwV 2 hts gwsRX12_solves_5 rfl rfl rfl hd_yX12_at_RX12 (by decide +kernel)) (fz_pre (va_recv hK hP (ci := 12) (q0 := 0) rfl rfl) hP hK hD) rfl rfl hl.1 rfl (lv_room (Nat.le_of_ble_eq_true rfl)) dX12_solves_121 (by decide +kernel)) hS (fun q _ h => hFc q h) hFc (fun r121 u t9_ H locs ht hvm hw9 hB9 hz1 hk1 hS => ?_)
              have hP : va_P (dC, dI) vwCl (WR a k h0 (fT (fT (fT (fT vi 116 fx) 5 (nI (vn + 1))) 6 (nI (R2 + 1))) 7 0) vj (fT (fT (fT (fT vF 0 g111) 4 f418) 6 f62) 5 (upd f52 (nI R2).toNatClampNeg (nI ((vn + 1) + R2)))) vG) H := fz_P ht hB9.1
              have hD := fz_sd hP (hB9.2.weaken (fun _ q _ h => hFc q.1 h)) rfl
              obtain rfl := hw9
              refine lv_lconst (v := 1) hx hb dX12_solves_124 (by decide) ?_
              have hFc := allFree hD hS hA
              refine va_callv (va_runV (As := [.int (nI (30 + R2 * ((vn + 1) + 1) + k5)), .long 1]) (rest := []) ⟨hx, hb, hml, hown, hts⟩ (b_X12_put l dC dI a k h0 (fT (fT (fT (fT vi 116 fx) 5 (nI (vn + 1))) 6 (nI (R2 + 1))) 7 0) vj (fT (fT (fT (fT vF 0 g111) 4 f418) 6 f62) 5 (upd f52 (nI R2).toNatClampNeg (nI ((vn + 1) + R2)))) vG (30 + R2 * ((vn + 1) + 1) + k5) 1 1 m2111 f111_0 (by first | with_reducible assumption | decide | omega | rfl | assumption) (by decide) (by first | with_reducible assumption | decide | omega | rfl | assumption) H.size) (cwV 2 hts gwsRX12_solves_8 rfl rfl rfl hd_yX12_put_RX12 (by decide +kernel)) (fz_pre (va_recv hK hP (ci := 12) (q0 := 0) rfl rfl) hP hK hD) rfl rfl hl.1 rfl (lv_room (Nat.le_of_ble_eq_true rfl)) dX12_solves_125 (by decide +kernel)) hS (fun q _ h => hFc q h) hFc (fun g125 t9_ H locs ht hvm hw9 hB9 hz1 hk1 hS => ?_)
              have e9F : fT (fT (fT (fT vF 0 g125) 4 f418) 6 f62) 5 (upd f52 (nI R2).toNatClampNeg (nI ((vn + 1) + R2))) = fT (fT (fT (fT (fT vF 0 g111) 4 f418) 6 f62) 5 (upd f52 (nI R2).toNatClampNeg (nI ((vn + 1) + R2)))) 0 g125 := ((fT_sw _ _ _ (Nat.ne_of_beq_eq_false rfl)).trans (congrArg (fun g9 => fT g9 5 (upd f52 (nI R2).toNatClampNeg (nI ((vn + 1) + R2)))) ((fT_sw _ _ _ (Nat.ne_of_beq_eq_false rfl)).trans (congrArg (fun g9 => fT g9 6 f62) ((fT_sw _ _ _ (Nat.ne_of_beq_eq_false rfl)).trans (congrArg (fun g9 => fT g9 4 f418) (fT_sm _ _ _ _))))))).symm
              have hP := wr_PF e9F (fz_P ht hB9.1)
              have hD := wr_DF e9F (hB9.2.weaken (fun _ q _ h => hFc q.1 h))
              clear e9F
              have f125_0 := hw9
              try dsimp only at f125_0
              refine lv_aload_n hx hb dX12_solves_128 rfl (lv_at hl 1 rfl) ?_
              refine lv_aload_n hx hb dX12_solves_129 rfl (lv_at hl 1 rfl) ?_
              refine lv_iload hx hb dX12_solves_130 (lv_at hl 0 rfl) ?_
              refine lv_aload_n hx hb dX12_solves_132 rfl (lv_at hl 1 rfl) ?_
              refine va_get (D := (dC, dI)) (ci := 12) (v := .int (nI (vn + 1))) (C := RX12) (T := TX12) (N := 163) (fs := fM (vS a (fT (fT (fT (fT vi 116 fx) 5 (nI (vn + 1))) 6 (nI (R2 + 1))) 7 0) vj)) hx hb hts iwsRX12_solves_in12 hown hK hP 0 rfl rfl 5 (by decide) (hts (.fieldLink RX12 396 "OptimaWorksModel" "columns" "I") (by decide +kernel)) (fun _ h9 => h9) rfl dX12_solves_133 ?_
              have hFc := allFree hD hS hA
              refine va_calli (va_runV (As := [.int (nI R2), .int (nI (vn + 1))]) (rest := [.ref h0]) ⟨hx, hb, hml, hown, hts⟩ (r_X12_at l dC dI a k h0 (fT (fT (fT (fT vi 116 fx) 5 (nI (vn + 1))) 6 (nI (R2 + 1))) 7 0) vj (fT (fT (fT (fT vF 0 g125) 4 f418) 6 f62) 5 (upd f52 (nI R2).toNatClampNeg (nI ((vn + 1) + R2)))) vG R2 (vn + 1) (vn + 1) (by first | with_reducible assumption | decide | omega | rfl | assumption) H.size) (cwV 2 hts gwsRX12_solves_5 rfl rfl rfl hd_yX12_at_RX12 (by decide +kernel)) (fz_pre (va_recv hK hP (ci := 12) (q0 := 0) rfl rfl) hP hK hD) rfl rfl hl.1 rfl (lv_room (Nat.le_of_ble_eq_true rfl)) dX12_solves_136 (by decide +kernel)) hS (fun q _ h => hFc q h) hFc (fun r136 u t9_ H locs ht hvm hw9 hB9 hz1 hk1 hS => ?_)
              have hP : va_P (dC, dI) vwCl (WR a k h0 (fT (fT (fT (fT vi 116 fx) 5 (nI (vn + 1))) 6 (nI (R2 + 1))) 7 0) vj (fT (fT (fT (fT vF 0 g125) 4 f418) 6 f62) 5 (upd f52 (nI R2).toNatClampNeg (nI ((vn + 1) + R2)))) vG) H := fz_P ht hB9.1
              have hD := fz_sd hP (hB9.2.weaken (fun _ q _ h => hFc q.1 h)) rfl
              obtain rfl := hw9
              refine lv_aload_n hx hb dX12_solves_139 rfl (lv_at hl 1 rfl) ?_
              refine va_get (D := (dC, dI)) (ci := 12) (v := .ref (a 57)) (C := RX12) (T := TX12) (N := 163) (fs := fM (vS a (fT (fT (fT (fT vi 116 fx) 5 (nI (vn + 1))) 6 (nI (R2 + 1))) 7 0) vj)) hx hb hts iwsRX12_solves_in12 hown hK hP 0 rfl rfl 97 (by decide) (hts (.fieldLink RX12 194 "OptimaWorksModel" "high" "[I") (by decide +kernel)) (fun _ h9 => h9) rfl dX12_solves_140 ?_
              refine lv_iload_n hx hb dX12_solves_143 rfl (lv_at hl 4 rfl) ?_
              refine va_iald (cA := k 57) (n := 9) (f := (vF 57)) hx hb hK hP 58 57 (WR_get 57 (by decide)) (TR_get 57 (by decide)) (vp_in_nI (show k5 < 9 by omega) (by omega)) dX12_solves_144 ?_
              refine lv_topi (fun y14 hy14 => ?_)
              obtain rfl : ((vF 57) k5) = y14 := (hy14.trans (by rw [nI_clamp (by omega)])).symm
              refine lv_aload_n hx hb dX12_solves_145 rfl (lv_at hl 1 rfl) ?_
              refine va_get (D := (dC, dI)) (ci := 12) (v := .ref (a 56)) (C := RX12) (T := TX12) (N := 163) (fs := fM (vS a (fT (fT (fT (fT vi 116 fx) 5 (nI (vn + 1))) 6 (nI (R2 + 1))) 7 0) vj)) hx hb hts iwsRX12_solves_in12 hown hK hP 0 rfl rfl 96 (by decide) (hts (.fieldLink RX12 191 "OptimaWorksModel" "low" "[I") (by decide +kernel)) (fun _ h9 => h9) rfl dX12_solves_146 ?_
              refine lv_iload_n hx hb dX12_solves_149 rfl (lv_at hl 4 rfl) ?_
              refine va_iald (cA := k 56) (n := 9) (f := (vF 56)) hx hb hK hP 57 56 (WR_get 56 (by decide)) (TR_get 56 (by decide)) (vp_in_nI (show k5 < 9 by omega) (by omega)) dX12_solves_150 ?_
              refine lv_topi (fun y15 hy15 => ?_)
              obtain rfl : ((vF 56) k5) = y15 := (hy15.trans (by rw [nI_clamp (by omega)])).symm
              refine lv_isub hx hb dX12_solves_151 ?_
              refine lv_i2l hx hb dX12_solves_152 rfl ?_
              have hFc := allFree hD hS hA
              refine va_callv (va_runV (As := [.int (nI (30 + R2 * ((vn + 1) + 1) + (vn + 1))), .long ((((vF 57) k5) - ((vF 56) k5))).toInt64]) (rest := []) ⟨hx, hb, hml, hown, hts⟩ (b_X12_put l dC dI a k h0 (fT (fT (fT (fT vi 116 fx) 5 (nI (vn + 1))) 6 (nI (R2 + 1))) 7 0) vj (fT (fT (fT (fT vF 0 g125) 4 f418) 6 f62) 5 (upd f52 (nI R2).toNatClampNeg (nI ((vn + 1) + R2)))) vG (30 + R2 * ((vn + 1) + 1) + (vn + 1)) (((((vF 57) k5) - ((vF 56) k5))).toInt64) ((vF 57 k5).toInt - (vF 56 k5).toInt) (fT m2111 (30 + R2 * ((vn + 1) + 1) + k5) 1) f125_0 (by first | with_reducible assumption | decide | omega | rfl | assumption) (by rw [i64T, es9]) (by omega) H.size) (cwV 2 hts gwsRX12_solves_8 rfl rfl rfl hd_yX12_put_RX12 (by decide +kernel)) (fz_pre (va_recv hK hP (ci := 12) (q0 := 0) rfl rfl) hP hK hD) rfl rfl hl.1 rfl (lv_room (Nat.le_of_ble_eq_true rfl)) dX12_solves_153 (by decide +kernel)) hS (fun q _ h => hFc q h) hFc (fun g153 t9_ H locs ht hvm hw9 hB9 hz1 hk1 hS => ?_)
              have e9F : fT (fT (fT (fT vF 0 g153) 4 f418) 6 f62) 5 (upd f52 (nI R2).toNatClampNeg (nI ((vn + 1) + R2))) = fT (fT (fT (fT (fT vF 0 g125) 4 f418) 6 f62) 5 (upd f52 (nI R2).toNatClampNeg (nI ((vn + 1) + R2)))) 0 g153 := ((fT_sw _ _ _ (Nat.ne_of_beq_eq_false rfl)).trans (congrArg (fun g9 => fT g9 5 (upd f52 (nI R2).toNatClampNeg (nI ((vn + 1) + R2)))) ((fT_sw _ _ _ (Nat.ne_of_beq_eq_false rfl)).trans (congrArg (fun g9 => fT g9 6 f62) ((fT_sw _ _ _ (Nat.ne_of_beq_eq_false rfl)).trans (congrArg (fun g9 => fT g9 4 f418) (fT_sm _ _ _ _))))))).symm
              have hP := wr_PF e9F (fz_P ht hB9.1)
              have hD := wr_DF e9F (hB9.2.weaken (fun _ q _ h => hFc q.1 h))
              clear e9F
              have f153_0 := hw9
              try dsimp only at f153_0
              have hBl9 : BldL (vn + 1) (R2 + 1) (fT (fT m2111 (30 + R2 * ((vn + 1) + 1) + k5) 1) (30 + R2 * ((vn + 1) + 1) + (vn + 1)) ((vF 57 k5).toInt - (vF 56 k5).toInt)) (upd f52 (nI R2).toNatClampNeg (nI (vn + 1 + R2))) := hBl2.more (fun i2 hi2 => by rw [upd_at (by omega), if_neg (by omega)]) (fun p hp => by (rw [fT_ne _ _ (by omega), fT_ne _ _ (by omega), f111_2 _ (by omega)])) (by omega) (by rw [upd_at (by omega), if_pos rfl]) (fun j hj => by rw [fT_ne _ _ (by omega)]; by_cases e9 : j = k5; (rw [e9, fT_eq]; decide); (rw [fT_ne _ _ (by omega), f111_1 j (by omega), if_neg (by omega)]; decide)) (by rw [fT_ne _ _ (by omega), fT_ne _ _ (by omega), f111_1 (vn + 1 - 1) (by omega), if_pos rfl]) (by rw [fT_eq]; omega)
              refine lv_iinc (v := (nI (k5 + 1))) hx hb dX12_solves_156 hl (k := 4) rfl (nI_add k5 1) (by decide) rfl (fun ls (hl : lv_has ls _ ([(3, .int (nI (k5 + 1))), (4, .int (nI R2)), (0, .ref h0), (1, .int rx), (2, .int al)])) => ?_)
              refine lv_goto (tgt := 75) hx hb dX12_solves_159 (by decide) ?_
              have hl : lv_has _ _ ([(0, .ref h0), (1, .int rx), (2, .int al), (3, .int (nI (k5 + 1)))]) := lv_sub hl [2, 3, 4, 0] rfl
              exact ih75_1 (k5 + 1) (R2 + 1) g153 (upd f52 (nI R2).toNatClampNeg (nI ((vn + 1) + R2))) f62 (fT (fT m2111 (30 + R2 * ((vn + 1) + 1) + k5) 1) (30 + R2 * ((vn + 1) + 1) + (vn + 1)) ((vF 57 k5).toInt - (vF 56 k5).toInt)) _ _ _ (f153_0) (by omega) (by omega) (hBl9) (by (rw [fT_ne _ _ (by omega), fT_ne _ _ (by omega), f111_2 _ (by omega)]); exact h202) (fun q hq => by (rw [fT_ne _ _ (by omega), fT_ne _ _ (by omega), f111_2 _ (by omega)]); exact ho2 q hq) (by omega) hP hD hS hl
      · have t_28 : ¬ ((r5 : Nat) : Int) ≥ ((mr : Nat) : Int) := toI_nge c_28 (nI_toInt (by omega)) (nI_toInt (by omega))
        refine lv_iload_n hx hb dX12_solves_31 rfl (lv_at hl 1 rfl) ?_
        refine lv_if_eq (tgt := 45) hx hb dX12_solves_32 (by decide) (fun c_32 => ?_) (fun c_32 => ?_)
        · have t_32 : (rx).toInt = 0 := toI_eq c_32 rfl (by decide)
          refine lv_aload_n hx hb dX12_solves_45 rfl (lv_at hl 0 rfl) ?_
          refine lv_iconst (v := 3) hx hb dX12_solves_46 (by decide) ?_
          refine lv_iload_n hx hb dX12_solves_47 rfl (lv_at hl 3 rfl) ?_
          refine lv_imul hx hb dX12_solves_48 ?_
          refine lv_topi (fun y16 hy16 => ?_)
          obtain rfl : (nI (3 * r5)) = y16 := (hy16.trans (pk_mul 3 r5)).symm
          refine lv_iload_n hx hb dX12_solves_49 rfl (lv_at hl 1 rfl) ?_
          refine lv_if_eq (tgt := 57) hx hb dX12_solves_50 (by decide) (fun c_50 => ?_) (fun c_50 => ?_)
          · have t_50 : (rx).toInt = 0 := toI_eq c_50 rfl (by decide)
            obtain ⟨wk, dk, ek1, ek2, ek3, ek4, ek5⟩ := hch c_50 r5 (by omega)
            refine lv_aload_n hx hb dX12_solves_57 rfl (lv_at hl 0 rfl) ?_
            refine va_get (D := (dC, dI)) (ci := 12) (v := .ref (a 69)) (C := RX12) (T := TX12) (N := 163) (fs := fM (vS a (fT (fT (fT (fT vi 116 fx) 5 (nI (vn + 1))) 6 (nI R)) 7 0) vj)) hx hb hts iwsRX12_solves_in12 hown hK hP 0 rfl rfl 114 (by decide) (hts _ hm_r_X12_solves_3) (fun _ h9 => h9) rfl dX12_solves_58 ?_
            refine lv_iload_n hx hb dX12_solves_61 rfl (lv_at hl 3 rfl) ?_
            refine va_iald (cA := k 69) (n := 13) (f := (vF 69)) hx hb hK hP 70 69 (WR_get 69 (by decide)) (TR_get 69 (by decide)) (vp_in_nI (show r5 < 13 by omega) (by omega)) dX12_solves_62 ?_
            refine lv_topi (fun y17 hy17 => ?_)
            obtain rfl : ((vF 69) r5) = y17 := (hy17.trans (by rw [nI_clamp (by omega)])).symm
            refine lv_topi (fun y18 hy18 => ?_)
            obtain rfl : (nI dk) = y18 := (hy18.trans (ek4)).symm
            refine lv_iadd hx hb dX12_solves_63 ?_
            refine lv_topi (fun y19 hy19 => ?_)
            obtain rfl : (nI ((3 * r5) + dk)) = y19 := (hy19.trans (nI_add (3 * r5) dk)).symm
            have hFc := allFree hD hS hA
            refine va_callv (va_runV (As := [.int (nI ((3 * r5) + dk))]) (rest := []) ⟨hx, hb, hml, hown, hts⟩ (r_X12_waysOf l dC dI a k h0 (fT (fT (fT (fT vi 116 fx) 5 (nI (vn + 1))) 6 (nI R)) 7 0) vj (fT (fT (fT (fT vF 0 g1) 4 f418) 6 f618) 5 f51) vG ((3 * r5) + dk) (vn + 1) R gq m1 hB1 (by first | with_reducible assumption | decide | omega | rfl | assumption) (by first | with_reducible assumption | decide | omega | rfl | assumption) (by first | with_reducible assumption | decide | omega | rfl | assumption) (hvn) (by first | with_reducible assumption | decide | omega | rfl | assumption) (by first | with_reducible assumption | decide | omega | rfl | assumption) (hBl) (by first | with_reducible assumption | decide | omega | rfl | assumption) (by omega) H.size) (cwV 1 hts gwsRX12_solves_14 rfl rfl rfl hd_yX12_waysOf_RX12 (by decide +kernel)) (fz_pre (va_recv hK hP (ci := 12) (q0 := 0) rfl rfl) hP hK hD) rfl rfl hl.1 rfl (lv_room (Nat.le_of_ble_eq_true rfl)) dX12_solves_64 (by decide +kernel)) hS (fun q _ h => hFc q h) hFc (fun u t9_ H locs ht hvm hw9 hB9 hz1 hk1 hS => ?_)
            revert u hw9 hB9
            refine fz_p4 ?_
            intro g64 f564 m264 dr64 hw9 hB9
            try dsimp only at hw9 hB9
            have e9i : fT (fT (fT (fT vi 116 fx) 5 (nI (vn + 1))) 6 (nI (R + dr64))) 7 0 = fT (fT (fT (fT (fT vi 116 fx) 5 (nI (vn + 1))) 6 (nI R)) 7 0) 6 (nI (R + dr64)) := ((fT_sw _ _ _ (Nat.ne_of_beq_eq_false rfl)).trans (congrArg (fun g9 => fT g9 7 0) (fT_sm _ _ _ _))).symm
            have e9F : fT (fT (fT (fT vF 0 g64) 4 f418) 6 f618) 5 f564 = fT (fT (fT (fT (fT (fT vF 0 g1) 4 f418) 6 f618) 5 f51) 0 g64) 5 f564 := ((congrArg (fun g9 => fT g9 5 f564) ((fT_sw _ _ _ (Nat.ne_of_beq_eq_false rfl)).trans (congrArg (fun g9 => fT g9 5 f51) ((fT_sw _ _ _ (Nat.ne_of_beq_eq_false rfl)).trans (congrArg (fun g9 => fT g9 6 f618) ((fT_sw _ _ _ (Nat.ne_of_beq_eq_false rfl)).trans (congrArg (fun g9 => fT g9 4 f418) (fT_sm _ _ _ _)))))))).trans (fT_sm _ _ _ _)).symm
            have hP := wr_PF e9F (wr_Pi e9i (fz_P ht hB9.1))
            have hD := wr_DF e9F (wr_Di e9i (hB9.2.weaken (fun _ q _ h => hFc q.1 h)))
            clear e9i e9F
            revert hw9
            refine fz_a4 ?_
            intro f64_0 f64_1 f64_2 f64_3
            refine lv_iinc (v := (nI (r5 + 1))) hx hb dX12_solves_67 hl (k := 3) rfl (nI_add r5 1) (by decide) rfl (fun ls (hl : lv_has ls _ ([(3, .int (nI (r5 + 1))), (0, .ref h0), (1, .int rx), (2, .int al)])) => ?_)
            refine lv_goto (tgt := 23) hx hb dX12_solves_70 (by decide) ?_
            have hl : lv_has _ _ ([(0, .ref h0), (1, .int rx), (2, .int al), (3, .int (nI (r5 + 1)))]) := lv_sub hl [1, 2, 3, 0] rfl
            exact ih23 (r5 + 1) (R + dr64) g64 f564 m264 _ _ _ (f64_0) (by omega) (by (have h9 := f64_2); omega) (f64_1) (by (rw [f64_3 _ (by omega)]); exact h20) (fun q hq => by (rw [f64_3 _ (by omega)]); exact ho q hq) (by omega) hP hD hS hl
          · have t_50 : ¬ (rx).toInt = 0 := toI_neq c_50 rfl (by decide)
            refine lv_iconst (v := 0) hx hb dX12_solves_53 (by decide) ?_
            refine lv_goto (tgt := 63) hx hb dX12_solves_54 (by decide) ?_
            refine lv_iadd hx hb dX12_solves_63 ?_
            refine lv_topi (fun y20 hy20 => ?_)
            obtain rfl : (nI ((3 * r5) + 0)) = y20 := (hy20.trans (nI_add (3 * r5) 0)).symm
            have hFc := allFree hD hS hA
            refine va_callv (va_runV (As := [.int (nI ((3 * r5) + 0))]) (rest := []) ⟨hx, hb, hml, hown, hts⟩ (r_X12_waysOf l dC dI a k h0 (fT (fT (fT (fT vi 116 fx) 5 (nI (vn + 1))) 6 (nI R)) 7 0) vj (fT (fT (fT (fT vF 0 g1) 4 f418) 6 f618) 5 f51) vG ((3 * r5) + 0) (vn + 1) R gq m1 hB1 (by first | with_reducible assumption | decide | omega | rfl | assumption) (by first | with_reducible assumption | decide | omega | rfl | assumption) (by first | with_reducible assumption | decide | omega | rfl | assumption) (hvn) (by first | with_reducible assumption | decide | omega | rfl | assumption) (by first | with_reducible assumption | decide | omega | rfl | assumption) (hBl) (by first | with_reducible assumption | decide | omega | rfl | assumption) (by omega) H.size) (cwV 1 hts gwsRX12_solves_14 rfl rfl rfl hd_yX12_waysOf_RX12 (by decide +kernel)) (fz_pre (va_recv hK hP (ci := 12) (q0 := 0) rfl rfl) hP hK hD) rfl rfl hl.1 rfl (lv_room (Nat.le_of_ble_eq_true rfl)) dX12_solves_64 (by decide +kernel)) hS (fun q _ h => hFc q h) hFc (fun u t9_ H locs ht hvm hw9 hB9 hz1 hk1 hS => ?_)
            revert u hw9 hB9
            refine fz_p4 ?_
            intro g64_1 f564_1 m264_1 dr64_1 hw9 hB9
            try dsimp only at hw9 hB9
            have e9i : fT (fT (fT (fT vi 116 fx) 5 (nI (vn + 1))) 6 (nI (R + dr64_1))) 7 0 = fT (fT (fT (fT (fT vi 116 fx) 5 (nI (vn + 1))) 6 (nI R)) 7 0) 6 (nI (R + dr64_1)) := ((fT_sw _ _ _ (Nat.ne_of_beq_eq_false rfl)).trans (congrArg (fun g9 => fT g9 7 0) (fT_sm _ _ _ _))).symm
            have e9F : fT (fT (fT (fT vF 0 g64_1) 4 f418) 6 f618) 5 f564_1 = fT (fT (fT (fT (fT (fT vF 0 g1) 4 f418) 6 f618) 5 f51) 0 g64_1) 5 f564_1 := ((congrArg (fun g9 => fT g9 5 f564_1) ((fT_sw _ _ _ (Nat.ne_of_beq_eq_false rfl)).trans (congrArg (fun g9 => fT g9 5 f51) ((fT_sw _ _ _ (Nat.ne_of_beq_eq_false rfl)).trans (congrArg (fun g9 => fT g9 6 f618) ((fT_sw _ _ _ (Nat.ne_of_beq_eq_false rfl)).trans (congrArg (fun g9 => fT g9 4 f418) (fT_sm _ _ _ _)))))))).trans (fT_sm _ _ _ _)).symm
            have hP := wr_PF e9F (wr_Pi e9i (fz_P ht hB9.1))
            have hD := wr_DF e9F (wr_Di e9i (hB9.2.weaken (fun _ q _ h => hFc q.1 h)))
            clear e9i e9F
            revert hw9
            refine fz_a4 ?_
            intro f64_1_0 f64_1_1 f64_1_2 f64_1_3
            refine lv_iinc (v := (nI (r5 + 1))) hx hb dX12_solves_67 hl (k := 3) rfl (nI_add r5 1) (by decide) rfl (fun ls (hl : lv_has ls _ ([(3, .int (nI (r5 + 1))), (0, .ref h0), (1, .int rx), (2, .int al)])) => ?_)
            refine lv_goto (tgt := 23) hx hb dX12_solves_70 (by decide) ?_
            have hl : lv_has _ _ ([(0, .ref h0), (1, .int rx), (2, .int al), (3, .int (nI (r5 + 1)))]) := lv_sub hl [1, 2, 3, 0] rfl
            exact ih23 (r5 + 1) (R + dr64_1) g64_1 f564_1 m264_1 _ _ _ (f64_1_0) (by omega) (by (have h9 := f64_1_2); omega) (f64_1_1) (by (rw [f64_1_3 _ (by omega)]); exact h20) (fun q hq => by (rw [f64_1_3 _ (by omega)]); exact ho q hq) (by omega) hP hD hS hl
        · have t_32 : ¬ (rx).toInt = 0 := toI_neq c_32 rfl (by decide)
          refine lv_aload_n hx hb dX12_solves_35 rfl (lv_at hl 0 rfl) ?_
          refine va_get (D := (dC, dI)) (ci := 12) (v := .ref (a 59)) (C := RX12) (T := TX12) (N := 163) (fs := fM (vS a (fT (fT (fT (fT vi 116 fx) 5 (nI (vn + 1))) 6 (nI R)) 7 0) vj)) hx hb hts iwsRX12_solves_in12 hown hK hP 0 rfl rfl 99 (by decide) (hts (.fieldLink RX12 200 "OptimaWorksModel" "wayMany" "[I") (by decide +kernel)) (fun _ h9 => h9) rfl dX12_solves_36 ?_
          refine lv_iload_n hx hb dX12_solves_39 rfl (lv_at hl 3 rfl) ?_
          refine va_iald (cA := k 59) (n := 13) (f := (vF 59)) hx hb hK hP 60 59 (WR_get 59 (by decide)) (TR_get 59 (by decide)) (vp_in_nI (show r5 < 13 by omega) (by omega)) dX12_solves_40 ?_
          refine lv_topi (fun y21 hy21 => ?_)
          obtain rfl : ((vF 59) r5) = y21 := (hy21.trans (by rw [nI_clamp (by omega)])).symm
          refine lv_iconst (v := 1) hx hb dX12_solves_41 (by decide) ?_
          refine lv_icmp_ne (tgt := 67) hx hb dX12_solves_42 (by decide) (fun c_42 => ?_) (fun c_42 => ?_)
          · have t_42 : (((vF 59) r5)).toInt ≠ 1 := toI_ne c_42 rfl (by decide)
            refine lv_iinc (v := (nI (r5 + 1))) hx hb dX12_solves_67 hl (k := 3) rfl (nI_add r5 1) (by decide) rfl (fun ls (hl : lv_has ls _ ([(3, .int (nI (r5 + 1))), (0, .ref h0), (1, .int rx), (2, .int al)])) => ?_)
            refine lv_goto (tgt := 23) hx hb dX12_solves_70 (by decide) ?_
            have hl : lv_has _ _ ([(0, .ref h0), (1, .int rx), (2, .int al), (3, .int (nI (r5 + 1)))]) := lv_sub hl [1, 2, 3, 0] rfl
            exact ih23 (r5 + 1) R g1 f51 m1 _ _ _ (hB1) (by omega) (by omega) (hBl) (h20) (ho) (by omega) hP hD hS hl
          · have t_42 : (((vF 59) r5)).toInt = 1 := toI_nne c_42 rfl (by decide)
            refine lv_aload_n hx hb dX12_solves_45 rfl (lv_at hl 0 rfl) ?_
            refine lv_iconst (v := 3) hx hb dX12_solves_46 (by decide) ?_
            refine lv_iload_n hx hb dX12_solves_47 rfl (lv_at hl 3 rfl) ?_
            refine lv_imul hx hb dX12_solves_48 ?_
            refine lv_topi (fun y22 hy22 => ?_)
            obtain rfl : (nI (3 * r5)) = y22 := (hy22.trans (pk_mul 3 r5)).symm
            refine lv_iload_n hx hb dX12_solves_49 rfl (lv_at hl 1 rfl) ?_
            refine lv_if_eq (tgt := 57) hx hb dX12_solves_50 (by decide) (fun c_50 => ?_) (fun c_50 => ?_)
            · have t_50 : (rx).toInt = 0 := toI_eq c_50 rfl (by decide)
              obtain ⟨wk, dk, ek1, ek2, ek3, ek4, ek5⟩ := hch c_50 r5 (by omega)
              refine lv_aload_n hx hb dX12_solves_57 rfl (lv_at hl 0 rfl) ?_
              refine va_get (D := (dC, dI)) (ci := 12) (v := .ref (a 69)) (C := RX12) (T := TX12) (N := 163) (fs := fM (vS a (fT (fT (fT (fT vi 116 fx) 5 (nI (vn + 1))) 6 (nI R)) 7 0) vj)) hx hb hts iwsRX12_solves_in12 hown hK hP 0 rfl rfl 114 (by decide) (hts _ hm_r_X12_solves_3) (fun _ h9 => h9) rfl dX12_solves_58 ?_
              refine lv_iload_n hx hb dX12_solves_61 rfl (lv_at hl 3 rfl) ?_
              refine va_iald (cA := k 69) (n := 13) (f := (vF 69)) hx hb hK hP 70 69 (WR_get 69 (by decide)) (TR_get 69 (by decide)) (vp_in_nI (show r5 < 13 by omega) (by omega)) dX12_solves_62 ?_
              refine lv_topi (fun y23 hy23 => ?_)
              obtain rfl : ((vF 69) r5) = y23 := (hy23.trans (by rw [nI_clamp (by omega)])).symm
              refine lv_topi (fun y24 hy24 => ?_)
              obtain rfl : (nI dk) = y24 := (hy24.trans (ek4)).symm
              refine lv_iadd hx hb dX12_solves_63 ?_
              refine lv_topi (fun y25 hy25 => ?_)
              obtain rfl : (nI ((3 * r5) + dk)) = y25 := (hy25.trans (nI_add (3 * r5) dk)).symm
              have hFc := allFree hD hS hA
              refine va_callv (va_runV (As := [.int (nI ((3 * r5) + dk))]) (rest := []) ⟨hx, hb, hml, hown, hts⟩ (r_X12_waysOf l dC dI a k h0 (fT (fT (fT (fT vi 116 fx) 5 (nI (vn + 1))) 6 (nI R)) 7 0) vj (fT (fT (fT (fT vF 0 g1) 4 f418) 6 f618) 5 f51) vG ((3 * r5) + dk) (vn + 1) R gq m1 hB1 (by first | with_reducible assumption | decide | omega | rfl | assumption) (by first | with_reducible assumption | decide | omega | rfl | assumption) (by first | with_reducible assumption | decide | omega | rfl | assumption) (hvn) (by first | with_reducible assumption | decide | omega | rfl | assumption) (by first | with_reducible assumption | decide | omega | rfl | assumption) (hBl) (by first | with_reducible assumption | decide | omega | rfl | assumption) (by omega) H.size) (cwV 1 hts gwsRX12_solves_14 rfl rfl rfl hd_yX12_waysOf_RX12 (by decide +kernel)) (fz_pre (va_recv hK hP (ci := 12) (q0 := 0) rfl rfl) hP hK hD) rfl rfl hl.1 rfl (lv_room (Nat.le_of_ble_eq_true rfl)) dX12_solves_64 (by decide +kernel)) hS (fun q _ h => hFc q h) hFc (fun u t9_ H locs ht hvm hw9 hB9 hz1 hk1 hS => ?_)
              revert u hw9 hB9
              refine fz_p4 ?_
              intro g64_2 f564_2 m264_2 dr64_2 hw9 hB9
              try dsimp only at hw9 hB9
              have e9i : fT (fT (fT (fT vi 116 fx) 5 (nI (vn + 1))) 6 (nI (R + dr64_2))) 7 0 = fT (fT (fT (fT (fT vi 116 fx) 5 (nI (vn + 1))) 6 (nI R)) 7 0) 6 (nI (R + dr64_2)) := ((fT_sw _ _ _ (Nat.ne_of_beq_eq_false rfl)).trans (congrArg (fun g9 => fT g9 7 0) (fT_sm _ _ _ _))).symm
              have e9F : fT (fT (fT (fT vF 0 g64_2) 4 f418) 6 f618) 5 f564_2 = fT (fT (fT (fT (fT (fT vF 0 g1) 4 f418) 6 f618) 5 f51) 0 g64_2) 5 f564_2 := ((congrArg (fun g9 => fT g9 5 f564_2) ((fT_sw _ _ _ (Nat.ne_of_beq_eq_false rfl)).trans (congrArg (fun g9 => fT g9 5 f51) ((fT_sw _ _ _ (Nat.ne_of_beq_eq_false rfl)).trans (congrArg (fun g9 => fT g9 6 f618) ((fT_sw _ _ _ (Nat.ne_of_beq_eq_false rfl)).trans (congrArg (fun g9 => fT g9 4 f418) (fT_sm _ _ _ _)))))))).trans (fT_sm _ _ _ _)).symm
              have hP := wr_PF e9F (wr_Pi e9i (fz_P ht hB9.1))
              have hD := wr_DF e9F (wr_Di e9i (hB9.2.weaken (fun _ q _ h => hFc q.1 h)))
              clear e9i e9F
              revert hw9
              refine fz_a4 ?_
              intro f64_2_0 f64_2_1 f64_2_2 f64_2_3
              refine lv_iinc (v := (nI (r5 + 1))) hx hb dX12_solves_67 hl (k := 3) rfl (nI_add r5 1) (by decide) rfl (fun ls (hl : lv_has ls _ ([(3, .int (nI (r5 + 1))), (0, .ref h0), (1, .int rx), (2, .int al)])) => ?_)
              refine lv_goto (tgt := 23) hx hb dX12_solves_70 (by decide) ?_
              have hl : lv_has _ _ ([(0, .ref h0), (1, .int rx), (2, .int al), (3, .int (nI (r5 + 1)))]) := lv_sub hl [1, 2, 3, 0] rfl
              exact ih23 (r5 + 1) (R + dr64_2) g64_2 f564_2 m264_2 _ _ _ (f64_2_0) (by omega) (by (have h9 := f64_2_2); omega) (f64_2_1) (by (rw [f64_2_3 _ (by omega)]); exact h20) (fun q hq => by (rw [f64_2_3 _ (by omega)]); exact ho q hq) (by omega) hP hD hS hl
            · have t_50 : ¬ (rx).toInt = 0 := toI_neq c_50 rfl (by decide)
              refine lv_iconst (v := 0) hx hb dX12_solves_53 (by decide) ?_
              refine lv_goto (tgt := 63) hx hb dX12_solves_54 (by decide) ?_
              refine lv_iadd hx hb dX12_solves_63 ?_
              refine lv_topi (fun y26 hy26 => ?_)
              obtain rfl : (nI ((3 * r5) + 0)) = y26 := (hy26.trans (nI_add (3 * r5) 0)).symm
              have hFc := allFree hD hS hA
              refine va_callv (va_runV (As := [.int (nI ((3 * r5) + 0))]) (rest := []) ⟨hx, hb, hml, hown, hts⟩ (r_X12_waysOf l dC dI a k h0 (fT (fT (fT (fT vi 116 fx) 5 (nI (vn + 1))) 6 (nI R)) 7 0) vj (fT (fT (fT (fT vF 0 g1) 4 f418) 6 f618) 5 f51) vG ((3 * r5) + 0) (vn + 1) R gq m1 hB1 (by first | with_reducible assumption | decide | omega | rfl | assumption) (by first | with_reducible assumption | decide | omega | rfl | assumption) (by first | with_reducible assumption | decide | omega | rfl | assumption) (hvn) (by first | with_reducible assumption | decide | omega | rfl | assumption) (by first | with_reducible assumption | decide | omega | rfl | assumption) (hBl) (by first | with_reducible assumption | decide | omega | rfl | assumption) (by omega) H.size) (cwV 1 hts gwsRX12_solves_14 rfl rfl rfl hd_yX12_waysOf_RX12 (by decide +kernel)) (fz_pre (va_recv hK hP (ci := 12) (q0 := 0) rfl rfl) hP hK hD) rfl rfl hl.1 rfl (lv_room (Nat.le_of_ble_eq_true rfl)) dX12_solves_64 (by decide +kernel)) hS (fun q _ h => hFc q h) hFc (fun u t9_ H locs ht hvm hw9 hB9 hz1 hk1 hS => ?_)
              revert u hw9 hB9
              refine fz_p4 ?_
              intro g64_3 f564_3 m264_3 dr64_3 hw9 hB9
              try dsimp only at hw9 hB9
              have e9i : fT (fT (fT (fT vi 116 fx) 5 (nI (vn + 1))) 6 (nI (R + dr64_3))) 7 0 = fT (fT (fT (fT (fT vi 116 fx) 5 (nI (vn + 1))) 6 (nI R)) 7 0) 6 (nI (R + dr64_3)) := ((fT_sw _ _ _ (Nat.ne_of_beq_eq_false rfl)).trans (congrArg (fun g9 => fT g9 7 0) (fT_sm _ _ _ _))).symm
              have e9F : fT (fT (fT (fT vF 0 g64_3) 4 f418) 6 f618) 5 f564_3 = fT (fT (fT (fT (fT (fT vF 0 g1) 4 f418) 6 f618) 5 f51) 0 g64_3) 5 f564_3 := ((congrArg (fun g9 => fT g9 5 f564_3) ((fT_sw _ _ _ (Nat.ne_of_beq_eq_false rfl)).trans (congrArg (fun g9 => fT g9 5 f51) ((fT_sw _ _ _ (Nat.ne_of_beq_eq_false rfl)).trans (congrArg (fun g9 => fT g9 6 f618) ((fT_sw _ _ _ (Nat.ne_of_beq_eq_false rfl)).trans (congrArg (fun g9 => fT g9 4 f418) (fT_sm _ _ _ _)))))))).trans (fT_sm _ _ _ _)).symm
              have hP := wr_PF e9F (wr_Pi e9i (fz_P ht hB9.1))
              have hD := wr_DF e9F (wr_Di e9i (hB9.2.weaken (fun _ q _ h => hFc q.1 h)))
              clear e9i e9F
              revert hw9
              refine fz_a4 ?_
              intro f64_3_0 f64_3_1 f64_3_2 f64_3_3
              refine lv_iinc (v := (nI (r5 + 1))) hx hb dX12_solves_67 hl (k := 3) rfl (nI_add r5 1) (by decide) rfl (fun ls (hl : lv_has ls _ ([(3, .int (nI (r5 + 1))), (0, .ref h0), (1, .int rx), (2, .int al)])) => ?_)
              refine lv_goto (tgt := 23) hx hb dX12_solves_70 (by decide) ?_
              have hl : lv_has _ _ ([(0, .ref h0), (1, .int rx), (2, .int al), (3, .int (nI (r5 + 1)))]) := lv_sub hl [1, 2, 3, 0] rfl
              exact ih23 (r5 + 1) (R + dr64_3) g64_3 f564_3 m264_3 _ _ _ (f64_3_0) (by omega) (by (have h9 := f64_3_2); omega) (f64_3_1) (by (rw [f64_3_3 _ (by omega)]); exact h20) (fun q hq => by (rw [f64_3_3 _ (by omega)]); exact ho q hq) (by omega) hP hD hS hl
end
section
theorem hd_yX12_differ_RX12 : yX12_differ.cls = RX12 ∧ yX12_differ.cls ≠ "java/lang/invoke/MethodHandle" ∧ yX12_differ.cls ≠ "java/lang/invoke/VarHandle" ∧ (parseMethodDescriptor yX12_differ.desc).map (fun d => d.parameters.length) = some 0 := by decide +kernel
theorem hd_yX12_firstWays_RX12 : yX12_firstWays.cls = RX12 ∧ yX12_firstWays.cls ≠ "java/lang/invoke/MethodHandle" ∧ yX12_firstWays.cls ≠ "java/lang/invoke/VarHandle" ∧ (parseMethodDescriptor yX12_firstWays.desc).map (fun d => d.parameters.length) = some 0 := by decide +kernel
theorem hd_yX12_solves_RX12 : yX12_solves.cls = RX12 ∧ yX12_solves.cls ≠ "java/lang/invoke/MethodHandle" ∧ yX12_solves.cls ≠ "java/lang/invoke/VarHandle" ∧ (parseMethodDescriptor yX12_solves.desc).map (fun d => d.parameters.length) = some 2 := by decide +kernel
theorem hd_yX12_nextWays_RX12 : yX12_nextWays.cls = RX12 ∧ yX12_nextWays.cls ≠ "java/lang/invoke/MethodHandle" ∧ yX12_nextWays.cls ≠ "java/lang/invoke/VarHandle" ∧ (parseMethodDescriptor yX12_nextWays.desc).map (fun d => d.parameters.length) = some 0 := by decide +kernel
theorem hd_yX12_firstValues_RX12 : yX12_firstValues.cls = RX12 ∧ yX12_firstValues.cls ≠ "java/lang/invoke/MethodHandle" ∧ yX12_firstValues.cls ≠ "java/lang/invoke/VarHandle" ∧ (parseMethodDescriptor yX12_firstValues.desc).map (fun d => d.parameters.length) = some 0 := by decide +kernel
theorem hd_yX12_counts_RX12 : yX12_counts.cls = RX12 ∧ yX12_counts.cls ≠ "java/lang/invoke/MethodHandle" ∧ yX12_counts.cls ≠ "java/lang/invoke/VarHandle" ∧ (parseMethodDescriptor yX12_counts.desc).map (fun d => d.parameters.length) = some 0 := by decide +kernel
theorem hd_yX12_nextValues_RX12 : yX12_nextValues.cls = RX12 ∧ yX12_nextValues.cls ≠ "java/lang/invoke/MethodHandle" ∧ yX12_nextValues.cls ≠ "java/lang/invoke/VarHandle" ∧ (parseMethodDescriptor yX12_nextValues.desc).map (fun d => d.parameters.length) = some 0 := by decide +kernel
theorem hd_yX12_isBetter_RX12 : yX12_isBetter.cls = RX12 ∧ yX12_isBetter.cls ≠ "java/lang/invoke/MethodHandle" ∧ yX12_isBetter.cls ≠ "java/lang/invoke/VarHandle" ∧ (parseMethodDescriptor yX12_isBetter.desc).map (fun d => d.parameters.length) = some 0 := by decide +kernel
theorem hd_yX12_take_RX12 : yX12_take.cls = RX12 ∧ yX12_take.cls ≠ "java/lang/invoke/MethodHandle" ∧ yX12_take.cls ≠ "java/lang/invoke/VarHandle" ∧ (parseMethodDescriptor yX12_take.desc).map (fun d => d.parameters.length) = some 0 := by decide +kernel
theorem dX12_counts_0 : decode cX12_counts 0 = .ok (.aload_n 0, 1) := dk_42 (by decide +kernel)
theorem dX12_counts_1 : decode cX12_counts 1 = .ok (.invokevirtual 879, 3) := dk_182 (by decide +kernel)
theorem dX12_counts_4 : decode cX12_counts 4 = .ok (.ifCond .ne 5, 3) := dk_154 (by decide +kernel)
theorem dX12_counts_7 : decode cX12_counts 7 = .ok (.iconst 0, 1) := dk_3 (by decide +kernel)
theorem dX12_counts_8 : decode cX12_counts 8 = .ok (.ireturn, 1) := dk_172 (by decide +kernel)
theorem dX12_counts_9 : decode cX12_counts 9 = .ok (.aload_n 0, 1) := dk_42 (by decide +kernel)
theorem dX12_counts_10 : decode cX12_counts 10 = .ok (.invokevirtual 876, 3) := dk_182 (by decide +kernel)
theorem dX12_counts_13 : decode cX12_counts 13 = .ok (.iconst 1, 1) := dk_4 (by decide +kernel)
theorem dX12_counts_14 : decode cX12_counts 14 = .ok (.istore_n 1, 1) := dk_60 (by decide +kernel)
theorem dX12_counts_15 : decode cX12_counts 15 = .ok (.iload_n 1, 1) := dk_27 (by decide +kernel)
theorem dX12_counts_16 : decode cX12_counts 16 = .ok (.ifCond .eq 22, 3) := dk_153 (by decide +kernel)
theorem dX12_counts_19 : decode cX12_counts 19 = .ok (.aload_n 0, 1) := dk_42 (by decide +kernel)
theorem dX12_counts_20 : decode cX12_counts 20 = .ok (.iconst 0, 1) := dk_3 (by decide +kernel)
theorem dX12_counts_21 : decode cX12_counts 21 = .ok (.iconst 0, 1) := dk_3 (by decide +kernel)
theorem dX12_counts_22 : decode cX12_counts 22 = .ok (.invokevirtual 866, 3) := dk_182 (by decide +kernel)
theorem dX12_counts_25 : decode cX12_counts 25 = .ok (.ifCond .eq 5, 3) := dk_153 (by decide +kernel)
theorem dX12_counts_28 : decode cX12_counts 28 = .ok (.iconst 1, 1) := dk_4 (by decide +kernel)
theorem dX12_counts_29 : decode cX12_counts 29 = .ok (.ireturn, 1) := dk_172 (by decide +kernel)
theorem dX12_counts_30 : decode cX12_counts 30 = .ok (.aload_n 0, 1) := dk_42 (by decide +kernel)
theorem dX12_counts_31 : decode cX12_counts 31 = .ok (.invokevirtual 885, 3) := dk_182 (by decide +kernel)
theorem dX12_counts_34 : decode cX12_counts 34 = .ok (.istore_n 1, 1) := dk_60 (by decide +kernel)
theorem dX12_counts_35 : decode cX12_counts 35 = .ok (.goto (-20), 3) := dk_167 (by decide +kernel)
theorem dX12_counts_38 : decode cX12_counts 38 = .ok (.iconst 0, 1) := dk_3 (by decide +kernel)
theorem dX12_counts_39 : decode cX12_counts 39 = .ok (.ireturn, 1) := dk_172 (by decide +kernel)
def wsRX12_counts : List Cond := .code yX12_counts cX12_counts 2 (some .boolean) :: ([] ++ wsX120 ++ (wsV RX12 879 RX12 yX12_differ wsRX12_differ) ++ (wsV RX12 876 RX12 yX12_firstWays wsRX12_firstWays) ++ (wsV RX12 866 RX12 yX12_solves wsRX12_solves) ++ (wsV RX12 885 RX12 yX12_nextWays wsRX12_nextWays))
theorem iwsRX12_counts_in12 : ∀ w ∈ wsX120, w ∈ wsRX12_counts := fun _ h => List.mem_cons_of_mem _ (List.mem_append_left _ (List.mem_append_left _ (List.mem_append_left _ (List.mem_append_left _ (List.mem_append_right _ h)))))
theorem gwsRX12_counts_0 : GoodIn wsRX12_counts (wsV RX12 879 RX12 yX12_differ wsRX12_differ) := goodIn_sub (fun _ h => List.mem_cons_of_mem _ (List.mem_append_left _ (List.mem_append_left _ (List.mem_append_left _ (List.mem_append_right _ h))))) (gdV (by decide +kernel) gdwsRX12_differ)
theorem gwsRX12_counts_1 : GoodIn wsRX12_counts (wsV RX12 876 RX12 yX12_firstWays wsRX12_firstWays) := goodIn_sub (fun _ h => List.mem_cons_of_mem _ (List.mem_append_left _ (List.mem_append_left _ (List.mem_append_right _ h)))) (gdV (by decide +kernel) gdwsRX12_firstWays)
theorem gwsRX12_counts_2 : GoodIn wsRX12_counts (wsV RX12 866 RX12 yX12_solves wsRX12_solves) := goodIn_sub (fun _ h => List.mem_cons_of_mem _ (List.mem_append_left _ (List.mem_append_right _ h))) (gdV (by decide +kernel) gdwsRX12_solves)
theorem gwsRX12_counts_3 : GoodIn wsRX12_counts (wsV RX12 885 RX12 yX12_nextWays wsRX12_nextWays) := goodIn_sub (fun _ h => List.mem_cons_of_mem _ (List.mem_append_right _ h)) (gdV (by decide +kernel) gdwsRX12_nextWays)
theorem gdwsRX12_counts : wsRX12_counts.all goodWord = true := gdC rfl (gdA (gdA (gdA (gdA (gdA (by decide +kernel : ([] : List Cond).all goodWord = true) gdwsX120) (gdV (by decide +kernel) gdwsRX12_differ)) (gdV (by decide +kernel) gdwsRX12_firstWays)) (gdV (by decide +kernel) gdwsRX12_solves)) (gdV (by decide +kernel) gdwsRX12_nextWays))
set_option maxHeartbeats 4000000 in
set_option maxRecDepth 100000 in
/-- counts() -/
theorem r_X12_counts (l : Launch) (dC : Nat → ClassId) (dI : Nat → Nat → Nat) (a : Nat → Nat) (k : Nat → ClassId) (h0 : Nat) (vi : Nat → Int32) (vj : Nat → Int64) (vF : Nat → Nat → Int32) (vG : Nat → Nat → Int64) (vn : Nat) (mr : Nat) (gq : Nat) (dn : Nat) (mg : Nat → Int) (hBg : Bg (vF 0) mg) (hvn : vi 90 = nI vn) (hvn8 : vn ≤ 8) (hmr : vi 91 = nI mr) (hmr12 : mr ≤ 12) (hmg : vi 93 = nI gq) (hgq : gq ≤ 3) (hdn : vi 92 = nI dn) (hdn8 : dn ≤ 8) (hM : MdlB vF gq) (hlh : ∀ k, k < vn → (vF 56 k).toInt ≤ (vF 57 k).toInt) (hwm : WmO (vF 59) mr) (hAn : AnsB mg 1020) (sz : Nat) : Met l yX12_counts wsRX12_counts ({ frames := 7, cells := 0, slots := 0, locals := 182 }) (va_Pc [.ref h0] (fun U => U.heap.size = sz ∧ va_P (dC, dI) vwCl (WR a k h0 vi vj vF vG) U.heap ∧ va_K (dC, dI) vwCl (tX12 k) U ∧ va_D (fun _ => True) (WR a k h0 vi vj vF vG))) (va_Qi (fun (r : Int32) (u : (Nat → Int32) × (Nat → Int32) × (Nat → Int32) × (Nat → Int32) × (Nat → Int32) × (Nat → Int32) × (Nat → Int64) × (Nat → Int64) × (Nat → Int64) × (Int64) × (Int32) × (Int32) × (Int32) × (Int32) × (Int32) × (Nat → Int32) × (Nat → Int)) => (Bg (u.1) (u.2.2.2.2.2.2.2.2.2.2.2.2.2.2.2.2)) ∧ (AnsB (u.2.2.2.2.2.2.2.2.2.2.2.2.2.2.2.2) 1020) ∧ (∀ q, ((1000 ≤ q ∧ q < 1020) ∨ 1036 ≤ q) → (u.2.2.2.2.2.2.2.2.2.2.2.2.2.2.2.2) q = mg q) ∧ ((r) = 0 ∨ (r) = 1)) (fun (u : (Nat → Int32) × (Nat → Int32) × (Nat → Int32) × (Nat → Int32) × (Nat → Int32) × (Nat → Int32) × (Nat → Int64) × (Nat → Int64) × (Nat → Int64) × (Int64) × (Int32) × (Int32) × (Int32) × (Int32) × (Int32) × (Nat → Int32) × (Nat → Int)) t => va_P (dC, dI) vwCl (WR a k h0 (fT (fT (fT (fT (fT vi 11 (u.2.2.2.2.2.2.2.2.2.2.1)) 116 (u.2.2.2.2.2.2.2.2.2.2.2.1)) 5 (u.2.2.2.2.2.2.2.2.2.2.2.2.1)) 6 (u.2.2.2.2.2.2.2.2.2.2.2.2.2.1)) 7 (u.2.2.2.2.2.2.2.2.2.2.2.2.2.2.1)) (fT vj 12 (u.2.2.2.2.2.2.2.2.2.1)) (fT (fT (fT (fT (fT (fT (fT vF 69 (u.2.2.2.2.2.2.2.2.2.2.2.2.2.2.2.1)) 0 (u.1)) 2 (u.2.1)) 3 (u.2.2.1)) 4 (u.2.2.2.1)) 5 (u.2.2.2.2.1)) 6 (u.2.2.2.2.2.1)) (fT (fT (fT vG 1 (u.2.2.2.2.2.2.1)) 7 (u.2.2.2.2.2.2.2.1)) 8 (u.2.2.2.2.2.2.2.2.1))) t.heap ∧ va_D (va_A (WR a k h0 vi vj vF vG) sz) (WR a k h0 (fT (fT (fT (fT (fT vi 11 (u.2.2.2.2.2.2.2.2.2.2.1)) 116 (u.2.2.2.2.2.2.2.2.2.2.2.1)) 5 (u.2.2.2.2.2.2.2.2.2.2.2.2.1)) 6 (u.2.2.2.2.2.2.2.2.2.2.2.2.2.1)) 7 (u.2.2.2.2.2.2.2.2.2.2.2.2.2.2.1)) (fT vj 12 (u.2.2.2.2.2.2.2.2.2.1)) (fT (fT (fT (fT (fT (fT (fT vF 69 (u.2.2.2.2.2.2.2.2.2.2.2.2.2.2.2.1)) 0 (u.1)) 2 (u.2.1)) 3 (u.2.2.1)) 4 (u.2.2.2.1)) 5 (u.2.2.2.2.1)) 6 (u.2.2.2.2.2.1)) (fT (fT (fT vG 1 (u.2.2.2.2.2.2.1)) 7 (u.2.2.2.2.2.2.2.1)) 8 (u.2.2.2.2.2.2.2.2.1)))) (va_A (WR a k h0 vi vj vF vG) sz)) 0 0 (va_A (WR a k h0 vi vj vF vG) sz) := by
  refine Met.ofW (cc := cX12_counts) (maxL := 2) (ret := (some .boolean)) (by decide) rfl ?_
  intro p e s m args below meth c s₁ B hml hv
  obtain ⟨rfl, hsz, hP, hK, hD0⟩ := hv
  have hx := B.exec
  have hb := B.bytes
  have hr := B.returns
  have hts := atoms_spec (ws := wsRX12_counts) B.pre
  have hown : s.vm.findClass RX12 = some m.cls := findClass_of_methodNamed B.named
  have hlocks := B.notSynchronized
  subst hsz
  have hD := hD0.self (sz := s.heap.size)
  generalize hAe : va_A (WR a k h0 vi vj vF vG) s.heap.size = A at hD ⊢
  have hA : ∀ q : Nat, s.heap.size ≤ q → A q := fun q h => by rw [← hAe]; exact Or.inr h
  have hS : va_S A s.heap s.heap [] := va_S.rf
  have hl := lv_entry ([.ref h0]) (n := 2) (Nat.le_of_ble_eq_true rfl)
  rw [lg_entry_eq]
  generalize (lg_sl ([.ref h0]) ++ List.replicate (2 - (lg_sl ([.ref h0])).length) Slot.unset).toArray = ls at hl ⊢
  have hl : lv_has ls 2 [(0, .ref h0)] := hl
  refine lv_aload_n hx hb dX12_counts_0 rfl (lv_at hl 0 rfl) ?_
  have hFc := allFree hD hS hA
  refine va_calli (va_runV (As := []) (rest := []) ⟨hx, hb, hml, hown, hts⟩ (r_X12_differ l dC dI a k h0 vi vj vF vG vn dn (by first | with_reducible assumption | decide | omega | rfl | assumption) (by first | with_reducible assumption | decide | omega | rfl | assumption) (by first | with_reducible assumption | decide | omega | rfl | assumption) (by first | with_reducible assumption | decide | omega | rfl | assumption) s.heap.size) (cwV 0 hts gwsRX12_counts_0 rfl rfl rfl hd_yX12_differ_RX12 (by decide +kernel)) (fz_pre (va_recv hK hP (ci := 12) (q0 := 0) rfl rfl) hP hK hD) rfl rfl hl.1 rfl (lv_room (Nat.le_of_ble_eq_true rfl)) dX12_counts_1 (by decide +kernel)) hS (fun q _ h => hFc q h) hFc (fun r1 u t9_ H locs ht hvm hw9 hB9 hz1 hk1 hS => ?_)
  have hP : va_P (dC, dI) vwCl (WR a k h0 vi vj vF vG) H := fz_P ht hB9.1
  have hD := fz_sd hP (hB9.2.weaken (fun _ q _ h => hFc q.1 h)) rfl
  have f1_0 := hw9
  try dsimp only at f1_0
  refine lv_if_ne (tgt := 9) hx hb dX12_counts_4 (by decide) (fun c_4 => ?_) (fun c_4 => ?_)
  · have t_4 : (r1).toInt ≠ 0 := toI_ne c_4 rfl (by decide)
    refine lv_aload_n hx hb dX12_counts_9 rfl (lv_at hl 0 rfl) ?_
    have hFc := allFree hD hS hA
    refine va_callv (va_runV (As := []) (rest := []) ⟨hx, hb, hml, hown, hts⟩ (r_X12_firstWays l dC dI a k h0 vi vj vF vG mr (by first | with_reducible assumption | decide | omega | rfl | assumption) (by first | with_reducible assumption | decide | omega | rfl | assumption) H.size) (cwV 0 hts gwsRX12_counts_1 rfl rfl rfl hd_yX12_firstWays_RX12 (by decide +kernel)) (fz_pre (va_recv hK hP (ci := 12) (q0 := 0) rfl rfl) hP hK hD) rfl rfl hl.1 rfl (lv_room (Nat.le_of_ble_eq_true rfl)) dX12_counts_10 (by decide +kernel)) hS (fun q _ h => hFc q h) hFc (fun f6910 t9_ H locs ht hvm hw9 hB9 hz1 hk1 hS => ?_)
    have hP : va_P (dC, dI) vwCl (WR a k h0 vi vj (fT vF 69 f6910) vG) H := fz_P ht hB9.1
    have hD := fz_sd hP (hB9.2.weaken (fun _ q _ h => hFc q.1 h)) rfl
    have f10_0 := hw9
    try dsimp only at f10_0
    refine lv_iconst (v := 1) hx hb dX12_counts_13 (by decide) ?_
    refine lv_istore_n hx hb dX12_counts_14 rfl hl (by decide) rfl (fun ls (hl : lv_has ls _ ([(1, .int 1), (0, .ref h0)])) => ?_)
    have e9 : fT (fT (fT (fT (fT vi 11 (vi 11)) 116 (vi 116)) 5 (vi 5)) 6 (vi 6)) 7 (vi 7) = vi := Eq.trans (mv_4 rfl) (Eq.trans (id_4 rfl) (Eq.trans (mv_3 rfl) (Eq.trans (id_3 rfl) (Eq.trans (mv_2 rfl) (Eq.trans (id_2 rfl) (Eq.trans (mv_1 rfl) (Eq.trans (id_1 rfl) (id_0 rfl))))))))
    have hP := wr_Pi e9 hP
    have hD := wr_Di e9 hD
    clear e9
    have e9 : fT vj 12 (vj 12) = vj := by funext q9; by_cases h9_12 : q9 = 12; (subst h9_12; exact (fT_eq _ _ _).trans (Eq.trans (by first | with_reducible rfl | with_reducible assumption | (symm; with_reducible assumption) | rfl | assumption | (symm; assumption) | (subst_vars; rfl)) (Eq.refl _).symm)); exact (fT_ne _ _ h9_12).trans (Eq.refl _).symm
    have hP := wr_Pj e9 hP
    have hD := wr_Dj e9 hD
    clear e9
    have e9 : fT (fT (fT (fT (fT (fT (fT vF 69 f6910) 0 (vF 0)) 2 (vF 2)) 3 (vF 3)) 4 (vF 4)) 5 (vF 5)) 6 (vF 6) = fT vF 69 f6910 := Eq.trans (mv_5 rfl) (Eq.trans (id_6 rfl) (Eq.trans (mv_4 rfl) (Eq.trans (id_5 rfl) (Eq.trans (mv_3 rfl) (Eq.trans (id_4 rfl) (Eq.trans (mv_2 rfl) (Eq.trans (id_3 rfl) (Eq.trans (mv_1 rfl) (Eq.trans (id_2 rfl) (id_1 rfl))))))))))
    have hP := wr_PF e9 hP
    have hD := wr_DF e9 hD
    clear e9
    have e9 : fT (fT (fT vG 1 (vG 1)) 7 (vG 7)) 8 (vG 8) = vG := Eq.trans (mv_2 rfl) (Eq.trans (id_2 rfl) (Eq.trans (mv_1 rfl) (Eq.trans (id_1 rfl) (id_0 rfl))))
    have hP := wr_PG e9 hP
    have hD := wr_DG e9 hD
    clear e9
    have hl : lv_has _ _ ([(0, .ref h0), (1, .int 1)]) := lv_sub hl [1, 0] rfl
    refine (fun (loop : ∀ (n9 : Nat) (mo : Int32) (f69x : Nat → Int32) (gx : Nat → Int32) (f2wx : Nat → Int32) (f3wx : Nat → Int32) (f4x : Nat → Int32) (f5x : Nat → Int32) (f6x : Nat → Int32) (gsx : Nat → Int64) (Fx : Nat → Int64) (L8x : Nat → Int64) (qdx : Int64) (qkx : Int32) (fxx : Int32) (cn2x : Int32) (rn2x : Int32) (gn2x : Int32) (m1 : Nat → Int) (H : Heap) (locs : List Loc) (ls : Array Slot), (Bg gx m1) → (ChO (vF 59) f69x mr) → (AnsB m1 1020) → (∀ q, ((1000 ≤ q ∧ q < 1020) ∨ 1036 ≤ q) → m1 q = mg q) →  ((mo = 0 ∧ 0 < n9) ∨ odoP (cD (vF 59)) mr < odo (cD f69x) (cD (vF 59)) mr + n9) → va_P (dC, dI) vwCl (WR a k h0 (fT (fT (fT (fT (fT vi 11 qkx) 116 fxx) 5 cn2x) 6 rn2x) 7 gn2x) (fT vj 12 qdx) (fT (fT (fT (fT (fT (fT (fT vF 69 f69x) 0 gx) 2 f2wx) 3 f3wx) 4 f4x) 5 f5x) 6 f6x) (fT (fT (fT vG 1 gsx) 7 Fx) 8 L8x)) H → va_D A (WR a k h0 (fT (fT (fT (fT (fT vi 11 qkx) 116 fxx) 5 cn2x) 6 rn2x) 7 gn2x) (fT vj 12 qdx) (fT (fT (fT (fT (fT (fT (fT vF 69 f69x) 0 gx) 2 f2wx) 3 f3wx) 4 f4x) 5 f5x) 6 f6x) (fT (fT (fT vG 1 gsx) 7 Fx) 8 L8x)) → va_S A s.heap H locs → lv_has ls 2 [(0, .ref h0), (1, .int mo)] → W p l e _ s m _ below meth c H locs 0 0 _ (F0 m 15 ls [])) => loop (odoP (cD (vF 59)) mr + 1) 1 f6910 (vF 0) (vF 2) (vF 3) (vF 4) (vF 5) (vF 6) (vG 1) (vG 7) (vG 8) (vj 12) (vi 11) (vi 116) (vi 5) (vi 6) (vi 7) mg _ _ _ (hBg) (ChO.first hwm f10_0) (hAn) (fun q _ => rfl) (Or.inr (by omega)) hP hD hS hl) ?_
    intro n9
    induction n9 with
    | zero => intro mo f69x gx f2wx f3wx f4x f5x f6x gsx Fx L8x qdx qkx fxx cn2x rn2x gn2x m1 H locs ls hB1 hc1 hA1 ho hf9; exact False.elim (by (have h9 := odo_lt (f := cD f69x) (b := cD (vF 59)) mr (fun q hq => hc1.dg hq)); omega)
    | succ n9 ih15 =>
      intro mo f69x gx f2wx f3wx f4x f5x f6x gsx Fx L8x qdx qkx fxx cn2x rn2x gn2x m1 H locs ls hB1 hc1 hA1 ho hf15 hP hD hS hl
      have hfx := hf15
      refine lv_iload_n hx hb dX12_counts_15 rfl (lv_at hl 1 rfl) ?_
      refine lv_if_eq (tgt := 38) hx hb dX12_counts_16 (by decide) (fun c_16 => ?_) (fun c_16 => ?_)
      · have t_16 : (mo).toInt = 0 := toI_eq c_16 rfl (by decide)
        refine lv_iconst (v := 0) hx hb dX12_counts_38 (by decide) ?_
        refine W.widen (k := 0) (n := 0) (by decide +kernel) (by decide +kernel) ?_
        exact W.zret (v := 0) hx hb hr rfl (fun t9_ ht hW => ⟨⟨0, (gx, f2wx, f3wx, f4x, f5x, f6x, gsx, Fx, L8x, qdx, qkx, fxx, cn2x, rn2x, gn2x, f69x, m1), rfl, by (try dsimp only); exact ⟨hB1, hA1, ho, Or.inl rfl⟩, by rw [ht]; exact hP, hD⟩, hS.F ht⟩) hS.2.2 dX12_counts_39
      · have t_16 : ¬ (mo).toInt = 0 := toI_neq c_16 rfl (by decide)
        refine lv_aload_n hx hb dX12_counts_19 rfl (lv_at hl 0 rfl) ?_
        refine lv_iconst (v := 0) hx hb dX12_counts_20 (by decide) ?_
        refine lv_iconst (v := 0) hx hb dX12_counts_21 (by decide) ?_
        have hFc := allFree hD hS hA
        refine va_calli (va_runV (As := [.int 0, .int 0]) (rest := []) ⟨hx, hb, hml, hown, hts⟩ (r_X12_solves l dC dI a k h0 (fT (fT (fT (fT (fT vi 11 qkx) 116 fxx) 5 cn2x) 6 rn2x) 7 gn2x) (fT vj 12 qdx) (fT (fT (fT (fT (fT (fT (fT vF 69 f69x) 0 gx) 2 f2wx) 3 f3wx) 4 f4x) 5 f5x) 6 f6x) (fT (fT (fT vG 1 gsx) 7 Fx) 8 L8x) 0 0 vn mr gq m1 hB1 (by first | with_reducible assumption | decide | omega | rfl | assumption) (by first | with_reducible assumption | decide | omega | rfl | assumption) (by first | with_reducible assumption | decide | omega | rfl | assumption) (by first | with_reducible assumption | decide | omega | rfl | assumption) (by first | with_reducible assumption | decide | omega | rfl | assumption) (by first | with_reducible assumption | decide | omega | rfl | assumption) (by first | with_reducible assumption | decide | omega | rfl | assumption) (fun _ => hc1) (hA1) H.size) (cwV 2 hts gwsRX12_counts_2 rfl rfl rfl hd_yX12_solves_RX12 (by decide +kernel)) (fz_pre (va_recv hK hP (ci := 12) (q0 := 0) rfl rfl) hP hK hD) rfl rfl hl.1 rfl (lv_room (Nat.le_of_ble_eq_true rfl)) dX12_counts_22 (by decide +kernel)) hS (fun q _ h => hFc q h) hFc (fun r22 u t9_ H locs ht hvm hw9 hB9 hz1 hk1 hS => ?_)
        revert u hw9 hB9
        refine fz_p15 ?_
        intro g22 f2w22 f3w22 f422 f522 f622 gs22 F22 L822 qd22 fx22 cn222 rn222 gn222 m222 hw9 hB9
        try dsimp only at hw9 hB9
        have e9i : fT (fT (fT (fT (fT vi 11 0) 116 fx22) 5 cn222) 6 rn222) 7 gn222 = fT (fT (fT (fT (fT (fT (fT (fT (fT (fT vi 11 qkx) 116 fxx) 5 cn2x) 6 rn2x) 7 gn2x) 116 fx22) 5 cn222) 6 rn222) 7 gn222) 11 0 := Eq.symm (Eq.trans (congrArg (fun g9 => fT g9 11 0) (Eq.trans (congrArg (fun g9 => fT g9 7 gn222) (Eq.trans (congrArg (fun g9 => fT g9 6 rn222) (Eq.trans (congrArg (fun g9 => fT g9 5 cn222) (up_3 rfl)) (up_2 rfl))) (up_1 rfl))) (up_0 rfl))) (up_4 rfl))
        have e9j : fT vj 12 qd22 = fT (fT vj 12 qdx) 12 qd22 := (fT_sm _ _ _ _).symm
        have e9F : fT (fT (fT (fT (fT (fT (fT vF 69 f69x) 0 g22) 2 f2w22) 3 f3w22) 4 f422) 5 f522) 6 f622 = fT (fT (fT (fT (fT (fT (fT (fT (fT (fT (fT (fT (fT vF 69 f69x) 0 gx) 2 f2wx) 3 f3wx) 4 f4x) 5 f5x) 6 f6x) 0 g22) 4 f422) 6 f622) 5 f522) 2 f2w22) 3 f3w22 := Eq.symm (Eq.trans (congrArg (fun g9 => fT g9 3 f3w22) (Eq.trans (congrArg (fun g9 => fT g9 2 f2w22) (Eq.trans (congrArg (fun g9 => fT g9 5 f522) (Eq.trans (congrArg (fun g9 => fT g9 6 f622) (Eq.trans (congrArg (fun g9 => fT g9 4 f422) (up_5 rfl)) (up_2 rfl))) (up_0 rfl))) (up_1 rfl))) (up_4 rfl))) (up_3 rfl))
        have e9G : fT (fT (fT vG 1 gs22) 7 F22) 8 L822 = fT (fT (fT (fT (fT (fT vG 1 gsx) 7 Fx) 8 L8x) 1 gs22) 7 F22) 8 L822 := ((congrArg (fun g9 => fT (fT g9 7 F22) 8 L822) ((fT_sw _ _ _ (Nat.ne_of_beq_eq_false rfl)).trans (congrArg (fun g9 => fT g9 8 L8x) ((fT_sw _ _ _ (Nat.ne_of_beq_eq_false rfl)).trans (congrArg (fun g9 => fT g9 7 Fx) (fT_sm _ _ _ _)))))).trans ((congrArg (fun g9 => fT g9 8 L822) ((fT_sw _ _ _ (Nat.ne_of_beq_eq_false rfl)).trans (congrArg (fun g9 => fT g9 8 L8x) (fT_sm _ _ _ _)))).trans (fT_sm _ _ _ _))).symm
        have hP := wr_PG e9G (wr_PF e9F (wr_Pj e9j (wr_Pi e9i (fz_P ht hB9.1))))
        have hD := wr_DG e9G (wr_DF e9F (wr_Dj e9j (wr_Di e9i (hB9.2.weaken (fun _ q _ h => hFc q.1 h)))))
        clear e9i e9j e9F e9G
        revert hw9
        refine fz_a5 ?_
        intro f22_0 f22_1 f22_2 f22_3 f22_4
        refine lv_if_eq (tgt := 30) hx hb dX12_counts_25 (by decide) (fun c_25 => ?_) (fun c_25 => ?_)
        · have t_25 : (r22).toInt = 0 := toI_eq c_25 rfl (by decide)
          refine lv_aload_n hx hb dX12_counts_30 rfl (lv_at hl 0 rfl) ?_
          have hFc := allFree hD hS hA
          refine va_calli (va_runV (As := []) (rest := []) ⟨hx, hb, hml, hown, hts⟩ (r_X12_nextWays l dC dI a k h0 (fT (fT (fT (fT (fT vi 11 0) 116 fx22) 5 cn222) 6 rn222) 7 gn222) (fT vj 12 qd22) (fT (fT (fT (fT (fT (fT (fT vF 69 f69x) 0 g22) 2 f2w22) 3 f3w22) 4 f422) 5 f522) 6 f622) (fT (fT (fT vG 1 gs22) 7 F22) 8 L822) mr (by first | with_reducible assumption | decide | omega | rfl | assumption) (by first | with_reducible assumption | decide | omega | rfl | assumption) (hc1) H.size) (cwV 0 hts gwsRX12_counts_3 rfl rfl rfl hd_yX12_nextWays_RX12 (by decide +kernel)) (fz_pre (va_recv hK hP (ci := 12) (q0 := 0) rfl rfl) hP hK hD) rfl rfl hl.1 rfl (lv_room (Nat.le_of_ble_eq_true rfl)) dX12_counts_31 (by decide +kernel)) hS (fun q _ h => hFc q h) hFc (fun r31 f6931 t9_ H locs ht hvm hw9 hB9 hz1 hk1 hS => ?_)
          have e9F : fT (fT (fT (fT (fT (fT (fT vF 69 f6931) 0 g22) 2 f2w22) 3 f3w22) 4 f422) 5 f522) 6 f622 = fT (fT (fT (fT (fT (fT (fT (fT vF 69 f69x) 0 g22) 2 f2w22) 3 f3w22) 4 f422) 5 f522) 6 f622) 69 f6931 := Eq.symm (up_6 rfl)
          have hP := wr_PF e9F (fz_P ht hB9.1)
          have hD := wr_DF e9F (hB9.2.weaken (fun _ q _ h => hFc q.1 h))
          clear e9F
          rcases hw9 with ⟨rfl, f31_0, f31_1⟩ | ⟨rfl, f31_0⟩
          · have f31_0 : ChO (vF 59) f6931 mr := f31_0
            have f31_1 : odo (cD f69x) (cD (vF 59)) mr < odo (cD f6931) (cD (vF 59)) mr := f31_1
            refine lv_istore_n hx hb dX12_counts_34 rfl hl (by decide) rfl (fun ls (hl : lv_has ls _ ([(1, .int 1), (0, .ref h0)])) => ?_)
            refine lv_goto (tgt := 15) hx hb dX12_counts_35 (by decide) ?_
            have hl : lv_has _ _ ([(0, .ref h0), (1, .int 1)]) := lv_sub hl [1, 0] rfl
            exact ih15 1 f6931 g22 f2w22 f3w22 f422 f522 f622 gs22 F22 L822 qd22 0 fx22 cn222 rn222 gn222 m222 _ _ _ (f22_0) (f31_0) (f22_1) (fun q hq => by (rw [f22_2 _ (by omega)]); exact ho q hq) (by (have h8 := odo_lt (f := cD f69x) (b := cD (vF 59)) mr (fun q hq => hc1.dg hq)); (have h9 := hfx.resolve_left (fun h => c_16 h.1)); (have h7 := f31_1); exact Or.inr (by omega)) hP hD hS hl
          · have f31_0 : ChO (vF 59) f6931 mr := f31_0
            refine lv_istore_n hx hb dX12_counts_34 rfl hl (by decide) rfl (fun ls (hl : lv_has ls _ ([(1, .int 0), (0, .ref h0)])) => ?_)
            refine lv_goto (tgt := 15) hx hb dX12_counts_35 (by decide) ?_
            have hl : lv_has _ _ ([(0, .ref h0), (1, .int 0)]) := lv_sub hl [1, 0] rfl
            exact ih15 0 f6931 g22 f2w22 f3w22 f422 f522 f622 gs22 F22 L822 qd22 0 fx22 cn222 rn222 gn222 m222 _ _ _ (f22_0) (f31_0) (f22_1) (fun q hq => by (rw [f22_2 _ (by omega)]); exact ho q hq) (by (have h8 := odo_lt (f := cD f69x) (b := cD (vF 59)) mr (fun q hq => hc1.dg hq)); (have h9 := hfx.resolve_left (fun h => c_16 h.1)); exact Or.inl ⟨rfl, by omega⟩) hP hD hS hl
        · have t_25 : ¬ (r22).toInt = 0 := toI_neq c_25 rfl (by decide)
          refine lv_iconst (v := 1) hx hb dX12_counts_28 (by decide) ?_
          refine W.widen (k := 0) (n := 0) (by decide +kernel) (by decide +kernel) ?_
          exact W.zret (v := 1) hx hb hr rfl (fun t9_ ht hW => ⟨⟨1, (g22, f2w22, f3w22, f422, f522, f622, gs22, F22, L822, qd22, 0, fx22, cn222, rn222, gn222, f69x, m222), rfl, by (try dsimp only); exact ⟨f22_0, f22_1, fun q hq => by (rw [f22_2 _ (by omega)]); exact ho q hq, Or.inr rfl⟩, by rw [ht]; exact hP, hD⟩, hS.F ht⟩) hS.2.2 dX12_counts_29
  · have t_4 : (r1).toInt = 0 := toI_nne c_4 rfl (by decide)
    refine lv_iconst (v := 0) hx hb dX12_counts_7 (by decide) ?_
    refine W.widen (k := 0) (n := 0) (by decide +kernel) (by decide +kernel) ?_
    have e9 : fT (fT (fT (fT (fT vi 11 (vi 11)) 116 (vi 116)) 5 (vi 5)) 6 (vi 6)) 7 (vi 7) = vi := Eq.trans (mv_4 rfl) (Eq.trans (id_4 rfl) (Eq.trans (mv_3 rfl) (Eq.trans (id_3 rfl) (Eq.trans (mv_2 rfl) (Eq.trans (id_2 rfl) (Eq.trans (mv_1 rfl) (Eq.trans (id_1 rfl) (id_0 rfl))))))))
    have hP := wr_Pi e9 hP
    have hD := wr_Di e9 hD
    clear e9
    have e9 : fT vj 12 (vj 12) = vj := fT_id _ _ (rfl)
    have hP := wr_Pj e9 hP
    have hD := wr_Dj e9 hD
    clear e9
    have e9 : fT (fT (fT (fT (fT (fT (fT vF 69 (vF 69)) 0 (vF 0)) 2 (vF 2)) 3 (vF 3)) 4 (vF 4)) 5 (vF 5)) 6 (vF 6) = vF := Eq.trans (mv_6 rfl) (Eq.trans (id_6 rfl) (Eq.trans (mv_5 rfl) (Eq.trans (id_5 rfl) (Eq.trans (mv_4 rfl) (Eq.trans (id_4 rfl) (Eq.trans (mv_3 rfl) (Eq.trans (id_3 rfl) (Eq.trans (mv_2 rfl) (Eq.trans (id_2 rfl) (Eq.trans (mv_1 rfl) (Eq.trans (id_1 rfl) (id_0 rfl))))))))))))
    have hP := wr_PF e9 hP
    have hD := wr_DF e9 hD
    clear e9
    have e9 : fT (fT (fT vG 1 (vG 1)) 7 (vG 7)) 8 (vG 8) = vG := (fT_id _ _ ((fT_ne _ _ (Nat.ne_of_beq_eq_false rfl)).trans (fT_ne _ _ (Nat.ne_of_beq_eq_false rfl)))).trans ((fT_id _ _ (fT_ne _ _ (Nat.ne_of_beq_eq_false rfl))).trans (fT_id _ _ (rfl)))
    have hP := wr_PG e9 hP
    have hD := wr_DG e9 hD
    clear e9
    exact W.zret (v := 0) hx hb hr rfl (fun t9_ ht hW => ⟨⟨0, ((vF 0), (vF 2), (vF 3), (vF 4), (vF 5), (vF 6), (vG 1), (vG 7), (vG 8), (vj 12), (vi 11), (vi 116), (vi 5), (vi 6), (vi 7), (vF 69), mg), rfl, by (try dsimp only); exact ⟨hBg, hAn, fun q _ => rfl, Or.inl rfl⟩, by rw [ht]; exact hP, hD⟩, hS.F ht⟩) hS.2.2 dX12_counts_8
theorem dX12_count_0 : decode cX12_count 0 = .ok (.aload_n 0, 1) := dk_42 (by decide +kernel)
theorem dX12_count_1 : decode cX12_count 1 = .ok (.aload_n 0, 1) := dk_42 (by decide +kernel)
theorem dX12_count_2 : decode cX12_count 2 = .ok (.getfield 808, 3) := dk_180 (by decide +kernel)
theorem dX12_count_5 : decode cX12_count 5 = .ok (.ifCond .eq 7, 3) := dk_153 (by decide +kernel)
theorem dX12_count_8 : decode cX12_count 8 = .ok (.iconst 0, 1) := dk_3 (by decide +kernel)
theorem dX12_count_9 : decode cX12_count 9 = .ok (.goto 4, 3) := dk_167 (by decide +kernel)
theorem dX12_count_12 : decode cX12_count 12 = .ok (.iconst 1, 1) := dk_4 (by decide +kernel)
theorem dX12_count_13 : decode cX12_count 13 = .ok (.putfield 348, 3) := dk_181 (by decide +kernel)
theorem dX12_count_16 : decode cX12_count 16 = .ok (.aload_n 0, 1) := dk_42 (by decide +kernel)
theorem dX12_count_17 : decode cX12_count 17 = .ok (.getfield 348, 3) := dk_180 (by decide +kernel)
theorem dX12_count_20 : decode cX12_count 20 = .ok (.ifCond .le 5, 3) := dk_158 (by decide +kernel)
theorem dX12_count_23 : decode cX12_count 23 = .ok (.iconst 0, 1) := dk_3 (by decide +kernel)
theorem dX12_count_24 : decode cX12_count 24 = .ok (.ireturn, 1) := dk_172 (by decide +kernel)
theorem dX12_count_25 : decode cX12_count 25 = .ok (.iconst 0, 1) := dk_3 (by decide +kernel)
theorem dX12_count_26 : decode cX12_count 26 = .ok (.istore_n 1, 1) := dk_60 (by decide +kernel)
theorem dX12_count_27 : decode cX12_count 27 = .ok (.aload_n 0, 1) := dk_42 (by decide +kernel)
theorem dX12_count_28 : decode cX12_count 28 = .ok (.invokevirtual 873, 3) := dk_182 (by decide +kernel)
theorem dX12_count_31 : decode cX12_count 31 = .ok (.iconst 1, 1) := dk_4 (by decide +kernel)
theorem dX12_count_32 : decode cX12_count 32 = .ok (.istore_n 2, 1) := dk_61 (by decide +kernel)
theorem dX12_count_33 : decode cX12_count 33 = .ok (.iload_n 2, 1) := dk_28 (by decide +kernel)
theorem dX12_count_34 : decode cX12_count 34 = .ok (.ifCond .eq 26, 3) := dk_153 (by decide +kernel)
theorem dX12_count_37 : decode cX12_count 37 = .ok (.iload_n 1, 1) := dk_27 (by decide +kernel)
theorem dX12_count_38 : decode cX12_count 38 = .ok (.aload_n 0, 1) := dk_42 (by decide +kernel)
theorem dX12_count_39 : decode cX12_count 39 = .ok (.invokevirtual 891, 3) := dk_182 (by decide +kernel)
theorem dX12_count_42 : decode cX12_count 42 = .ok (.ifCond .eq 7, 3) := dk_153 (by decide +kernel)
theorem dX12_count_45 : decode cX12_count 45 = .ok (.iconst 1, 1) := dk_4 (by decide +kernel)
theorem dX12_count_46 : decode cX12_count 46 = .ok (.goto 4, 3) := dk_167 (by decide +kernel)
theorem dX12_count_49 : decode cX12_count 49 = .ok (.iconst 0, 1) := dk_3 (by decide +kernel)
theorem dX12_count_50 : decode cX12_count 50 = .ok (.iadd, 1) := dk_96 (by decide +kernel)
theorem dX12_count_51 : decode cX12_count 51 = .ok (.istore_n 1, 1) := dk_60 (by decide +kernel)
theorem dX12_count_52 : decode cX12_count 52 = .ok (.aload_n 0, 1) := dk_42 (by decide +kernel)
theorem dX12_count_53 : decode cX12_count 53 = .ok (.invokevirtual 888, 3) := dk_182 (by decide +kernel)
theorem dX12_count_56 : decode cX12_count 56 = .ok (.istore_n 2, 1) := dk_61 (by decide +kernel)
theorem dX12_count_57 : decode cX12_count 57 = .ok (.goto (-24), 3) := dk_167 (by decide +kernel)
theorem dX12_count_60 : decode cX12_count 60 = .ok (.iload_n 1, 1) := dk_27 (by decide +kernel)
theorem dX12_count_61 : decode cX12_count 61 = .ok (.ireturn, 1) := dk_172 (by decide +kernel)
def wsRX12_count : List Cond := .code yX12_count cX12_count 3 (some .int) :: ([.fieldLink RX12 808 "OptimaWorksModel" "isModel" "Z", .fieldLink RX12 348 "OptimaWorksModel" "thrown" "I"] ++ wsX120 ++ (wsV RX12 873 RX12 yX12_firstValues wsRX12_firstValues) ++ (wsV RX12 891 RX12 yX12_counts wsRX12_counts) ++ (wsV RX12 888 RX12 yX12_nextValues wsRX12_nextValues))
theorem iwsRX12_count_in12 : ∀ w ∈ wsX120, w ∈ wsRX12_count := fun _ h => List.mem_cons_of_mem _ (List.mem_append_left _ (List.mem_append_left _ (List.mem_append_left _ (List.mem_append_right _ h))))
theorem gwsRX12_count_0 : GoodIn wsRX12_count (wsV RX12 873 RX12 yX12_firstValues wsRX12_firstValues) := goodIn_sub (fun _ h => List.mem_cons_of_mem _ (List.mem_append_left _ (List.mem_append_left _ (List.mem_append_right _ h)))) (gdV (by decide +kernel) gdwsRX12_firstValues)
theorem gwsRX12_count_1 : GoodIn wsRX12_count (wsV RX12 891 RX12 yX12_counts wsRX12_counts) := goodIn_sub (fun _ h => List.mem_cons_of_mem _ (List.mem_append_left _ (List.mem_append_right _ h))) (gdV (by decide +kernel) gdwsRX12_counts)
theorem gwsRX12_count_2 : GoodIn wsRX12_count (wsV RX12 888 RX12 yX12_nextValues wsRX12_nextValues) := goodIn_sub (fun _ h => List.mem_cons_of_mem _ (List.mem_append_right _ h)) (gdV (by decide +kernel) gdwsRX12_nextValues)
theorem gdwsRX12_count : wsRX12_count.all goodWord = true := gdC rfl (gdA (gdA (gdA (gdA (by decide +kernel : ([.fieldLink RX12 808 "OptimaWorksModel" "isModel" "Z", .fieldLink RX12 348 "OptimaWorksModel" "thrown" "I"] : List Cond).all goodWord = true) gdwsX120) (gdV (by decide +kernel) gdwsRX12_firstValues)) (gdV (by decide +kernel) gdwsRX12_counts)) (gdV (by decide +kernel) gdwsRX12_nextValues))
theorem hm_r_X12_count_0 : (.fieldLink RX12 348 "OptimaWorksModel" "thrown" "I" : Cond) ∈ wsRX12_count := by decide +kernel
set_option maxHeartbeats 4000000 in
set_option maxRecDepth 100000 in
/-- count() -/
theorem r_X12_count (l : Launch) (dC : Nat → ClassId) (dI : Nat → Nat → Nat) (a : Nat → Nat) (k : Nat → ClassId) (h0 : Nat) (vi : Nat → Int32) (vj : Nat → Int64) (vF : Nat → Nat → Int32) (vG : Nat → Nat → Int64) (vn : Nat) (mr : Nat) (gq : Nat) (dn : Nat) (mg : Nat → Int) (hBg : Bg (vF 0) mg) (hvn : vi 90 = nI vn) (hvn8 : vn ≤ 8) (hmr : vi 91 = nI mr) (hmr12 : mr ≤ 12) (hmg : vi 93 = nI gq) (hgq : gq ≤ 3) (hdn : vi 92 = nI dn) (hdn8 : dn ≤ 8) (hM : MdlB vF gq) (hlh : ∀ k, k < vn → (vF 56 k).toInt ≤ (vF 57 k).toInt) (hwm : WmO (vF 59) mr) (hAn : AnsB mg 1020) (sz : Nat) : Met l yX12_count wsRX12_count ({ frames := 8, cells := 0, slots := 0, locals := 203 }) (va_Pc [.ref h0] (fun U => U.heap.size = sz ∧ va_P (dC, dI) vwCl (WR a k h0 vi vj vF vG) U.heap ∧ va_K (dC, dI) vwCl (tX12 k) U ∧ va_D (fun _ => True) (WR a k h0 vi vj vF vG))) (va_Qi (fun (r : Int32) (u : (Nat → Int32) × (Nat → Int32) × (Nat → Int32) × (Nat → Int32) × (Nat → Int32) × (Nat → Int32) × (Nat → Int64) × (Nat → Int64) × (Nat → Int64) × (Int64) × (Int32) × (Int32) × (Int32) × (Int32) × (Int32) × (Int32) × (Nat → Int32) × (Nat → Int32) × (Nat → Int)) => (Bg (u.1) (u.2.2.2.2.2.2.2.2.2.2.2.2.2.2.2.2.2.2)) ∧ (AnsB (u.2.2.2.2.2.2.2.2.2.2.2.2.2.2.2.2.2.2) 1020) ∧ (∀ q, ((1000 ≤ q ∧ q < 1020) ∨ 1036 ≤ q) → (u.2.2.2.2.2.2.2.2.2.2.2.2.2.2.2.2.2.2) q = mg q) ∧ (∀ k, k < 9 → -999 ≤ ((u.2.2.2.2.2.2.2.2.2.2.2.2.2.2.2.2.2.1) k).toInt ∧ ((u.2.2.2.2.2.2.2.2.2.2.2.2.2.2.2.2.2.1) k).toInt ≤ 999)) (fun (u : (Nat → Int32) × (Nat → Int32) × (Nat → Int32) × (Nat → Int32) × (Nat → Int32) × (Nat → Int32) × (Nat → Int64) × (Nat → Int64) × (Nat → Int64) × (Int64) × (Int32) × (Int32) × (Int32) × (Int32) × (Int32) × (Int32) × (Nat → Int32) × (Nat → Int32) × (Nat → Int)) t => va_P (dC, dI) vwCl (WR a k h0 (fT (fT (fT (fT (fT (fT vi 0 (u.2.2.2.2.2.2.2.2.2.2.2.2.2.2.2.1)) 11 (u.2.2.2.2.2.2.2.2.2.2.1)) 116 (u.2.2.2.2.2.2.2.2.2.2.2.1)) 5 (u.2.2.2.2.2.2.2.2.2.2.2.2.1)) 6 (u.2.2.2.2.2.2.2.2.2.2.2.2.2.1)) 7 (u.2.2.2.2.2.2.2.2.2.2.2.2.2.2.1)) (fT vj 12 (u.2.2.2.2.2.2.2.2.2.1)) (fT (fT (fT (fT (fT (fT (fT (fT vF 70 (u.2.2.2.2.2.2.2.2.2.2.2.2.2.2.2.2.2.1)) 0 (u.1)) 2 (u.2.1)) 3 (u.2.2.1)) 4 (u.2.2.2.1)) 5 (u.2.2.2.2.1)) 6 (u.2.2.2.2.2.1)) 69 (u.2.2.2.2.2.2.2.2.2.2.2.2.2.2.2.2.1)) (fT (fT (fT vG 1 (u.2.2.2.2.2.2.1)) 7 (u.2.2.2.2.2.2.2.1)) 8 (u.2.2.2.2.2.2.2.2.1))) t.heap ∧ va_D (va_A (WR a k h0 vi vj vF vG) sz) (WR a k h0 (fT (fT (fT (fT (fT (fT vi 0 (u.2.2.2.2.2.2.2.2.2.2.2.2.2.2.2.1)) 11 (u.2.2.2.2.2.2.2.2.2.2.1)) 116 (u.2.2.2.2.2.2.2.2.2.2.2.1)) 5 (u.2.2.2.2.2.2.2.2.2.2.2.2.1)) 6 (u.2.2.2.2.2.2.2.2.2.2.2.2.2.1)) 7 (u.2.2.2.2.2.2.2.2.2.2.2.2.2.2.1)) (fT vj 12 (u.2.2.2.2.2.2.2.2.2.1)) (fT (fT (fT (fT (fT (fT (fT (fT vF 70 (u.2.2.2.2.2.2.2.2.2.2.2.2.2.2.2.2.2.1)) 0 (u.1)) 2 (u.2.1)) 3 (u.2.2.1)) 4 (u.2.2.2.1)) 5 (u.2.2.2.2.1)) 6 (u.2.2.2.2.2.1)) 69 (u.2.2.2.2.2.2.2.2.2.2.2.2.2.2.2.2.1)) (fT (fT (fT vG 1 (u.2.2.2.2.2.2.1)) 7 (u.2.2.2.2.2.2.2.1)) 8 (u.2.2.2.2.2.2.2.2.1)))) (va_A (WR a k h0 vi vj vF vG) sz)) 0 0 (va_A (WR a k h0 vi vj vF vG) sz) := by
  refine Met.ofW (cc := cX12_count) (maxL := 3) (ret := (some .int)) (by decide) rfl ?_
  intro p e s m args below meth c s₁ B hml hv
  obtain ⟨rfl, hsz, hP, hK, hD0⟩ := hv
  have hx := B.exec
  have hb := B.bytes
  have hr := B.returns
  have hts := atoms_spec (ws := wsRX12_count) B.pre
  have hown : s.vm.findClass RX12 = some m.cls := findClass_of_methodNamed B.named
  have hlocks := B.notSynchronized
  subst hsz
  have hD := hD0.self (sz := s.heap.size)
  generalize hAe : va_A (WR a k h0 vi vj vF vG) s.heap.size = A at hD ⊢
  have hA : ∀ q : Nat, s.heap.size ≤ q → A q := fun q h => by rw [← hAe]; exact Or.inr h
  have hS : va_S A s.heap s.heap [] := va_S.rf
  have hl := lv_entry ([.ref h0]) (n := 3) (Nat.le_of_ble_eq_true rfl)
  rw [lg_entry_eq]
  generalize (lg_sl ([.ref h0]) ++ List.replicate (3 - (lg_sl ([.ref h0])).length) Slot.unset).toArray = ls at hl ⊢
  have hl : lv_has ls 3 [(0, .ref h0)] := hl
  refine lv_aload_n hx hb dX12_count_0 rfl (lv_at hl 0 rfl) ?_
  refine lv_aload_n hx hb dX12_count_1 rfl (lv_at hl 0 rfl) ?_
  refine va_get (D := (dC, dI)) (ci := 12) (v := .int (vi 95)) (C := RX12) (T := TX12) (N := 163) (fs := fM (vS a vi vj)) hx hb hts iwsRX12_count_in12 hown hK hP 0 rfl rfl 95 (by decide) (hts (.fieldLink RX12 808 "OptimaWorksModel" "isModel" "Z") (by decide +kernel)) (fun _ h9 => h9) rfl dX12_count_2 ?_
  refine lv_if_eq (tgt := 12) hx hb dX12_count_5 (by decide) (fun c_5 => ?_) (fun c_5 => ?_)
  · have t_5 : ((vi 95)).toInt = 0 := toI_eq c_5 rfl (by decide)
    refine lv_iconst (v := 1) hx hb dX12_count_12 (by decide) ?_
    refine va_put (D := (dC, dI)) (ci := 12) (v := .int 1) (ty := .int) (C := RX12) (T := TX12) (N := 163) (fs := fM (vS a vi vj)) hx hb hts iwsRX12_count_in12 tyX12 tyX12_ok nmX12 hown hK hP hD hS 0 rfl rfl 0 (by decide) (hts _ hm_r_X12_count_0) (fun _ h9 => h9) rfl (by decide +kernel) rfl rfl (Nat.le_of_ble_eq_true rfl) dX12_count_13 (fun H locs hP hD hS => ?_)
    have hP : va_P (dC, dI) vwCl (WR a k h0 (fT vi 0 1) vj vF vG) H := fz_w (WR_i 0 _ rfl) hP
    have hD : va_D A (WR a k h0 (fT vi 0 1) vj vF vG) := fz_wD (WR_i 0 _ rfl) hD
    refine lv_aload_n hx hb dX12_count_16 rfl (lv_at hl 0 rfl) ?_
    refine va_get (D := (dC, dI)) (ci := 12) (v := .int 1) (C := RX12) (T := TX12) (N := 163) (fs := fM (vS a (fT vi 0 1) vj)) hx hb hts iwsRX12_count_in12 hown hK hP 0 rfl rfl 0 (by decide) (hts _ hm_r_X12_count_0) (fun _ h9 => h9) rfl dX12_count_17 ?_
    refine lv_if_le (tgt := 25) hx hb dX12_count_20 (by decide) (fun c9 => absurd c9 (by decide)) (fun _ => ?_)
    refine lv_iconst (v := 0) hx hb dX12_count_23 (by decide) ?_
    refine W.widen (k := 0) (n := 0) (by decide +kernel) (by decide +kernel) ?_
    have e9 : fT (fT (fT (fT (fT (fT vi 0 1) 11 (vi 11)) 116 (vi 116)) 5 (vi 5)) 6 (vi 6)) 7 (vi 7) = fT vi 0 1 := Eq.trans (mv_4 rfl) (Eq.trans (id_5 rfl) (Eq.trans (mv_3 rfl) (Eq.trans (id_4 rfl) (Eq.trans (mv_2 rfl) (Eq.trans (id_3 rfl) (Eq.trans (mv_1 rfl) (Eq.trans (id_2 rfl) (id_1 rfl))))))))
    have hP := wr_Pi e9 hP
    have hD := wr_Di e9 hD
    clear e9
    have e9 : fT vj 12 (vj 12) = vj := fT_id _ _ (rfl)
    have hP := wr_Pj e9 hP
    have hD := wr_Dj e9 hD
    clear e9
    have e9 : fT (fT (fT (fT (fT (fT (fT (fT vF 70 (vF 70)) 0 (vF 0)) 2 (vF 2)) 3 (vF 3)) 4 (vF 4)) 5 (vF 5)) 6 (vF 6)) 69 (vF 69) = vF := Eq.trans (mv_7 rfl) (Eq.trans (id_7 rfl) (Eq.trans (mv_6 rfl) (Eq.trans (id_6 rfl) (Eq.trans (mv_5 rfl) (Eq.trans (id_5 rfl) (Eq.trans (mv_4 rfl) (Eq.trans (id_4 rfl) (Eq.trans (mv_3 rfl) (Eq.trans (id_3 rfl) (Eq.trans (mv_2 rfl) (Eq.trans (id_2 rfl) (Eq.trans (mv_1 rfl) (Eq.trans (id_1 rfl) (id_0 rfl))))))))))))))
    have hP := wr_PF e9 hP
    have hD := wr_DF e9 hD
    clear e9
    have e9 : fT (fT (fT vG 1 (vG 1)) 7 (vG 7)) 8 (vG 8) = vG := (fT_id _ _ ((fT_ne _ _ (Nat.ne_of_beq_eq_false rfl)).trans (fT_ne _ _ (Nat.ne_of_beq_eq_false rfl)))).trans ((fT_id _ _ (fT_ne _ _ (Nat.ne_of_beq_eq_false rfl))).trans (fT_id _ _ (rfl)))
    have hP := wr_PG e9 hP
    have hD := wr_DG e9 hD
    clear e9
    exact W.iret (v := 0) hx hb hr (fun t9_ ht hW => ⟨⟨0, ((vF 0), (vF 2), (vF 3), (vF 4), (vF 5), (vF 6), (vG 1), (vG 7), (vG 8), (vj 12), (vi 11), (vi 116), (vi 5), (vi 6), (vi 7), 1, (vF 69), (vF 70), mg), rfl, by (try dsimp only); exact ⟨hBg, hAn, fun q _ => rfl, hM.2.2.2.2.2.2⟩, by rw [ht]; exact hP, hD⟩, hS.F ht⟩) hS.2.2 dX12_count_24
  · have t_5 : ¬ ((vi 95)).toInt = 0 := toI_neq c_5 rfl (by decide)
    refine lv_iconst (v := 0) hx hb dX12_count_8 (by decide) ?_
    refine lv_goto (tgt := 13) hx hb dX12_count_9 (by decide) ?_
    refine va_put (D := (dC, dI)) (ci := 12) (v := .int 0) (ty := .int) (C := RX12) (T := TX12) (N := 163) (fs := fM (vS a vi vj)) hx hb hts iwsRX12_count_in12 tyX12 tyX12_ok nmX12 hown hK hP hD hS 0 rfl rfl 0 (by decide) (hts _ hm_r_X12_count_0) (fun _ h9 => h9) rfl (by decide +kernel) rfl rfl (Nat.le_of_ble_eq_true rfl) dX12_count_13 (fun H locs hP hD hS => ?_)
    have hP : va_P (dC, dI) vwCl (WR a k h0 (fT vi 0 0) vj vF vG) H := fz_w (WR_i 0 _ rfl) hP
    have hD : va_D A (WR a k h0 (fT vi 0 0) vj vF vG) := fz_wD (WR_i 0 _ rfl) hD
    refine lv_aload_n hx hb dX12_count_16 rfl (lv_at hl 0 rfl) ?_
    refine va_get (D := (dC, dI)) (ci := 12) (v := .int 0) (C := RX12) (T := TX12) (N := 163) (fs := fM (vS a (fT vi 0 0) vj)) hx hb hts iwsRX12_count_in12 hown hK hP 0 rfl rfl 0 (by decide) (hts _ hm_r_X12_count_0) (fun _ h9 => h9) rfl dX12_count_17 ?_
    refine lv_if_le (tgt := 25) hx hb dX12_count_20 (by decide) (fun _ => ?_) (fun c9 => absurd (by decide) c9)
    refine lv_iconst (v := 0) hx hb dX12_count_25 (by decide) ?_
    refine lv_istore_n hx hb dX12_count_26 rfl hl (by decide) rfl (fun ls (hl : lv_has ls _ ([(1, .int 0), (0, .ref h0)])) => ?_)
    refine lv_aload_n hx hb dX12_count_27 rfl (lv_at hl 1 rfl) ?_
    have hFc := allFree hD hS hA
    refine va_callv (va_runV (As := []) (rest := []) ⟨hx, hb, hml, hown, hts⟩ (r_X12_firstValues l dC dI a k h0 (fT vi 0 0) vj vF vG vn (by first | with_reducible assumption | decide | omega | rfl | assumption) (by first | with_reducible assumption | decide | omega | rfl | assumption) H.size) (cwV 0 hts gwsRX12_count_0 rfl rfl rfl hd_yX12_firstValues_RX12 (by decide +kernel)) (fz_pre (va_recv hK hP (ci := 12) (q0 := 0) rfl rfl) hP hK hD) rfl rfl hl.1 rfl (lv_room (Nat.le_of_ble_eq_true rfl)) dX12_count_28 (by decide +kernel)) hS (fun q _ h => hFc q h) hFc (fun f7028 t9_ H locs ht hvm hw9 hB9 hz1 hk1 hS => ?_)
    have hP : va_P (dC, dI) vwCl (WR a k h0 (fT vi 0 0) vj (fT vF 70 f7028) vG) H := fz_P ht hB9.1
    have hD := fz_sd hP (hB9.2.weaken (fun _ q _ h => hFc q.1 h)) rfl
    revert hw9
    refine fz_a2 ?_
    intro f28_0 f28_1
    have f28_0 : ∀ k, k < vn → f7028 k = (vF 56) k := f28_0
    have f28_1 : ∀ k, vn ≤ k → f7028 k = (vF 70) k := f28_1
    refine lv_iconst (v := 1) hx hb dX12_count_31 (by decide) ?_
    refine lv_istore_n hx hb dX12_count_32 rfl hl (by decide) rfl (fun ls (hl : lv_has ls _ ([(2, .int 1), (1, .int 0), (0, .ref h0)])) => ?_)
    have e9 : fT (fT (fT (fT (fT (fT vi 0 0) 11 (vi 11)) 116 (vi 116)) 5 (vi 5)) 6 (vi 6)) 7 (vi 7) = fT vi 0 0 := Eq.trans (mv_4 rfl) (Eq.trans (id_5 rfl) (Eq.trans (mv_3 rfl) (Eq.trans (id_4 rfl) (Eq.trans (mv_2 rfl) (Eq.trans (id_3 rfl) (Eq.trans (mv_1 rfl) (Eq.trans (id_2 rfl) (id_1 rfl))))))))
    have hP := wr_Pi e9 hP
    have hD := wr_Di e9 hD
    clear e9
    have e9 : fT vj 12 (vj 12) = vj := by funext q9; by_cases h9_12 : q9 = 12; (subst h9_12; exact (fT_eq _ _ _).trans (Eq.trans (by first | with_reducible rfl | with_reducible assumption | (symm; with_reducible assumption) | rfl | assumption | (symm; assumption) | (subst_vars; rfl)) (Eq.refl _).symm)); exact (fT_ne _ _ h9_12).trans (Eq.refl _).symm
    have hP := wr_Pj e9 hP
    have hD := wr_Dj e9 hD
    clear e9
    have e9 : fT (fT (fT (fT (fT (fT (fT (fT vF 70 f7028) 0 (vF 0)) 2 (vF 2)) 3 (vF 3)) 4 (vF 4)) 5 (vF 5)) 6 (vF 6)) 69 (vF 69) = fT vF 70 f7028 := Eq.trans (mv_6 rfl) (Eq.trans (id_7 rfl) (Eq.trans (mv_5 rfl) (Eq.trans (id_6 rfl) (Eq.trans (mv_4 rfl) (Eq.trans (id_5 rfl) (Eq.trans (mv_3 rfl) (Eq.trans (id_4 rfl) (Eq.trans (mv_2 rfl) (Eq.trans (id_3 rfl) (Eq.trans (mv_1 rfl) (Eq.trans (id_2 rfl) (id_1 rfl))))))))))))
    have hP := wr_PF e9 hP
    have hD := wr_DF e9 hD
    clear e9
    have e9 : fT (fT (fT vG 1 (vG 1)) 7 (vG 7)) 8 (vG 8) = vG := Eq.trans (mv_2 rfl) (Eq.trans (id_2 rfl) (Eq.trans (mv_1 rfl) (Eq.trans (id_1 rfl) (id_0 rfl))))
    have hP := wr_PG e9 hP
    have hD := wr_DG e9 hD
    clear e9
    have hl : lv_has _ _ ([(0, .ref h0), (1, .int 0), (2, .int 1)]) := lv_sub hl [2, 1, 0] rfl
    refine (fun (loop : ∀ (n9 : Nat) (nq : Int32) (mo : Int32) (f69x : Nat → Int32) (f70x : Nat → Int32) (gx : Nat → Int32) (f2wx : Nat → Int32) (f3wx : Nat → Int32) (f4x : Nat → Int32) (f5x : Nat → Int32) (f6x : Nat → Int32) (gsx : Nat → Int64) (Fx : Nat → Int64) (L8x : Nat → Int64) (qdx : Int64) (qkx : Int32) (fxx : Int32) (cn2x : Int32) (rn2x : Int32) (gn2x : Int32) (m1 : Nat → Int) (H : Heap) (locs : List Loc) (ls : Array Slot), (Bg gx m1) → (VaO (vF 56) (vF 57) (vF 58) f70x vn) → (∀ q, vn ≤ q → f70x q = vF 70 q) → (AnsB m1 1020) → (∀ q, ((1000 ≤ q ∧ q < 1020) ∨ 1036 ≤ q) → m1 q = mg q) →  ((mo = 0 ∧ 0 < n9) ∨ odoP (vR (vF 56) (vF 57)) vn < odo (vD (vF 56) f70x) (vR (vF 56) (vF 57)) vn + n9) → va_P (dC, dI) vwCl (WR a k h0 (fT (fT (fT (fT (fT (fT vi 0 0) 11 qkx) 116 fxx) 5 cn2x) 6 rn2x) 7 gn2x) (fT vj 12 qdx) (fT (fT (fT (fT (fT (fT (fT (fT vF 70 f70x) 0 gx) 2 f2wx) 3 f3wx) 4 f4x) 5 f5x) 6 f6x) 69 f69x) (fT (fT (fT vG 1 gsx) 7 Fx) 8 L8x)) H → va_D A (WR a k h0 (fT (fT (fT (fT (fT (fT vi 0 0) 11 qkx) 116 fxx) 5 cn2x) 6 rn2x) 7 gn2x) (fT vj 12 qdx) (fT (fT (fT (fT (fT (fT (fT (fT vF 70 f70x) 0 gx) 2 f2wx) 3 f3wx) 4 f4x) 5 f5x) 6 f6x) 69 f69x) (fT (fT (fT vG 1 gsx) 7 Fx) 8 L8x)) → va_S A s.heap H locs → lv_has ls 3 [(0, .ref h0), (1, .int nq), (2, .int mo)] → W p l e _ s m _ below meth c H locs 0 0 _ (F0 m 33 ls [])) => loop (odoP (vR (vF 56) (vF 57)) vn + 1) 0 1 (vF 69) f7028 (vF 0) (vF 2) (vF 3) (vF 4) (vF 5) (vF 6) (vG 1) (vG 7) (vG 8) (vj 12) (vi 11) (vi 116) (vi 5) (vi 6) (vi 7) mg _ _ _ (hBg) (VaO.first hlh f28_0) (f28_1) (hAn) (fun q _ => rfl) (Or.inr (by omega)) hP hD hS hl) ?_
    intro n9
    induction n9 with
    | zero => intro nq mo f69x f70x gx f2wx f3wx f4x f5x f6x gsx Fx L8x qdx qkx fxx cn2x rn2x gn2x m1 H locs ls hB1 hva hvr hA1 ho hf9; exact False.elim (by (have h9 := odo_lt (f := vD (vF 56) f70x) (b := vR (vF 56) (vF 57)) vn (fun q hq => hva.dg hq)); omega)
    | succ n9 ih33 =>
      intro nq mo f69x f70x gx f2wx f3wx f4x f5x f6x gsx Fx L8x qdx qkx fxx cn2x rn2x gn2x m1 H locs ls hB1 hva hvr hA1 ho hf33 hP hD hS hl
      have hfx := hf33
      refine lv_iload_n hx hb dX12_count_33 rfl (lv_at hl 2 rfl) ?_
      refine lv_if_eq (tgt := 60) hx hb dX12_count_34 (by decide) (fun c_34 => ?_) (fun c_34 => ?_)
      · have t_34 : (mo).toInt = 0 := toI_eq c_34 rfl (by decide)
        refine lv_iload_n hx hb dX12_count_60 rfl (lv_at hl 1 rfl) ?_
        refine W.widen (k := 0) (n := 0) (by decide +kernel) (by decide +kernel) ?_
        exact W.iret (v := nq) hx hb hr (fun t9_ ht hW => ⟨⟨nq, (gx, f2wx, f3wx, f4x, f5x, f6x, gsx, Fx, L8x, qdx, qkx, fxx, cn2x, rn2x, gn2x, 0, f69x, f70x, m1), rfl, by (try dsimp only); exact ⟨hB1, hA1, ho, VaO.box hM hva hvr⟩, by rw [ht]; exact hP, hD⟩, hS.F ht⟩) hS.2.2 dX12_count_61
      · have t_34 : ¬ (mo).toInt = 0 := toI_neq c_34 rfl (by decide)
        refine lv_iload_n hx hb dX12_count_37 rfl (lv_at hl 1 rfl) ?_
        refine lv_aload_n hx hb dX12_count_38 rfl (lv_at hl 0 rfl) ?_
        have hFc := allFree hD hS hA
        refine va_calli (va_runV (As := []) (rest := [.int nq]) ⟨hx, hb, hml, hown, hts⟩ (r_X12_counts l dC dI a k h0 (fT (fT (fT (fT (fT (fT vi 0 0) 11 qkx) 116 fxx) 5 cn2x) 6 rn2x) 7 gn2x) (fT vj 12 qdx) (fT (fT (fT (fT (fT (fT (fT (fT vF 70 f70x) 0 gx) 2 f2wx) 3 f3wx) 4 f4x) 5 f5x) 6 f6x) 69 f69x) (fT (fT (fT vG 1 gsx) 7 Fx) 8 L8x) vn mr gq dn m1 hB1 (by first | with_reducible assumption | decide | omega | rfl | assumption) (by first | with_reducible assumption | decide | omega | rfl | assumption) (by first | with_reducible assumption | decide | omega | rfl | assumption) (by first | with_reducible assumption | decide | omega | rfl | assumption) (by first | with_reducible assumption | decide | omega | rfl | assumption) (by first | with_reducible assumption | decide | omega | rfl | assumption) (by first | with_reducible assumption | decide | omega | rfl | assumption) (by first | with_reducible assumption | decide | omega | rfl | assumption) (hM.val (VaO.box hM hva hvr)) (by first | with_reducible assumption | decide | omega | rfl | assumption) (by first | with_reducible assumption | decide | omega | rfl | assumption) (hA1) H.size) (cwV 0 hts gwsRX12_count_1 rfl rfl rfl hd_yX12_counts_RX12 (by decide +kernel)) (fz_pre (va_recv hK hP (ci := 12) (q0 := 0) rfl rfl) hP hK hD) rfl rfl hl.1 rfl (lv_room (Nat.le_of_ble_eq_true rfl)) dX12_count_39 (by decide +kernel)) hS (fun q _ h => hFc q h) hFc (fun r39 u t9_ H locs ht hvm hw9 hB9 hz1 hk1 hS => ?_)
        revert u hw9 hB9
        refine fz_p17 ?_
        intro g39 f2w39 f3w39 f439 f539 f639 gs39 F39 L839 qd39 qk39 fx39 cn239 rn239 gn239 f6939 m239 hw9 hB9
        try dsimp only at hw9 hB9
        have e9i : fT (fT (fT (fT (fT (fT vi 0 0) 11 qk39) 116 fx39) 5 cn239) 6 rn239) 7 gn239 = fT (fT (fT (fT (fT (fT (fT (fT (fT (fT (fT vi 0 0) 11 qkx) 116 fxx) 5 cn2x) 6 rn2x) 7 gn2x) 11 qk39) 116 fx39) 5 cn239) 6 rn239) 7 gn239 := Eq.symm (Eq.trans (congrArg (fun g9 => fT g9 7 gn239) (Eq.trans (congrArg (fun g9 => fT g9 6 rn239) (Eq.trans (congrArg (fun g9 => fT g9 5 cn239) (Eq.trans (congrArg (fun g9 => fT g9 116 fx39) (up_4 rfl)) (up_3 rfl))) (up_2 rfl))) (up_1 rfl))) (up_0 rfl))
        have e9j : fT vj 12 qd39 = fT (fT vj 12 qdx) 12 qd39 := (fT_sm _ _ _ _).symm
        have e9F : fT (fT (fT (fT (fT (fT (fT (fT vF 70 f70x) 0 g39) 2 f2w39) 3 f3w39) 4 f439) 5 f539) 6 f639) 69 f6939 = fT (fT (fT (fT (fT (fT (fT (fT (fT (fT (fT (fT (fT (fT (fT vF 70 f70x) 0 gx) 2 f2wx) 3 f3wx) 4 f4x) 5 f5x) 6 f6x) 69 f69x) 69 f6939) 0 g39) 2 f2w39) 3 f3w39) 4 f439) 5 f539) 6 f639 := Eq.symm (Eq.trans (congrArg (fun g9 => fT g9 6 f639) (Eq.trans (congrArg (fun g9 => fT g9 5 f539) (Eq.trans (congrArg (fun g9 => fT g9 4 f439) (Eq.trans (congrArg (fun g9 => fT g9 3 f3w39) (Eq.trans (congrArg (fun g9 => fT g9 2 f2w39) (Eq.trans (congrArg (fun g9 => fT g9 0 g39) (up_0 rfl)) (up_6 rfl))) (up_5 rfl))) (up_4 rfl))) (up_3 rfl))) (up_2 rfl))) (up_1 rfl))
        have e9G : fT (fT (fT vG 1 gs39) 7 F39) 8 L839 = fT (fT (fT (fT (fT (fT vG 1 gsx) 7 Fx) 8 L8x) 1 gs39) 7 F39) 8 L839 := ((congrArg (fun g9 => fT (fT g9 7 F39) 8 L839) ((fT_sw _ _ _ (Nat.ne_of_beq_eq_false rfl)).trans (congrArg (fun g9 => fT g9 8 L8x) ((fT_sw _ _ _ (Nat.ne_of_beq_eq_false rfl)).trans (congrArg (fun g9 => fT g9 7 Fx) (fT_sm _ _ _ _)))))).trans ((congrArg (fun g9 => fT g9 8 L839) ((fT_sw _ _ _ (Nat.ne_of_beq_eq_false rfl)).trans (congrArg (fun g9 => fT g9 8 L8x) (fT_sm _ _ _ _)))).trans (fT_sm _ _ _ _))).symm
        have hP := wr_PG e9G (wr_PF e9F (wr_Pj e9j (wr_Pi e9i (fz_P ht hB9.1))))
        have hD := wr_DG e9G (wr_DF e9F (wr_Dj e9j (wr_Di e9i (hB9.2.weaken (fun _ q _ h => hFc q.1 h)))))
        clear e9i e9j e9F e9G
        revert hw9
        refine fz_a4 ?_
        intro f39_0 f39_1 f39_2 f39_3
        refine W.cut (pc := 50) (fun H locs ls stk => ∃ (b9 : Int32),  stk = [.int b9, .int nq] ∧ va_P (dC, dI) vwCl (WR a k h0 (fT (fT (fT (fT (fT (fT vi 0 0) 11 qk39) 116 fx39) 5 cn239) 6 rn239) 7 gn239) (fT vj 12 qd39) (fT (fT (fT (fT (fT (fT (fT (fT vF 70 f70x) 0 g39) 2 f2w39) 3 f3w39) 4 f439) 5 f539) 6 f639) 69 f6939) (fT (fT (fT vG 1 gs39) 7 F39) 8 L839)) H ∧ va_D A (WR a k h0 (fT (fT (fT (fT (fT (fT vi 0 0) 11 qk39) 116 fx39) 5 cn239) 6 rn239) 7 gn239) (fT vj 12 qd39) (fT (fT (fT (fT (fT (fT (fT (fT vF 70 f70x) 0 g39) 2 f2w39) 3 f3w39) 4 f439) 5 f539) 6 f639) 69 f6939) (fT (fT (fT vG 1 gs39) 7 F39) 8 L839)) ∧ va_S A s.heap H locs ∧ lv_has ls 3 [(0, .ref h0)]) (fun join1 => ?_) ?_
        · refine lv_if_eq (tgt := 49) hx hb dX12_count_42 (by decide) (fun c_42 => ?_) (fun c_42 => ?_)
          · have t_42 : (r39).toInt = 0 := toI_eq c_42 rfl (by decide)
            refine lv_iconst (v := 0) hx hb dX12_count_49 (by decide) ?_
            have hl : lv_has _ _ ([(0, .ref h0)]) := lv_sub hl [0] rfl
            exact join1 _ _ _ _ ⟨0, rfl, hP, hD, hS, hl⟩
          · have t_42 : ¬ (r39).toInt = 0 := toI_neq c_42 rfl (by decide)
            refine lv_iconst (v := 1) hx hb dX12_count_45 (by decide) ?_
            refine lv_goto (tgt := 50) hx hb dX12_count_46 (by decide) ?_
            have hl : lv_has _ _ ([(0, .ref h0)]) := lv_sub hl [0] rfl
            exact join1 _ _ _ _ ⟨1, rfl, hP, hD, hS, hl⟩
        · rintro H locs ls stk ⟨b9, rfl, hP, hD, hS, hl⟩
          refine lv_iadd hx hb dX12_count_50 ?_
          refine lv_istore_n hx hb dX12_count_51 rfl hl (by decide) rfl (fun ls (hl : lv_has ls _ ([(1, .int (nq + b9)), (0, .ref h0)])) => ?_)
          refine lv_aload_n hx hb dX12_count_52 rfl (lv_at hl 1 rfl) ?_
          have hFc := allFree hD hS hA
          refine va_calli (va_runV (As := []) (rest := []) ⟨hx, hb, hml, hown, hts⟩ (r_X12_nextValues l dC dI a k h0 (fT (fT (fT (fT (fT (fT vi 0 0) 11 qk39) 116 fx39) 5 cn239) 6 rn239) 7 gn239) (fT vj 12 qd39) (fT (fT (fT (fT (fT (fT (fT (fT vF 70 f70x) 0 g39) 2 f2w39) 3 f3w39) 4 f439) 5 f539) 6 f639) 69 f6939) (fT (fT (fT vG 1 gs39) 7 F39) 8 L839) vn gq (by first | with_reducible assumption | decide | omega | rfl | assumption) (by first | with_reducible assumption | decide | omega | rfl | assumption) (hM.val (VaO.box hM hva hvr)) (hva) H.size) (cwV 0 hts gwsRX12_count_2 rfl rfl rfl hd_yX12_nextValues_RX12 (by decide +kernel)) (fz_pre (va_recv hK hP (ci := 12) (q0 := 0) rfl rfl) hP hK hD) rfl rfl hl.1 rfl (lv_room (Nat.le_of_ble_eq_true rfl)) dX12_count_53 (by decide +kernel)) hS (fun q _ h => hFc q h) hFc (fun r53 f7053 t9_ H locs ht hvm hw9 hB9 hz1 hk1 hS => ?_)
          have e9F : fT (fT (fT (fT (fT (fT (fT (fT vF 70 f7053) 0 g39) 2 f2w39) 3 f3w39) 4 f439) 5 f539) 6 f639) 69 f6939 = fT (fT (fT (fT (fT (fT (fT (fT (fT vF 70 f70x) 0 g39) 2 f2w39) 3 f3w39) 4 f439) 5 f539) 6 f639) 69 f6939) 70 f7053 := Eq.symm (up_7 rfl)
          have hP := wr_PF e9F (fz_P ht hB9.1)
          have hD := wr_DF e9F (hB9.2.weaken (fun _ q _ h => hFc q.1 h))
          clear e9F
          rcases hw9 with ⟨rfl, f53_0, f53_1, f53_2⟩ | ⟨rfl, f53_0, f53_1⟩
          · have f53_0 : VaO (vF 56) (vF 57) (vF 58) f7053 vn := f53_0
            have f53_1 : ∀ q, vn ≤ q → f7053 q = f70x q := f53_1
            have f53_2 : odo (vD (vF 56) f70x) (vR (vF 56) (vF 57)) vn < odo (vD (vF 56) f7053) (vR (vF 56) (vF 57)) vn := f53_2
            refine lv_istore_n hx hb dX12_count_56 rfl hl (by decide) rfl (fun ls (hl : lv_has ls _ ([(2, .int 1), (1, .int (nq + b9)), (0, .ref h0)])) => ?_)
            refine lv_goto (tgt := 33) hx hb dX12_count_57 (by decide) ?_
            have hl : lv_has _ _ ([(0, .ref h0), (1, .int (nq + b9)), (2, .int 1)]) := lv_sub hl [2, 1, 0] rfl
            exact ih33 (nq + b9) 1 f6939 f7053 g39 f2w39 f3w39 f439 f539 f639 gs39 F39 L839 qd39 qk39 fx39 cn239 rn239 gn239 m239 _ _ _ (f39_0) (f53_0) (fun q hq => (f53_1 q hq).trans (hvr q hq)) (f39_1) (fun q hq => by (rw [f39_2 _ (by omega)]); exact ho q hq) (by (have h8 := odo_lt (f := vD (vF 56) f70x) (b := vR (vF 56) (vF 57)) vn (fun q hq => hva.dg hq)); (have h9 := hfx.resolve_left (fun h => c_34 h.1)); (have h7 := f53_2); exact Or.inr (by omega)) hP hD hS hl
          · have f53_0 : VaO (vF 56) (vF 57) (vF 58) f7053 vn := f53_0
            have f53_1 : ∀ q, vn ≤ q → f7053 q = f70x q := f53_1
            refine lv_istore_n hx hb dX12_count_56 rfl hl (by decide) rfl (fun ls (hl : lv_has ls _ ([(2, .int 0), (1, .int (nq + b9)), (0, .ref h0)])) => ?_)
            refine lv_goto (tgt := 33) hx hb dX12_count_57 (by decide) ?_
            have hl : lv_has _ _ ([(0, .ref h0), (1, .int (nq + b9)), (2, .int 0)]) := lv_sub hl [2, 1, 0] rfl
            exact ih33 (nq + b9) 0 f6939 f7053 g39 f2w39 f3w39 f439 f539 f639 gs39 F39 L839 qd39 qk39 fx39 cn239 rn239 gn239 m239 _ _ _ (f39_0) (f53_0) (fun q hq => (f53_1 q hq).trans (hvr q hq)) (f39_1) (fun q hq => by (rw [f39_2 _ (by omega)]); exact ho q hq) (by (have h8 := odo_lt (f := vD (vF 56) f70x) (b := vR (vF 56) (vF 57)) vn (fun q hq => hva.dg hq)); (have h9 := hfx.resolve_left (fun h => c_34 h.1)); exact Or.inl ⟨rfl, by omega⟩) hP hD hS hl
theorem dX12_counted_0 : decode cX12_counted 0 = .ok (.aload_n 0, 1) := dk_42 (by decide +kernel)
theorem dX12_counted_1 : decode cX12_counted 1 = .ok (.aload_n 0, 1) := dk_42 (by decide +kernel)
theorem dX12_counted_2 : decode cX12_counted 2 = .ok (.getfield 808, 3) := dk_180 (by decide +kernel)
theorem dX12_counted_5 : decode cX12_counted 5 = .ok (.ifCond .eq 7, 3) := dk_153 (by decide +kernel)
theorem dX12_counted_8 : decode cX12_counted 8 = .ok (.iconst 0, 1) := dk_3 (by decide +kernel)
theorem dX12_counted_9 : decode cX12_counted 9 = .ok (.goto 4, 3) := dk_167 (by decide +kernel)
theorem dX12_counted_12 : decode cX12_counted 12 = .ok (.iconst 1, 1) := dk_4 (by decide +kernel)
theorem dX12_counted_13 : decode cX12_counted 13 = .ok (.putfield 348, 3) := dk_181 (by decide +kernel)
theorem dX12_counted_16 : decode cX12_counted 16 = .ok (.aload_n 0, 1) := dk_42 (by decide +kernel)
theorem dX12_counted_17 : decode cX12_counted 17 = .ok (.getfield 348, 3) := dk_180 (by decide +kernel)
theorem dX12_counted_20 : decode cX12_counted 20 = .ok (.ifCond .le 5, 3) := dk_158 (by decide +kernel)
theorem dX12_counted_23 : decode cX12_counted 23 = .ok (.iconst 0, 1) := dk_3 (by decide +kernel)
theorem dX12_counted_24 : decode cX12_counted 24 = .ok (.ireturn, 1) := dk_172 (by decide +kernel)
theorem dX12_counted_25 : decode cX12_counted 25 = .ok (.iload_n 1, 1) := dk_27 (by decide +kernel)
theorem dX12_counted_26 : decode cX12_counted 26 = .ok (.ifCond .lt 24, 3) := dk_155 (by decide +kernel)
theorem dX12_counted_29 : decode cX12_counted 29 = .ok (.iload_n 2, 1) := dk_28 (by decide +kernel)
theorem dX12_counted_30 : decode cX12_counted 30 = .ok (.ifCond .lt 20, 3) := dk_155 (by decide +kernel)
theorem dX12_counted_33 : decode cX12_counted 33 = .ok (.iload_n 2, 1) := dk_28 (by decide +kernel)
theorem dX12_counted_34 : decode cX12_counted 34 = .ok (.aload_n 0, 1) := dk_42 (by decide +kernel)
theorem dX12_counted_35 : decode cX12_counted 35 = .ok (.getfield 774, 3) := dk_180 (by decide +kernel)
theorem dX12_counted_38 : decode cX12_counted 38 = .ok (.if_icmp .ge 12, 3) := dk_162 (by decide +kernel)
theorem dX12_counted_41 : decode cX12_counted 41 = .ok (.aload_n 0, 1) := dk_42 (by decide +kernel)
theorem dX12_counted_42 : decode cX12_counted 42 = .ok (.getfield 197, 3) := dk_180 (by decide +kernel)
theorem dX12_counted_45 : decode cX12_counted 45 = .ok (.iload_n 2, 1) := dk_28 (by decide +kernel)
theorem dX12_counted_46 : decode cX12_counted 46 = .ok (.iaload, 1) := dk_46 (by decide +kernel)
theorem dX12_counted_47 : decode cX12_counted 47 = .ok (.ifCond .ne 7, 3) := dk_154 (by decide +kernel)
theorem dX12_counted_50 : decode cX12_counted 50 = .ok (.sipush (-1000), 3) := dk_17 (by decide +kernel)
theorem dX12_counted_53 : decode cX12_counted 53 = .ok (.ireturn, 1) := dk_172 (by decide +kernel)
theorem dX12_counted_54 : decode cX12_counted 54 = .ok (.iconst 0, 1) := dk_3 (by decide +kernel)
theorem dX12_counted_55 : decode cX12_counted 55 = .ok (.istore_n 3, 1) := dk_62 (by decide +kernel)
theorem dX12_counted_56 : decode cX12_counted 56 = .ok (.aload_n 0, 1) := dk_42 (by decide +kernel)
theorem dX12_counted_57 : decode cX12_counted 57 = .ok (.invokevirtual 873, 3) := dk_182 (by decide +kernel)
theorem dX12_counted_60 : decode cX12_counted 60 = .ok (.iconst 1, 1) := dk_4 (by decide +kernel)
theorem dX12_counted_61 : decode cX12_counted 61 = .ok (.istore 4, 2) := dk_54 (by decide +kernel)
theorem dX12_counted_63 : decode cX12_counted 63 = .ok (.iload 4, 2) := dk_21 (by decide +kernel)
theorem dX12_counted_65 : decode cX12_counted 65 = .ok (.ifCond .eq 34, 3) := dk_153 (by decide +kernel)
theorem dX12_counted_68 : decode cX12_counted 68 = .ok (.aload_n 0, 1) := dk_42 (by decide +kernel)
theorem dX12_counted_69 : decode cX12_counted 69 = .ok (.invokevirtual 891, 3) := dk_182 (by decide +kernel)
theorem dX12_counted_72 : decode cX12_counted 72 = .ok (.ifCond .eq 18, 3) := dk_153 (by decide +kernel)
theorem dX12_counted_75 : decode cX12_counted 75 = .ok (.iload_n 3, 1) := dk_29 (by decide +kernel)
theorem dX12_counted_76 : decode cX12_counted 76 = .ok (.iload_n 1, 1) := dk_27 (by decide +kernel)
theorem dX12_counted_77 : decode cX12_counted 77 = .ok (.if_icmp .ne 10, 3) := dk_160 (by decide +kernel)
theorem dX12_counted_80 : decode cX12_counted 80 = .ok (.aload_n 0, 1) := dk_42 (by decide +kernel)
theorem dX12_counted_81 : decode cX12_counted 81 = .ok (.getfield 233, 3) := dk_180 (by decide +kernel)
theorem dX12_counted_84 : decode cX12_counted 84 = .ok (.iload_n 2, 1) := dk_28 (by decide +kernel)
theorem dX12_counted_85 : decode cX12_counted 85 = .ok (.iaload, 1) := dk_46 (by decide +kernel)
theorem dX12_counted_86 : decode cX12_counted 86 = .ok (.ireturn, 1) := dk_172 (by decide +kernel)
theorem dX12_counted_87 : decode cX12_counted 87 = .ok (.iinc 3 1, 3) := dk_132 (by decide +kernel)
theorem dX12_counted_90 : decode cX12_counted 90 = .ok (.aload_n 0, 1) := dk_42 (by decide +kernel)
theorem dX12_counted_91 : decode cX12_counted 91 = .ok (.invokevirtual 888, 3) := dk_182 (by decide +kernel)
theorem dX12_counted_94 : decode cX12_counted 94 = .ok (.istore 4, 2) := dk_54 (by decide +kernel)
theorem dX12_counted_96 : decode cX12_counted 96 = .ok (.goto (-33), 3) := dk_167 (by decide +kernel)
theorem dX12_counted_99 : decode cX12_counted 99 = .ok (.sipush (-1000), 3) := dk_17 (by decide +kernel)
theorem dX12_counted_102 : decode cX12_counted 102 = .ok (.ireturn, 1) := dk_172 (by decide +kernel)
def wsRX12_counted : List Cond := .code yX12_counted cX12_counted 5 (some .int) :: ([.fieldLink RX12 808 "OptimaWorksModel" "isModel" "Z", .fieldLink RX12 348 "OptimaWorksModel" "thrown" "I", .fieldLink RX12 774 "OptimaWorksModel" "variables" "I", .fieldLink RX12 197 "OptimaWorksModel" "whole" "[I", .fieldLink RX12 233 "OptimaWorksModel" "value" "[I"] ++ wsX120 ++ (wsV RX12 873 RX12 yX12_firstValues wsRX12_firstValues) ++ (wsV RX12 891 RX12 yX12_counts wsRX12_counts) ++ (wsV RX12 888 RX12 yX12_nextValues wsRX12_nextValues))
theorem iwsRX12_counted_in12 : ∀ w ∈ wsX120, w ∈ wsRX12_counted := fun _ h => List.mem_cons_of_mem _ (List.mem_append_left _ (List.mem_append_left _ (List.mem_append_left _ (List.mem_append_right _ h))))
theorem gwsRX12_counted_0 : GoodIn wsRX12_counted (wsV RX12 873 RX12 yX12_firstValues wsRX12_firstValues) := goodIn_sub (fun _ h => List.mem_cons_of_mem _ (List.mem_append_left _ (List.mem_append_left _ (List.mem_append_right _ h)))) (gdV (by decide +kernel) gdwsRX12_firstValues)
theorem gwsRX12_counted_1 : GoodIn wsRX12_counted (wsV RX12 891 RX12 yX12_counts wsRX12_counts) := goodIn_sub (fun _ h => List.mem_cons_of_mem _ (List.mem_append_left _ (List.mem_append_right _ h))) (gdV (by decide +kernel) gdwsRX12_counts)
theorem gwsRX12_counted_2 : GoodIn wsRX12_counted (wsV RX12 888 RX12 yX12_nextValues wsRX12_nextValues) := goodIn_sub (fun _ h => List.mem_cons_of_mem _ (List.mem_append_right _ h)) (gdV (by decide +kernel) gdwsRX12_nextValues)
theorem gdwsRX12_counted : wsRX12_counted.all goodWord = true := gdC rfl (gdA (gdA (gdA (gdA (by decide +kernel : ([.fieldLink RX12 808 "OptimaWorksModel" "isModel" "Z", .fieldLink RX12 348 "OptimaWorksModel" "thrown" "I", .fieldLink RX12 774 "OptimaWorksModel" "variables" "I", .fieldLink RX12 197 "OptimaWorksModel" "whole" "[I", .fieldLink RX12 233 "OptimaWorksModel" "value" "[I"] : List Cond).all goodWord = true) gdwsX120) (gdV (by decide +kernel) gdwsRX12_firstValues)) (gdV (by decide +kernel) gdwsRX12_counts)) (gdV (by decide +kernel) gdwsRX12_nextValues))
theorem hm_r_X12_counted_0 : (.fieldLink RX12 348 "OptimaWorksModel" "thrown" "I" : Cond) ∈ wsRX12_counted := by decide +kernel
set_option maxHeartbeats 4000000 in
set_option maxRecDepth 100000 in
/-- counted(k, v) -/
theorem r_X12_counted (l : Launch) (dC : Nat → ClassId) (dI : Nat → Nat → Nat) (a : Nat → Nat) (k : Nat → ClassId) (h0 : Nat) (vi : Nat → Int32) (vj : Nat → Int64) (vF : Nat → Nat → Int32) (vG : Nat → Nat → Int64) (vn : Nat) (mr : Nat) (gq : Nat) (dn : Nat) (kk : Int32) (vv : Int32) (mg : Nat → Int) (hBg : Bg (vF 0) mg) (hvn : vi 90 = nI vn) (hvn8 : vn ≤ 8) (hmr : vi 91 = nI mr) (hmr12 : mr ≤ 12) (hmg : vi 93 = nI gq) (hgq : gq ≤ 3) (hdn : vi 92 = nI dn) (hdn8 : dn ≤ 8) (hM : MdlB vF gq) (hlh : ∀ k, k < vn → (vF 56 k).toInt ≤ (vF 57 k).toInt) (hwm : WmO (vF 59) mr) (hAn : AnsB mg 1020) (sz : Nat) : Met l yX12_counted wsRX12_counted ({ frames := 8, cells := 0, slots := 0, locals := 203 }) (va_Pc [.ref h0, .int kk, .int vv] (fun U => U.heap.size = sz ∧ va_P (dC, dI) vwCl (WR a k h0 vi vj vF vG) U.heap ∧ va_K (dC, dI) vwCl (tX12 k) U ∧ va_D (fun _ => True) (WR a k h0 vi vj vF vG))) (va_Qi (fun (r : Int32) (u : (Nat → Int32) × (Nat → Int32) × (Nat → Int32) × (Nat → Int32) × (Nat → Int32) × (Nat → Int32) × (Nat → Int64) × (Nat → Int64) × (Nat → Int64) × (Int64) × (Int32) × (Int32) × (Int32) × (Int32) × (Int32) × (Int32) × (Nat → Int32) × (Nat → Int32) × (Nat → Int)) => (Bg (u.1) (u.2.2.2.2.2.2.2.2.2.2.2.2.2.2.2.2.2.2)) ∧ (AnsB (u.2.2.2.2.2.2.2.2.2.2.2.2.2.2.2.2.2.2) 1020) ∧ (∀ q, ((1000 ≤ q ∧ q < 1020) ∨ 1036 ≤ q) → (u.2.2.2.2.2.2.2.2.2.2.2.2.2.2.2.2.2.2) q = mg q) ∧ (∀ k, k < 9 → -999 ≤ ((u.2.2.2.2.2.2.2.2.2.2.2.2.2.2.2.2.2.1) k).toInt ∧ ((u.2.2.2.2.2.2.2.2.2.2.2.2.2.2.2.2.2.1) k).toInt ≤ 999)) (fun (u : (Nat → Int32) × (Nat → Int32) × (Nat → Int32) × (Nat → Int32) × (Nat → Int32) × (Nat → Int32) × (Nat → Int64) × (Nat → Int64) × (Nat → Int64) × (Int64) × (Int32) × (Int32) × (Int32) × (Int32) × (Int32) × (Int32) × (Nat → Int32) × (Nat → Int32) × (Nat → Int)) t => va_P (dC, dI) vwCl (WR a k h0 (fT (fT (fT (fT (fT (fT vi 0 (u.2.2.2.2.2.2.2.2.2.2.2.2.2.2.2.1)) 11 (u.2.2.2.2.2.2.2.2.2.2.1)) 116 (u.2.2.2.2.2.2.2.2.2.2.2.1)) 5 (u.2.2.2.2.2.2.2.2.2.2.2.2.1)) 6 (u.2.2.2.2.2.2.2.2.2.2.2.2.2.1)) 7 (u.2.2.2.2.2.2.2.2.2.2.2.2.2.2.1)) (fT vj 12 (u.2.2.2.2.2.2.2.2.2.1)) (fT (fT (fT (fT (fT (fT (fT (fT vF 70 (u.2.2.2.2.2.2.2.2.2.2.2.2.2.2.2.2.2.1)) 0 (u.1)) 2 (u.2.1)) 3 (u.2.2.1)) 4 (u.2.2.2.1)) 5 (u.2.2.2.2.1)) 6 (u.2.2.2.2.2.1)) 69 (u.2.2.2.2.2.2.2.2.2.2.2.2.2.2.2.2.1)) (fT (fT (fT vG 1 (u.2.2.2.2.2.2.1)) 7 (u.2.2.2.2.2.2.2.1)) 8 (u.2.2.2.2.2.2.2.2.1))) t.heap ∧ va_D (va_A (WR a k h0 vi vj vF vG) sz) (WR a k h0 (fT (fT (fT (fT (fT (fT vi 0 (u.2.2.2.2.2.2.2.2.2.2.2.2.2.2.2.1)) 11 (u.2.2.2.2.2.2.2.2.2.2.1)) 116 (u.2.2.2.2.2.2.2.2.2.2.2.1)) 5 (u.2.2.2.2.2.2.2.2.2.2.2.2.1)) 6 (u.2.2.2.2.2.2.2.2.2.2.2.2.2.1)) 7 (u.2.2.2.2.2.2.2.2.2.2.2.2.2.2.1)) (fT vj 12 (u.2.2.2.2.2.2.2.2.2.1)) (fT (fT (fT (fT (fT (fT (fT (fT vF 70 (u.2.2.2.2.2.2.2.2.2.2.2.2.2.2.2.2.2.1)) 0 (u.1)) 2 (u.2.1)) 3 (u.2.2.1)) 4 (u.2.2.2.1)) 5 (u.2.2.2.2.1)) 6 (u.2.2.2.2.2.1)) 69 (u.2.2.2.2.2.2.2.2.2.2.2.2.2.2.2.2.1)) (fT (fT (fT vG 1 (u.2.2.2.2.2.2.1)) 7 (u.2.2.2.2.2.2.2.1)) 8 (u.2.2.2.2.2.2.2.2.1)))) (va_A (WR a k h0 vi vj vF vG) sz)) 0 0 (va_A (WR a k h0 vi vj vF vG) sz) := by
  refine Met.ofW (cc := cX12_counted) (maxL := 5) (ret := (some .int)) (by decide) rfl ?_
  intro p e s m args below meth c s₁ B hml hv
  obtain ⟨rfl, hsz, hP, hK, hD0⟩ := hv
  have hx := B.exec
  have hb := B.bytes
  have hr := B.returns
  have hts := atoms_spec (ws := wsRX12_counted) B.pre
  have hown : s.vm.findClass RX12 = some m.cls := findClass_of_methodNamed B.named
  have hlocks := B.notSynchronized
  subst hsz
  have hD := hD0.self (sz := s.heap.size)
  generalize hAe : va_A (WR a k h0 vi vj vF vG) s.heap.size = A at hD ⊢
  have hA : ∀ q : Nat, s.heap.size ≤ q → A q := fun q h => by rw [← hAe]; exact Or.inr h
  have hS : va_S A s.heap s.heap [] := va_S.rf
  have hl := lv_entry ([.ref h0, .int kk, .int vv]) (n := 5) (Nat.le_of_ble_eq_true rfl)
  rw [lg_entry_eq]
  generalize (lg_sl ([.ref h0, .int kk, .int vv]) ++ List.replicate (5 - (lg_sl ([.ref h0, .int kk, .int vv])).length) Slot.unset).toArray = ls at hl ⊢
  have hl : lv_has ls 5 [(0, .ref h0), (1, .int kk), (2, .int vv)] := hl
  refine lv_aload_n hx hb dX12_counted_0 rfl (lv_at hl 0 rfl) ?_
  refine lv_aload_n hx hb dX12_counted_1 rfl (lv_at hl 0 rfl) ?_
  refine va_get (D := (dC, dI)) (ci := 12) (v := .int (vi 95)) (C := RX12) (T := TX12) (N := 163) (fs := fM (vS a vi vj)) hx hb hts iwsRX12_counted_in12 hown hK hP 0 rfl rfl 95 (by decide) (hts (.fieldLink RX12 808 "OptimaWorksModel" "isModel" "Z") (by decide +kernel)) (fun _ h9 => h9) rfl dX12_counted_2 ?_
  refine lv_if_eq (tgt := 12) hx hb dX12_counted_5 (by decide) (fun c_5 => ?_) (fun c_5 => ?_)
  · have t_5 : ((vi 95)).toInt = 0 := toI_eq c_5 rfl (by decide)
    refine lv_iconst (v := 1) hx hb dX12_counted_12 (by decide) ?_
    refine va_put (D := (dC, dI)) (ci := 12) (v := .int 1) (ty := .int) (C := RX12) (T := TX12) (N := 163) (fs := fM (vS a vi vj)) hx hb hts iwsRX12_counted_in12 tyX12 tyX12_ok nmX12 hown hK hP hD hS 0 rfl rfl 0 (by decide) (hts _ hm_r_X12_counted_0) (fun _ h9 => h9) rfl (by decide +kernel) rfl rfl (Nat.le_of_ble_eq_true rfl) dX12_counted_13 (fun H locs hP hD hS => ?_)
    have hP : va_P (dC, dI) vwCl (WR a k h0 (fT vi 0 1) vj vF vG) H := fz_w (WR_i 0 _ rfl) hP
    have hD : va_D A (WR a k h0 (fT vi 0 1) vj vF vG) := fz_wD (WR_i 0 _ rfl) hD
    refine lv_aload_n hx hb dX12_counted_16 rfl (lv_at hl 0 rfl) ?_
    refine va_get (D := (dC, dI)) (ci := 12) (v := .int 1) (C := RX12) (T := TX12) (N := 163) (fs := fM (vS a (fT vi 0 1) vj)) hx hb hts iwsRX12_counted_in12 hown hK hP 0 rfl rfl 0 (by decide) (hts _ hm_r_X12_counted_0) (fun _ h9 => h9) rfl dX12_counted_17 ?_
    refine lv_if_le (tgt := 25) hx hb dX12_counted_20 (by decide) (fun c9 => absurd c9 (by decide)) (fun _ => ?_)
    refine lv_iconst (v := 0) hx hb dX12_counted_23 (by decide) ?_
    refine W.widen (k := 0) (n := 0) (by decide +kernel) (by decide +kernel) ?_
    have e9 : fT (fT (fT (fT (fT (fT vi 0 1) 11 (vi 11)) 116 (vi 116)) 5 (vi 5)) 6 (vi 6)) 7 (vi 7) = fT vi 0 1 := Eq.trans (mv_4 rfl) (Eq.trans (id_5 rfl) (Eq.trans (mv_3 rfl) (Eq.trans (id_4 rfl) (Eq.trans (mv_2 rfl) (Eq.trans (id_3 rfl) (Eq.trans (mv_1 rfl) (Eq.trans (id_2 rfl) (id_1 rfl))))))))
    have hP := wr_Pi e9 hP
    have hD := wr_Di e9 hD
    clear e9
    have e9 : fT vj 12 (vj 12) = vj := fT_id _ _ (rfl)
    have hP := wr_Pj e9 hP
    have hD := wr_Dj e9 hD
    clear e9
    have e9 : fT (fT (fT (fT (fT (fT (fT (fT vF 70 (vF 70)) 0 (vF 0)) 2 (vF 2)) 3 (vF 3)) 4 (vF 4)) 5 (vF 5)) 6 (vF 6)) 69 (vF 69) = vF := Eq.trans (mv_7 rfl) (Eq.trans (id_7 rfl) (Eq.trans (mv_6 rfl) (Eq.trans (id_6 rfl) (Eq.trans (mv_5 rfl) (Eq.trans (id_5 rfl) (Eq.trans (mv_4 rfl) (Eq.trans (id_4 rfl) (Eq.trans (mv_3 rfl) (Eq.trans (id_3 rfl) (Eq.trans (mv_2 rfl) (Eq.trans (id_2 rfl) (Eq.trans (mv_1 rfl) (Eq.trans (id_1 rfl) (id_0 rfl))))))))))))))
    have hP := wr_PF e9 hP
    have hD := wr_DF e9 hD
    clear e9
    have e9 : fT (fT (fT vG 1 (vG 1)) 7 (vG 7)) 8 (vG 8) = vG := (fT_id _ _ ((fT_ne _ _ (Nat.ne_of_beq_eq_false rfl)).trans (fT_ne _ _ (Nat.ne_of_beq_eq_false rfl)))).trans ((fT_id _ _ (fT_ne _ _ (Nat.ne_of_beq_eq_false rfl))).trans (fT_id _ _ (rfl)))
    have hP := wr_PG e9 hP
    have hD := wr_DG e9 hD
    clear e9
    exact W.iret (v := 0) hx hb hr (fun t9_ ht hW => ⟨⟨0, ((vF 0), (vF 2), (vF 3), (vF 4), (vF 5), (vF 6), (vG 1), (vG 7), (vG 8), (vj 12), (vi 11), (vi 116), (vi 5), (vi 6), (vi 7), 1, (vF 69), (vF 70), mg), rfl, by (try dsimp only); exact ⟨hBg, hAn, fun q _ => rfl, hM.2.2.2.2.2.2⟩, by rw [ht]; exact hP, hD⟩, hS.F ht⟩) hS.2.2 dX12_counted_24
  · have t_5 : ¬ ((vi 95)).toInt = 0 := toI_neq c_5 rfl (by decide)
    refine lv_iconst (v := 0) hx hb dX12_counted_8 (by decide) ?_
    refine lv_goto (tgt := 13) hx hb dX12_counted_9 (by decide) ?_
    refine va_put (D := (dC, dI)) (ci := 12) (v := .int 0) (ty := .int) (C := RX12) (T := TX12) (N := 163) (fs := fM (vS a vi vj)) hx hb hts iwsRX12_counted_in12 tyX12 tyX12_ok nmX12 hown hK hP hD hS 0 rfl rfl 0 (by decide) (hts _ hm_r_X12_counted_0) (fun _ h9 => h9) rfl (by decide +kernel) rfl rfl (Nat.le_of_ble_eq_true rfl) dX12_counted_13 (fun H locs hP hD hS => ?_)
    have hP : va_P (dC, dI) vwCl (WR a k h0 (fT vi 0 0) vj vF vG) H := fz_w (WR_i 0 _ rfl) hP
    have hD : va_D A (WR a k h0 (fT vi 0 0) vj vF vG) := fz_wD (WR_i 0 _ rfl) hD
    refine lv_aload_n hx hb dX12_counted_16 rfl (lv_at hl 0 rfl) ?_
    refine va_get (D := (dC, dI)) (ci := 12) (v := .int 0) (C := RX12) (T := TX12) (N := 163) (fs := fM (vS a (fT vi 0 0) vj)) hx hb hts iwsRX12_counted_in12 hown hK hP 0 rfl rfl 0 (by decide) (hts _ hm_r_X12_counted_0) (fun _ h9 => h9) rfl dX12_counted_17 ?_
    refine lv_if_le (tgt := 25) hx hb dX12_counted_20 (by decide) (fun _ => ?_) (fun c9 => absurd (by decide) c9)
    refine lv_iload_n hx hb dX12_counted_25 rfl (lv_at hl 1 rfl) ?_
    refine lv_if_lt (tgt := 50) hx hb dX12_counted_26 (by decide) (fun c_26 => ?_) (fun c_26 => ?_)
    · have t_26 : (kk).toInt < 0 := toI_lt c_26 rfl (by decide)
      refine lv_sipush (v := (-1000)) hx hb dX12_counted_50 (by decide) ?_
      refine W.widen (k := 0) (n := 0) (by decide +kernel) (by decide +kernel) ?_
      have e9 : fT (fT (fT (fT (fT (fT vi 0 0) 11 (vi 11)) 116 (vi 116)) 5 (vi 5)) 6 (vi 6)) 7 (vi 7) = fT vi 0 0 := Eq.trans (mv_4 rfl) (Eq.trans (id_5 rfl) (Eq.trans (mv_3 rfl) (Eq.trans (id_4 rfl) (Eq.trans (mv_2 rfl) (Eq.trans (id_3 rfl) (Eq.trans (mv_1 rfl) (Eq.trans (id_2 rfl) (id_1 rfl))))))))
      have hP := wr_Pi e9 hP
      have hD := wr_Di e9 hD
      clear e9
      have e9 : fT vj 12 (vj 12) = vj := fT_id _ _ (rfl)
      have hP := wr_Pj e9 hP
      have hD := wr_Dj e9 hD
      clear e9
      have e9 : fT (fT (fT (fT (fT (fT (fT (fT vF 70 (vF 70)) 0 (vF 0)) 2 (vF 2)) 3 (vF 3)) 4 (vF 4)) 5 (vF 5)) 6 (vF 6)) 69 (vF 69) = vF := Eq.trans (mv_7 rfl) (Eq.trans (id_7 rfl) (Eq.trans (mv_6 rfl) (Eq.trans (id_6 rfl) (Eq.trans (mv_5 rfl) (Eq.trans (id_5 rfl) (Eq.trans (mv_4 rfl) (Eq.trans (id_4 rfl) (Eq.trans (mv_3 rfl) (Eq.trans (id_3 rfl) (Eq.trans (mv_2 rfl) (Eq.trans (id_2 rfl) (Eq.trans (mv_1 rfl) (Eq.trans (id_1 rfl) (id_0 rfl))))))))))))))
      have hP := wr_PF e9 hP
      have hD := wr_DF e9 hD
      clear e9
      have e9 : fT (fT (fT vG 1 (vG 1)) 7 (vG 7)) 8 (vG 8) = vG := (fT_id _ _ ((fT_ne _ _ (Nat.ne_of_beq_eq_false rfl)).trans (fT_ne _ _ (Nat.ne_of_beq_eq_false rfl)))).trans ((fT_id _ _ (fT_ne _ _ (Nat.ne_of_beq_eq_false rfl))).trans (fT_id _ _ (rfl)))
      have hP := wr_PG e9 hP
      have hD := wr_DG e9 hD
      clear e9
      exact W.iret (v := (-1000)) hx hb hr (fun t9_ ht hW => ⟨⟨(-1000), ((vF 0), (vF 2), (vF 3), (vF 4), (vF 5), (vF 6), (vG 1), (vG 7), (vG 8), (vj 12), (vi 11), (vi 116), (vi 5), (vi 6), (vi 7), 0, (vF 69), (vF 70), mg), rfl, by (try dsimp only); exact ⟨hBg, hAn, fun q _ => rfl, hM.2.2.2.2.2.2⟩, by rw [ht]; exact hP, hD⟩, hS.F ht⟩) hS.2.2 dX12_counted_53
    · have t_26 : ¬ (kk).toInt < 0 := toI_nlt c_26 rfl (by decide)
      refine lv_iload_n hx hb dX12_counted_29 rfl (lv_at hl 2 rfl) ?_
      refine lv_if_lt (tgt := 50) hx hb dX12_counted_30 (by decide) (fun c_30 => ?_) (fun c_30 => ?_)
      · have t_30 : (vv).toInt < 0 := toI_lt c_30 rfl (by decide)
        refine lv_sipush (v := (-1000)) hx hb dX12_counted_50 (by decide) ?_
        refine W.widen (k := 0) (n := 0) (by decide +kernel) (by decide +kernel) ?_
        have e9 : fT (fT (fT (fT (fT (fT vi 0 0) 11 (vi 11)) 116 (vi 116)) 5 (vi 5)) 6 (vi 6)) 7 (vi 7) = fT vi 0 0 := Eq.trans (mv_4 rfl) (Eq.trans (id_5 rfl) (Eq.trans (mv_3 rfl) (Eq.trans (id_4 rfl) (Eq.trans (mv_2 rfl) (Eq.trans (id_3 rfl) (Eq.trans (mv_1 rfl) (Eq.trans (id_2 rfl) (id_1 rfl))))))))
        have hP := wr_Pi e9 hP
        have hD := wr_Di e9 hD
        clear e9
        have e9 : fT vj 12 (vj 12) = vj := fT_id _ _ (rfl)
        have hP := wr_Pj e9 hP
        have hD := wr_Dj e9 hD
        clear e9
        have e9 : fT (fT (fT (fT (fT (fT (fT (fT vF 70 (vF 70)) 0 (vF 0)) 2 (vF 2)) 3 (vF 3)) 4 (vF 4)) 5 (vF 5)) 6 (vF 6)) 69 (vF 69) = vF := Eq.trans (mv_7 rfl) (Eq.trans (id_7 rfl) (Eq.trans (mv_6 rfl) (Eq.trans (id_6 rfl) (Eq.trans (mv_5 rfl) (Eq.trans (id_5 rfl) (Eq.trans (mv_4 rfl) (Eq.trans (id_4 rfl) (Eq.trans (mv_3 rfl) (Eq.trans (id_3 rfl) (Eq.trans (mv_2 rfl) (Eq.trans (id_2 rfl) (Eq.trans (mv_1 rfl) (Eq.trans (id_1 rfl) (id_0 rfl))))))))))))))
        have hP := wr_PF e9 hP
        have hD := wr_DF e9 hD
        clear e9
        have e9 : fT (fT (fT vG 1 (vG 1)) 7 (vG 7)) 8 (vG 8) = vG := (fT_id _ _ ((fT_ne _ _ (Nat.ne_of_beq_eq_false rfl)).trans (fT_ne _ _ (Nat.ne_of_beq_eq_false rfl)))).trans ((fT_id _ _ (fT_ne _ _ (Nat.ne_of_beq_eq_false rfl))).trans (fT_id _ _ (rfl)))
        have hP := wr_PG e9 hP
        have hD := wr_DG e9 hD
        clear e9
        exact W.iret (v := (-1000)) hx hb hr (fun t9_ ht hW => ⟨⟨(-1000), ((vF 0), (vF 2), (vF 3), (vF 4), (vF 5), (vF 6), (vG 1), (vG 7), (vG 8), (vj 12), (vi 11), (vi 116), (vi 5), (vi 6), (vi 7), 0, (vF 69), (vF 70), mg), rfl, by (try dsimp only); exact ⟨hBg, hAn, fun q _ => rfl, hM.2.2.2.2.2.2⟩, by rw [ht]; exact hP, hD⟩, hS.F ht⟩) hS.2.2 dX12_counted_53
      · have t_30 : ¬ (vv).toInt < 0 := toI_nlt c_30 rfl (by decide)
        refine lv_iload_n hx hb dX12_counted_33 rfl (lv_at hl 2 rfl) ?_
        refine lv_aload_n hx hb dX12_counted_34 rfl (lv_at hl 0 rfl) ?_
        refine va_get (D := (dC, dI)) (ci := 12) (v := .int (vi 90)) (C := RX12) (T := TX12) (N := 163) (fs := fM (vS a (fT vi 0 0) vj)) hx hb hts iwsRX12_counted_in12 hown hK hP 0 rfl rfl 90 (by decide) (hts (.fieldLink RX12 774 "OptimaWorksModel" "variables" "I") (by decide +kernel)) (fun _ h9 => h9) rfl dX12_counted_35 ?_
        refine lv_topi (fun y1 hy1 => ?_)
        obtain rfl : (nI vn) = y1 := (hy1.trans (hvn)).symm
        refine lv_icmp_ge (tgt := 50) hx hb dX12_counted_38 (by decide) (fun c_38 => ?_) (fun c_38 => ?_)
        · have t_38 : (vv).toInt ≥ ((vn : Nat) : Int) := toI_ge c_38 rfl (nI_toInt (by omega))
          refine lv_sipush (v := (-1000)) hx hb dX12_counted_50 (by decide) ?_
          refine W.widen (k := 0) (n := 0) (by decide +kernel) (by decide +kernel) ?_
          have e9 : fT (fT (fT (fT (fT (fT vi 0 0) 11 (vi 11)) 116 (vi 116)) 5 (vi 5)) 6 (vi 6)) 7 (vi 7) = fT vi 0 0 := Eq.trans (mv_4 rfl) (Eq.trans (id_5 rfl) (Eq.trans (mv_3 rfl) (Eq.trans (id_4 rfl) (Eq.trans (mv_2 rfl) (Eq.trans (id_3 rfl) (Eq.trans (mv_1 rfl) (Eq.trans (id_2 rfl) (id_1 rfl))))))))
          have hP := wr_Pi e9 hP
          have hD := wr_Di e9 hD
          clear e9
          have e9 : fT vj 12 (vj 12) = vj := fT_id _ _ (rfl)
          have hP := wr_Pj e9 hP
          have hD := wr_Dj e9 hD
          clear e9
          have e9 : fT (fT (fT (fT (fT (fT (fT (fT vF 70 (vF 70)) 0 (vF 0)) 2 (vF 2)) 3 (vF 3)) 4 (vF 4)) 5 (vF 5)) 6 (vF 6)) 69 (vF 69) = vF := Eq.trans (mv_7 rfl) (Eq.trans (id_7 rfl) (Eq.trans (mv_6 rfl) (Eq.trans (id_6 rfl) (Eq.trans (mv_5 rfl) (Eq.trans (id_5 rfl) (Eq.trans (mv_4 rfl) (Eq.trans (id_4 rfl) (Eq.trans (mv_3 rfl) (Eq.trans (id_3 rfl) (Eq.trans (mv_2 rfl) (Eq.trans (id_2 rfl) (Eq.trans (mv_1 rfl) (Eq.trans (id_1 rfl) (id_0 rfl))))))))))))))
          have hP := wr_PF e9 hP
          have hD := wr_DF e9 hD
          clear e9
          have e9 : fT (fT (fT vG 1 (vG 1)) 7 (vG 7)) 8 (vG 8) = vG := (fT_id _ _ ((fT_ne _ _ (Nat.ne_of_beq_eq_false rfl)).trans (fT_ne _ _ (Nat.ne_of_beq_eq_false rfl)))).trans ((fT_id _ _ (fT_ne _ _ (Nat.ne_of_beq_eq_false rfl))).trans (fT_id _ _ (rfl)))
          have hP := wr_PG e9 hP
          have hD := wr_DG e9 hD
          clear e9
          exact W.iret (v := (-1000)) hx hb hr (fun t9_ ht hW => ⟨⟨(-1000), ((vF 0), (vF 2), (vF 3), (vF 4), (vF 5), (vF 6), (vG 1), (vG 7), (vG 8), (vj 12), (vi 11), (vi 116), (vi 5), (vi 6), (vi 7), 0, (vF 69), (vF 70), mg), rfl, by (try dsimp only); exact ⟨hBg, hAn, fun q _ => rfl, hM.2.2.2.2.2.2⟩, by rw [ht]; exact hP, hD⟩, hS.F ht⟩) hS.2.2 dX12_counted_53
        · have t_38 : ¬ (vv).toInt ≥ ((vn : Nat) : Int) := toI_nge c_38 rfl (nI_toInt (by omega))
          refine lv_aload_n hx hb dX12_counted_41 rfl (lv_at hl 0 rfl) ?_
          refine va_get (D := (dC, dI)) (ci := 12) (v := .ref (a 58)) (C := RX12) (T := TX12) (N := 163) (fs := fM (vS a (fT vi 0 0) vj)) hx hb hts iwsRX12_counted_in12 hown hK hP 0 rfl rfl 98 (by decide) (hts (.fieldLink RX12 197 "OptimaWorksModel" "whole" "[I") (by decide +kernel)) (fun _ h9 => h9) rfl dX12_counted_42 ?_
          refine lv_iload_n hx hb dX12_counted_45 rfl (lv_at hl 2 rfl) ?_
          refine va_iald (cA := k 58) (n := 9) (f := (vF 58)) hx hb hK hP 59 58 (WR_get 58 (by decide)) (TR_get 58 (by decide)) (vp_in_iff.mpr (by omega)) dX12_counted_46 ?_
          refine lv_if_ne (tgt := 54) hx hb dX12_counted_47 (by decide) (fun c_47 => ?_) (fun c_47 => ?_)
          · have t_47 : (((vF 58) (vv).toNatClampNeg)).toInt ≠ 0 := toI_ne c_47 rfl (by decide)
            refine lv_iconst (v := 0) hx hb dX12_counted_54 (by decide) ?_
            refine lv_istore_n hx hb dX12_counted_55 rfl hl (by decide) rfl (fun ls (hl : lv_has ls _ ([(3, .int 0), (0, .ref h0), (1, .int kk), (2, .int vv)])) => ?_)
            refine lv_aload_n hx hb dX12_counted_56 rfl (lv_at hl 1 rfl) ?_
            have hFc := allFree hD hS hA
            refine va_callv (va_runV (As := []) (rest := []) ⟨hx, hb, hml, hown, hts⟩ (r_X12_firstValues l dC dI a k h0 (fT vi 0 0) vj vF vG vn (by first | with_reducible assumption | decide | omega | rfl | assumption) (by first | with_reducible assumption | decide | omega | rfl | assumption) H.size) (cwV 0 hts gwsRX12_counted_0 rfl rfl rfl hd_yX12_firstValues_RX12 (by decide +kernel)) (fz_pre (va_recv hK hP (ci := 12) (q0 := 0) rfl rfl) hP hK hD) rfl rfl hl.1 rfl (lv_room (Nat.le_of_ble_eq_true rfl)) dX12_counted_57 (by decide +kernel)) hS (fun q _ h => hFc q h) hFc (fun f7057 t9_ H locs ht hvm hw9 hB9 hz1 hk1 hS => ?_)
            have hP : va_P (dC, dI) vwCl (WR a k h0 (fT vi 0 0) vj (fT vF 70 f7057) vG) H := fz_P ht hB9.1
            have hD := fz_sd hP (hB9.2.weaken (fun _ q _ h => hFc q.1 h)) rfl
            revert hw9
            refine fz_a2 ?_
            intro f57_0 f57_1
            have f57_0 : ∀ k, k < vn → f7057 k = (vF 56) k := f57_0
            have f57_1 : ∀ k, vn ≤ k → f7057 k = (vF 70) k := f57_1
            refine lv_iconst (v := 1) hx hb dX12_counted_60 (by decide) ?_
            refine lv_istore hx hb dX12_counted_61 hl (by decide) rfl (fun ls (hl : lv_has ls _ ([(4, .int 1), (3, .int 0), (0, .ref h0), (1, .int kk), (2, .int vv)])) => ?_)
            have e9 : fT (fT (fT (fT (fT (fT vi 0 0) 11 (vi 11)) 116 (vi 116)) 5 (vi 5)) 6 (vi 6)) 7 (vi 7) = fT vi 0 0 := Eq.trans (mv_4 rfl) (Eq.trans (id_5 rfl) (Eq.trans (mv_3 rfl) (Eq.trans (id_4 rfl) (Eq.trans (mv_2 rfl) (Eq.trans (id_3 rfl) (Eq.trans (mv_1 rfl) (Eq.trans (id_2 rfl) (id_1 rfl))))))))
            have hP := wr_Pi e9 hP
            have hD := wr_Di e9 hD
            clear e9
            have e9 : fT vj 12 (vj 12) = vj := by funext q9; by_cases h9_12 : q9 = 12; (subst h9_12; exact (fT_eq _ _ _).trans (Eq.trans (by first | with_reducible rfl | with_reducible assumption | (symm; with_reducible assumption) | rfl | assumption | (symm; assumption) | (subst_vars; rfl)) (Eq.refl _).symm)); exact (fT_ne _ _ h9_12).trans (Eq.refl _).symm
            have hP := wr_Pj e9 hP
            have hD := wr_Dj e9 hD
            clear e9
            have e9 : fT (fT (fT (fT (fT (fT (fT (fT vF 70 f7057) 0 (vF 0)) 2 (vF 2)) 3 (vF 3)) 4 (vF 4)) 5 (vF 5)) 6 (vF 6)) 69 (vF 69) = fT vF 70 f7057 := Eq.trans (mv_6 rfl) (Eq.trans (id_7 rfl) (Eq.trans (mv_5 rfl) (Eq.trans (id_6 rfl) (Eq.trans (mv_4 rfl) (Eq.trans (id_5 rfl) (Eq.trans (mv_3 rfl) (Eq.trans (id_4 rfl) (Eq.trans (mv_2 rfl) (Eq.trans (id_3 rfl) (Eq.trans (mv_1 rfl) (Eq.trans (id_2 rfl) (id_1 rfl))))))))))))
            have hP := wr_PF e9 hP
            have hD := wr_DF e9 hD
            clear e9
            have e9 : fT (fT (fT vG 1 (vG 1)) 7 (vG 7)) 8 (vG 8) = vG := Eq.trans (mv_2 rfl) (Eq.trans (id_2 rfl) (Eq.trans (mv_1 rfl) (Eq.trans (id_1 rfl) (id_0 rfl))))
            have hP := wr_PG e9 hP
            have hD := wr_DG e9 hD
            clear e9
            have hl : lv_has _ _ ([(0, .ref h0), (1, .int kk), (2, .int vv), (3, .int 0), (4, .int 1)]) := lv_sub hl [2, 3, 4, 1, 0] rfl
            refine (fun (loop : ∀ (n9 : Nat) (nq : Int32) (mo : Int32) (f69x : Nat → Int32) (f70x : Nat → Int32) (gx : Nat → Int32) (f2wx : Nat → Int32) (f3wx : Nat → Int32) (f4x : Nat → Int32) (f5x : Nat → Int32) (f6x : Nat → Int32) (gsx : Nat → Int64) (Fx : Nat → Int64) (L8x : Nat → Int64) (qdx : Int64) (qkx : Int32) (fxx : Int32) (cn2x : Int32) (rn2x : Int32) (gn2x : Int32) (m1 : Nat → Int) (H : Heap) (locs : List Loc) (ls : Array Slot), (Bg gx m1) → (VaO (vF 56) (vF 57) (vF 58) f70x vn) → (∀ q, vn ≤ q → f70x q = vF 70 q) → (AnsB m1 1020) → (∀ q, ((1000 ≤ q ∧ q < 1020) ∨ 1036 ≤ q) → m1 q = mg q) →  ((mo = 0 ∧ 0 < n9) ∨ odoP (vR (vF 56) (vF 57)) vn < odo (vD (vF 56) f70x) (vR (vF 56) (vF 57)) vn + n9) → va_P (dC, dI) vwCl (WR a k h0 (fT (fT (fT (fT (fT (fT vi 0 0) 11 qkx) 116 fxx) 5 cn2x) 6 rn2x) 7 gn2x) (fT vj 12 qdx) (fT (fT (fT (fT (fT (fT (fT (fT vF 70 f70x) 0 gx) 2 f2wx) 3 f3wx) 4 f4x) 5 f5x) 6 f6x) 69 f69x) (fT (fT (fT vG 1 gsx) 7 Fx) 8 L8x)) H → va_D A (WR a k h0 (fT (fT (fT (fT (fT (fT vi 0 0) 11 qkx) 116 fxx) 5 cn2x) 6 rn2x) 7 gn2x) (fT vj 12 qdx) (fT (fT (fT (fT (fT (fT (fT (fT vF 70 f70x) 0 gx) 2 f2wx) 3 f3wx) 4 f4x) 5 f5x) 6 f6x) 69 f69x) (fT (fT (fT vG 1 gsx) 7 Fx) 8 L8x)) → va_S A s.heap H locs → lv_has ls 5 [(0, .ref h0), (1, .int kk), (2, .int vv), (3, .int nq), (4, .int mo)] → W p l e _ s m _ below meth c H locs 0 0 _ (F0 m 63 ls [])) => loop (odoP (vR (vF 56) (vF 57)) vn + 1) 0 1 (vF 69) f7057 (vF 0) (vF 2) (vF 3) (vF 4) (vF 5) (vF 6) (vG 1) (vG 7) (vG 8) (vj 12) (vi 11) (vi 116) (vi 5) (vi 6) (vi 7) mg _ _ _ (hBg) (VaO.first hlh f57_0) (f57_1) (hAn) (fun q _ => rfl) (Or.inr (by omega)) hP hD hS hl) ?_
            intro n9
            induction n9 with
            | zero => intro nq mo f69x f70x gx f2wx f3wx f4x f5x f6x gsx Fx L8x qdx qkx fxx cn2x rn2x gn2x m1 H locs ls hB1 hva hvr hA1 ho hf9; exact False.elim (by (have h9 := odo_lt (f := vD (vF 56) f70x) (b := vR (vF 56) (vF 57)) vn (fun q hq => hva.dg hq)); omega)
            | succ n9 ih63 =>
              intro nq mo f69x f70x gx f2wx f3wx f4x f5x f6x gsx Fx L8x qdx qkx fxx cn2x rn2x gn2x m1 H locs ls hB1 hva hvr hA1 ho hf63 hP hD hS hl
              have hfx := hf63
              refine lv_iload hx hb dX12_counted_63 (lv_at hl 4 rfl) ?_
              refine lv_if_eq (tgt := 99) hx hb dX12_counted_65 (by decide) (fun c_65 => ?_) (fun c_65 => ?_)
              · have t_65 : (mo).toInt = 0 := toI_eq c_65 rfl (by decide)
                refine lv_sipush (v := (-1000)) hx hb dX12_counted_99 (by decide) ?_
                refine W.widen (k := 0) (n := 0) (by decide +kernel) (by decide +kernel) ?_
                exact W.iret (v := (-1000)) hx hb hr (fun t9_ ht hW => ⟨⟨(-1000), (gx, f2wx, f3wx, f4x, f5x, f6x, gsx, Fx, L8x, qdx, qkx, fxx, cn2x, rn2x, gn2x, 0, f69x, f70x, m1), rfl, by (try dsimp only); exact ⟨hB1, hA1, ho, VaO.box hM hva hvr⟩, by rw [ht]; exact hP, hD⟩, hS.F ht⟩) hS.2.2 dX12_counted_102
              · have t_65 : ¬ (mo).toInt = 0 := toI_neq c_65 rfl (by decide)
                refine lv_aload_n hx hb dX12_counted_68 rfl (lv_at hl 0 rfl) ?_
                have hFc := allFree hD hS hA
                refine va_calli (va_runV (As := []) (rest := []) ⟨hx, hb, hml, hown, hts⟩ (r_X12_counts l dC dI a k h0 (fT (fT (fT (fT (fT (fT vi 0 0) 11 qkx) 116 fxx) 5 cn2x) 6 rn2x) 7 gn2x) (fT vj 12 qdx) (fT (fT (fT (fT (fT (fT (fT (fT vF 70 f70x) 0 gx) 2 f2wx) 3 f3wx) 4 f4x) 5 f5x) 6 f6x) 69 f69x) (fT (fT (fT vG 1 gsx) 7 Fx) 8 L8x) vn mr gq dn m1 hB1 (by first | with_reducible assumption | decide | omega | rfl | assumption) (by first | with_reducible assumption | decide | omega | rfl | assumption) (by first | with_reducible assumption | decide | omega | rfl | assumption) (by first | with_reducible assumption | decide | omega | rfl | assumption) (by first | with_reducible assumption | decide | omega | rfl | assumption) (by first | with_reducible assumption | decide | omega | rfl | assumption) (by first | with_reducible assumption | decide | omega | rfl | assumption) (by first | with_reducible assumption | decide | omega | rfl | assumption) (hM.val (VaO.box hM hva hvr)) (by first | with_reducible assumption | decide | omega | rfl | assumption) (by first | with_reducible assumption | decide | omega | rfl | assumption) (hA1) H.size) (cwV 0 hts gwsRX12_counted_1 rfl rfl rfl hd_yX12_counts_RX12 (by decide +kernel)) (fz_pre (va_recv hK hP (ci := 12) (q0 := 0) rfl rfl) hP hK hD) rfl rfl hl.1 rfl (lv_room (Nat.le_of_ble_eq_true rfl)) dX12_counted_69 (by decide +kernel)) hS (fun q _ h => hFc q h) hFc (fun r69 u t9_ H locs ht hvm hw9 hB9 hz1 hk1 hS => ?_)
                revert u hw9 hB9
                refine fz_p17 ?_
                intro g69 f2w69 f3w69 f469 f569 f669 gs69 F69 L869 qd69 qk69 fx69 cn269 rn269 gn269 f6969 m269 hw9 hB9
                try dsimp only at hw9 hB9
                have e9i : fT (fT (fT (fT (fT (fT vi 0 0) 11 qk69) 116 fx69) 5 cn269) 6 rn269) 7 gn269 = fT (fT (fT (fT (fT (fT (fT (fT (fT (fT (fT vi 0 0) 11 qkx) 116 fxx) 5 cn2x) 6 rn2x) 7 gn2x) 11 qk69) 116 fx69) 5 cn269) 6 rn269) 7 gn269 := Eq.symm (Eq.trans (congrArg (fun g9 => fT g9 7 gn269) (Eq.trans (congrArg (fun g9 => fT g9 6 rn269) (Eq.trans (congrArg (fun g9 => fT g9 5 cn269) (Eq.trans (congrArg (fun g9 => fT g9 116 fx69) (up_4 rfl)) (up_3 rfl))) (up_2 rfl))) (up_1 rfl))) (up_0 rfl))
                have e9j : fT vj 12 qd69 = fT (fT vj 12 qdx) 12 qd69 := (fT_sm _ _ _ _).symm
                have e9F : fT (fT (fT (fT (fT (fT (fT (fT vF 70 f70x) 0 g69) 2 f2w69) 3 f3w69) 4 f469) 5 f569) 6 f669) 69 f6969 = fT (fT (fT (fT (fT (fT (fT (fT (fT (fT (fT (fT (fT (fT (fT vF 70 f70x) 0 gx) 2 f2wx) 3 f3wx) 4 f4x) 5 f5x) 6 f6x) 69 f69x) 69 f6969) 0 g69) 2 f2w69) 3 f3w69) 4 f469) 5 f569) 6 f669 := Eq.symm (Eq.trans (congrArg (fun g9 => fT g9 6 f669) (Eq.trans (congrArg (fun g9 => fT g9 5 f569) (Eq.trans (congrArg (fun g9 => fT g9 4 f469) (Eq.trans (congrArg (fun g9 => fT g9 3 f3w69) (Eq.trans (congrArg (fun g9 => fT g9 2 f2w69) (Eq.trans (congrArg (fun g9 => fT g9 0 g69) (up_0 rfl)) (up_6 rfl))) (up_5 rfl))) (up_4 rfl))) (up_3 rfl))) (up_2 rfl))) (up_1 rfl))
                have e9G : fT (fT (fT vG 1 gs69) 7 F69) 8 L869 = fT (fT (fT (fT (fT (fT vG 1 gsx) 7 Fx) 8 L8x) 1 gs69) 7 F69) 8 L869 := ((congrArg (fun g9 => fT (fT g9 7 F69) 8 L869) ((fT_sw _ _ _ (Nat.ne_of_beq_eq_false rfl)).trans (congrArg (fun g9 => fT g9 8 L8x) ((fT_sw _ _ _ (Nat.ne_of_beq_eq_false rfl)).trans (congrArg (fun g9 => fT g9 7 Fx) (fT_sm _ _ _ _)))))).trans ((congrArg (fun g9 => fT g9 8 L869) ((fT_sw _ _ _ (Nat.ne_of_beq_eq_false rfl)).trans (congrArg (fun g9 => fT g9 8 L8x) (fT_sm _ _ _ _)))).trans (fT_sm _ _ _ _))).symm
                have hP := wr_PG e9G (wr_PF e9F (wr_Pj e9j (wr_Pi e9i (fz_P ht hB9.1))))
                have hD := wr_DG e9G (wr_DF e9F (wr_Dj e9j (wr_Di e9i (hB9.2.weaken (fun _ q _ h => hFc q.1 h)))))
                clear e9i e9j e9F e9G
                revert hw9
                refine fz_a4 ?_
                intro f69_0 f69_1 f69_2 f69_3
                refine lv_if_eq (tgt := 90) hx hb dX12_counted_72 (by decide) (fun c_72 => ?_) (fun c_72 => ?_)
                · have t_72 : (r69).toInt = 0 := toI_eq c_72 rfl (by decide)
                  refine lv_aload_n hx hb dX12_counted_90 rfl (lv_at hl 0 rfl) ?_
                  have hFc := allFree hD hS hA
                  refine va_calli (va_runV (As := []) (rest := []) ⟨hx, hb, hml, hown, hts⟩ (r_X12_nextValues l dC dI a k h0 (fT (fT (fT (fT (fT (fT vi 0 0) 11 qk69) 116 fx69) 5 cn269) 6 rn269) 7 gn269) (fT vj 12 qd69) (fT (fT (fT (fT (fT (fT (fT (fT vF 70 f70x) 0 g69) 2 f2w69) 3 f3w69) 4 f469) 5 f569) 6 f669) 69 f6969) (fT (fT (fT vG 1 gs69) 7 F69) 8 L869) vn gq (by first | with_reducible assumption | decide | omega | rfl | assumption) (by first | with_reducible assumption | decide | omega | rfl | assumption) (hM.val (VaO.box hM hva hvr)) (hva) H.size) (cwV 0 hts gwsRX12_counted_2 rfl rfl rfl hd_yX12_nextValues_RX12 (by decide +kernel)) (fz_pre (va_recv hK hP (ci := 12) (q0 := 0) rfl rfl) hP hK hD) rfl rfl hl.1 rfl (lv_room (Nat.le_of_ble_eq_true rfl)) dX12_counted_91 (by decide +kernel)) hS (fun q _ h => hFc q h) hFc (fun r91 f7091 t9_ H locs ht hvm hw9 hB9 hz1 hk1 hS => ?_)
                  have e9F : fT (fT (fT (fT (fT (fT (fT (fT vF 70 f7091) 0 g69) 2 f2w69) 3 f3w69) 4 f469) 5 f569) 6 f669) 69 f6969 = fT (fT (fT (fT (fT (fT (fT (fT (fT vF 70 f70x) 0 g69) 2 f2w69) 3 f3w69) 4 f469) 5 f569) 6 f669) 69 f6969) 70 f7091 := Eq.symm (up_7 rfl)
                  have hP := wr_PF e9F (fz_P ht hB9.1)
                  have hD := wr_DF e9F (hB9.2.weaken (fun _ q _ h => hFc q.1 h))
                  clear e9F
                  rcases hw9 with ⟨rfl, f91_0, f91_1, f91_2⟩ | ⟨rfl, f91_0, f91_1⟩
                  · have f91_0 : VaO (vF 56) (vF 57) (vF 58) f7091 vn := f91_0
                    have f91_1 : ∀ q, vn ≤ q → f7091 q = f70x q := f91_1
                    have f91_2 : odo (vD (vF 56) f70x) (vR (vF 56) (vF 57)) vn < odo (vD (vF 56) f7091) (vR (vF 56) (vF 57)) vn := f91_2
                    refine lv_istore hx hb dX12_counted_94 hl (by decide) rfl (fun ls (hl : lv_has ls _ ([(4, .int 1), (0, .ref h0), (1, .int kk), (2, .int vv), (3, .int nq)])) => ?_)
                    refine lv_goto (tgt := 63) hx hb dX12_counted_96 (by decide) ?_
                    have hl : lv_has _ _ ([(0, .ref h0), (1, .int kk), (2, .int vv), (3, .int nq), (4, .int 1)]) := lv_sub hl [1, 2, 3, 4, 0] rfl
                    exact ih63 nq 1 f6969 f7091 g69 f2w69 f3w69 f469 f569 f669 gs69 F69 L869 qd69 qk69 fx69 cn269 rn269 gn269 m269 _ _ _ (f69_0) (f91_0) (fun q hq => (f91_1 q hq).trans (hvr q hq)) (f69_1) (fun q hq => by (rw [f69_2 _ (by omega)]); exact ho q hq) (by (have h8 := odo_lt (f := vD (vF 56) f70x) (b := vR (vF 56) (vF 57)) vn (fun q hq => hva.dg hq)); (have h9 := hfx.resolve_left (fun h => c_65 h.1)); (have h7 := f91_2); exact Or.inr (by omega)) hP hD hS hl
                  · have f91_0 : VaO (vF 56) (vF 57) (vF 58) f7091 vn := f91_0
                    have f91_1 : ∀ q, vn ≤ q → f7091 q = f70x q := f91_1
                    refine lv_istore hx hb dX12_counted_94 hl (by decide) rfl (fun ls (hl : lv_has ls _ ([(4, .int 0), (0, .ref h0), (1, .int kk), (2, .int vv), (3, .int nq)])) => ?_)
                    refine lv_goto (tgt := 63) hx hb dX12_counted_96 (by decide) ?_
                    have hl : lv_has _ _ ([(0, .ref h0), (1, .int kk), (2, .int vv), (3, .int nq), (4, .int 0)]) := lv_sub hl [1, 2, 3, 4, 0] rfl
                    exact ih63 nq 0 f6969 f7091 g69 f2w69 f3w69 f469 f569 f669 gs69 F69 L869 qd69 qk69 fx69 cn269 rn269 gn269 m269 _ _ _ (f69_0) (f91_0) (fun q hq => (f91_1 q hq).trans (hvr q hq)) (f69_1) (fun q hq => by (rw [f69_2 _ (by omega)]); exact ho q hq) (by (have h8 := odo_lt (f := vD (vF 56) f70x) (b := vR (vF 56) (vF 57)) vn (fun q hq => hva.dg hq)); (have h9 := hfx.resolve_left (fun h => c_65 h.1)); exact Or.inl ⟨rfl, by omega⟩) hP hD hS hl
                · have t_72 : ¬ (r69).toInt = 0 := toI_neq c_72 rfl (by decide)
                  refine lv_iload_n hx hb dX12_counted_75 rfl (lv_at hl 3 rfl) ?_
                  refine lv_iload_n hx hb dX12_counted_76 rfl (lv_at hl 1 rfl) ?_
                  refine lv_icmp_ne (tgt := 87) hx hb dX12_counted_77 (by decide) (fun c_77 => ?_) (fun c_77 => ?_)
                  · have t_77 : (nq).toInt ≠ (kk).toInt := toI_ne c_77 rfl rfl
                    refine lv_iinc (v := (nq + 1)) hx hb dX12_counted_87 hl (k := 3) rfl rfl (by decide) rfl (fun ls (hl : lv_has ls _ ([(3, .int (nq + 1)), (0, .ref h0), (1, .int kk), (2, .int vv), (4, .int mo)])) => ?_)
                    refine lv_aload_n hx hb dX12_counted_90 rfl (lv_at hl 1 rfl) ?_
                    have hFc := allFree hD hS hA
                    refine va_calli (va_runV (As := []) (rest := []) ⟨hx, hb, hml, hown, hts⟩ (r_X12_nextValues l dC dI a k h0 (fT (fT (fT (fT (fT (fT vi 0 0) 11 qk69) 116 fx69) 5 cn269) 6 rn269) 7 gn269) (fT vj 12 qd69) (fT (fT (fT (fT (fT (fT (fT (fT vF 70 f70x) 0 g69) 2 f2w69) 3 f3w69) 4 f469) 5 f569) 6 f669) 69 f6969) (fT (fT (fT vG 1 gs69) 7 F69) 8 L869) vn gq (by first | with_reducible assumption | decide | omega | rfl | assumption) (by first | with_reducible assumption | decide | omega | rfl | assumption) (hM.val (VaO.box hM hva hvr)) (hva) H.size) (cwV 0 hts gwsRX12_counted_2 rfl rfl rfl hd_yX12_nextValues_RX12 (by decide +kernel)) (fz_pre (va_recv hK hP (ci := 12) (q0 := 0) rfl rfl) hP hK hD) rfl rfl hl.1 rfl (lv_room (Nat.le_of_ble_eq_true rfl)) dX12_counted_91 (by decide +kernel)) hS (fun q _ h => hFc q h) hFc (fun r91_1 f7091_1 t9_ H locs ht hvm hw9 hB9 hz1 hk1 hS => ?_)
                    have e9F : fT (fT (fT (fT (fT (fT (fT (fT vF 70 f7091_1) 0 g69) 2 f2w69) 3 f3w69) 4 f469) 5 f569) 6 f669) 69 f6969 = fT (fT (fT (fT (fT (fT (fT (fT (fT vF 70 f70x) 0 g69) 2 f2w69) 3 f3w69) 4 f469) 5 f569) 6 f669) 69 f6969) 70 f7091_1 := Eq.symm (up_7 rfl)
                    have hP := wr_PF e9F (fz_P ht hB9.1)
                    have hD := wr_DF e9F (hB9.2.weaken (fun _ q _ h => hFc q.1 h))
                    clear e9F
                    rcases hw9 with ⟨rfl, f91_1_0, f91_1_1, f91_1_2⟩ | ⟨rfl, f91_1_0, f91_1_1⟩
                    · have f91_1_0 : VaO (vF 56) (vF 57) (vF 58) f7091_1 vn := f91_1_0
                      have f91_1_1 : ∀ q, vn ≤ q → f7091_1 q = f70x q := f91_1_1
                      have f91_1_2 : odo (vD (vF 56) f70x) (vR (vF 56) (vF 57)) vn < odo (vD (vF 56) f7091_1) (vR (vF 56) (vF 57)) vn := f91_1_2
                      refine lv_istore hx hb dX12_counted_94 hl (by decide) rfl (fun ls (hl : lv_has ls _ ([(4, .int 1), (3, .int (nq + 1)), (0, .ref h0), (1, .int kk), (2, .int vv)])) => ?_)
                      refine lv_goto (tgt := 63) hx hb dX12_counted_96 (by decide) ?_
                      have hl : lv_has _ _ ([(0, .ref h0), (1, .int kk), (2, .int vv), (3, .int (nq + 1)), (4, .int 1)]) := lv_sub hl [2, 3, 4, 1, 0] rfl
                      exact ih63 (nq + 1) 1 f6969 f7091_1 g69 f2w69 f3w69 f469 f569 f669 gs69 F69 L869 qd69 qk69 fx69 cn269 rn269 gn269 m269 _ _ _ (f69_0) (f91_1_0) (fun q hq => (f91_1_1 q hq).trans (hvr q hq)) (f69_1) (fun q hq => by (rw [f69_2 _ (by omega)]); exact ho q hq) (by (have h8 := odo_lt (f := vD (vF 56) f70x) (b := vR (vF 56) (vF 57)) vn (fun q hq => hva.dg hq)); (have h9 := hfx.resolve_left (fun h => c_65 h.1)); (have h7 := f91_1_2); exact Or.inr (by omega)) hP hD hS hl
                    · have f91_1_0 : VaO (vF 56) (vF 57) (vF 58) f7091_1 vn := f91_1_0
                      have f91_1_1 : ∀ q, vn ≤ q → f7091_1 q = f70x q := f91_1_1
                      refine lv_istore hx hb dX12_counted_94 hl (by decide) rfl (fun ls (hl : lv_has ls _ ([(4, .int 0), (3, .int (nq + 1)), (0, .ref h0), (1, .int kk), (2, .int vv)])) => ?_)
                      refine lv_goto (tgt := 63) hx hb dX12_counted_96 (by decide) ?_
                      have hl : lv_has _ _ ([(0, .ref h0), (1, .int kk), (2, .int vv), (3, .int (nq + 1)), (4, .int 0)]) := lv_sub hl [2, 3, 4, 1, 0] rfl
                      exact ih63 (nq + 1) 0 f6969 f7091_1 g69 f2w69 f3w69 f469 f569 f669 gs69 F69 L869 qd69 qk69 fx69 cn269 rn269 gn269 m269 _ _ _ (f69_0) (f91_1_0) (fun q hq => (f91_1_1 q hq).trans (hvr q hq)) (f69_1) (fun q hq => by (rw [f69_2 _ (by omega)]); exact ho q hq) (by (have h8 := odo_lt (f := vD (vF 56) f70x) (b := vR (vF 56) (vF 57)) vn (fun q hq => hva.dg hq)); (have h9 := hfx.resolve_left (fun h => c_65 h.1)); exact Or.inl ⟨rfl, by omega⟩) hP hD hS hl
                  · have t_77 : (nq).toInt = (kk).toInt := toI_nne c_77 rfl rfl
                    refine lv_aload_n hx hb dX12_counted_80 rfl (lv_at hl 0 rfl) ?_
                    refine va_get (D := (dC, dI)) (ci := 12) (v := .ref (a 70)) (C := RX12) (T := TX12) (N := 163) (fs := fM (vS a (fT (fT (fT (fT (fT (fT vi 0 0) 11 qk69) 116 fx69) 5 cn269) 6 rn269) 7 gn269) (fT vj 12 qd69))) hx hb hts iwsRX12_counted_in12 hown hK hP 0 rfl rfl 115 (by decide) (hts (.fieldLink RX12 233 "OptimaWorksModel" "value" "[I") (by decide +kernel)) (fun _ h9 => h9) rfl dX12_counted_81 ?_
                    refine lv_iload_n hx hb dX12_counted_84 rfl (lv_at hl 2 rfl) ?_
                    refine va_iald (cA := k 70) (n := 9) (f := f70x) hx hb hK hP 71 70 (WR_get 70 (by decide)) (TR_get 70 (by decide)) (vp_in_iff.mpr (by omega)) dX12_counted_85 ?_
                    refine W.widen (k := 0) (n := 0) (by decide +kernel) (by decide +kernel) ?_
                    exact W.iret (v := (f70x (vv).toNatClampNeg)) hx hb hr (fun t9_ ht hW => ⟨⟨(f70x (vv).toNatClampNeg), (g69, f2w69, f3w69, f469, f569, f669, gs69, F69, L869, qd69, qk69, fx69, cn269, rn269, gn269, 0, f6969, f70x, m269), rfl, by (try dsimp only); exact ⟨f69_0, f69_1, fun q hq => by (rw [f69_2 _ (by omega)]); exact ho q hq, VaO.box hM hva hvr⟩, by rw [ht]; exact hP, hD⟩, hS.F ht⟩) hS.2.2 dX12_counted_86
          · have t_47 : (((vF 58) (vv).toNatClampNeg)).toInt = 0 := toI_nne c_47 rfl (by decide)
            refine lv_sipush (v := (-1000)) hx hb dX12_counted_50 (by decide) ?_
            refine W.widen (k := 0) (n := 0) (by decide +kernel) (by decide +kernel) ?_
            have e9 : fT (fT (fT (fT (fT (fT vi 0 0) 11 (vi 11)) 116 (vi 116)) 5 (vi 5)) 6 (vi 6)) 7 (vi 7) = fT vi 0 0 := Eq.trans (mv_4 rfl) (Eq.trans (id_5 rfl) (Eq.trans (mv_3 rfl) (Eq.trans (id_4 rfl) (Eq.trans (mv_2 rfl) (Eq.trans (id_3 rfl) (Eq.trans (mv_1 rfl) (Eq.trans (id_2 rfl) (id_1 rfl))))))))
            have hP := wr_Pi e9 hP
            have hD := wr_Di e9 hD
            clear e9
            have e9 : fT vj 12 (vj 12) = vj := fT_id _ _ (rfl)
            have hP := wr_Pj e9 hP
            have hD := wr_Dj e9 hD
            clear e9
            have e9 : fT (fT (fT (fT (fT (fT (fT (fT vF 70 (vF 70)) 0 (vF 0)) 2 (vF 2)) 3 (vF 3)) 4 (vF 4)) 5 (vF 5)) 6 (vF 6)) 69 (vF 69) = vF := Eq.trans (mv_7 rfl) (Eq.trans (id_7 rfl) (Eq.trans (mv_6 rfl) (Eq.trans (id_6 rfl) (Eq.trans (mv_5 rfl) (Eq.trans (id_5 rfl) (Eq.trans (mv_4 rfl) (Eq.trans (id_4 rfl) (Eq.trans (mv_3 rfl) (Eq.trans (id_3 rfl) (Eq.trans (mv_2 rfl) (Eq.trans (id_2 rfl) (Eq.trans (mv_1 rfl) (Eq.trans (id_1 rfl) (id_0 rfl))))))))))))))
            have hP := wr_PF e9 hP
            have hD := wr_DF e9 hD
            clear e9
            have e9 : fT (fT (fT vG 1 (vG 1)) 7 (vG 7)) 8 (vG 8) = vG := (fT_id _ _ ((fT_ne _ _ (Nat.ne_of_beq_eq_false rfl)).trans (fT_ne _ _ (Nat.ne_of_beq_eq_false rfl)))).trans ((fT_id _ _ (fT_ne _ _ (Nat.ne_of_beq_eq_false rfl))).trans (fT_id _ _ (rfl)))
            have hP := wr_PG e9 hP
            have hD := wr_DG e9 hD
            clear e9
            exact W.iret (v := (-1000)) hx hb hr (fun t9_ ht hW => ⟨⟨(-1000), ((vF 0), (vF 2), (vF 3), (vF 4), (vF 5), (vF 6), (vG 1), (vG 7), (vG 8), (vj 12), (vi 11), (vi 116), (vi 5), (vi 6), (vi 7), 0, (vF 69), (vF 70), mg), rfl, by (try dsimp only); exact ⟨hBg, hAn, fun q _ => rfl, hM.2.2.2.2.2.2⟩, by rw [ht]; exact hP, hD⟩, hS.F ht⟩) hS.2.2 dX12_counted_53
theorem dX12_solve_0 : decode cX12_solve 0 = .ok (.aload_n 0, 1) := dk_42 (by decide +kernel)
theorem dX12_solve_1 : decode cX12_solve 1 = .ok (.aload_n 0, 1) := dk_42 (by decide +kernel)
theorem dX12_solve_2 : decode cX12_solve 2 = .ok (.getfield 808, 3) := dk_180 (by decide +kernel)
theorem dX12_solve_5 : decode cX12_solve 5 = .ok (.ifCond .eq 7, 3) := dk_153 (by decide +kernel)
theorem dX12_solve_8 : decode cX12_solve 8 = .ok (.iconst 0, 1) := dk_3 (by decide +kernel)
theorem dX12_solve_9 : decode cX12_solve 9 = .ok (.goto 4, 3) := dk_167 (by decide +kernel)
theorem dX12_solve_12 : decode cX12_solve 12 = .ok (.iconst 1, 1) := dk_4 (by decide +kernel)
theorem dX12_solve_13 : decode cX12_solve 13 = .ok (.putfield 348, 3) := dk_181 (by decide +kernel)
theorem dX12_solve_16 : decode cX12_solve 16 = .ok (.aload_n 0, 1) := dk_42 (by decide +kernel)
theorem dX12_solve_17 : decode cX12_solve 17 = .ok (.getfield 348, 3) := dk_180 (by decide +kernel)
theorem dX12_solve_20 : decode cX12_solve 20 = .ok (.ifCond .le 5, 3) := dk_158 (by decide +kernel)
theorem dX12_solve_23 : decode cX12_solve 23 = .ok (.iconst 0, 1) := dk_3 (by decide +kernel)
theorem dX12_solve_24 : decode cX12_solve 24 = .ok (.ireturn, 1) := dk_172 (by decide +kernel)
theorem dX12_solve_25 : decode cX12_solve 25 = .ok (.aload_n 0, 1) := dk_42 (by decide +kernel)
theorem dX12_solve_26 : decode cX12_solve 26 = .ok (.iconst 0, 1) := dk_3 (by decide +kernel)
theorem dX12_solve_27 : decode cX12_solve 27 = .ok (.putfield 811, 3) := dk_181 (by decide +kernel)
theorem dX12_solve_30 : decode cX12_solve 30 = .ok (.iload_n 1, 1) := dk_27 (by decide +kernel)
theorem dX12_solve_31 : decode cX12_solve 31 = .ok (.ifCond .eq 21, 3) := dk_153 (by decide +kernel)
theorem dX12_solve_34 : decode cX12_solve 34 = .ok (.aload_n 0, 1) := dk_42 (by decide +kernel)
theorem dX12_solve_35 : decode cX12_solve 35 = .ok (.iconst 1, 1) := dk_4 (by decide +kernel)
theorem dX12_solve_36 : decode cX12_solve 36 = .ok (.iconst 1, 1) := dk_4 (by decide +kernel)
theorem dX12_solve_37 : decode cX12_solve 37 = .ok (.invokevirtual 866, 3) := dk_182 (by decide +kernel)
theorem dX12_solve_40 : decode cX12_solve 40 = .ok (.ifCond .eq 7, 3) := dk_153 (by decide +kernel)
theorem dX12_solve_43 : decode cX12_solve 43 = .ok (.aload_n 0, 1) := dk_42 (by decide +kernel)
theorem dX12_solve_44 : decode cX12_solve 44 = .ok (.invokevirtual 870, 3) := dk_182 (by decide +kernel)
theorem dX12_solve_47 : decode cX12_solve 47 = .ok (.aload_n 0, 1) := dk_42 (by decide +kernel)
theorem dX12_solve_48 : decode cX12_solve 48 = .ok (.getfield 811, 3) := dk_180 (by decide +kernel)
theorem dX12_solve_51 : decode cX12_solve 51 = .ok (.ireturn, 1) := dk_172 (by decide +kernel)
theorem dX12_solve_52 : decode cX12_solve 52 = .ok (.aload_n 0, 1) := dk_42 (by decide +kernel)
theorem dX12_solve_53 : decode cX12_solve 53 = .ok (.invokevirtual 873, 3) := dk_182 (by decide +kernel)
theorem dX12_solve_56 : decode cX12_solve 56 = .ok (.iconst 1, 1) := dk_4 (by decide +kernel)
theorem dX12_solve_57 : decode cX12_solve 57 = .ok (.istore_n 2, 1) := dk_61 (by decide +kernel)
theorem dX12_solve_58 : decode cX12_solve 58 = .ok (.iload_n 2, 1) := dk_28 (by decide +kernel)
theorem dX12_solve_59 : decode cX12_solve 59 = .ok (.ifCond .eq 59, 3) := dk_153 (by decide +kernel)
theorem dX12_solve_62 : decode cX12_solve 62 = .ok (.aload_n 0, 1) := dk_42 (by decide +kernel)
theorem dX12_solve_63 : decode cX12_solve 63 = .ok (.invokevirtual 876, 3) := dk_182 (by decide +kernel)
theorem dX12_solve_66 : decode cX12_solve 66 = .ok (.aload_n 0, 1) := dk_42 (by decide +kernel)
theorem dX12_solve_67 : decode cX12_solve 67 = .ok (.invokevirtual 879, 3) := dk_182 (by decide +kernel)
theorem dX12_solve_70 : decode cX12_solve 70 = .ok (.istore_n 3, 1) := dk_62 (by decide +kernel)
theorem dX12_solve_71 : decode cX12_solve 71 = .ok (.iload_n 3, 1) := dk_29 (by decide +kernel)
theorem dX12_solve_72 : decode cX12_solve 72 = .ok (.ifCond .eq 38, 3) := dk_153 (by decide +kernel)
theorem dX12_solve_75 : decode cX12_solve 75 = .ok (.aload_n 0, 1) := dk_42 (by decide +kernel)
theorem dX12_solve_76 : decode cX12_solve 76 = .ok (.iconst 0, 1) := dk_3 (by decide +kernel)
theorem dX12_solve_77 : decode cX12_solve 77 = .ok (.iconst 1, 1) := dk_4 (by decide +kernel)
theorem dX12_solve_78 : decode cX12_solve 78 = .ok (.invokevirtual 866, 3) := dk_182 (by decide +kernel)
theorem dX12_solve_81 : decode cX12_solve 81 = .ok (.ifCond .eq 21, 3) := dk_153 (by decide +kernel)
theorem dX12_solve_84 : decode cX12_solve 84 = .ok (.aload_n 0, 1) := dk_42 (by decide +kernel)
theorem dX12_solve_85 : decode cX12_solve 85 = .ok (.getfield 811, 3) := dk_180 (by decide +kernel)
theorem dX12_solve_88 : decode cX12_solve 88 = .ok (.ifCond .eq 10, 3) := dk_153 (by decide +kernel)
theorem dX12_solve_91 : decode cX12_solve 91 = .ok (.aload_n 0, 1) := dk_42 (by decide +kernel)
theorem dX12_solve_92 : decode cX12_solve 92 = .ok (.invokevirtual 882, 3) := dk_182 (by decide +kernel)
theorem dX12_solve_95 : decode cX12_solve 95 = .ok (.ifCond .eq 7, 3) := dk_153 (by decide +kernel)
theorem dX12_solve_98 : decode cX12_solve 98 = .ok (.aload_n 0, 1) := dk_42 (by decide +kernel)
theorem dX12_solve_99 : decode cX12_solve 99 = .ok (.invokevirtual 870, 3) := dk_182 (by decide +kernel)
theorem dX12_solve_102 : decode cX12_solve 102 = .ok (.aload_n 0, 1) := dk_42 (by decide +kernel)
theorem dX12_solve_103 : decode cX12_solve 103 = .ok (.invokevirtual 885, 3) := dk_182 (by decide +kernel)
theorem dX12_solve_106 : decode cX12_solve 106 = .ok (.istore_n 3, 1) := dk_62 (by decide +kernel)
theorem dX12_solve_107 : decode cX12_solve 107 = .ok (.goto (-36), 3) := dk_167 (by decide +kernel)
theorem dX12_solve_110 : decode cX12_solve 110 = .ok (.aload_n 0, 1) := dk_42 (by decide +kernel)
theorem dX12_solve_111 : decode cX12_solve 111 = .ok (.invokevirtual 888, 3) := dk_182 (by decide +kernel)
theorem dX12_solve_114 : decode cX12_solve 114 = .ok (.istore_n 2, 1) := dk_61 (by decide +kernel)
theorem dX12_solve_115 : decode cX12_solve 115 = .ok (.goto (-57), 3) := dk_167 (by decide +kernel)
theorem dX12_solve_118 : decode cX12_solve 118 = .ok (.aload_n 0, 1) := dk_42 (by decide +kernel)
theorem dX12_solve_119 : decode cX12_solve 119 = .ok (.getfield 811, 3) := dk_180 (by decide +kernel)
theorem dX12_solve_122 : decode cX12_solve 122 = .ok (.ireturn, 1) := dk_172 (by decide +kernel)
def wsRX12_solve : List Cond := .code yX12_solve cX12_solve 4 (some .boolean) :: ([.fieldLink RX12 808 "OptimaWorksModel" "isModel" "Z", .fieldLink RX12 348 "OptimaWorksModel" "thrown" "I", .fieldLink RX12 811 "OptimaWorksModel" "hasAnswer" "Z"] ++ wsX120 ++ (wsV RX12 873 RX12 yX12_firstValues wsRX12_firstValues) ++ (wsV RX12 876 RX12 yX12_firstWays wsRX12_firstWays) ++ (wsV RX12 879 RX12 yX12_differ wsRX12_differ) ++ (wsV RX12 888 RX12 yX12_nextValues wsRX12_nextValues) ++ (wsV RX12 866 RX12 yX12_solves wsRX12_solves) ++ (wsV RX12 882 RX12 yX12_isBetter wsRX12_isBetter) ++ (wsV RX12 870 RX12 yX12_take wsRX12_take) ++ (wsV RX12 885 RX12 yX12_nextWays wsRX12_nextWays))
theorem iwsRX12_solve_in12 : ∀ w ∈ wsX120, w ∈ wsRX12_solve := fun _ h => List.mem_cons_of_mem _ (List.mem_append_left _ (List.mem_append_left _ (List.mem_append_left _ (List.mem_append_left _ (List.mem_append_left _ (List.mem_append_left _ (List.mem_append_left _ (List.mem_append_left _ (List.mem_append_right _ h)))))))))
theorem gwsRX12_solve_0 : GoodIn wsRX12_solve (wsV RX12 873 RX12 yX12_firstValues wsRX12_firstValues) := goodIn_sub (fun _ h => List.mem_cons_of_mem _ (List.mem_append_left _ (List.mem_append_left _ (List.mem_append_left _ (List.mem_append_left _ (List.mem_append_left _ (List.mem_append_left _ (List.mem_append_left _ (List.mem_append_right _ h))))))))) (gdV (by decide +kernel) gdwsRX12_firstValues)
theorem gwsRX12_solve_1 : GoodIn wsRX12_solve (wsV RX12 876 RX12 yX12_firstWays wsRX12_firstWays) := goodIn_sub (fun _ h => List.mem_cons_of_mem _ (List.mem_append_left _ (List.mem_append_left _ (List.mem_append_left _ (List.mem_append_left _ (List.mem_append_left _ (List.mem_append_left _ (List.mem_append_right _ h)))))))) (gdV (by decide +kernel) gdwsRX12_firstWays)
theorem gwsRX12_solve_2 : GoodIn wsRX12_solve (wsV RX12 879 RX12 yX12_differ wsRX12_differ) := goodIn_sub (fun _ h => List.mem_cons_of_mem _ (List.mem_append_left _ (List.mem_append_left _ (List.mem_append_left _ (List.mem_append_left _ (List.mem_append_left _ (List.mem_append_right _ h))))))) (gdV (by decide +kernel) gdwsRX12_differ)
theorem gwsRX12_solve_3 : GoodIn wsRX12_solve (wsV RX12 888 RX12 yX12_nextValues wsRX12_nextValues) := goodIn_sub (fun _ h => List.mem_cons_of_mem _ (List.mem_append_left _ (List.mem_append_left _ (List.mem_append_left _ (List.mem_append_left _ (List.mem_append_right _ h)))))) (gdV (by decide +kernel) gdwsRX12_nextValues)
theorem gwsRX12_solve_4 : GoodIn wsRX12_solve (wsV RX12 866 RX12 yX12_solves wsRX12_solves) := goodIn_sub (fun _ h => List.mem_cons_of_mem _ (List.mem_append_left _ (List.mem_append_left _ (List.mem_append_left _ (List.mem_append_right _ h))))) (gdV (by decide +kernel) gdwsRX12_solves)
theorem gwsRX12_solve_5 : GoodIn wsRX12_solve (wsV RX12 882 RX12 yX12_isBetter wsRX12_isBetter) := goodIn_sub (fun _ h => List.mem_cons_of_mem _ (List.mem_append_left _ (List.mem_append_left _ (List.mem_append_right _ h)))) (gdV (by decide +kernel) gdwsRX12_isBetter)
theorem gwsRX12_solve_6 : GoodIn wsRX12_solve (wsV RX12 870 RX12 yX12_take wsRX12_take) := goodIn_sub (fun _ h => List.mem_cons_of_mem _ (List.mem_append_left _ (List.mem_append_right _ h))) (gdV (by decide +kernel) gdwsRX12_take)
theorem gwsRX12_solve_7 : GoodIn wsRX12_solve (wsV RX12 885 RX12 yX12_nextWays wsRX12_nextWays) := goodIn_sub (fun _ h => List.mem_cons_of_mem _ (List.mem_append_right _ h)) (gdV (by decide +kernel) gdwsRX12_nextWays)
theorem gdwsRX12_solve : wsRX12_solve.all goodWord = true := gdC rfl (gdA (gdA (gdA (gdA (gdA (gdA (gdA (gdA (gdA (by decide +kernel : ([.fieldLink RX12 808 "OptimaWorksModel" "isModel" "Z", .fieldLink RX12 348 "OptimaWorksModel" "thrown" "I", .fieldLink RX12 811 "OptimaWorksModel" "hasAnswer" "Z"] : List Cond).all goodWord = true) gdwsX120) (gdV (by decide +kernel) gdwsRX12_firstValues)) (gdV (by decide +kernel) gdwsRX12_firstWays)) (gdV (by decide +kernel) gdwsRX12_differ)) (gdV (by decide +kernel) gdwsRX12_nextValues)) (gdV (by decide +kernel) gdwsRX12_solves)) (gdV (by decide +kernel) gdwsRX12_isBetter)) (gdV (by decide +kernel) gdwsRX12_take)) (gdV (by decide +kernel) gdwsRX12_nextWays))
theorem hm_r_X12_solve_0 : (.fieldLink RX12 348 "OptimaWorksModel" "thrown" "I" : Cond) ∈ wsRX12_solve := by decide +kernel
theorem hm_r_X12_solve_1 : (.fieldLink RX12 811 "OptimaWorksModel" "hasAnswer" "Z" : Cond) ∈ wsRX12_solve := by decide +kernel
set_option maxHeartbeats 4000000 in
set_option maxRecDepth 100000 in
/-- solve(relaxed) -/
theorem r_X12_solve (l : Launch) (dC : Nat → ClassId) (dI : Nat → Nat → Nat) (a : Nat → Nat) (k : Nat → ClassId) (h0 : Nat) (vi : Nat → Int32) (vj : Nat → Int64) (vF : Nat → Nat → Int32) (vG : Nat → Nat → Int64) (vn : Nat) (mr : Nat) (gq : Nat) (dn : Nat) (rl : Int32) (mg : Nat → Int) (hBg : Bg (vF 0) mg) (hvn : vi 90 = nI vn) (hvn8 : vn ≤ 8) (hmr : vi 91 = nI mr) (hmr12 : mr ≤ 12) (hmg : vi 93 = nI gq) (hgq : gq ≤ 3) (hdn : vi 92 = nI dn) (hdn8 : dn ≤ 8) (hM : MdlB vF gq) (hlh : ∀ k, k < vn → (vF 56 k).toInt ≤ (vF 57 k).toInt) (hwm : WmO (vF 59) mr) (hAn : AnsB mg 1020) (hAb : AnsB mg 1000) (hPp0 : vi 113 ≠ 0 → AnsP mg 1000 gq) (hha : vi 113 = 0 ∨ vi 113 = 1) (sz : Nat) : Met l yX12_solve wsRX12_solve ({ frames := 7, cells := 0, slots := 0, locals := 182 }) (va_Pc [.ref h0, .int rl] (fun U => U.heap.size = sz ∧ va_P (dC, dI) vwCl (WR a k h0 vi vj vF vG) U.heap ∧ va_K (dC, dI) vwCl (tX12 k) U ∧ va_D (fun _ => True) (WR a k h0 vi vj vF vG))) (va_Qi (fun (r : Int32) (u : (Nat → Int32) × (Nat → Int32) × (Nat → Int32) × (Nat → Int32) × (Nat → Int32) × (Nat → Int32) × (Nat → Int64) × (Nat → Int64) × (Nat → Int64) × (Int64) × (Int32) × (Int32) × (Int32) × (Int32) × (Int32) × (Int32) × (Int32) × (Nat → Int32) × (Nat → Int32) × (Nat → Int)) => (Bg (u.1) (u.2.2.2.2.2.2.2.2.2.2.2.2.2.2.2.2.2.2.2)) ∧ (AnsB (u.2.2.2.2.2.2.2.2.2.2.2.2.2.2.2.2.2.2.2) 1020) ∧ (AnsB (u.2.2.2.2.2.2.2.2.2.2.2.2.2.2.2.2.2.2.2) 1000) ∧ ((u.2.2.2.2.2.2.2.2.2.2.2.2.2.2.2.2.1) ≠ 0 → AnsP (u.2.2.2.2.2.2.2.2.2.2.2.2.2.2.2.2.2.2.2) 1000 gq) ∧ (∀ q, 1036 ≤ q → (u.2.2.2.2.2.2.2.2.2.2.2.2.2.2.2.2.2.2.2) q = mg q) ∧ (∀ k, k < 9 → -999 ≤ ((u.2.2.2.2.2.2.2.2.2.2.2.2.2.2.2.2.2.2.1) k).toInt ∧ ((u.2.2.2.2.2.2.2.2.2.2.2.2.2.2.2.2.2.2.1) k).toInt ≤ 999) ∧ ((u.2.2.2.2.2.2.2.2.2.2.2.2.2.2.2.2.1) = 0 ∨ (u.2.2.2.2.2.2.2.2.2.2.2.2.2.2.2.2.1) = 1)) (fun (u : (Nat → Int32) × (Nat → Int32) × (Nat → Int32) × (Nat → Int32) × (Nat → Int32) × (Nat → Int32) × (Nat → Int64) × (Nat → Int64) × (Nat → Int64) × (Int64) × (Int32) × (Int32) × (Int32) × (Int32) × (Int32) × (Int32) × (Int32) × (Nat → Int32) × (Nat → Int32) × (Nat → Int)) t => va_P (dC, dI) vwCl (WR a k h0 (fT (fT (fT (fT (fT (fT (fT vi 0 (u.2.2.2.2.2.2.2.2.2.2.2.2.2.2.2.1)) 113 (u.2.2.2.2.2.2.2.2.2.2.2.2.2.2.2.2.1)) 11 (u.2.2.2.2.2.2.2.2.2.2.1)) 116 (u.2.2.2.2.2.2.2.2.2.2.2.1)) 5 (u.2.2.2.2.2.2.2.2.2.2.2.2.1)) 6 (u.2.2.2.2.2.2.2.2.2.2.2.2.2.1)) 7 (u.2.2.2.2.2.2.2.2.2.2.2.2.2.2.1)) (fT vj 12 (u.2.2.2.2.2.2.2.2.2.1)) (fT (fT (fT (fT (fT (fT (fT (fT vF 70 (u.2.2.2.2.2.2.2.2.2.2.2.2.2.2.2.2.2.2.1)) 0 (u.1)) 2 (u.2.1)) 3 (u.2.2.1)) 4 (u.2.2.2.1)) 5 (u.2.2.2.2.1)) 6 (u.2.2.2.2.2.1)) 69 (u.2.2.2.2.2.2.2.2.2.2.2.2.2.2.2.2.2.1)) (fT (fT (fT vG 1 (u.2.2.2.2.2.2.1)) 7 (u.2.2.2.2.2.2.2.1)) 8 (u.2.2.2.2.2.2.2.2.1))) t.heap ∧ va_D (va_A (WR a k h0 vi vj vF vG) sz) (WR a k h0 (fT (fT (fT (fT (fT (fT (fT vi 0 (u.2.2.2.2.2.2.2.2.2.2.2.2.2.2.2.1)) 113 (u.2.2.2.2.2.2.2.2.2.2.2.2.2.2.2.2.1)) 11 (u.2.2.2.2.2.2.2.2.2.2.1)) 116 (u.2.2.2.2.2.2.2.2.2.2.2.1)) 5 (u.2.2.2.2.2.2.2.2.2.2.2.2.1)) 6 (u.2.2.2.2.2.2.2.2.2.2.2.2.2.1)) 7 (u.2.2.2.2.2.2.2.2.2.2.2.2.2.2.1)) (fT vj 12 (u.2.2.2.2.2.2.2.2.2.1)) (fT (fT (fT (fT (fT (fT (fT (fT vF 70 (u.2.2.2.2.2.2.2.2.2.2.2.2.2.2.2.2.2.2.1)) 0 (u.1)) 2 (u.2.1)) 3 (u.2.2.1)) 4 (u.2.2.2.1)) 5 (u.2.2.2.2.1)) 6 (u.2.2.2.2.2.1)) 69 (u.2.2.2.2.2.2.2.2.2.2.2.2.2.2.2.2.2.1)) (fT (fT (fT vG 1 (u.2.2.2.2.2.2.1)) 7 (u.2.2.2.2.2.2.2.1)) 8 (u.2.2.2.2.2.2.2.2.1)))) (va_A (WR a k h0 vi vj vF vG) sz)) 0 0 (va_A (WR a k h0 vi vj vF vG) sz) := by
  refine Met.ofW (cc := cX12_solve) (maxL := 4) (ret := (some .boolean)) (by decide) rfl ?_
  intro p e s m args below meth c s₁ B hml hv
  obtain ⟨rfl, hsz, hP, hK, hD0⟩ := hv
  have hx := B.exec
  have hb := B.bytes
  have hr := B.returns
  have hts := atoms_spec (ws := wsRX12_solve) B.pre
  have hown : s.vm.findClass RX12 = some m.cls := findClass_of_methodNamed B.named
  have hlocks := B.notSynchronized
  subst hsz
  have hD := hD0.self (sz := s.heap.size)
  generalize hAe : va_A (WR a k h0 vi vj vF vG) s.heap.size = A at hD ⊢
  have hA : ∀ q : Nat, s.heap.size ≤ q → A q := fun q h => by rw [← hAe]; exact Or.inr h
  have hS : va_S A s.heap s.heap [] := va_S.rf
  have hl := lv_entry ([.ref h0, .int rl]) (n := 4) (Nat.le_of_ble_eq_true rfl)
  rw [lg_entry_eq]
  generalize (lg_sl ([.ref h0, .int rl]) ++ List.replicate (4 - (lg_sl ([.ref h0, .int rl])).length) Slot.unset).toArray = ls at hl ⊢
  have hl : lv_has ls 4 [(0, .ref h0), (1, .int rl)] := hl
  refine lv_aload_n hx hb dX12_solve_0 rfl (lv_at hl 0 rfl) ?_
  refine lv_aload_n hx hb dX12_solve_1 rfl (lv_at hl 0 rfl) ?_
  refine va_get (D := (dC, dI)) (ci := 12) (v := .int (vi 95)) (C := RX12) (T := TX12) (N := 163) (fs := fM (vS a vi vj)) hx hb hts iwsRX12_solve_in12 hown hK hP 0 rfl rfl 95 (by decide) (hts (.fieldLink RX12 808 "OptimaWorksModel" "isModel" "Z") (by decide +kernel)) (fun _ h9 => h9) rfl dX12_solve_2 ?_
  refine lv_if_eq (tgt := 12) hx hb dX12_solve_5 (by decide) (fun c_5 => ?_) (fun c_5 => ?_)
  · have t_5 : ((vi 95)).toInt = 0 := toI_eq c_5 rfl (by decide)
    refine lv_iconst (v := 1) hx hb dX12_solve_12 (by decide) ?_
    refine va_put (D := (dC, dI)) (ci := 12) (v := .int 1) (ty := .int) (C := RX12) (T := TX12) (N := 163) (fs := fM (vS a vi vj)) hx hb hts iwsRX12_solve_in12 tyX12 tyX12_ok nmX12 hown hK hP hD hS 0 rfl rfl 0 (by decide) (hts _ hm_r_X12_solve_0) (fun _ h9 => h9) rfl (by decide +kernel) rfl rfl (Nat.le_of_ble_eq_true rfl) dX12_solve_13 (fun H locs hP hD hS => ?_)
    have hP : va_P (dC, dI) vwCl (WR a k h0 (fT vi 0 1) vj vF vG) H := fz_w (WR_i 0 _ rfl) hP
    have hD : va_D A (WR a k h0 (fT vi 0 1) vj vF vG) := fz_wD (WR_i 0 _ rfl) hD
    refine lv_aload_n hx hb dX12_solve_16 rfl (lv_at hl 0 rfl) ?_
    refine va_get (D := (dC, dI)) (ci := 12) (v := .int 1) (C := RX12) (T := TX12) (N := 163) (fs := fM (vS a (fT vi 0 1) vj)) hx hb hts iwsRX12_solve_in12 hown hK hP 0 rfl rfl 0 (by decide) (hts _ hm_r_X12_solve_0) (fun _ h9 => h9) rfl dX12_solve_17 ?_
    refine lv_if_le (tgt := 25) hx hb dX12_solve_20 (by decide) (fun c9 => absurd c9 (by decide)) (fun _ => ?_)
    refine lv_iconst (v := 0) hx hb dX12_solve_23 (by decide) ?_
    refine W.widen (k := 0) (n := 0) (by decide +kernel) (by decide +kernel) ?_
    have e9 : fT (fT (fT (fT (fT (fT (fT vi 0 1) 113 (vi 113)) 11 (vi 11)) 116 (vi 116)) 5 (vi 5)) 6 (vi 6)) 7 (vi 7) = fT vi 0 1 := Eq.trans (mv_5 rfl) (Eq.trans (id_6 rfl) (Eq.trans (mv_4 rfl) (Eq.trans (id_5 rfl) (Eq.trans (mv_3 rfl) (Eq.trans (id_4 rfl) (Eq.trans (mv_2 rfl) (Eq.trans (id_3 rfl) (Eq.trans (mv_1 rfl) (Eq.trans (id_2 rfl) (id_1 rfl))))))))))
    have hP := wr_Pi e9 hP
    have hD := wr_Di e9 hD
    clear e9
    have e9 : fT vj 12 (vj 12) = vj := fT_id _ _ (rfl)
    have hP := wr_Pj e9 hP
    have hD := wr_Dj e9 hD
    clear e9
    have e9 : fT (fT (fT (fT (fT (fT (fT (fT vF 70 (vF 70)) 0 (vF 0)) 2 (vF 2)) 3 (vF 3)) 4 (vF 4)) 5 (vF 5)) 6 (vF 6)) 69 (vF 69) = vF := Eq.trans (mv_7 rfl) (Eq.trans (id_7 rfl) (Eq.trans (mv_6 rfl) (Eq.trans (id_6 rfl) (Eq.trans (mv_5 rfl) (Eq.trans (id_5 rfl) (Eq.trans (mv_4 rfl) (Eq.trans (id_4 rfl) (Eq.trans (mv_3 rfl) (Eq.trans (id_3 rfl) (Eq.trans (mv_2 rfl) (Eq.trans (id_2 rfl) (Eq.trans (mv_1 rfl) (Eq.trans (id_1 rfl) (id_0 rfl))))))))))))))
    have hP := wr_PF e9 hP
    have hD := wr_DF e9 hD
    clear e9
    have e9 : fT (fT (fT vG 1 (vG 1)) 7 (vG 7)) 8 (vG 8) = vG := (fT_id _ _ ((fT_ne _ _ (Nat.ne_of_beq_eq_false rfl)).trans (fT_ne _ _ (Nat.ne_of_beq_eq_false rfl)))).trans ((fT_id _ _ (fT_ne _ _ (Nat.ne_of_beq_eq_false rfl))).trans (fT_id _ _ (rfl)))
    have hP := wr_PG e9 hP
    have hD := wr_DG e9 hD
    clear e9
    exact W.zret (v := 0) hx hb hr rfl (fun t9_ ht hW => ⟨⟨0, ((vF 0), (vF 2), (vF 3), (vF 4), (vF 5), (vF 6), (vG 1), (vG 7), (vG 8), (vj 12), (vi 11), (vi 116), (vi 5), (vi 6), (vi 7), 1, (vi 113), (vF 69), (vF 70), mg), rfl, by (try dsimp only); exact ⟨hBg, hAn, hAb, hPp0, fun q _ => rfl, hM.2.2.2.2.2.2, hha⟩, by rw [ht]; exact hP, hD⟩, hS.F ht⟩) hS.2.2 dX12_solve_24
  · have t_5 : ¬ ((vi 95)).toInt = 0 := toI_neq c_5 rfl (by decide)
    refine lv_iconst (v := 0) hx hb dX12_solve_8 (by decide) ?_
    refine lv_goto (tgt := 13) hx hb dX12_solve_9 (by decide) ?_
    refine va_put (D := (dC, dI)) (ci := 12) (v := .int 0) (ty := .int) (C := RX12) (T := TX12) (N := 163) (fs := fM (vS a vi vj)) hx hb hts iwsRX12_solve_in12 tyX12 tyX12_ok nmX12 hown hK hP hD hS 0 rfl rfl 0 (by decide) (hts _ hm_r_X12_solve_0) (fun _ h9 => h9) rfl (by decide +kernel) rfl rfl (Nat.le_of_ble_eq_true rfl) dX12_solve_13 (fun H locs hP hD hS => ?_)
    have hP : va_P (dC, dI) vwCl (WR a k h0 (fT vi 0 0) vj vF vG) H := fz_w (WR_i 0 _ rfl) hP
    have hD : va_D A (WR a k h0 (fT vi 0 0) vj vF vG) := fz_wD (WR_i 0 _ rfl) hD
    refine lv_aload_n hx hb dX12_solve_16 rfl (lv_at hl 0 rfl) ?_
    refine va_get (D := (dC, dI)) (ci := 12) (v := .int 0) (C := RX12) (T := TX12) (N := 163) (fs := fM (vS a (fT vi 0 0) vj)) hx hb hts iwsRX12_solve_in12 hown hK hP 0 rfl rfl 0 (by decide) (hts _ hm_r_X12_solve_0) (fun _ h9 => h9) rfl dX12_solve_17 ?_
    refine lv_if_le (tgt := 25) hx hb dX12_solve_20 (by decide) (fun _ => ?_) (fun c9 => absurd (by decide) c9)
    refine lv_aload_n hx hb dX12_solve_25 rfl (lv_at hl 0 rfl) ?_
    refine lv_iconst (v := 0) hx hb dX12_solve_26 (by decide) ?_
    refine va_put (D := (dC, dI)) (ci := 12) (v := .int 0) (ty := .boolean) (C := RX12) (T := TX12) (N := 163) (fs := fM (vS a (fT vi 0 0) vj)) hx hb hts iwsRX12_solve_in12 tyX12 tyX12_ok nmX12 hown hK hP hD hS 0 rfl rfl 113 (by decide) (hts _ hm_r_X12_solve_1) (fun _ h9 => h9) rfl (by decide +kernel) rfl rfl (Nat.le_of_ble_eq_true rfl) dX12_solve_27 (fun H locs hP hD hS => ?_)
    have hP : va_P (dC, dI) vwCl (WR a k h0 (fT (fT vi 0 0) 113 0) vj vF vG) H := fz_w (WR_i 113 _ rfl) hP
    have hD : va_D A (WR a k h0 (fT (fT vi 0 0) 113 0) vj vF vG) := fz_wD (WR_i 113 _ rfl) hD
    refine lv_iload_n hx hb dX12_solve_30 rfl (lv_at hl 1 rfl) ?_
    refine lv_if_eq (tgt := 52) hx hb dX12_solve_31 (by decide) (fun c_31 => ?_) (fun c_31 => ?_)
    · have t_31 : (rl).toInt = 0 := toI_eq c_31 rfl (by decide)
      refine lv_aload_n hx hb dX12_solve_52 rfl (lv_at hl 0 rfl) ?_
      have hFc := allFree hD hS hA
      refine va_callv (va_runV (As := []) (rest := []) ⟨hx, hb, hml, hown, hts⟩ (r_X12_firstValues l dC dI a k h0 (fT (fT vi 0 0) 113 0) vj vF vG vn (by first | with_reducible assumption | decide | omega | rfl | assumption) (by first | with_reducible assumption | decide | omega | rfl | assumption) H.size) (cwV 0 hts gwsRX12_solve_0 rfl rfl rfl hd_yX12_firstValues_RX12 (by decide +kernel)) (fz_pre (va_recv hK hP (ci := 12) (q0 := 0) rfl rfl) hP hK hD) rfl rfl hl.1 rfl (lv_room (Nat.le_of_ble_eq_true rfl)) dX12_solve_53 (by decide +kernel)) hS (fun q _ h => hFc q h) hFc (fun f7053 t9_ H locs ht hvm hw9 hB9 hz1 hk1 hS => ?_)
      have hP : va_P (dC, dI) vwCl (WR a k h0 (fT (fT vi 0 0) 113 0) vj (fT vF 70 f7053) vG) H := fz_P ht hB9.1
      have hD := fz_sd hP (hB9.2.weaken (fun _ q _ h => hFc q.1 h)) rfl
      revert hw9
      refine fz_a2 ?_
      intro f53_0 f53_1
      have f53_0 : ∀ k, k < vn → f7053 k = (vF 56) k := f53_0
      have f53_1 : ∀ k, vn ≤ k → f7053 k = (vF 70) k := f53_1
      refine lv_iconst (v := 1) hx hb dX12_solve_56 (by decide) ?_
      refine lv_istore_n hx hb dX12_solve_57 rfl hl (by decide) rfl (fun ls (hl : lv_has ls _ ([(2, .int 1), (0, .ref h0), (1, .int rl)])) => ?_)
      have e9 : fT (fT (fT (fT (fT (fT (fT vi 0 0) 113 0) 11 (vi 11)) 116 (vi 116)) 5 (vi 5)) 6 (vi 6)) 7 (vi 7) = fT (fT vi 0 0) 113 0 := Eq.trans (mv_4 rfl) (Eq.trans (id_6 rfl) (Eq.trans (mv_3 rfl) (Eq.trans (id_5 rfl) (Eq.trans (mv_2 rfl) (Eq.trans (id_4 rfl) (Eq.trans (mv_1 rfl) (Eq.trans (id_3 rfl) (id_2 rfl))))))))
      have hP := wr_Pi e9 hP
      have hD := wr_Di e9 hD
      clear e9
      have e9 : fT vj 12 (vj 12) = vj := by funext q9; by_cases h9_12 : q9 = 12; (subst h9_12; exact (fT_eq _ _ _).trans (Eq.trans (by first | with_reducible rfl | with_reducible assumption | (symm; with_reducible assumption) | rfl | assumption | (symm; assumption) | (subst_vars; rfl)) (Eq.refl _).symm)); exact (fT_ne _ _ h9_12).trans (Eq.refl _).symm
      have hP := wr_Pj e9 hP
      have hD := wr_Dj e9 hD
      clear e9
      have e9 : fT (fT (fT (fT (fT (fT (fT (fT vF 70 f7053) 0 (vF 0)) 2 (vF 2)) 3 (vF 3)) 4 (vF 4)) 5 (vF 5)) 6 (vF 6)) 69 (vF 69) = fT vF 70 f7053 := Eq.trans (mv_6 rfl) (Eq.trans (id_7 rfl) (Eq.trans (mv_5 rfl) (Eq.trans (id_6 rfl) (Eq.trans (mv_4 rfl) (Eq.trans (id_5 rfl) (Eq.trans (mv_3 rfl) (Eq.trans (id_4 rfl) (Eq.trans (mv_2 rfl) (Eq.trans (id_3 rfl) (Eq.trans (mv_1 rfl) (Eq.trans (id_2 rfl) (id_1 rfl))))))))))))
      have hP := wr_PF e9 hP
      have hD := wr_DF e9 hD
      clear e9
      have e9 : fT (fT (fT vG 1 (vG 1)) 7 (vG 7)) 8 (vG 8) = vG := Eq.trans (mv_2 rfl) (Eq.trans (id_2 rfl) (Eq.trans (mv_1 rfl) (Eq.trans (id_1 rfl) (id_0 rfl))))
      have hP := wr_PG e9 hP
      have hD := wr_DG e9 hD
      clear e9
      have hl : lv_has _ _ ([(0, .ref h0), (2, .int 1)]) := lv_sub hl [1, 0] rfl
      refine (fun (loop : ∀ (n9 : Nat) (mo : Int32) (hax : Int32) (f69x : Nat → Int32) (f70x : Nat → Int32) (gx : Nat → Int32) (f2wx : Nat → Int32) (f3wx : Nat → Int32) (f4x : Nat → Int32) (f5x : Nat → Int32) (f6x : Nat → Int32) (gsx : Nat → Int64) (Fx : Nat → Int64) (L8x : Nat → Int64) (qdx : Int64) (qkx : Int32) (fxx : Int32) (cn2x : Int32) (rn2x : Int32) (gn2x : Int32) (m1 : Nat → Int) (H : Heap) (locs : List Loc) (ls : Array Slot), (Bg gx m1) → (VaO (vF 56) (vF 57) (vF 58) f70x vn) → (∀ q, vn ≤ q → f70x q = vF 70 q) → (AnsB m1 1020) → (AnsB m1 1000) → (hax ≠ 0 → AnsP m1 1000 gq) → (hax = 0 ∨ hax = 1) → (∀ q, 1036 ≤ q → m1 q = mg q) →  ((mo = 0 ∧ 0 < n9) ∨ odoP (vR (vF 56) (vF 57)) vn < odo (vD (vF 56) f70x) (vR (vF 56) (vF 57)) vn + n9) → va_P (dC, dI) vwCl (WR a k h0 (fT (fT (fT (fT (fT (fT (fT vi 0 0) 113 hax) 11 qkx) 116 fxx) 5 cn2x) 6 rn2x) 7 gn2x) (fT vj 12 qdx) (fT (fT (fT (fT (fT (fT (fT (fT vF 70 f70x) 0 gx) 2 f2wx) 3 f3wx) 4 f4x) 5 f5x) 6 f6x) 69 f69x) (fT (fT (fT vG 1 gsx) 7 Fx) 8 L8x)) H → va_D A (WR a k h0 (fT (fT (fT (fT (fT (fT (fT vi 0 0) 113 hax) 11 qkx) 116 fxx) 5 cn2x) 6 rn2x) 7 gn2x) (fT vj 12 qdx) (fT (fT (fT (fT (fT (fT (fT (fT vF 70 f70x) 0 gx) 2 f2wx) 3 f3wx) 4 f4x) 5 f5x) 6 f6x) 69 f69x) (fT (fT (fT vG 1 gsx) 7 Fx) 8 L8x)) → va_S A s.heap H locs → lv_has ls 4 [(0, .ref h0), (2, .int mo)] → W p l e _ s m _ below meth c H locs 0 0 _ (F0 m 58 ls [])) => loop (odoP (vR (vF 56) (vF 57)) vn + 1) 1 0 (vF 69) f7053 (vF 0) (vF 2) (vF 3) (vF 4) (vF 5) (vF 6) (vG 1) (vG 7) (vG 8) (vj 12) (vi 11) (vi 116) (vi 5) (vi 6) (vi 7) mg _ _ _ (hBg) (VaO.first hlh f53_0) (f53_1) (hAn) (hAb) (fun h9 => absurd rfl h9) (Or.inl rfl) (fun q _ => rfl) (Or.inr (by omega)) hP hD hS hl) ?_
      intro n9
      induction n9 with
      | zero => intro mo hax f69x f70x gx f2wx f3wx f4x f5x f6x gsx Fx L8x qdx qkx fxx cn2x rn2x gn2x m1 H locs ls hB1 hva hvr hA1 hA0 hPp hax1 ho hf9; exact False.elim (by (have h9 := odo_lt (f := vD (vF 56) f70x) (b := vR (vF 56) (vF 57)) vn (fun q hq => hva.dg hq)); omega)
      | succ n9 ih58 =>
        intro mo hax f69x f70x gx f2wx f3wx f4x f5x f6x gsx Fx L8x qdx qkx fxx cn2x rn2x gn2x m1 H locs ls hB1 hva hvr hA1 hA0 hPp hax1 ho hf58 hP hD hS hl
        have hfx := hf58
        refine lv_iload_n hx hb dX12_solve_58 rfl (lv_at hl 1 rfl) ?_
        refine lv_if_eq (tgt := 118) hx hb dX12_solve_59 (by decide) (fun c_59 => ?_) (fun c_59 => ?_)
        · have t_59 : (mo).toInt = 0 := toI_eq c_59 rfl (by decide)
          refine lv_aload_n hx hb dX12_solve_118 rfl (lv_at hl 0 rfl) ?_
          refine va_get (D := (dC, dI)) (ci := 12) (v := .int hax) (C := RX12) (T := TX12) (N := 163) (fs := fM (vS a (fT (fT (fT (fT (fT (fT (fT vi 0 0) 113 hax) 11 qkx) 116 fxx) 5 cn2x) 6 rn2x) 7 gn2x) (fT vj 12 qdx))) hx hb hts iwsRX12_solve_in12 hown hK hP 0 rfl rfl 113 (by decide) (hts _ hm_r_X12_solve_1) (fun _ h9 => h9) rfl dX12_solve_119 ?_
          refine W.widen (k := 0) (n := 0) (by decide +kernel) (by decide +kernel) ?_
          exact W.zret (v := hax) hx hb hr (by rcases hax1 with h | h <;> rw [h] <;> rfl) (fun t9_ ht hW => ⟨⟨hax, (gx, f2wx, f3wx, f4x, f5x, f6x, gsx, Fx, L8x, qdx, qkx, fxx, cn2x, rn2x, gn2x, 0, hax, f69x, f70x, m1), rfl, by (try dsimp only); exact ⟨hB1, hA1, hA0, hPp, ho, VaO.box hM hva hvr, hax1⟩, by rw [ht]; exact hP, hD⟩, hS.F ht⟩) hS.2.2 dX12_solve_122
        · have t_59 : ¬ (mo).toInt = 0 := toI_neq c_59 rfl (by decide)
          refine lv_aload_n hx hb dX12_solve_62 rfl (lv_at hl 0 rfl) ?_
          have hFc := allFree hD hS hA
          refine va_callv (va_runV (As := []) (rest := []) ⟨hx, hb, hml, hown, hts⟩ (r_X12_firstWays l dC dI a k h0 (fT (fT (fT (fT (fT (fT (fT vi 0 0) 113 hax) 11 qkx) 116 fxx) 5 cn2x) 6 rn2x) 7 gn2x) (fT vj 12 qdx) (fT (fT (fT (fT (fT (fT (fT (fT vF 70 f70x) 0 gx) 2 f2wx) 3 f3wx) 4 f4x) 5 f5x) 6 f6x) 69 f69x) (fT (fT (fT vG 1 gsx) 7 Fx) 8 L8x) mr (by first | with_reducible assumption | decide | omega | rfl | assumption) (by first | with_reducible assumption | decide | omega | rfl | assumption) H.size) (cwV 0 hts gwsRX12_solve_1 rfl rfl rfl hd_yX12_firstWays_RX12 (by decide +kernel)) (fz_pre (va_recv hK hP (ci := 12) (q0 := 0) rfl rfl) hP hK hD) rfl rfl hl.1 rfl (lv_room (Nat.le_of_ble_eq_true rfl)) dX12_solve_63 (by decide +kernel)) hS (fun q _ h => hFc q h) hFc (fun f6963 t9_ H locs ht hvm hw9 hB9 hz1 hk1 hS => ?_)
          have e9F : fT (fT (fT (fT (fT (fT (fT (fT vF 70 f70x) 0 gx) 2 f2wx) 3 f3wx) 4 f4x) 5 f5x) 6 f6x) 69 f6963 = fT (fT (fT (fT (fT (fT (fT (fT (fT vF 70 f70x) 0 gx) 2 f2wx) 3 f3wx) 4 f4x) 5 f5x) 6 f6x) 69 f69x) 69 f6963 := (fT_sm _ _ _ _).symm
          have hP := wr_PF e9F (fz_P ht hB9.1)
          have hD := wr_DF e9F (hB9.2.weaken (fun _ q _ h => hFc q.1 h))
          clear e9F
          have f63_0 := hw9
          try dsimp only at f63_0
          refine lv_aload_n hx hb dX12_solve_66 rfl (lv_at hl 0 rfl) ?_
          have hFc := allFree hD hS hA
          refine va_calli (va_runV (As := []) (rest := []) ⟨hx, hb, hml, hown, hts⟩ (r_X12_differ l dC dI a k h0 (fT (fT (fT (fT (fT (fT (fT vi 0 0) 113 hax) 11 qkx) 116 fxx) 5 cn2x) 6 rn2x) 7 gn2x) (fT vj 12 qdx) (fT (fT (fT (fT (fT (fT (fT (fT vF 70 f70x) 0 gx) 2 f2wx) 3 f3wx) 4 f4x) 5 f5x) 6 f6x) 69 f6963) (fT (fT (fT vG 1 gsx) 7 Fx) 8 L8x) vn dn (by first | with_reducible assumption | decide | omega | rfl | assumption) (by first | with_reducible assumption | decide | omega | rfl | assumption) (by first | with_reducible assumption | decide | omega | rfl | assumption) (by first | with_reducible assumption | decide | omega | rfl | assumption) H.size) (cwV 0 hts gwsRX12_solve_2 rfl rfl rfl hd_yX12_differ_RX12 (by decide +kernel)) (fz_pre (va_recv hK hP (ci := 12) (q0 := 0) rfl rfl) hP hK hD) rfl rfl hl.1 rfl (lv_room (Nat.le_of_ble_eq_true rfl)) dX12_solve_67 (by decide +kernel)) hS (fun q _ h => hFc q h) hFc (fun r67 u t9_ H locs ht hvm hw9 hB9 hz1 hk1 hS => ?_)
          have hP : va_P (dC, dI) vwCl (WR a k h0 (fT (fT (fT (fT (fT (fT (fT vi 0 0) 113 hax) 11 qkx) 116 fxx) 5 cn2x) 6 rn2x) 7 gn2x) (fT vj 12 qdx) (fT (fT (fT (fT (fT (fT (fT (fT vF 70 f70x) 0 gx) 2 f2wx) 3 f3wx) 4 f4x) 5 f5x) 6 f6x) 69 f6963) (fT (fT (fT vG 1 gsx) 7 Fx) 8 L8x)) H := fz_P ht hB9.1
          have hD := fz_sd hP (hB9.2.weaken (fun _ q _ h => hFc q.1 h)) rfl
          have f67_0 := hw9
          try dsimp only at f67_0
          refine lv_istore_n hx hb dX12_solve_70 rfl hl (by decide) rfl (fun ls (hl : lv_has ls _ ([(3, .int r67), (0, .ref h0), (2, .int mo)])) => ?_)
          have hl : lv_has _ _ ([(0, .ref h0), (2, .int mo), (3, .int r67)]) := lv_sub hl [1, 2, 0] rfl
          refine (fun (loop : ∀ (n9 : Nat) (wy : Int32) (hay : Int32) (f69y : Nat → Int32) (gy : Nat → Int32) (f2wy : Nat → Int32) (f3wy : Nat → Int32) (f4y : Nat → Int32) (f5y : Nat → Int32) (f6y : Nat → Int32) (gsy : Nat → Int64) (Fy : Nat → Int64) (L8y : Nat → Int64) (qdy : Int64) (qky : Int32) (fxy : Int32) (cn2y : Int32) (rn2y : Int32) (gn2y : Int32) (m3 : Nat → Int) (H : Heap) (locs : List Loc) (ls : Array Slot), (Bg gy m3) → (ChO (vF 59) f69y mr) → (AnsB m3 1020) → (AnsB m3 1000) → (hay ≠ 0 → AnsP m3 1000 gq) → (hay = 0 ∨ hay = 1) → (∀ q, 1036 ≤ q → m3 q = mg q) →  ((wy = 0 ∧ 0 < n9) ∨ odoP (cD (vF 59)) mr < odo (cD f69y) (cD (vF 59)) mr + n9) → va_P (dC, dI) vwCl (WR a k h0 (fT (fT (fT (fT (fT (fT (fT vi 0 0) 113 hay) 11 qky) 116 fxy) 5 cn2y) 6 rn2y) 7 gn2y) (fT vj 12 qdy) (fT (fT (fT (fT (fT (fT (fT (fT vF 70 f70x) 0 gy) 2 f2wy) 3 f3wy) 4 f4y) 5 f5y) 6 f6y) 69 f69y) (fT (fT (fT vG 1 gsy) 7 Fy) 8 L8y)) H → va_D A (WR a k h0 (fT (fT (fT (fT (fT (fT (fT vi 0 0) 113 hay) 11 qky) 116 fxy) 5 cn2y) 6 rn2y) 7 gn2y) (fT vj 12 qdy) (fT (fT (fT (fT (fT (fT (fT (fT vF 70 f70x) 0 gy) 2 f2wy) 3 f3wy) 4 f4y) 5 f5y) 6 f6y) 69 f69y) (fT (fT (fT vG 1 gsy) 7 Fy) 8 L8y)) → va_S A s.heap H locs → lv_has ls 4 [(0, .ref h0), (2, .int mo), (3, .int wy)] → W p l e _ s m _ below meth c H locs 0 0 _ (F0 m 71 ls [])) => loop (odoP (cD (vF 59)) mr + 1) r67 hax f6963 gx f2wx f3wx f4x f5x f6x gsx Fx L8x qdx qkx fxx cn2x rn2x gn2x m1 _ _ _ (hB1) (ChO.first hwm f63_0) (hA1) (hA0) (hPp) (hax1) (ho) (Or.inr (by omega)) hP hD hS hl) ?_
          intro n9
          induction n9 with
          | zero => intro wy hay f69y gy f2wy f3wy f4y f5y f6y gsy Fy L8y qdy qky fxy cn2y rn2y gn2y m3 H locs ls hB3 hc1 hA2 hA02 hPp2 hax2 ho2 hf9; exact False.elim (by (have h9 := odo_lt (f := cD f69y) (b := cD (vF 59)) mr (fun q hq => hc1.dg hq)); omega)
          | succ n9 ih71_1 =>
            intro wy hay f69y gy f2wy f3wy f4y f5y f6y gsy Fy L8y qdy qky fxy cn2y rn2y gn2y m3 H locs ls hB3 hc1 hA2 hA02 hPp2 hax2 ho2 hf71_1 hP hD hS hl
            have hfy := hf71_1
            refine lv_iload_n hx hb dX12_solve_71 rfl (lv_at hl 2 rfl) ?_
            refine lv_if_eq (tgt := 110) hx hb dX12_solve_72 (by decide) (fun c_72 => ?_) (fun c_72 => ?_)
            · have t_72 : (wy).toInt = 0 := toI_eq c_72 rfl (by decide)
              refine lv_aload_n hx hb dX12_solve_110 rfl (lv_at hl 0 rfl) ?_
              have hFc := allFree hD hS hA
              refine va_calli (va_runV (As := []) (rest := []) ⟨hx, hb, hml, hown, hts⟩ (r_X12_nextValues l dC dI a k h0 (fT (fT (fT (fT (fT (fT (fT vi 0 0) 113 hay) 11 qky) 116 fxy) 5 cn2y) 6 rn2y) 7 gn2y) (fT vj 12 qdy) (fT (fT (fT (fT (fT (fT (fT (fT vF 70 f70x) 0 gy) 2 f2wy) 3 f3wy) 4 f4y) 5 f5y) 6 f6y) 69 f69y) (fT (fT (fT vG 1 gsy) 7 Fy) 8 L8y) vn gq (by first | with_reducible assumption | decide | omega | rfl | assumption) (by first | with_reducible assumption | decide | omega | rfl | assumption) (hM.val (VaO.box hM hva hvr)) (hva) H.size) (cwV 0 hts gwsRX12_solve_3 rfl rfl rfl hd_yX12_nextValues_RX12 (by decide +kernel)) (fz_pre (va_recv hK hP (ci := 12) (q0 := 0) rfl rfl) hP hK hD) rfl rfl hl.1 rfl (lv_room (Nat.le_of_ble_eq_true rfl)) dX12_solve_111 (by decide +kernel)) hS (fun q _ h => hFc q h) hFc (fun r111 f70111 t9_ H locs ht hvm hw9 hB9 hz1 hk1 hS => ?_)
              have e9F : fT (fT (fT (fT (fT (fT (fT (fT vF 70 f70111) 0 gy) 2 f2wy) 3 f3wy) 4 f4y) 5 f5y) 6 f6y) 69 f69y = fT (fT (fT (fT (fT (fT (fT (fT (fT vF 70 f70x) 0 gy) 2 f2wy) 3 f3wy) 4 f4y) 5 f5y) 6 f6y) 69 f69y) 70 f70111 := Eq.symm (up_7 rfl)
              have hP := wr_PF e9F (fz_P ht hB9.1)
              have hD := wr_DF e9F (hB9.2.weaken (fun _ q _ h => hFc q.1 h))
              clear e9F
              rcases hw9 with ⟨rfl, f111_0, f111_1, f111_2⟩ | ⟨rfl, f111_0, f111_1⟩
              · have f111_0 : VaO (vF 56) (vF 57) (vF 58) f70111 vn := f111_0
                have f111_1 : ∀ q, vn ≤ q → f70111 q = f70x q := f111_1
                have f111_2 : odo (vD (vF 56) f70x) (vR (vF 56) (vF 57)) vn < odo (vD (vF 56) f70111) (vR (vF 56) (vF 57)) vn := f111_2
                refine lv_istore_n hx hb dX12_solve_114 rfl hl (by decide) rfl (fun ls (hl : lv_has ls _ ([(2, .int 1), (0, .ref h0), (3, .int wy)])) => ?_)
                refine lv_goto (tgt := 58) hx hb dX12_solve_115 (by decide) ?_
                have hl : lv_has _ _ ([(0, .ref h0), (2, .int 1)]) := lv_sub hl [1, 0] rfl
                exact ih58 1 hay f69y f70111 gy f2wy f3wy f4y f5y f6y gsy Fy L8y qdy qky fxy cn2y rn2y gn2y m3 _ _ _ (hB3) (f111_0) (fun q hq => (f111_1 q hq).trans (hvr q hq)) (hA2) (hA02) (hPp2) (hax2) (ho2) (by (have h8 := odo_lt (f := vD (vF 56) f70x) (b := vR (vF 56) (vF 57)) vn (fun q hq => hva.dg hq)); (have h9 := hfx.resolve_left (fun h => c_59 h.1)); (have h7 := f111_2); exact Or.inr (by omega)) hP hD hS hl
              · have f111_0 : VaO (vF 56) (vF 57) (vF 58) f70111 vn := f111_0
                have f111_1 : ∀ q, vn ≤ q → f70111 q = f70x q := f111_1
                refine lv_istore_n hx hb dX12_solve_114 rfl hl (by decide) rfl (fun ls (hl : lv_has ls _ ([(2, .int 0), (0, .ref h0), (3, .int wy)])) => ?_)
                refine lv_goto (tgt := 58) hx hb dX12_solve_115 (by decide) ?_
                have hl : lv_has _ _ ([(0, .ref h0), (2, .int 0)]) := lv_sub hl [1, 0] rfl
                exact ih58 0 hay f69y f70111 gy f2wy f3wy f4y f5y f6y gsy Fy L8y qdy qky fxy cn2y rn2y gn2y m3 _ _ _ (hB3) (f111_0) (fun q hq => (f111_1 q hq).trans (hvr q hq)) (hA2) (hA02) (hPp2) (hax2) (ho2) (by (have h8 := odo_lt (f := vD (vF 56) f70x) (b := vR (vF 56) (vF 57)) vn (fun q hq => hva.dg hq)); (have h9 := hfx.resolve_left (fun h => c_59 h.1)); exact Or.inl ⟨rfl, by omega⟩) hP hD hS hl
            · have t_72 : ¬ (wy).toInt = 0 := toI_neq c_72 rfl (by decide)
              refine lv_aload_n hx hb dX12_solve_75 rfl (lv_at hl 0 rfl) ?_
              refine lv_iconst (v := 0) hx hb dX12_solve_76 (by decide) ?_
              refine lv_iconst (v := 1) hx hb dX12_solve_77 (by decide) ?_
              have hFc := allFree hD hS hA
              refine va_calli (va_runV (As := [.int 0, .int 1]) (rest := []) ⟨hx, hb, hml, hown, hts⟩ (r_X12_solves l dC dI a k h0 (fT (fT (fT (fT (fT (fT (fT vi 0 0) 113 hay) 11 qky) 116 fxy) 5 cn2y) 6 rn2y) 7 gn2y) (fT vj 12 qdy) (fT (fT (fT (fT (fT (fT (fT (fT vF 70 f70x) 0 gy) 2 f2wy) 3 f3wy) 4 f4y) 5 f5y) 6 f6y) 69 f69y) (fT (fT (fT vG 1 gsy) 7 Fy) 8 L8y) 0 1 vn mr gq m3 hB3 (by first | with_reducible assumption | decide | omega | rfl | assumption) (by first | with_reducible assumption | decide | omega | rfl | assumption) (by first | with_reducible assumption | decide | omega | rfl | assumption) (by first | with_reducible assumption | decide | omega | rfl | assumption) (by first | with_reducible assumption | decide | omega | rfl | assumption) (by first | with_reducible assumption | decide | omega | rfl | assumption) (hM.val (VaO.box hM hva hvr)) (fun _ => hc1) (hA2) H.size) (cwV 2 hts gwsRX12_solve_4 rfl rfl rfl hd_yX12_solves_RX12 (by decide +kernel)) (fz_pre (va_recv hK hP (ci := 12) (q0 := 0) rfl rfl) hP hK hD) rfl rfl hl.1 rfl (lv_room (Nat.le_of_ble_eq_true rfl)) dX12_solve_78 (by decide +kernel)) hS (fun q _ h => hFc q h) hFc (fun r78 u t9_ H locs ht hvm hw9 hB9 hz1 hk1 hS => ?_)
              revert u hw9 hB9
              refine fz_p15 ?_
              intro g78 f2w78 f3w78 f478 f578 f678 gs78 F78 L878 qd78 fx78 cn278 rn278 gn278 m278 hw9 hB9
              try dsimp only at hw9 hB9
              have e9i : fT (fT (fT (fT (fT (fT (fT vi 0 0) 113 hay) 11 0) 116 fx78) 5 cn278) 6 rn278) 7 gn278 = fT (fT (fT (fT (fT (fT (fT (fT (fT (fT (fT (fT vi 0 0) 113 hay) 11 qky) 116 fxy) 5 cn2y) 6 rn2y) 7 gn2y) 116 fx78) 5 cn278) 6 rn278) 7 gn278) 11 0 := Eq.symm (Eq.trans (congrArg (fun g9 => fT g9 11 0) (Eq.trans (congrArg (fun g9 => fT g9 7 gn278) (Eq.trans (congrArg (fun g9 => fT g9 6 rn278) (Eq.trans (congrArg (fun g9 => fT g9 5 cn278) (up_3 rfl)) (up_2 rfl))) (up_1 rfl))) (up_0 rfl))) (up_4 rfl))
              have e9j : fT vj 12 qd78 = fT (fT vj 12 qdy) 12 qd78 := (fT_sm _ _ _ _).symm
              have e9F : fT (fT (fT (fT (fT (fT (fT (fT vF 70 f70x) 0 g78) 2 f2w78) 3 f3w78) 4 f478) 5 f578) 6 f678) 69 f69y = fT (fT (fT (fT (fT (fT (fT (fT (fT (fT (fT (fT (fT (fT vF 70 f70x) 0 gy) 2 f2wy) 3 f3wy) 4 f4y) 5 f5y) 6 f6y) 69 f69y) 0 g78) 4 f478) 6 f678) 5 f578) 2 f2w78) 3 f3w78 := Eq.symm (Eq.trans (congrArg (fun g9 => fT g9 3 f3w78) (Eq.trans (congrArg (fun g9 => fT g9 2 f2w78) (Eq.trans (congrArg (fun g9 => fT g9 5 f578) (Eq.trans (congrArg (fun g9 => fT g9 6 f678) (Eq.trans (congrArg (fun g9 => fT g9 4 f478) (up_6 rfl)) (up_3 rfl))) (up_1 rfl))) (up_2 rfl))) (up_5 rfl))) (up_4 rfl))
              have e9G : fT (fT (fT vG 1 gs78) 7 F78) 8 L878 = fT (fT (fT (fT (fT (fT vG 1 gsy) 7 Fy) 8 L8y) 1 gs78) 7 F78) 8 L878 := ((congrArg (fun g9 => fT (fT g9 7 F78) 8 L878) ((fT_sw _ _ _ (Nat.ne_of_beq_eq_false rfl)).trans (congrArg (fun g9 => fT g9 8 L8y) ((fT_sw _ _ _ (Nat.ne_of_beq_eq_false rfl)).trans (congrArg (fun g9 => fT g9 7 Fy) (fT_sm _ _ _ _)))))).trans ((congrArg (fun g9 => fT g9 8 L878) ((fT_sw _ _ _ (Nat.ne_of_beq_eq_false rfl)).trans (congrArg (fun g9 => fT g9 8 L8y) (fT_sm _ _ _ _)))).trans (fT_sm _ _ _ _))).symm
              have hP := wr_PG e9G (wr_PF e9F (wr_Pj e9j (wr_Pi e9i (fz_P ht hB9.1))))
              have hD := wr_DG e9G (wr_DF e9F (wr_Dj e9j (wr_Di e9i (hB9.2.weaken (fun _ q _ h => hFc q.1 h)))))
              clear e9i e9j e9F e9G
              revert hw9
              refine fz_a5 ?_
              intro f78_0 f78_1 f78_2 f78_3 f78_4
              refine W.cut (pc := 102) (fun H locs ls stk => ∃ (haz : Int32) (g5 : Nat → Int32) (gs5 : Nat → Int64) (m5 : Nat → Int), (Bg g5 m5) ∧ (AnsB m5 1020) ∧ (AnsB m5 1000) ∧ (haz ≠ 0 → AnsP m5 1000 gq) ∧ (haz = 0 ∨ haz = 1) ∧ (∀ q, 1036 ≤ q → m5 q = mg q) ∧  stk = [] ∧ va_P (dC, dI) vwCl (WR a k h0 (fT (fT (fT (fT (fT (fT (fT vi 0 0) 113 haz) 11 0) 116 fx78) 5 cn278) 6 rn278) 7 gn278) (fT vj 12 qd78) (fT (fT (fT (fT (fT (fT (fT (fT vF 70 f70x) 0 g5) 2 f2w78) 3 f3w78) 4 f478) 5 f578) 6 f678) 69 f69y) (fT (fT (fT vG 1 gs5) 7 F78) 8 L878)) H ∧ va_D A (WR a k h0 (fT (fT (fT (fT (fT (fT (fT vi 0 0) 113 haz) 11 0) 116 fx78) 5 cn278) 6 rn278) 7 gn278) (fT vj 12 qd78) (fT (fT (fT (fT (fT (fT (fT (fT vF 70 f70x) 0 g5) 2 f2w78) 3 f3w78) 4 f478) 5 f578) 6 f678) 69 f69y) (fT (fT (fT vG 1 gs5) 7 F78) 8 L878)) ∧ va_S A s.heap H locs ∧ lv_has ls 4 [(0, .ref h0), (2, .int mo), (3, .int wy)]) (fun join1 => ?_) ?_
              · refine lv_if_eq (tgt := 102) hx hb dX12_solve_81 (by decide) (fun c_81 => ?_) (fun c_81 => ?_)
                · have t_81 : (r78).toInt = 0 := toI_eq c_81 rfl (by decide)
                  have hl : lv_has _ _ ([(0, .ref h0), (2, .int mo), (3, .int wy)]) := lv_sub hl [0, 1, 2] rfl
                  exact join1 _ _ _ _ ⟨hay, g78, gs78, m278, f78_0, f78_1, hA02.frame (fun p h1 h2 => by (rw [f78_2 _ (by omega)])), fun h9 => (hPp2 h9).frame hgq (fun p h1 h2 => by (rw [f78_2 _ (by omega)])), hax2, fun q hq => by (rw [f78_2 _ (by omega)]); exact ho2 q hq, rfl, hP, hD, hS, hl⟩
                · have t_81 : ¬ (r78).toInt = 0 := toI_neq c_81 rfl (by decide)
                  refine lv_aload_n hx hb dX12_solve_84 rfl (lv_at hl 0 rfl) ?_
                  refine va_get (D := (dC, dI)) (ci := 12) (v := .int hay) (C := RX12) (T := TX12) (N := 163) (fs := fM (vS a (fT (fT (fT (fT (fT (fT (fT vi 0 0) 113 hay) 11 0) 116 fx78) 5 cn278) 6 rn278) 7 gn278) (fT vj 12 qd78))) hx hb hts iwsRX12_solve_in12 hown hK hP 0 rfl rfl 113 (by decide) (hts _ hm_r_X12_solve_1) (fun _ h9 => h9) rfl dX12_solve_85 ?_
                  refine W.cut (pc := 98) (fun H locs ls stk => ∃ (g4 : Nat → Int32) (gs4 : Nat → Int64) (m4 : Nat → Int), (Bg g4 m4) ∧ (AnsB m4 1020) ∧ (0 < m4 1028 ∧ ∀ g, g < gq → 0 < m4 (1033 + g)) ∧ (∀ q, 1036 ≤ q → m4 q = mg q) ∧  stk = [] ∧ va_P (dC, dI) vwCl (WR a k h0 (fT (fT (fT (fT (fT (fT (fT vi 0 0) 113 hay) 11 0) 116 fx78) 5 cn278) 6 rn278) 7 gn278) (fT vj 12 qd78) (fT (fT (fT (fT (fT (fT (fT (fT vF 70 f70x) 0 g4) 2 f2w78) 3 f3w78) 4 f478) 5 f578) 6 f678) 69 f69y) (fT (fT (fT vG 1 gs4) 7 F78) 8 L878)) H ∧ va_D A (WR a k h0 (fT (fT (fT (fT (fT (fT (fT vi 0 0) 113 hay) 11 0) 116 fx78) 5 cn278) 6 rn278) 7 gn278) (fT vj 12 qd78) (fT (fT (fT (fT (fT (fT (fT (fT vF 70 f70x) 0 g4) 2 f2w78) 3 f3w78) 4 f478) 5 f578) 6 f678) 69 f69y) (fT (fT (fT vG 1 gs4) 7 F78) 8 L878)) ∧ va_S A s.heap H locs ∧ lv_has ls 4 [(0, .ref h0), (2, .int mo), (3, .int wy)]) (fun join2 => ?_) ?_
                  · refine lv_if_eq (tgt := 98) hx hb dX12_solve_88 (by decide) (fun c_88 => ?_) (fun c_88 => ?_)
                    · have t_88 : (hay).toInt = 0 := toI_eq c_88 rfl (by decide)
                      have hl : lv_has _ _ ([(0, .ref h0), (2, .int mo), (3, .int wy)]) := lv_sub hl [0, 1, 2] rfl
                      exact join2 _ _ _ _ ⟨g78, gs78, m278, f78_0, f78_1, (f78_4.resolve_left c_81).resolve_left (by decide), fun q hq => by (rw [f78_2 _ (by omega)]); exact ho2 q hq, rfl, hP, hD, hS, hl⟩
                    · have t_88 : ¬ (hay).toInt = 0 := toI_neq c_88 rfl (by decide)
                      refine lv_aload_n hx hb dX12_solve_91 rfl (lv_at hl 0 rfl) ?_
                      have hFc := allFree hD hS hA
                      refine va_calli (va_runV (As := []) (rest := []) ⟨hx, hb, hml, hown, hts⟩ (r_X12_isBetter l dC dI a k h0 (fT (fT (fT (fT (fT (fT (fT vi 0 0) 113 hay) 11 0) 116 fx78) 5 cn278) 6 rn278) 7 gn278) (fT vj 12 qd78) (fT (fT (fT (fT (fT (fT (fT (fT vF 70 f70x) 0 g78) 2 f2w78) 3 f3w78) 4 f478) 5 f578) 6 f678) 69 f69y) (fT (fT (fT vG 1 gs78) 7 F78) 8 L878) vn gq m278 f78_0 (by first | with_reducible assumption | decide | omega | rfl | assumption) (by first | with_reducible assumption | decide | omega | rfl | assumption) (by first | with_reducible assumption | decide | omega | rfl | assumption) (by first | with_reducible assumption | decide | omega | rfl | assumption) (f78_1) (hA02.frame (fun p h1 h2 => by (rw [f78_2 _ (by omega)]))) H.size) (cwV 0 hts gwsRX12_solve_5 rfl rfl rfl hd_yX12_isBetter_RX12 (by decide +kernel)) (fz_pre (va_recv hK hP (ci := 12) (q0 := 0) rfl rfl) hP hK hD) rfl rfl hl.1 rfl (lv_room (Nat.le_of_ble_eq_true rfl)) dX12_solve_92 (by decide +kernel)) hS (fun q _ h => hFc q h) hFc (fun r92 u t9_ H locs ht hvm hw9 hB9 hz1 hk1 hS => ?_)
                      revert u hw9 hB9
                      refine fz_p3 ?_
                      intro g92 gs92 m292 hw9 hB9
                      try dsimp only at hw9 hB9
                      have e9F : fT (fT (fT (fT (fT (fT (fT (fT vF 70 f70x) 0 g92) 2 f2w78) 3 f3w78) 4 f478) 5 f578) 6 f678) 69 f69y = fT (fT (fT (fT (fT (fT (fT (fT (fT vF 70 f70x) 0 g78) 2 f2w78) 3 f3w78) 4 f478) 5 f578) 6 f678) 69 f69y) 0 g92 := Eq.symm (up_6 rfl)
                      have e9G : fT (fT (fT vG 1 gs92) 7 F78) 8 L878 = fT (fT (fT (fT vG 1 gs78) 7 F78) 8 L878) 1 gs92 := ((fT_sw _ _ _ (Nat.ne_of_beq_eq_false rfl)).trans (congrArg (fun g9 => fT g9 8 L878) ((fT_sw _ _ _ (Nat.ne_of_beq_eq_false rfl)).trans (congrArg (fun g9 => fT g9 7 F78) (fT_sm _ _ _ _))))).symm
                      have hP := wr_PG e9G (wr_PF e9F (fz_P ht hB9.1))
                      have hD := wr_DG e9G (wr_DF e9F (hB9.2.weaken (fun _ q _ h => hFc q.1 h)))
                      clear e9F e9G
                      revert hw9
                      refine fz_a3 ?_
                      intro f92_0 f92_1 f92_2
                      refine lv_if_eq (tgt := 102) hx hb dX12_solve_95 (by decide) (fun c_95 => ?_) (fun c_95 => ?_)
                      · have t_95 : (r92).toInt = 0 := toI_eq c_95 rfl (by decide)
                        have hl : lv_has _ _ ([(0, .ref h0), (2, .int mo), (3, .int wy)]) := lv_sub hl [0, 1, 2] rfl
                        exact join1 _ _ _ _ ⟨hay, g92, gs92, m292, f92_0, (f78_1).frame (fun p h1 h2 => f92_1 p (by omega)), hA02.frame (fun p h1 h2 => by (rw [f92_1 _ (by omega), f78_2 _ (by omega)])), fun h9 => (hPp2 h9).frame hgq (fun p h1 h2 => by (rw [f92_1 _ (by omega), f78_2 _ (by omega)])), hax2, fun q hq => by (rw [f92_1 _ (by omega), f78_2 _ (by omega)]); exact ho2 q hq, rfl, hP, hD, hS, hl⟩
                      · have t_95 : ¬ (r92).toInt = 0 := toI_neq c_95 rfl (by decide)
                        have hl : lv_has _ _ ([(0, .ref h0), (2, .int mo), (3, .int wy)]) := lv_sub hl [0, 1, 2] rfl
                        exact join2 _ _ _ _ ⟨g92, gs92, m292, f92_0, (f78_1).frame (fun p h1 h2 => f92_1 p (by omega)), by (have q9 := (f78_4.resolve_left c_81).resolve_left (by decide)); exact ⟨by rw [f92_1 _ (by omega)]; exact q9.1, fun g hg => by rw [f92_1 _ (by omega)]; exact q9.2 g hg⟩, fun q hq => by (rw [f92_1 _ (by omega), f78_2 _ (by omega)]); exact ho2 q hq, rfl, hP, hD, hS, hl⟩
                  · rintro H locs ls stk ⟨g4, gs4, m4, hB4, hA4, hP4, ho4, rfl, hP, hD, hS, hl⟩
                    refine lv_aload_n hx hb dX12_solve_98 rfl (lv_at hl 0 rfl) ?_
                    have hFc := allFree hD hS hA
                    refine va_callv (va_runV (As := []) (rest := []) ⟨hx, hb, hml, hown, hts⟩ (r_X12_take l dC dI a k h0 (fT (fT (fT (fT (fT (fT (fT vi 0 0) 113 hay) 11 0) 116 fx78) 5 cn278) 6 rn278) 7 gn278) (fT vj 12 qd78) (fT (fT (fT (fT (fT (fT (fT (fT vF 70 f70x) 0 g4) 2 f2w78) 3 f3w78) 4 f478) 5 f578) 6 f678) 69 f69y) (fT (fT (fT vG 1 gs4) 7 F78) 8 L878) m4 hB4 H.size) (cwV 0 hts gwsRX12_solve_6 rfl rfl rfl hd_yX12_take_RX12 (by decide +kernel)) (fz_pre (va_recv hK hP (ci := 12) (q0 := 0) rfl rfl) hP hK hD) rfl rfl hl.1 rfl (lv_room (Nat.le_of_ble_eq_true rfl)) dX12_solve_99 (by decide +kernel)) hS (fun q _ h => hFc q h) hFc (fun u t9_ H locs ht hvm hw9 hB9 hz1 hk1 hS => ?_)
                    revert u hw9 hB9
                    refine fz_p2 ?_
                    intro g99 m299 hw9 hB9
                    try dsimp only at hw9 hB9
                    have e9i : fT (fT (fT (fT (fT (fT (fT vi 0 0) 113 1) 11 0) 116 fx78) 5 cn278) 6 rn278) 7 gn278 = fT (fT (fT (fT (fT (fT (fT (fT vi 0 0) 113 hay) 11 0) 116 fx78) 5 cn278) 6 rn278) 7 gn278) 113 1 := ((fT_sw _ _ _ (Nat.ne_of_beq_eq_false rfl)).trans (congrArg (fun g9 => fT g9 7 gn278) ((fT_sw _ _ _ (Nat.ne_of_beq_eq_false rfl)).trans (congrArg (fun g9 => fT g9 6 rn278) ((fT_sw _ _ _ (Nat.ne_of_beq_eq_false rfl)).trans (congrArg (fun g9 => fT g9 5 cn278) ((fT_sw _ _ _ (Nat.ne_of_beq_eq_false rfl)).trans (congrArg (fun g9 => fT g9 116 fx78) ((fT_sw _ _ _ (Nat.ne_of_beq_eq_false rfl)).trans (congrArg (fun g9 => fT g9 11 0) (fT_sm _ _ _ _))))))))))).symm
                    have e9F : fT (fT (fT (fT (fT (fT (fT (fT vF 70 f70x) 0 g99) 2 f2w78) 3 f3w78) 4 f478) 5 f578) 6 f678) 69 f69y = fT (fT (fT (fT (fT (fT (fT (fT (fT vF 70 f70x) 0 g4) 2 f2w78) 3 f3w78) 4 f478) 5 f578) 6 f678) 69 f69y) 0 g99 := Eq.symm (up_6 rfl)
                    have hP := wr_PF e9F (wr_Pi e9i (fz_P ht hB9.1))
                    have hD := wr_DF e9F (wr_Di e9i (hB9.2.weaken (fun _ q _ h => hFc q.1 h)))
                    clear e9i e9F
                    revert hw9
                    refine fz_a3 ?_
                    intro f99_0 f99_1 f99_2
                    have hl : lv_has _ _ ([(0, .ref h0), (2, .int mo), (3, .int wy)]) := lv_sub hl [0, 1, 2] rfl
                    exact join1 _ _ _ _ ⟨1, g99, gs4, m299, f99_0, hA4.frame (fun p h1 h2 => f99_2 p (by omega)), AnsB.taken hA4 f99_1, fun _ => AnsP.taken hP4 hgq f99_1, Or.inr rfl, fun q hq => by (rw [f99_2 _ (by omega)]); exact ho4 q hq, rfl, hP, hD, hS, hl⟩
              · rintro H locs ls stk ⟨haz, g5, gs5, m5, hB5, hA3, hA03, hPp3, hax3, ho3, rfl, hP, hD, hS, hl⟩
                refine lv_aload_n hx hb dX12_solve_102 rfl (lv_at hl 0 rfl) ?_
                have hFc := allFree hD hS hA
                refine va_calli (va_runV (As := []) (rest := []) ⟨hx, hb, hml, hown, hts⟩ (r_X12_nextWays l dC dI a k h0 (fT (fT (fT (fT (fT (fT (fT vi 0 0) 113 haz) 11 0) 116 fx78) 5 cn278) 6 rn278) 7 gn278) (fT vj 12 qd78) (fT (fT (fT (fT (fT (fT (fT (fT vF 70 f70x) 0 g5) 2 f2w78) 3 f3w78) 4 f478) 5 f578) 6 f678) 69 f69y) (fT (fT (fT vG 1 gs5) 7 F78) 8 L878) mr (by first | with_reducible assumption | decide | omega | rfl | assumption) (by first | with_reducible assumption | decide | omega | rfl | assumption) (hc1) H.size) (cwV 0 hts gwsRX12_solve_7 rfl rfl rfl hd_yX12_nextWays_RX12 (by decide +kernel)) (fz_pre (va_recv hK hP (ci := 12) (q0 := 0) rfl rfl) hP hK hD) rfl rfl hl.1 rfl (lv_room (Nat.le_of_ble_eq_true rfl)) dX12_solve_103 (by decide +kernel)) hS (fun q _ h => hFc q h) hFc (fun r103 f69103 t9_ H locs ht hvm hw9 hB9 hz1 hk1 hS => ?_)
                have e9F : fT (fT (fT (fT (fT (fT (fT (fT vF 70 f70x) 0 g5) 2 f2w78) 3 f3w78) 4 f478) 5 f578) 6 f678) 69 f69103 = fT (fT (fT (fT (fT (fT (fT (fT (fT vF 70 f70x) 0 g5) 2 f2w78) 3 f3w78) 4 f478) 5 f578) 6 f678) 69 f69y) 69 f69103 := (fT_sm _ _ _ _).symm
                have hP := wr_PF e9F (fz_P ht hB9.1)
                have hD := wr_DF e9F (hB9.2.weaken (fun _ q _ h => hFc q.1 h))
                clear e9F
                rcases hw9 with ⟨rfl, f103_0, f103_1⟩ | ⟨rfl, f103_0⟩
                · have f103_0 : ChO (vF 59) f69103 mr := f103_0
                  have f103_1 : odo (cD f69y) (cD (vF 59)) mr < odo (cD f69103) (cD (vF 59)) mr := f103_1
                  refine lv_istore_n hx hb dX12_solve_106 rfl hl (by decide) rfl (fun ls (hl : lv_has ls _ ([(3, .int 1), (0, .ref h0), (2, .int mo)])) => ?_)
                  refine lv_goto (tgt := 71) hx hb dX12_solve_107 (by decide) ?_
                  have hl : lv_has _ _ ([(0, .ref h0), (2, .int mo), (3, .int 1)]) := lv_sub hl [1, 2, 0] rfl
                  exact ih71_1 1 haz f69103 g5 f2w78 f3w78 f478 f578 f678 gs5 F78 L878 qd78 0 fx78 cn278 rn278 gn278 m5 _ _ _ (hB5) (f103_0) (hA3) (hA03) (hPp3) (hax3) (ho3) (by (have h8 := odo_lt (f := cD f69y) (b := cD (vF 59)) mr (fun q hq => hc1.dg hq)); (have h9 := hfy.resolve_left (fun h => c_72 h.1)); (have h7 := f103_1); exact Or.inr (by omega)) hP hD hS hl
                · have f103_0 : ChO (vF 59) f69103 mr := f103_0
                  refine lv_istore_n hx hb dX12_solve_106 rfl hl (by decide) rfl (fun ls (hl : lv_has ls _ ([(3, .int 0), (0, .ref h0), (2, .int mo)])) => ?_)
                  refine lv_goto (tgt := 71) hx hb dX12_solve_107 (by decide) ?_
                  have hl : lv_has _ _ ([(0, .ref h0), (2, .int mo), (3, .int 0)]) := lv_sub hl [1, 2, 0] rfl
                  exact ih71_1 0 haz f69103 g5 f2w78 f3w78 f478 f578 f678 gs5 F78 L878 qd78 0 fx78 cn278 rn278 gn278 m5 _ _ _ (hB5) (f103_0) (hA3) (hA03) (hPp3) (hax3) (ho3) (by (have h8 := odo_lt (f := cD f69y) (b := cD (vF 59)) mr (fun q hq => hc1.dg hq)); (have h9 := hfy.resolve_left (fun h => c_72 h.1)); exact Or.inl ⟨rfl, by omega⟩) hP hD hS hl
    · have t_31 : ¬ (rl).toInt = 0 := toI_neq c_31 rfl (by decide)
      refine lv_aload_n hx hb dX12_solve_34 rfl (lv_at hl 0 rfl) ?_
      refine lv_iconst (v := 1) hx hb dX12_solve_35 (by decide) ?_
      refine lv_iconst (v := 1) hx hb dX12_solve_36 (by decide) ?_
      have hFc := allFree hD hS hA
      refine va_calli (va_runV (As := [.int 1, .int 1]) (rest := []) ⟨hx, hb, hml, hown, hts⟩ (r_X12_solves l dC dI a k h0 (fT (fT vi 0 0) 113 0) vj vF vG 1 1 vn mr gq mg hBg (by first | with_reducible assumption | decide | omega | rfl | assumption) (by first | with_reducible assumption | decide | omega | rfl | assumption) (by first | with_reducible assumption | decide | omega | rfl | assumption) (by first | with_reducible assumption | decide | omega | rfl | assumption) (by first | with_reducible assumption | decide | omega | rfl | assumption) (by first | with_reducible assumption | decide | omega | rfl | assumption) (by first | with_reducible assumption | decide | omega | rfl | assumption) (fun h9 => absurd h9 (by decide)) (by first | with_reducible assumption | decide | omega | rfl | assumption) H.size) (cwV 2 hts gwsRX12_solve_4 rfl rfl rfl hd_yX12_solves_RX12 (by decide +kernel)) (fz_pre (va_recv hK hP (ci := 12) (q0 := 0) rfl rfl) hP hK hD) rfl rfl hl.1 rfl (lv_room (Nat.le_of_ble_eq_true rfl)) dX12_solve_37 (by decide +kernel)) hS (fun q _ h => hFc q h) hFc (fun r37 u t9_ H locs ht hvm hw9 hB9 hz1 hk1 hS => ?_)
      revert u hw9 hB9
      refine fz_p15 ?_
      intro g37 f2w37 f3w37 f437 f537 f637 gs37 F37 L837 qd37 fx37 cn237 rn237 gn237 m237 hw9 hB9
      try dsimp only at hw9 hB9
      have hP : va_P (dC, dI) vwCl (WR a k h0 (fT (fT (fT (fT (fT (fT (fT vi 0 0) 113 0) 116 fx37) 5 cn237) 6 rn237) 7 gn237) 11 0) (fT vj 12 qd37) (fT (fT (fT (fT (fT (fT vF 0 g37) 4 f437) 6 f637) 5 f537) 2 f2w37) 3 f3w37) (fT (fT (fT vG 1 gs37) 7 F37) 8 L837)) H := fz_P ht hB9.1
      have hD := fz_sd hP (hB9.2.weaken (fun _ q _ h => hFc q.1 h)) rfl
      revert hw9
      refine fz_a5 ?_
      intro f37_0 f37_1 f37_2 f37_3 f37_4
      refine W.cut (pc := 47) (fun H locs ls stk => ∃ (haz : Int32) (g5 : Nat → Int32) (m5 : Nat → Int), (Bg g5 m5) ∧ (AnsB m5 1020) ∧ (AnsB m5 1000) ∧ (haz ≠ 0 → AnsP m5 1000 gq) ∧ (haz = 0 ∨ haz = 1) ∧ (∀ q, 1036 ≤ q → m5 q = mg q) ∧  stk = [] ∧ va_P (dC, dI) vwCl (WR a k h0 (fT (fT (fT (fT (fT (fT (fT vi 0 0) 113 haz) 116 fx37) 5 cn237) 6 rn237) 7 gn237) 11 0) (fT vj 12 qd37) (fT (fT (fT (fT (fT (fT vF 0 g5) 4 f437) 6 f637) 5 f537) 2 f2w37) 3 f3w37) (fT (fT (fT vG 1 gs37) 7 F37) 8 L837)) H ∧ va_D A (WR a k h0 (fT (fT (fT (fT (fT (fT (fT vi 0 0) 113 haz) 116 fx37) 5 cn237) 6 rn237) 7 gn237) 11 0) (fT vj 12 qd37) (fT (fT (fT (fT (fT (fT vF 0 g5) 4 f437) 6 f637) 5 f537) 2 f2w37) 3 f3w37) (fT (fT (fT vG 1 gs37) 7 F37) 8 L837)) ∧ va_S A s.heap H locs ∧ lv_has ls 4 [(0, .ref h0)]) (fun join3 => ?_) ?_
      · refine lv_if_eq (tgt := 47) hx hb dX12_solve_40 (by decide) (fun c_40 => ?_) (fun c_40 => ?_)
        · have t_40 : (r37).toInt = 0 := toI_eq c_40 rfl (by decide)
          have hl : lv_has _ _ ([(0, .ref h0)]) := lv_sub hl [0] rfl
          exact join3 _ _ _ _ ⟨0, g37, m237, f37_0, f37_1, hAb.frame (fun p h1 h2 => by (rw [f37_2 _ (by omega)])), fun h9 => absurd rfl h9, Or.inl rfl, fun q hq => by (rw [f37_2 _ (by omega)]), rfl, hP, hD, hS, hl⟩
        · have t_40 : ¬ (r37).toInt = 0 := toI_neq c_40 rfl (by decide)
          refine lv_aload_n hx hb dX12_solve_43 rfl (lv_at hl 0 rfl) ?_
          have hFc := allFree hD hS hA
          refine va_callv (va_runV (As := []) (rest := []) ⟨hx, hb, hml, hown, hts⟩ (r_X12_take l dC dI a k h0 (fT (fT (fT (fT (fT (fT (fT vi 0 0) 113 0) 116 fx37) 5 cn237) 6 rn237) 7 gn237) 11 0) (fT vj 12 qd37) (fT (fT (fT (fT (fT (fT vF 0 g37) 4 f437) 6 f637) 5 f537) 2 f2w37) 3 f3w37) (fT (fT (fT vG 1 gs37) 7 F37) 8 L837) m237 f37_0 H.size) (cwV 0 hts gwsRX12_solve_6 rfl rfl rfl hd_yX12_take_RX12 (by decide +kernel)) (fz_pre (va_recv hK hP (ci := 12) (q0 := 0) rfl rfl) hP hK hD) rfl rfl hl.1 rfl (lv_room (Nat.le_of_ble_eq_true rfl)) dX12_solve_44 (by decide +kernel)) hS (fun q _ h => hFc q h) hFc (fun u t9_ H locs ht hvm hw9 hB9 hz1 hk1 hS => ?_)
          revert u hw9 hB9
          refine fz_p2 ?_
          intro g44 m244 hw9 hB9
          try dsimp only at hw9 hB9
          have e9i : fT (fT (fT (fT (fT (fT (fT vi 0 0) 113 1) 116 fx37) 5 cn237) 6 rn237) 7 gn237) 11 0 = fT (fT (fT (fT (fT (fT (fT (fT vi 0 0) 113 0) 116 fx37) 5 cn237) 6 rn237) 7 gn237) 11 0) 113 1 := ((fT_sw _ _ _ (Nat.ne_of_beq_eq_false rfl)).trans (congrArg (fun g9 => fT g9 11 0) ((fT_sw _ _ _ (Nat.ne_of_beq_eq_false rfl)).trans (congrArg (fun g9 => fT g9 7 gn237) ((fT_sw _ _ _ (Nat.ne_of_beq_eq_false rfl)).trans (congrArg (fun g9 => fT g9 6 rn237) ((fT_sw _ _ _ (Nat.ne_of_beq_eq_false rfl)).trans (congrArg (fun g9 => fT g9 5 cn237) ((fT_sw _ _ _ (Nat.ne_of_beq_eq_false rfl)).trans (congrArg (fun g9 => fT g9 116 fx37) (fT_sm _ _ _ _))))))))))).symm
          have e9F : fT (fT (fT (fT (fT (fT vF 0 g44) 4 f437) 6 f637) 5 f537) 2 f2w37) 3 f3w37 = fT (fT (fT (fT (fT (fT (fT vF 0 g37) 4 f437) 6 f637) 5 f537) 2 f2w37) 3 f3w37) 0 g44 := ((fT_sw _ _ _ (Nat.ne_of_beq_eq_false rfl)).trans (congrArg (fun g9 => fT g9 3 f3w37) ((fT_sw _ _ _ (Nat.ne_of_beq_eq_false rfl)).trans (congrArg (fun g9 => fT g9 2 f2w37) ((fT_sw _ _ _ (Nat.ne_of_beq_eq_false rfl)).trans (congrArg (fun g9 => fT g9 5 f537) ((fT_sw _ _ _ (Nat.ne_of_beq_eq_false rfl)).trans (congrArg (fun g9 => fT g9 6 f637) ((fT_sw _ _ _ (Nat.ne_of_beq_eq_false rfl)).trans (congrArg (fun g9 => fT g9 4 f437) (fT_sm _ _ _ _))))))))))).symm
          have hP := wr_PF e9F (wr_Pi e9i (fz_P ht hB9.1))
          have hD := wr_DF e9F (wr_Di e9i (hB9.2.weaken (fun _ q _ h => hFc q.1 h)))
          clear e9i e9F
          revert hw9
          refine fz_a3 ?_
          intro f44_0 f44_1 f44_2
          have hl : lv_has _ _ ([(0, .ref h0)]) := lv_sub hl [0] rfl
          exact join3 _ _ _ _ ⟨1, g44, m244, f44_0, (f37_1).frame (fun p h1 h2 => f44_2 p (by omega)), AnsB.taken f37_1 f44_1, fun _ => AnsP.taken ((f37_4.resolve_left c_40).resolve_left (by decide)) hgq f44_1, Or.inr rfl, fun q hq => by (rw [f44_2 _ (by omega), f37_2 _ (by omega)]), rfl, hP, hD, hS, hl⟩
      · rintro H locs ls stk ⟨haz, g5, m5, hB5, hA3, hA03, hPp3, hax3, ho3, rfl, hP, hD, hS, hl⟩
        refine lv_aload_n hx hb dX12_solve_47 rfl (lv_at hl 0 rfl) ?_
        refine va_get (D := (dC, dI)) (ci := 12) (v := .int haz) (C := RX12) (T := TX12) (N := 163) (fs := fM (vS a (fT (fT (fT (fT (fT (fT (fT vi 0 0) 113 haz) 116 fx37) 5 cn237) 6 rn237) 7 gn237) 11 0) (fT vj 12 qd37))) hx hb hts iwsRX12_solve_in12 hown hK hP 0 rfl rfl 113 (by decide) (hts _ hm_r_X12_solve_1) (fun _ h9 => h9) rfl dX12_solve_48 ?_
        refine W.widen (k := 0) (n := 0) (by decide +kernel) (by decide +kernel) ?_
        have e9 : fT (fT (fT (fT (fT (fT (fT vi 0 0) 113 haz) 11 0) 116 fx37) 5 cn237) 6 rn237) 7 gn237 = fT (fT (fT (fT (fT (fT (fT vi 0 0) 113 haz) 116 fx37) 5 cn237) 6 rn237) 7 gn237) 11 0 := Eq.trans (mv_3 rfl) (Eq.trans (mv_3 rfl) (Eq.trans (mv_3 rfl) (Eq.trans (mv_3 rfl) (mv_4 rfl))))
        have hP := wr_Pi e9 hP
        have hD := wr_Di e9 hD
        clear e9
        have e9 : fT (fT (fT (fT (fT (fT (fT (fT vF 70 (vF 70)) 0 g5) 2 f2w37) 3 f3w37) 4 f437) 5 f537) 6 f637) 69 (vF 69) = fT (fT (fT (fT (fT (fT vF 0 g5) 4 f437) 6 f637) 5 f537) 2 f2w37) 3 f3w37 := Eq.trans (mv_7 rfl) (Eq.trans (id_7 rfl) (Eq.trans (id_6 rfl) (Eq.trans (mv_2 rfl) (Eq.trans (mv_1 rfl) (Eq.trans (mv_2 rfl) (Eq.trans (mv_4 rfl) (mv_4 rfl)))))))
        have hP := wr_PF e9 hP
        have hD := wr_DF e9 hD
        clear e9
        exact W.zret (v := haz) hx hb hr (by rcases hax3 with h | h <;> rw [h] <;> rfl) (fun t9_ ht hW => ⟨⟨haz, (g5, f2w37, f3w37, f437, f537, f637, gs37, F37, L837, qd37, 0, fx37, cn237, rn237, gn237, 0, haz, (vF 69), (vF 70), m5), rfl, by (try dsimp only); exact ⟨hB5, hA3, hA03, hPp3, ho3, hM.2.2.2.2.2.2, hax3⟩, by rw [ht]; exact hP, hD⟩, hS.F ht⟩) hS.2.2 dX12_solve_51
end

theorem dX12_takeSign_0 : decode cX12_takeSign 0 = .ok (.aload_n 0, 1) := dk_42 (by decide +kernel)
theorem dX12_takeSign_1 : decode cX12_takeSign 1 = .ok (.aload_n 0, 1) := dk_42 (by decide +kernel)
theorem dX12_takeSign_2 : decode cX12_takeSign 2 = .ok (.getfield 485, 3) := dk_180 (by decide +kernel)
theorem dX12_takeSign_5 : decode cX12_takeSign 5 = .ok (.iconst 1, 1) := dk_4 (by decide +kernel)
theorem dX12_takeSign_6 : decode cX12_takeSign 6 = .ok (.iadd, 1) := dk_96 (by decide +kernel)
theorem dX12_takeSign_7 : decode cX12_takeSign 7 = .ok (.invokevirtual 482, 3) := dk_182 (by decide +kernel)
theorem dX12_takeSign_10 : decode cX12_takeSign 10 = .ok (.istore_n 2, 1) := dk_61 (by decide +kernel)
theorem dX12_takeSign_11 : decode cX12_takeSign 11 = .ok (.iload_n 1, 1) := dk_27 (by decide +kernel)
theorem dX12_takeSign_12 : decode cX12_takeSign 12 = .ok (.bipush 46, 2) := dk_16 (by decide +kernel)
theorem dX12_takeSign_14 : decode cX12_takeSign 14 = .ok (.if_icmp .ne 9, 3) := dk_160 (by decide +kernel)
theorem dX12_takeSign_17 : decode cX12_takeSign 17 = .ok (.iload_n 2, 1) := dk_28 (by decide +kernel)
theorem dX12_takeSign_18 : decode cX12_takeSign 18 = .ok (.bipush 46, 2) := dk_16 (by decide +kernel)
theorem dX12_takeSign_20 : decode cX12_takeSign 20 = .ok (.if_icmp .eq 39, 3) := dk_159 (by decide +kernel)
theorem dX12_takeSign_23 : decode cX12_takeSign 23 = .ok (.iload_n 1, 1) := dk_27 (by decide +kernel)
theorem dX12_takeSign_24 : decode cX12_takeSign 24 = .ok (.bipush 60, 2) := dk_16 (by decide +kernel)
theorem dX12_takeSign_26 : decode cX12_takeSign 26 = .ok (.if_icmp .ne 9, 3) := dk_160 (by decide +kernel)
theorem dX12_takeSign_29 : decode cX12_takeSign 29 = .ok (.iload_n 2, 1) := dk_28 (by decide +kernel)
theorem dX12_takeSign_30 : decode cX12_takeSign 30 = .ok (.bipush 61, 2) := dk_16 (by decide +kernel)
theorem dX12_takeSign_32 : decode cX12_takeSign 32 = .ok (.if_icmp .eq 27, 3) := dk_159 (by decide +kernel)
theorem dX12_takeSign_35 : decode cX12_takeSign 35 = .ok (.iload_n 1, 1) := dk_27 (by decide +kernel)
theorem dX12_takeSign_36 : decode cX12_takeSign 36 = .ok (.bipush 62, 2) := dk_16 (by decide +kernel)
theorem dX12_takeSign_38 : decode cX12_takeSign 38 = .ok (.if_icmp .ne 9, 3) := dk_160 (by decide +kernel)
theorem dX12_takeSign_41 : decode cX12_takeSign 41 = .ok (.iload_n 2, 1) := dk_28 (by decide +kernel)
theorem dX12_takeSign_42 : decode cX12_takeSign 42 = .ok (.bipush 61, 2) := dk_16 (by decide +kernel)
theorem dX12_takeSign_44 : decode cX12_takeSign 44 = .ok (.if_icmp .eq 15, 3) := dk_159 (by decide +kernel)
theorem dX12_takeSign_47 : decode cX12_takeSign 47 = .ok (.iload_n 1, 1) := dk_27 (by decide +kernel)
theorem dX12_takeSign_48 : decode cX12_takeSign 48 = .ok (.bipush 60, 2) := dk_16 (by decide +kernel)
theorem dX12_takeSign_50 : decode cX12_takeSign 50 = .ok (.if_icmp .ne 13, 3) := dk_160 (by decide +kernel)
theorem dX12_takeSign_53 : decode cX12_takeSign 53 = .ok (.iload_n 2, 1) := dk_28 (by decide +kernel)
theorem dX12_takeSign_54 : decode cX12_takeSign 54 = .ok (.bipush 62, 2) := dk_16 (by decide +kernel)
theorem dX12_takeSign_56 : decode cX12_takeSign 56 = .ok (.if_icmp .ne 7, 3) := dk_160 (by decide +kernel)
theorem dX12_takeSign_59 : decode cX12_takeSign 59 = .ok (.iconst 1, 1) := dk_4 (by decide +kernel)
theorem dX12_takeSign_60 : decode cX12_takeSign 60 = .ok (.goto 4, 3) := dk_167 (by decide +kernel)
theorem dX12_takeSign_63 : decode cX12_takeSign 63 = .ok (.iconst 0, 1) := dk_3 (by decide +kernel)
theorem dX12_takeSign_64 : decode cX12_takeSign 64 = .ok (.istore_n 3, 1) := dk_62 (by decide +kernel)
theorem dX12_takeSign_65 : decode cX12_takeSign 65 = .ok (.iload_n 1, 1) := dk_27 (by decide +kernel)
theorem dX12_takeSign_66 : decode cX12_takeSign 66 = .ok (.bipush 61, 2) := dk_16 (by decide +kernel)
theorem dX12_takeSign_68 : decode cX12_takeSign 68 = .ok (.if_icmp .eq 93, 3) := dk_159 (by decide +kernel)
theorem dX12_takeSign_71 : decode cX12_takeSign 71 = .ok (.iload_n 1, 1) := dk_27 (by decide +kernel)
theorem dX12_takeSign_72 : decode cX12_takeSign 72 = .ok (.bipush 60, 2) := dk_16 (by decide +kernel)
theorem dX12_takeSign_74 : decode cX12_takeSign 74 = .ok (.if_icmp .eq 87, 3) := dk_159 (by decide +kernel)
theorem dX12_takeSign_77 : decode cX12_takeSign 77 = .ok (.iload_n 1, 1) := dk_27 (by decide +kernel)
theorem dX12_takeSign_78 : decode cX12_takeSign 78 = .ok (.bipush 62, 2) := dk_16 (by decide +kernel)
theorem dX12_takeSign_80 : decode cX12_takeSign 80 = .ok (.if_icmp .eq 81, 3) := dk_159 (by decide +kernel)
theorem dX12_takeSign_83 : decode cX12_takeSign 83 = .ok (.iload_n 1, 1) := dk_27 (by decide +kernel)
theorem dX12_takeSign_84 : decode cX12_takeSign 84 = .ok (.bipush 58, 2) := dk_16 (by decide +kernel)
theorem dX12_takeSign_86 : decode cX12_takeSign 86 = .ok (.if_icmp .eq 75, 3) := dk_159 (by decide +kernel)
theorem dX12_takeSign_89 : decode cX12_takeSign 89 = .ok (.iload_n 1, 1) := dk_27 (by decide +kernel)
theorem dX12_takeSign_90 : decode cX12_takeSign 90 = .ok (.bipush 59, 2) := dk_16 (by decide +kernel)
theorem dX12_takeSign_92 : decode cX12_takeSign 92 = .ok (.if_icmp .eq 69, 3) := dk_159 (by decide +kernel)
theorem dX12_takeSign_95 : decode cX12_takeSign 95 = .ok (.iload_n 1, 1) := dk_27 (by decide +kernel)
theorem dX12_takeSign_96 : decode cX12_takeSign 96 = .ok (.bipush 44, 2) := dk_16 (by decide +kernel)
theorem dX12_takeSign_98 : decode cX12_takeSign 98 = .ok (.if_icmp .eq 63, 3) := dk_159 (by decide +kernel)
theorem dX12_takeSign_101 : decode cX12_takeSign 101 = .ok (.iload_n 1, 1) := dk_27 (by decide +kernel)
theorem dX12_takeSign_102 : decode cX12_takeSign 102 = .ok (.bipush 91, 2) := dk_16 (by decide +kernel)
theorem dX12_takeSign_104 : decode cX12_takeSign 104 = .ok (.if_icmp .eq 57, 3) := dk_159 (by decide +kernel)
theorem dX12_takeSign_107 : decode cX12_takeSign 107 = .ok (.iload_n 1, 1) := dk_27 (by decide +kernel)
theorem dX12_takeSign_108 : decode cX12_takeSign 108 = .ok (.bipush 93, 2) := dk_16 (by decide +kernel)
theorem dX12_takeSign_110 : decode cX12_takeSign 110 = .ok (.if_icmp .eq 51, 3) := dk_159 (by decide +kernel)
theorem dX12_takeSign_113 : decode cX12_takeSign 113 = .ok (.iload_n 1, 1) := dk_27 (by decide +kernel)
theorem dX12_takeSign_114 : decode cX12_takeSign 114 = .ok (.bipush 123, 2) := dk_16 (by decide +kernel)
theorem dX12_takeSign_116 : decode cX12_takeSign 116 = .ok (.if_icmp .eq 45, 3) := dk_159 (by decide +kernel)
theorem dX12_takeSign_119 : decode cX12_takeSign 119 = .ok (.iload_n 1, 1) := dk_27 (by decide +kernel)
theorem dX12_takeSign_120 : decode cX12_takeSign 120 = .ok (.bipush 125, 2) := dk_16 (by decide +kernel)
theorem dX12_takeSign_122 : decode cX12_takeSign 122 = .ok (.if_icmp .eq 39, 3) := dk_159 (by decide +kernel)
theorem dX12_takeSign_125 : decode cX12_takeSign 125 = .ok (.iload_n 1, 1) := dk_27 (by decide +kernel)
theorem dX12_takeSign_126 : decode cX12_takeSign 126 = .ok (.bipush 40, 2) := dk_16 (by decide +kernel)
theorem dX12_takeSign_128 : decode cX12_takeSign 128 = .ok (.if_icmp .eq 33, 3) := dk_159 (by decide +kernel)
theorem dX12_takeSign_131 : decode cX12_takeSign 131 = .ok (.iload_n 1, 1) := dk_27 (by decide +kernel)
theorem dX12_takeSign_132 : decode cX12_takeSign 132 = .ok (.bipush 41, 2) := dk_16 (by decide +kernel)
theorem dX12_takeSign_134 : decode cX12_takeSign 134 = .ok (.if_icmp .eq 27, 3) := dk_159 (by decide +kernel)
theorem dX12_takeSign_137 : decode cX12_takeSign 137 = .ok (.iload_n 1, 1) := dk_27 (by decide +kernel)
theorem dX12_takeSign_138 : decode cX12_takeSign 138 = .ok (.bipush 43, 2) := dk_16 (by decide +kernel)
theorem dX12_takeSign_140 : decode cX12_takeSign 140 = .ok (.if_icmp .eq 21, 3) := dk_159 (by decide +kernel)
theorem dX12_takeSign_143 : decode cX12_takeSign 143 = .ok (.iload_n 1, 1) := dk_27 (by decide +kernel)
theorem dX12_takeSign_144 : decode cX12_takeSign 144 = .ok (.bipush 45, 2) := dk_16 (by decide +kernel)
theorem dX12_takeSign_146 : decode cX12_takeSign 146 = .ok (.if_icmp .eq 15, 3) := dk_159 (by decide +kernel)
theorem dX12_takeSign_149 : decode cX12_takeSign 149 = .ok (.iload_n 1, 1) := dk_27 (by decide +kernel)
theorem dX12_takeSign_150 : decode cX12_takeSign 150 = .ok (.bipush 42, 2) := dk_16 (by decide +kernel)
theorem dX12_takeSign_152 : decode cX12_takeSign 152 = .ok (.if_icmp .eq 9, 3) := dk_159 (by decide +kernel)
theorem dX12_takeSign_155 : decode cX12_takeSign 155 = .ok (.iload_n 1, 1) := dk_27 (by decide +kernel)
theorem dX12_takeSign_156 : decode cX12_takeSign 156 = .ok (.bipush 47, 2) := dk_16 (by decide +kernel)
theorem dX12_takeSign_158 : decode cX12_takeSign 158 = .ok (.if_icmp .ne 7, 3) := dk_160 (by decide +kernel)
theorem dX12_takeSign_161 : decode cX12_takeSign 161 = .ok (.iconst 1, 1) := dk_4 (by decide +kernel)
theorem dX12_takeSign_162 : decode cX12_takeSign 162 = .ok (.goto 4, 3) := dk_167 (by decide +kernel)
theorem dX12_takeSign_165 : decode cX12_takeSign 165 = .ok (.iconst 0, 1) := dk_3 (by decide +kernel)
theorem dX12_takeSign_166 : decode cX12_takeSign 166 = .ok (.istore 4, 2) := dk_54 (by decide +kernel)
theorem dX12_takeSign_168 : decode cX12_takeSign 168 = .ok (.aload_n 0, 1) := dk_42 (by decide +kernel)
theorem dX12_takeSign_169 : decode cX12_takeSign 169 = .ok (.iload_n 3, 1) := dk_29 (by decide +kernel)
theorem dX12_takeSign_170 : decode cX12_takeSign 170 = .ok (.ifCond .ne 8, 3) := dk_154 (by decide +kernel)
theorem dX12_takeSign_173 : decode cX12_takeSign 173 = .ok (.iload 4, 2) := dk_21 (by decide +kernel)
theorem dX12_takeSign_175 : decode cX12_takeSign 175 = .ok (.ifCond .eq 7, 3) := dk_153 (by decide +kernel)
theorem dX12_takeSign_178 : decode cX12_takeSign 178 = .ok (.iconst 4, 1) := dk_7 (by decide +kernel)
theorem dX12_takeSign_179 : decode cX12_takeSign 179 = .ok (.goto 4, 3) := dk_167 (by decide +kernel)
theorem dX12_takeSign_182 : decode cX12_takeSign 182 = .ok (.iconst 5, 1) := dk_8 (by decide +kernel)
theorem dX12_takeSign_183 : decode cX12_takeSign 183 = .ok (.putfield 494, 3) := dk_181 (by decide +kernel)
theorem dX12_takeSign_186 : decode cX12_takeSign 186 = .ok (.aload_n 0, 1) := dk_42 (by decide +kernel)
theorem dX12_takeSign_187 : decode cX12_takeSign 187 = .ok (.iload_n 3, 1) := dk_29 (by decide +kernel)
theorem dX12_takeSign_188 : decode cX12_takeSign 188 = .ok (.ifCond .ne 7, 3) := dk_154 (by decide +kernel)
theorem dX12_takeSign_191 : decode cX12_takeSign 191 = .ok (.iload_n 1, 1) := dk_27 (by decide +kernel)
theorem dX12_takeSign_192 : decode cX12_takeSign 192 = .ok (.goto 38, 3) := dk_167 (by decide +kernel)
theorem dX12_takeSign_195 : decode cX12_takeSign 195 = .ok (.iload_n 1, 1) := dk_27 (by decide +kernel)
theorem dX12_takeSign_196 : decode cX12_takeSign 196 = .ok (.bipush 46, 2) := dk_16 (by decide +kernel)
theorem dX12_takeSign_198 : decode cX12_takeSign 198 = .ok (.if_icmp .ne 8, 3) := dk_160 (by decide +kernel)
theorem dX12_takeSign_201 : decode cX12_takeSign 201 = .ok (.bipush 46, 2) := dk_16 (by decide +kernel)
theorem dX12_takeSign_203 : decode cX12_takeSign 203 = .ok (.goto 27, 3) := dk_167 (by decide +kernel)
theorem dX12_takeSign_206 : decode cX12_takeSign 206 = .ok (.iload_n 2, 1) := dk_28 (by decide +kernel)
theorem dX12_takeSign_207 : decode cX12_takeSign 207 = .ok (.bipush 62, 2) := dk_16 (by decide +kernel)
theorem dX12_takeSign_209 : decode cX12_takeSign 209 = .ok (.if_icmp .ne 8, 3) := dk_160 (by decide +kernel)
theorem dX12_takeSign_212 : decode cX12_takeSign 212 = .ok (.bipush 78, 2) := dk_16 (by decide +kernel)
theorem dX12_takeSign_214 : decode cX12_takeSign 214 = .ok (.goto 16, 3) := dk_167 (by decide +kernel)
theorem dX12_takeSign_217 : decode cX12_takeSign 217 = .ok (.iload_n 1, 1) := dk_27 (by decide +kernel)
theorem dX12_takeSign_218 : decode cX12_takeSign 218 = .ok (.bipush 60, 2) := dk_16 (by decide +kernel)
theorem dX12_takeSign_220 : decode cX12_takeSign 220 = .ok (.if_icmp .ne 8, 3) := dk_160 (by decide +kernel)
theorem dX12_takeSign_223 : decode cX12_takeSign 223 = .ok (.bipush 76, 2) := dk_16 (by decide +kernel)
theorem dX12_takeSign_225 : decode cX12_takeSign 225 = .ok (.goto 5, 3) := dk_167 (by decide +kernel)
theorem dX12_takeSign_228 : decode cX12_takeSign 228 = .ok (.bipush 71, 2) := dk_16 (by decide +kernel)
theorem dX12_takeSign_230 : decode cX12_takeSign 230 = .ok (.putfield 491, 3) := dk_181 (by decide +kernel)
theorem dX12_takeSign_233 : decode cX12_takeSign 233 = .ok (.aload_n 0, 1) := dk_42 (by decide +kernel)
theorem dX12_takeSign_234 : decode cX12_takeSign 234 = .ok (.dup, 1) := dk_89 (by decide +kernel)
theorem dX12_takeSign_235 : decode cX12_takeSign 235 = .ok (.getfield 485, 3) := dk_180 (by decide +kernel)
theorem dX12_takeSign_238 : decode cX12_takeSign 238 = .ok (.iload_n 3, 1) := dk_29 (by decide +kernel)
theorem dX12_takeSign_239 : decode cX12_takeSign 239 = .ok (.ifCond .eq 7, 3) := dk_153 (by decide +kernel)
theorem dX12_takeSign_242 : decode cX12_takeSign 242 = .ok (.iconst 2, 1) := dk_5 (by decide +kernel)
theorem dX12_takeSign_243 : decode cX12_takeSign 243 = .ok (.goto 4, 3) := dk_167 (by decide +kernel)
theorem dX12_takeSign_246 : decode cX12_takeSign 246 = .ok (.iconst 1, 1) := dk_4 (by decide +kernel)
theorem dX12_takeSign_247 : decode cX12_takeSign 247 = .ok (.iadd, 1) := dk_96 (by decide +kernel)
theorem dX12_takeSign_248 : decode cX12_takeSign 248 = .ok (.putfield 485, 3) := dk_181 (by decide +kernel)
theorem dX12_takeSign_251 : decode cX12_takeSign 251 = .ok (.return_, 1) := dk_177 (by decide +kernel)
def wsRX12_takeSign : List Cond := .code yX12_takeSign cX12_takeSign 5 none :: ([.fieldLink RX12 485 "OptimaWorksModel" "at0" "I", .fieldLink RX12 494 "OptimaWorksModel" "word" "I", .fieldLink RX12 491 "OptimaWorksModel" "sign0" "I"] ++ wsX120 ++ (wsV RX12 482 RX12 yX12_byteAt wsRX12_byteAt))
theorem iwsRX12_takeSign_in12 : ∀ w ∈ wsX120, w ∈ wsRX12_takeSign := fun _ h => List.mem_cons_of_mem _ (List.mem_append_left _ (List.mem_append_right _ h))
theorem gwsRX12_takeSign_0 : GoodIn wsRX12_takeSign (wsV RX12 482 RX12 yX12_byteAt wsRX12_byteAt) := goodIn_sub (fun _ h => List.mem_cons_of_mem _ (List.mem_append_right _ h)) (gdV (by decide +kernel) gdwsRX12_byteAt)
theorem gdwsRX12_takeSign : wsRX12_takeSign.all goodWord = true := gdC rfl (gdA (gdA (by decide +kernel : ([.fieldLink RX12 485 "OptimaWorksModel" "at0" "I", .fieldLink RX12 494 "OptimaWorksModel" "word" "I", .fieldLink RX12 491 "OptimaWorksModel" "sign0" "I"] : List Cond).all goodWord = true) gdwsX120) (gdV (by decide +kernel) gdwsRX12_byteAt))
set_option maxHeartbeats 4000000 in
set_option maxRecDepth 100000 in
/-- takeSign(c) -/
theorem r_X12_takeSign (l : Launch) (dC : Nat → ClassId) (dI : Nat → Nat → Nat) (a : Nat → Nat) (k : Nat → ClassId) (h0 : Nat) (vi : Nat → Int32) (vj : Nat → Int64) (vF : Nat → Nat → Int32) (vG : Nat → Nat → Int64) (cv : Int32) (tp : Nat) (an : Nat) (hTp : vi 16 = nI tp) (htp : tp ≤ 4000) (ha0 : vi 17 = nI an) (hant : an < tp) (sz : Nat) : Met l yX12_takeSign wsRX12_takeSign ({ frames := 1, cells := 0, slots := 0, locals := 21 }) (va_Pc [.ref h0, .int cv] (fun U => U.heap.size = sz ∧ va_P (dC, dI) vwCl (WR a k h0 vi vj vF vG) U.heap ∧ va_K (dC, dI) vwCl (tX12 k) U ∧ va_D (fun _ => True) (WR a k h0 vi vj vF vG))) (va_Qv (fun (u : (Nat) × (Int32) × (Int32)) => (an < (u.1)) ∧ ((u.1) ≤ tp) ∧ ((u.2.2) = 4 ∨ (u.2.2) = 5)) (fun (u : (Nat) × (Int32) × (Int32)) t => va_P (dC, dI) vwCl (WR a k h0 (fT (fT (fT vi 18 (u.2.2)) 20 (u.2.1)) 17 (nI (u.1))) vj vF vG) t.heap ∧ va_D (va_A (WR a k h0 vi vj vF vG) sz) (WR a k h0 (fT (fT (fT vi 18 (u.2.2)) 20 (u.2.1)) 17 (nI (u.1))) vj vF vG)) (va_A (WR a k h0 vi vj vF vG) sz)) 0 0 (va_A (WR a k h0 vi vj vF vG) sz) := by
  refine Met.ofW (cc := cX12_takeSign) (maxL := 5) (ret := none) (by decide) rfl ?_
  intro p e s m args below meth c s₁ B hml hv
  obtain ⟨rfl, hsz, hP, hK, hD0⟩ := hv
  have hx := B.exec
  have hb := B.bytes
  have hr := B.returns
  have hts := atoms_spec (ws := wsRX12_takeSign) B.pre
  have hown : s.vm.findClass RX12 = some m.cls := findClass_of_methodNamed B.named
  have hlocks := B.notSynchronized
  subst hsz
  have hD := hD0.self (sz := s.heap.size)
  generalize hAe : va_A (WR a k h0 vi vj vF vG) s.heap.size = A at hD ⊢
  have hA : ∀ q : Nat, s.heap.size ≤ q → A q := fun q h => by rw [← hAe]; exact Or.inr h
  have hS : va_S A s.heap s.heap [] := va_S.rf
  have hl := lv_entry ([.ref h0, .int cv]) (n := 5) (Nat.le_of_ble_eq_true rfl)
  rw [lg_entry_eq]
  generalize (lg_sl ([.ref h0, .int cv]) ++ List.replicate (5 - (lg_sl ([.ref h0, .int cv])).length) Slot.unset).toArray = ls at hl ⊢
  have hl : lv_has ls 5 [(0, .ref h0), (1, .int cv)] := hl
  refine lv_aload_n hx hb dX12_takeSign_0 rfl (lv_at hl 0 rfl) ?_
  refine lv_aload_n hx hb dX12_takeSign_1 rfl (lv_at hl 0 rfl) ?_
  refine va_get (D := (dC, dI)) (ci := 12) (v := .int (vi 17)) (C := RX12) (T := TX12) (N := 163) (fs := fM (vS a vi vj)) hx hb hts iwsRX12_takeSign_in12 hown hK hP 0 rfl rfl 17 (by decide) (hts (.fieldLink RX12 485 "OptimaWorksModel" "at0" "I") (by decide +kernel)) (fun _ h9 => h9) rfl dX12_takeSign_2 ?_
  refine lv_topi (fun y1 hy1 => ?_)
  obtain rfl : (nI an) = y1 := (hy1.trans (ha0)).symm
  refine lv_iconst (v := 1) hx hb dX12_takeSign_5 (by decide) ?_
  refine lv_iadd hx hb dX12_takeSign_6 ?_
  refine lv_topi (fun y2 hy2 => ?_)
  obtain rfl : (nI (an + 1)) = y2 := (hy2.trans (nI_add an 1)).symm
  have hFc := allFree hD hS hA
  refine va_calli (va_runV (As := [.int (nI (an + 1))]) (rest := []) ⟨hx, hb, hml, hown, hts⟩ (r_X12_byteAt l dC dI a k h0 vi vj vF vG (an + 1) tp (by first | assumption | decide | omega | rfl) (by first | assumption | decide | omega | rfl) (by first | assumption | decide | omega | rfl) s.heap.size) (cwV 1 hts gwsRX12_takeSign_0 rfl rfl rfl (by decide +kernel) ⟨by decide +kernel, by decide +kernel⟩) ⟨fun a U g mk q => by obtain ⟨q0, q1, qP, qK, qD⟩ := q; exact ⟨q0, q1, qP, va_K.moved (u := U) (U := U.calling g mk a) (Vm.Alike.refl U.vm) qK, qD⟩, va_recv hK hP (ci := 12) (q0 := 0) rfl rfl, fun U hU9 hW => ⟨rfl, by rw [hU9], by rw [hU9]; exact hP, va_K.moved hW.alike hK, hD.weaken (fun _ _ _ _ => trivial)⟩⟩ rfl rfl hl.1 rfl (lv_room (Nat.le_of_ble_eq_true rfl)) dX12_takeSign_7 ⟨by decide +kernel, by decide +kernel⟩) hS (fun q _ h => hFc q h) hFc (fun r7 u t9_ H1 locs ht hvm hw9 hB9 hz1 hk1 hS => ?_)
  obtain ⟨hP1, hD1⟩ := hB9
  rw [ht] at hP1
  have hP := hP1
  have hD := hD1.weaken (fun _ q _ h => hFc q.1 h)
  generalize H1 = H at hP hS ⊢
  have hP : va_P (dC, dI) vwCl (WR a k h0 vi vj vF vG) H := hP
  have hD : va_D A (WR a k h0 vi vj vF vG) := hD
  obtain rfl := hw9
  refine lv_istore_n hx hb dX12_takeSign_10 rfl hl (by decide) rfl (fun ls (hl : lv_has ls _ ([(2, .int (bA tp (vF 9) (an + 1))), (0, .ref h0), (1, .int cv)])) => ?_)
  refine lv_iload_n hx hb dX12_takeSign_11 rfl (lv_at hl 2 rfl) ?_
  refine lv_bipush (v := 46) hx hb dX12_takeSign_12 (by decide) ?_
  refine W.cut (pc := 65) (fun H locs ls stk => ∃ (tw : Int32), ((tw = 0 ∨ tw = 1) ∧ (tw = 1 → an + 1 < tp)) ∧  stk = [] ∧ va_P (dC, dI) vwCl (WR a k h0 vi vj vF vG) H ∧ va_D A (WR a k h0 vi vj vF vG) ∧ va_S A s.heap H locs ∧ lv_has ls 5 [(0, .ref h0), (1, .int cv), (2, .int (bA tp (vF 9) (an + 1))), (3, .int tw)]) (fun join1 => ?_) ?_
  · refine lv_icmp_ne (tgt := 23) hx hb dX12_takeSign_14 (by decide) (fun c_14 => ?_) (fun c_14 => ?_)
    · have t_14 : (cv).toInt ≠ 46 := toI_ne c_14 rfl (by decide)
      refine lv_iload_n hx hb dX12_takeSign_23 rfl (lv_at hl 2 rfl) ?_
      refine lv_bipush (v := 60) hx hb dX12_takeSign_24 (by decide) ?_
      refine lv_icmp_ne (tgt := 35) hx hb dX12_takeSign_26 (by decide) (fun c_26 => ?_) (fun c_26 => ?_)
      · have t_26 : (cv).toInt ≠ 60 := toI_ne c_26 rfl (by decide)
        refine lv_iload_n hx hb dX12_takeSign_35 rfl (lv_at hl 2 rfl) ?_
        refine lv_bipush (v := 62) hx hb dX12_takeSign_36 (by decide) ?_
        refine lv_icmp_ne (tgt := 47) hx hb dX12_takeSign_38 (by decide) (fun c_38 => ?_) (fun c_38 => ?_)
        · have t_38 : (cv).toInt ≠ 62 := toI_ne c_38 rfl (by decide)
          refine lv_iload_n hx hb dX12_takeSign_47 rfl (lv_at hl 2 rfl) ?_
          refine lv_bipush (v := 60) hx hb dX12_takeSign_48 (by decide) ?_
          refine lv_icmp_ne (tgt := 63) hx hb dX12_takeSign_50 (by decide) (fun c_50 => ?_) (fun c_50 => ?_)
          · have t_50 : (cv).toInt ≠ 60 := toI_ne c_50 rfl (by decide)
            refine lv_iconst (v := 0) hx hb dX12_takeSign_63 (by decide) ?_
            refine lv_istore_n hx hb dX12_takeSign_64 rfl hl (by decide) rfl (fun ls (hl : lv_has ls _ ([(3, .int 0), (2, .int (bA tp (vF 9) (an + 1))), (0, .ref h0), (1, .int cv)])) => ?_)
            have hl : lv_has _ _ ([(0, .ref h0), (1, .int cv), (2, .int (bA tp (vF 9) (an + 1))), (3, .int 0)]) := lv_sub hl [2, 3, 1, 0] rfl
            exact join1 _ _ _ _ ⟨0, ⟨Or.inl rfl, fun h9 => absurd h9 (by decide)⟩, rfl, hP, hD, hS, hl⟩
          · have t_50 : (cv).toInt = 60 := toI_nne c_50 rfl (by decide)
            refine lv_iload_n hx hb dX12_takeSign_53 rfl (lv_at hl 0 rfl) ?_
            refine lv_bipush (v := 62) hx hb dX12_takeSign_54 (by decide) ?_
            refine lv_icmp_ne (tgt := 63) hx hb dX12_takeSign_56 (by decide) (fun c_56 => ?_) (fun c_56 => ?_)
            · have t_56 : ((bA tp (vF 9) (an + 1))).toInt ≠ 62 := toI_ne c_56 rfl (by decide)
              refine lv_iconst (v := 0) hx hb dX12_takeSign_63 (by decide) ?_
              refine lv_istore_n hx hb dX12_takeSign_64 rfl hl (by decide) rfl (fun ls (hl : lv_has ls _ ([(3, .int 0), (2, .int (bA tp (vF 9) (an + 1))), (0, .ref h0), (1, .int cv)])) => ?_)
              have hl : lv_has _ _ ([(0, .ref h0), (1, .int cv), (2, .int (bA tp (vF 9) (an + 1))), (3, .int 0)]) := lv_sub hl [2, 3, 1, 0] rfl
              exact join1 _ _ _ _ ⟨0, ⟨Or.inl rfl, fun h9 => absurd h9 (by decide)⟩, rfl, hP, hD, hS, hl⟩
            · have t_56 : ((bA tp (vF 9) (an + 1))).toInt = 62 := toI_nne c_56 rfl (by decide)
              refine lv_iconst (v := 1) hx hb dX12_takeSign_59 (by decide) ?_
              refine lv_goto (tgt := 64) hx hb dX12_takeSign_60 (by decide) ?_
              refine lv_istore_n hx hb dX12_takeSign_64 rfl hl (by decide) rfl (fun ls (hl : lv_has ls _ ([(3, .int 1), (2, .int (bA tp (vF 9) (an + 1))), (0, .ref h0), (1, .int cv)])) => ?_)
              have hl : lv_has _ _ ([(0, .ref h0), (1, .int cv), (2, .int (bA tp (vF 9) (an + 1))), (3, .int 1)]) := lv_sub hl [2, 3, 1, 0] rfl
              exact join1 _ _ _ _ ⟨1, ⟨Or.inr rfl, fun _ => by (have b9 := bA_in tp (vF 9) (an + 1)); omega⟩, rfl, hP, hD, hS, hl⟩
        · have t_38 : (cv).toInt = 62 := toI_nne c_38 rfl (by decide)
          refine lv_iload_n hx hb dX12_takeSign_41 rfl (lv_at hl 0 rfl) ?_
          refine lv_bipush (v := 61) hx hb dX12_takeSign_42 (by decide) ?_
          refine lv_icmp_eq (tgt := 59) hx hb dX12_takeSign_44 (by decide) (fun c_44 => ?_) (fun c_44 => ?_)
          · have t_44 : ((bA tp (vF 9) (an + 1))).toInt = 61 := toI_eq c_44 rfl (by decide)
            refine lv_iconst (v := 1) hx hb dX12_takeSign_59 (by decide) ?_
            refine lv_goto (tgt := 64) hx hb dX12_takeSign_60 (by decide) ?_
            refine lv_istore_n hx hb dX12_takeSign_64 rfl hl (by decide) rfl (fun ls (hl : lv_has ls _ ([(3, .int 1), (2, .int (bA tp (vF 9) (an + 1))), (0, .ref h0), (1, .int cv)])) => ?_)
            have hl : lv_has _ _ ([(0, .ref h0), (1, .int cv), (2, .int (bA tp (vF 9) (an + 1))), (3, .int 1)]) := lv_sub hl [2, 3, 1, 0] rfl
            exact join1 _ _ _ _ ⟨1, ⟨Or.inr rfl, fun _ => by (have b9 := bA_in tp (vF 9) (an + 1)); omega⟩, rfl, hP, hD, hS, hl⟩
          · have t_44 : ¬ ((bA tp (vF 9) (an + 1))).toInt = 61 := toI_neq c_44 rfl (by decide)
            refine lv_iload_n hx hb dX12_takeSign_47 rfl (lv_at hl 2 rfl) ?_
            refine lv_bipush (v := 60) hx hb dX12_takeSign_48 (by decide) ?_
            refine lv_icmp_ne (tgt := 63) hx hb dX12_takeSign_50 (by decide) (fun c_50 => ?_) (fun c_50 => ?_)
            · have t_50 : (cv).toInt ≠ 60 := toI_ne c_50 rfl (by decide)
              refine lv_iconst (v := 0) hx hb dX12_takeSign_63 (by decide) ?_
              refine lv_istore_n hx hb dX12_takeSign_64 rfl hl (by decide) rfl (fun ls (hl : lv_has ls _ ([(3, .int 0), (2, .int (bA tp (vF 9) (an + 1))), (0, .ref h0), (1, .int cv)])) => ?_)
              have hl : lv_has _ _ ([(0, .ref h0), (1, .int cv), (2, .int (bA tp (vF 9) (an + 1))), (3, .int 0)]) := lv_sub hl [2, 3, 1, 0] rfl
              exact join1 _ _ _ _ ⟨0, ⟨Or.inl rfl, fun h9 => absurd h9 (by decide)⟩, rfl, hP, hD, hS, hl⟩
            · have t_50 : (cv).toInt = 60 := toI_nne c_50 rfl (by decide)
              refine lv_iload_n hx hb dX12_takeSign_53 rfl (lv_at hl 0 rfl) ?_
              refine lv_bipush (v := 62) hx hb dX12_takeSign_54 (by decide) ?_
              refine lv_icmp_ne (tgt := 63) hx hb dX12_takeSign_56 (by decide) (fun c_56 => ?_) (fun c_56 => ?_)
              · have t_56 : ((bA tp (vF 9) (an + 1))).toInt ≠ 62 := toI_ne c_56 rfl (by decide)
                refine lv_iconst (v := 0) hx hb dX12_takeSign_63 (by decide) ?_
                refine lv_istore_n hx hb dX12_takeSign_64 rfl hl (by decide) rfl (fun ls (hl : lv_has ls _ ([(3, .int 0), (2, .int (bA tp (vF 9) (an + 1))), (0, .ref h0), (1, .int cv)])) => ?_)
                have hl : lv_has _ _ ([(0, .ref h0), (1, .int cv), (2, .int (bA tp (vF 9) (an + 1))), (3, .int 0)]) := lv_sub hl [2, 3, 1, 0] rfl
                exact join1 _ _ _ _ ⟨0, ⟨Or.inl rfl, fun h9 => absurd h9 (by decide)⟩, rfl, hP, hD, hS, hl⟩
              · have t_56 : ((bA tp (vF 9) (an + 1))).toInt = 62 := toI_nne c_56 rfl (by decide)
                refine lv_iconst (v := 1) hx hb dX12_takeSign_59 (by decide) ?_
                refine lv_goto (tgt := 64) hx hb dX12_takeSign_60 (by decide) ?_
                refine lv_istore_n hx hb dX12_takeSign_64 rfl hl (by decide) rfl (fun ls (hl : lv_has ls _ ([(3, .int 1), (2, .int (bA tp (vF 9) (an + 1))), (0, .ref h0), (1, .int cv)])) => ?_)
                have hl : lv_has _ _ ([(0, .ref h0), (1, .int cv), (2, .int (bA tp (vF 9) (an + 1))), (3, .int 1)]) := lv_sub hl [2, 3, 1, 0] rfl
                exact join1 _ _ _ _ ⟨1, ⟨Or.inr rfl, fun _ => by (have b9 := bA_in tp (vF 9) (an + 1)); omega⟩, rfl, hP, hD, hS, hl⟩
      · have t_26 : (cv).toInt = 60 := toI_nne c_26 rfl (by decide)
        refine lv_iload_n hx hb dX12_takeSign_29 rfl (lv_at hl 0 rfl) ?_
        refine lv_bipush (v := 61) hx hb dX12_takeSign_30 (by decide) ?_
        refine lv_icmp_eq (tgt := 59) hx hb dX12_takeSign_32 (by decide) (fun c_32 => ?_) (fun c_32 => ?_)
        · have t_32 : ((bA tp (vF 9) (an + 1))).toInt = 61 := toI_eq c_32 rfl (by decide)
          refine lv_iconst (v := 1) hx hb dX12_takeSign_59 (by decide) ?_
          refine lv_goto (tgt := 64) hx hb dX12_takeSign_60 (by decide) ?_
          refine lv_istore_n hx hb dX12_takeSign_64 rfl hl (by decide) rfl (fun ls (hl : lv_has ls _ ([(3, .int 1), (2, .int (bA tp (vF 9) (an + 1))), (0, .ref h0), (1, .int cv)])) => ?_)
          have hl : lv_has _ _ ([(0, .ref h0), (1, .int cv), (2, .int (bA tp (vF 9) (an + 1))), (3, .int 1)]) := lv_sub hl [2, 3, 1, 0] rfl
          exact join1 _ _ _ _ ⟨1, ⟨Or.inr rfl, fun _ => by (have b9 := bA_in tp (vF 9) (an + 1)); omega⟩, rfl, hP, hD, hS, hl⟩
        · have t_32 : ¬ ((bA tp (vF 9) (an + 1))).toInt = 61 := toI_neq c_32 rfl (by decide)
          refine lv_iload_n hx hb dX12_takeSign_35 rfl (lv_at hl 2 rfl) ?_
          refine lv_bipush (v := 62) hx hb dX12_takeSign_36 (by decide) ?_
          refine lv_icmp_ne (tgt := 47) hx hb dX12_takeSign_38 (by decide) (fun c_38 => ?_) (fun c_38 => ?_)
          · have t_38 : (cv).toInt ≠ 62 := toI_ne c_38 rfl (by decide)
            refine lv_iload_n hx hb dX12_takeSign_47 rfl (lv_at hl 2 rfl) ?_
            refine lv_bipush (v := 60) hx hb dX12_takeSign_48 (by decide) ?_
            refine lv_icmp_ne (tgt := 63) hx hb dX12_takeSign_50 (by decide) (fun c_50 => ?_) (fun c_50 => ?_)
            · have t_50 : (cv).toInt ≠ 60 := toI_ne c_50 rfl (by decide)
              refine lv_iconst (v := 0) hx hb dX12_takeSign_63 (by decide) ?_
              refine lv_istore_n hx hb dX12_takeSign_64 rfl hl (by decide) rfl (fun ls (hl : lv_has ls _ ([(3, .int 0), (2, .int (bA tp (vF 9) (an + 1))), (0, .ref h0), (1, .int cv)])) => ?_)
              have hl : lv_has _ _ ([(0, .ref h0), (1, .int cv), (2, .int (bA tp (vF 9) (an + 1))), (3, .int 0)]) := lv_sub hl [2, 3, 1, 0] rfl
              exact join1 _ _ _ _ ⟨0, ⟨Or.inl rfl, fun h9 => absurd h9 (by decide)⟩, rfl, hP, hD, hS, hl⟩
            · have t_50 : (cv).toInt = 60 := toI_nne c_50 rfl (by decide)
              refine lv_iload_n hx hb dX12_takeSign_53 rfl (lv_at hl 0 rfl) ?_
              refine lv_bipush (v := 62) hx hb dX12_takeSign_54 (by decide) ?_
              refine lv_icmp_ne (tgt := 63) hx hb dX12_takeSign_56 (by decide) (fun c_56 => ?_) (fun c_56 => ?_)
              · have t_56 : ((bA tp (vF 9) (an + 1))).toInt ≠ 62 := toI_ne c_56 rfl (by decide)
                refine lv_iconst (v := 0) hx hb dX12_takeSign_63 (by decide) ?_
                refine lv_istore_n hx hb dX12_takeSign_64 rfl hl (by decide) rfl (fun ls (hl : lv_has ls _ ([(3, .int 0), (2, .int (bA tp (vF 9) (an + 1))), (0, .ref h0), (1, .int cv)])) => ?_)
                have hl : lv_has _ _ ([(0, .ref h0), (1, .int cv), (2, .int (bA tp (vF 9) (an + 1))), (3, .int 0)]) := lv_sub hl [2, 3, 1, 0] rfl
                exact join1 _ _ _ _ ⟨0, ⟨Or.inl rfl, fun h9 => absurd h9 (by decide)⟩, rfl, hP, hD, hS, hl⟩
              · have t_56 : ((bA tp (vF 9) (an + 1))).toInt = 62 := toI_nne c_56 rfl (by decide)
                refine lv_iconst (v := 1) hx hb dX12_takeSign_59 (by decide) ?_
                refine lv_goto (tgt := 64) hx hb dX12_takeSign_60 (by decide) ?_
                refine lv_istore_n hx hb dX12_takeSign_64 rfl hl (by decide) rfl (fun ls (hl : lv_has ls _ ([(3, .int 1), (2, .int (bA tp (vF 9) (an + 1))), (0, .ref h0), (1, .int cv)])) => ?_)
                have hl : lv_has _ _ ([(0, .ref h0), (1, .int cv), (2, .int (bA tp (vF 9) (an + 1))), (3, .int 1)]) := lv_sub hl [2, 3, 1, 0] rfl
                exact join1 _ _ _ _ ⟨1, ⟨Or.inr rfl, fun _ => by (have b9 := bA_in tp (vF 9) (an + 1)); omega⟩, rfl, hP, hD, hS, hl⟩
          · have t_38 : (cv).toInt = 62 := toI_nne c_38 rfl (by decide)
            refine lv_iload_n hx hb dX12_takeSign_41 rfl (lv_at hl 0 rfl) ?_
            refine lv_bipush (v := 61) hx hb dX12_takeSign_42 (by decide) ?_
            refine lv_icmp_eq (tgt := 59) hx hb dX12_takeSign_44 (by decide) (fun c_44 => ?_) (fun c_44 => ?_)
            · have t_44 : ((bA tp (vF 9) (an + 1))).toInt = 61 := toI_eq c_44 rfl (by decide)
              refine lv_iconst (v := 1) hx hb dX12_takeSign_59 (by decide) ?_
              refine lv_goto (tgt := 64) hx hb dX12_takeSign_60 (by decide) ?_
              refine lv_istore_n hx hb dX12_takeSign_64 rfl hl (by decide) rfl (fun ls (hl : lv_has ls _ ([(3, .int 1), (2, .int (bA tp (vF 9) (an + 1))), (0, .ref h0), (1, .int cv)])) => ?_)
              have hl : lv_has _ _ ([(0, .ref h0), (1, .int cv), (2, .int (bA tp (vF 9) (an + 1))), (3, .int 1)]) := lv_sub hl [2, 3, 1, 0] rfl
              exact join1 _ _ _ _ ⟨1, ⟨Or.inr rfl, fun _ => by (have b9 := bA_in tp (vF 9) (an + 1)); omega⟩, rfl, hP, hD, hS, hl⟩
            · have t_44 : ¬ ((bA tp (vF 9) (an + 1))).toInt = 61 := toI_neq c_44 rfl (by decide)
              refine lv_iload_n hx hb dX12_takeSign_47 rfl (lv_at hl 2 rfl) ?_
              refine lv_bipush (v := 60) hx hb dX12_takeSign_48 (by decide) ?_
              refine lv_icmp_ne (tgt := 63) hx hb dX12_takeSign_50 (by decide) (fun c_50 => ?_) (fun c_50 => ?_)
              · have t_50 : (cv).toInt ≠ 60 := toI_ne c_50 rfl (by decide)
                refine lv_iconst (v := 0) hx hb dX12_takeSign_63 (by decide) ?_
                refine lv_istore_n hx hb dX12_takeSign_64 rfl hl (by decide) rfl (fun ls (hl : lv_has ls _ ([(3, .int 0), (2, .int (bA tp (vF 9) (an + 1))), (0, .ref h0), (1, .int cv)])) => ?_)
                have hl : lv_has _ _ ([(0, .ref h0), (1, .int cv), (2, .int (bA tp (vF 9) (an + 1))), (3, .int 0)]) := lv_sub hl [2, 3, 1, 0] rfl
                exact join1 _ _ _ _ ⟨0, ⟨Or.inl rfl, fun h9 => absurd h9 (by decide)⟩, rfl, hP, hD, hS, hl⟩
              · have t_50 : (cv).toInt = 60 := toI_nne c_50 rfl (by decide)
                refine lv_iload_n hx hb dX12_takeSign_53 rfl (lv_at hl 0 rfl) ?_
                refine lv_bipush (v := 62) hx hb dX12_takeSign_54 (by decide) ?_
                refine lv_icmp_ne (tgt := 63) hx hb dX12_takeSign_56 (by decide) (fun c_56 => ?_) (fun c_56 => ?_)
                · have t_56 : ((bA tp (vF 9) (an + 1))).toInt ≠ 62 := toI_ne c_56 rfl (by decide)
                  refine lv_iconst (v := 0) hx hb dX12_takeSign_63 (by decide) ?_
                  refine lv_istore_n hx hb dX12_takeSign_64 rfl hl (by decide) rfl (fun ls (hl : lv_has ls _ ([(3, .int 0), (2, .int (bA tp (vF 9) (an + 1))), (0, .ref h0), (1, .int cv)])) => ?_)
                  have hl : lv_has _ _ ([(0, .ref h0), (1, .int cv), (2, .int (bA tp (vF 9) (an + 1))), (3, .int 0)]) := lv_sub hl [2, 3, 1, 0] rfl
                  exact join1 _ _ _ _ ⟨0, ⟨Or.inl rfl, fun h9 => absurd h9 (by decide)⟩, rfl, hP, hD, hS, hl⟩
                · have t_56 : ((bA tp (vF 9) (an + 1))).toInt = 62 := toI_nne c_56 rfl (by decide)
                  refine lv_iconst (v := 1) hx hb dX12_takeSign_59 (by decide) ?_
                  refine lv_goto (tgt := 64) hx hb dX12_takeSign_60 (by decide) ?_
                  refine lv_istore_n hx hb dX12_takeSign_64 rfl hl (by decide) rfl (fun ls (hl : lv_has ls _ ([(3, .int 1), (2, .int (bA tp (vF 9) (an + 1))), (0, .ref h0), (1, .int cv)])) => ?_)
                  have hl : lv_has _ _ ([(0, .ref h0), (1, .int cv), (2, .int (bA tp (vF 9) (an + 1))), (3, .int 1)]) := lv_sub hl [2, 3, 1, 0] rfl
                  exact join1 _ _ _ _ ⟨1, ⟨Or.inr rfl, fun _ => by (have b9 := bA_in tp (vF 9) (an + 1)); omega⟩, rfl, hP, hD, hS, hl⟩
    · have t_14 : (cv).toInt = 46 := toI_nne c_14 rfl (by decide)
      refine lv_iload_n hx hb dX12_takeSign_17 rfl (lv_at hl 0 rfl) ?_
      refine lv_bipush (v := 46) hx hb dX12_takeSign_18 (by decide) ?_
      refine lv_icmp_eq (tgt := 59) hx hb dX12_takeSign_20 (by decide) (fun c_20 => ?_) (fun c_20 => ?_)
      · have t_20 : ((bA tp (vF 9) (an + 1))).toInt = 46 := toI_eq c_20 rfl (by decide)
        refine lv_iconst (v := 1) hx hb dX12_takeSign_59 (by decide) ?_
        refine lv_goto (tgt := 64) hx hb dX12_takeSign_60 (by decide) ?_
        refine lv_istore_n hx hb dX12_takeSign_64 rfl hl (by decide) rfl (fun ls (hl : lv_has ls _ ([(3, .int 1), (2, .int (bA tp (vF 9) (an + 1))), (0, .ref h0), (1, .int cv)])) => ?_)
        have hl : lv_has _ _ ([(0, .ref h0), (1, .int cv), (2, .int (bA tp (vF 9) (an + 1))), (3, .int 1)]) := lv_sub hl [2, 3, 1, 0] rfl
        exact join1 _ _ _ _ ⟨1, ⟨Or.inr rfl, fun _ => by (have b9 := bA_in tp (vF 9) (an + 1)); omega⟩, rfl, hP, hD, hS, hl⟩
      · have t_20 : ¬ ((bA tp (vF 9) (an + 1))).toInt = 46 := toI_neq c_20 rfl (by decide)
        refine lv_iload_n hx hb dX12_takeSign_23 rfl (lv_at hl 2 rfl) ?_
        refine lv_bipush (v := 60) hx hb dX12_takeSign_24 (by decide) ?_
        refine lv_icmp_ne (tgt := 35) hx hb dX12_takeSign_26 (by decide) (fun c_26 => ?_) (fun c_26 => ?_)
        · have t_26 : (cv).toInt ≠ 60 := toI_ne c_26 rfl (by decide)
          refine lv_iload_n hx hb dX12_takeSign_35 rfl (lv_at hl 2 rfl) ?_
          refine lv_bipush (v := 62) hx hb dX12_takeSign_36 (by decide) ?_
          refine lv_icmp_ne (tgt := 47) hx hb dX12_takeSign_38 (by decide) (fun c_38 => ?_) (fun c_38 => ?_)
          · have t_38 : (cv).toInt ≠ 62 := toI_ne c_38 rfl (by decide)
            refine lv_iload_n hx hb dX12_takeSign_47 rfl (lv_at hl 2 rfl) ?_
            refine lv_bipush (v := 60) hx hb dX12_takeSign_48 (by decide) ?_
            refine lv_icmp_ne (tgt := 63) hx hb dX12_takeSign_50 (by decide) (fun c_50 => ?_) (fun c_50 => ?_)
            · have t_50 : (cv).toInt ≠ 60 := toI_ne c_50 rfl (by decide)
              refine lv_iconst (v := 0) hx hb dX12_takeSign_63 (by decide) ?_
              refine lv_istore_n hx hb dX12_takeSign_64 rfl hl (by decide) rfl (fun ls (hl : lv_has ls _ ([(3, .int 0), (2, .int (bA tp (vF 9) (an + 1))), (0, .ref h0), (1, .int cv)])) => ?_)
              have hl : lv_has _ _ ([(0, .ref h0), (1, .int cv), (2, .int (bA tp (vF 9) (an + 1))), (3, .int 0)]) := lv_sub hl [2, 3, 1, 0] rfl
              exact join1 _ _ _ _ ⟨0, ⟨Or.inl rfl, fun h9 => absurd h9 (by decide)⟩, rfl, hP, hD, hS, hl⟩
            · have t_50 : (cv).toInt = 60 := toI_nne c_50 rfl (by decide)
              refine lv_iload_n hx hb dX12_takeSign_53 rfl (lv_at hl 0 rfl) ?_
              refine lv_bipush (v := 62) hx hb dX12_takeSign_54 (by decide) ?_
              refine lv_icmp_ne (tgt := 63) hx hb dX12_takeSign_56 (by decide) (fun c_56 => ?_) (fun c_56 => ?_)
              · have t_56 : ((bA tp (vF 9) (an + 1))).toInt ≠ 62 := toI_ne c_56 rfl (by decide)
                refine lv_iconst (v := 0) hx hb dX12_takeSign_63 (by decide) ?_
                refine lv_istore_n hx hb dX12_takeSign_64 rfl hl (by decide) rfl (fun ls (hl : lv_has ls _ ([(3, .int 0), (2, .int (bA tp (vF 9) (an + 1))), (0, .ref h0), (1, .int cv)])) => ?_)
                have hl : lv_has _ _ ([(0, .ref h0), (1, .int cv), (2, .int (bA tp (vF 9) (an + 1))), (3, .int 0)]) := lv_sub hl [2, 3, 1, 0] rfl
                exact join1 _ _ _ _ ⟨0, ⟨Or.inl rfl, fun h9 => absurd h9 (by decide)⟩, rfl, hP, hD, hS, hl⟩
              · have t_56 : ((bA tp (vF 9) (an + 1))).toInt = 62 := toI_nne c_56 rfl (by decide)
                refine lv_iconst (v := 1) hx hb dX12_takeSign_59 (by decide) ?_
                refine lv_goto (tgt := 64) hx hb dX12_takeSign_60 (by decide) ?_
                refine lv_istore_n hx hb dX12_takeSign_64 rfl hl (by decide) rfl (fun ls (hl : lv_has ls _ ([(3, .int 1), (2, .int (bA tp (vF 9) (an + 1))), (0, .ref h0), (1, .int cv)])) => ?_)
                have hl : lv_has _ _ ([(0, .ref h0), (1, .int cv), (2, .int (bA tp (vF 9) (an + 1))), (3, .int 1)]) := lv_sub hl [2, 3, 1, 0] rfl
                exact join1 _ _ _ _ ⟨1, ⟨Or.inr rfl, fun _ => by (have b9 := bA_in tp (vF 9) (an + 1)); omega⟩, rfl, hP, hD, hS, hl⟩
          · have t_38 : (cv).toInt = 62 := toI_nne c_38 rfl (by decide)
            refine lv_iload_n hx hb dX12_takeSign_41 rfl (lv_at hl 0 rfl) ?_
            refine lv_bipush (v := 61) hx hb dX12_takeSign_42 (by decide) ?_
            refine lv_icmp_eq (tgt := 59) hx hb dX12_takeSign_44 (by decide) (fun c_44 => ?_) (fun c_44 => ?_)
            · have t_44 : ((bA tp (vF 9) (an + 1))).toInt = 61 := toI_eq c_44 rfl (by decide)
              refine lv_iconst (v := 1) hx hb dX12_takeSign_59 (by decide) ?_
              refine lv_goto (tgt := 64) hx hb dX12_takeSign_60 (by decide) ?_
              refine lv_istore_n hx hb dX12_takeSign_64 rfl hl (by decide) rfl (fun ls (hl : lv_has ls _ ([(3, .int 1), (2, .int (bA tp (vF 9) (an + 1))), (0, .ref h0), (1, .int cv)])) => ?_)
              have hl : lv_has _ _ ([(0, .ref h0), (1, .int cv), (2, .int (bA tp (vF 9) (an + 1))), (3, .int 1)]) := lv_sub hl [2, 3, 1, 0] rfl
              exact join1 _ _ _ _ ⟨1, ⟨Or.inr rfl, fun _ => by (have b9 := bA_in tp (vF 9) (an + 1)); omega⟩, rfl, hP, hD, hS, hl⟩
            · have t_44 : ¬ ((bA tp (vF 9) (an + 1))).toInt = 61 := toI_neq c_44 rfl (by decide)
              refine lv_iload_n hx hb dX12_takeSign_47 rfl (lv_at hl 2 rfl) ?_
              refine lv_bipush (v := 60) hx hb dX12_takeSign_48 (by decide) ?_
              refine lv_icmp_ne (tgt := 63) hx hb dX12_takeSign_50 (by decide) (fun c_50 => ?_) (fun c_50 => ?_)
              · have t_50 : (cv).toInt ≠ 60 := toI_ne c_50 rfl (by decide)
                refine lv_iconst (v := 0) hx hb dX12_takeSign_63 (by decide) ?_
                refine lv_istore_n hx hb dX12_takeSign_64 rfl hl (by decide) rfl (fun ls (hl : lv_has ls _ ([(3, .int 0), (2, .int (bA tp (vF 9) (an + 1))), (0, .ref h0), (1, .int cv)])) => ?_)
                have hl : lv_has _ _ ([(0, .ref h0), (1, .int cv), (2, .int (bA tp (vF 9) (an + 1))), (3, .int 0)]) := lv_sub hl [2, 3, 1, 0] rfl
                exact join1 _ _ _ _ ⟨0, ⟨Or.inl rfl, fun h9 => absurd h9 (by decide)⟩, rfl, hP, hD, hS, hl⟩
              · have t_50 : (cv).toInt = 60 := toI_nne c_50 rfl (by decide)
                refine lv_iload_n hx hb dX12_takeSign_53 rfl (lv_at hl 0 rfl) ?_
                refine lv_bipush (v := 62) hx hb dX12_takeSign_54 (by decide) ?_
                refine lv_icmp_ne (tgt := 63) hx hb dX12_takeSign_56 (by decide) (fun c_56 => ?_) (fun c_56 => ?_)
                · have t_56 : ((bA tp (vF 9) (an + 1))).toInt ≠ 62 := toI_ne c_56 rfl (by decide)
                  refine lv_iconst (v := 0) hx hb dX12_takeSign_63 (by decide) ?_
                  refine lv_istore_n hx hb dX12_takeSign_64 rfl hl (by decide) rfl (fun ls (hl : lv_has ls _ ([(3, .int 0), (2, .int (bA tp (vF 9) (an + 1))), (0, .ref h0), (1, .int cv)])) => ?_)
                  have hl : lv_has _ _ ([(0, .ref h0), (1, .int cv), (2, .int (bA tp (vF 9) (an + 1))), (3, .int 0)]) := lv_sub hl [2, 3, 1, 0] rfl
                  exact join1 _ _ _ _ ⟨0, ⟨Or.inl rfl, fun h9 => absurd h9 (by decide)⟩, rfl, hP, hD, hS, hl⟩
                · have t_56 : ((bA tp (vF 9) (an + 1))).toInt = 62 := toI_nne c_56 rfl (by decide)
                  refine lv_iconst (v := 1) hx hb dX12_takeSign_59 (by decide) ?_
                  refine lv_goto (tgt := 64) hx hb dX12_takeSign_60 (by decide) ?_
                  refine lv_istore_n hx hb dX12_takeSign_64 rfl hl (by decide) rfl (fun ls (hl : lv_has ls _ ([(3, .int 1), (2, .int (bA tp (vF 9) (an + 1))), (0, .ref h0), (1, .int cv)])) => ?_)
                  have hl : lv_has _ _ ([(0, .ref h0), (1, .int cv), (2, .int (bA tp (vF 9) (an + 1))), (3, .int 1)]) := lv_sub hl [2, 3, 1, 0] rfl
                  exact join1 _ _ _ _ ⟨1, ⟨Or.inr rfl, fun _ => by (have b9 := bA_in tp (vF 9) (an + 1)); omega⟩, rfl, hP, hD, hS, hl⟩
        · have t_26 : (cv).toInt = 60 := toI_nne c_26 rfl (by decide)
          refine lv_iload_n hx hb dX12_takeSign_29 rfl (lv_at hl 0 rfl) ?_
          refine lv_bipush (v := 61) hx hb dX12_takeSign_30 (by decide) ?_
          refine lv_icmp_eq (tgt := 59) hx hb dX12_takeSign_32 (by decide) (fun c_32 => ?_) (fun c_32 => ?_)
          · have t_32 : ((bA tp (vF 9) (an + 1))).toInt = 61 := toI_eq c_32 rfl (by decide)
            refine lv_iconst (v := 1) hx hb dX12_takeSign_59 (by decide) ?_
            refine lv_goto (tgt := 64) hx hb dX12_takeSign_60 (by decide) ?_
            refine lv_istore_n hx hb dX12_takeSign_64 rfl hl (by decide) rfl (fun ls (hl : lv_has ls _ ([(3, .int 1), (2, .int (bA tp (vF 9) (an + 1))), (0, .ref h0), (1, .int cv)])) => ?_)
            have hl : lv_has _ _ ([(0, .ref h0), (1, .int cv), (2, .int (bA tp (vF 9) (an + 1))), (3, .int 1)]) := lv_sub hl [2, 3, 1, 0] rfl
            exact join1 _ _ _ _ ⟨1, ⟨Or.inr rfl, fun _ => by (have b9 := bA_in tp (vF 9) (an + 1)); omega⟩, rfl, hP, hD, hS, hl⟩
          · have t_32 : ¬ ((bA tp (vF 9) (an + 1))).toInt = 61 := toI_neq c_32 rfl (by decide)
            refine lv_iload_n hx hb dX12_takeSign_35 rfl (lv_at hl 2 rfl) ?_
            refine lv_bipush (v := 62) hx hb dX12_takeSign_36 (by decide) ?_
            refine lv_icmp_ne (tgt := 47) hx hb dX12_takeSign_38 (by decide) (fun c_38 => ?_) (fun c_38 => ?_)
            · have t_38 : (cv).toInt ≠ 62 := toI_ne c_38 rfl (by decide)
              refine lv_iload_n hx hb dX12_takeSign_47 rfl (lv_at hl 2 rfl) ?_
              refine lv_bipush (v := 60) hx hb dX12_takeSign_48 (by decide) ?_
              refine lv_icmp_ne (tgt := 63) hx hb dX12_takeSign_50 (by decide) (fun c_50 => ?_) (fun c_50 => ?_)
              · have t_50 : (cv).toInt ≠ 60 := toI_ne c_50 rfl (by decide)
                refine lv_iconst (v := 0) hx hb dX12_takeSign_63 (by decide) ?_
                refine lv_istore_n hx hb dX12_takeSign_64 rfl hl (by decide) rfl (fun ls (hl : lv_has ls _ ([(3, .int 0), (2, .int (bA tp (vF 9) (an + 1))), (0, .ref h0), (1, .int cv)])) => ?_)
                have hl : lv_has _ _ ([(0, .ref h0), (1, .int cv), (2, .int (bA tp (vF 9) (an + 1))), (3, .int 0)]) := lv_sub hl [2, 3, 1, 0] rfl
                exact join1 _ _ _ _ ⟨0, ⟨Or.inl rfl, fun h9 => absurd h9 (by decide)⟩, rfl, hP, hD, hS, hl⟩
              · have t_50 : (cv).toInt = 60 := toI_nne c_50 rfl (by decide)
                refine lv_iload_n hx hb dX12_takeSign_53 rfl (lv_at hl 0 rfl) ?_
                refine lv_bipush (v := 62) hx hb dX12_takeSign_54 (by decide) ?_
                refine lv_icmp_ne (tgt := 63) hx hb dX12_takeSign_56 (by decide) (fun c_56 => ?_) (fun c_56 => ?_)
                · have t_56 : ((bA tp (vF 9) (an + 1))).toInt ≠ 62 := toI_ne c_56 rfl (by decide)
                  refine lv_iconst (v := 0) hx hb dX12_takeSign_63 (by decide) ?_
                  refine lv_istore_n hx hb dX12_takeSign_64 rfl hl (by decide) rfl (fun ls (hl : lv_has ls _ ([(3, .int 0), (2, .int (bA tp (vF 9) (an + 1))), (0, .ref h0), (1, .int cv)])) => ?_)
                  have hl : lv_has _ _ ([(0, .ref h0), (1, .int cv), (2, .int (bA tp (vF 9) (an + 1))), (3, .int 0)]) := lv_sub hl [2, 3, 1, 0] rfl
                  exact join1 _ _ _ _ ⟨0, ⟨Or.inl rfl, fun h9 => absurd h9 (by decide)⟩, rfl, hP, hD, hS, hl⟩
                · have t_56 : ((bA tp (vF 9) (an + 1))).toInt = 62 := toI_nne c_56 rfl (by decide)
                  refine lv_iconst (v := 1) hx hb dX12_takeSign_59 (by decide) ?_
                  refine lv_goto (tgt := 64) hx hb dX12_takeSign_60 (by decide) ?_
                  refine lv_istore_n hx hb dX12_takeSign_64 rfl hl (by decide) rfl (fun ls (hl : lv_has ls _ ([(3, .int 1), (2, .int (bA tp (vF 9) (an + 1))), (0, .ref h0), (1, .int cv)])) => ?_)
                  have hl : lv_has _ _ ([(0, .ref h0), (1, .int cv), (2, .int (bA tp (vF 9) (an + 1))), (3, .int 1)]) := lv_sub hl [2, 3, 1, 0] rfl
                  exact join1 _ _ _ _ ⟨1, ⟨Or.inr rfl, fun _ => by (have b9 := bA_in tp (vF 9) (an + 1)); omega⟩, rfl, hP, hD, hS, hl⟩
            · have t_38 : (cv).toInt = 62 := toI_nne c_38 rfl (by decide)
              refine lv_iload_n hx hb dX12_takeSign_41 rfl (lv_at hl 0 rfl) ?_
              refine lv_bipush (v := 61) hx hb dX12_takeSign_42 (by decide) ?_
              refine lv_icmp_eq (tgt := 59) hx hb dX12_takeSign_44 (by decide) (fun c_44 => ?_) (fun c_44 => ?_)
              · have t_44 : ((bA tp (vF 9) (an + 1))).toInt = 61 := toI_eq c_44 rfl (by decide)
                refine lv_iconst (v := 1) hx hb dX12_takeSign_59 (by decide) ?_
                refine lv_goto (tgt := 64) hx hb dX12_takeSign_60 (by decide) ?_
                refine lv_istore_n hx hb dX12_takeSign_64 rfl hl (by decide) rfl (fun ls (hl : lv_has ls _ ([(3, .int 1), (2, .int (bA tp (vF 9) (an + 1))), (0, .ref h0), (1, .int cv)])) => ?_)
                have hl : lv_has _ _ ([(0, .ref h0), (1, .int cv), (2, .int (bA tp (vF 9) (an + 1))), (3, .int 1)]) := lv_sub hl [2, 3, 1, 0] rfl
                exact join1 _ _ _ _ ⟨1, ⟨Or.inr rfl, fun _ => by (have b9 := bA_in tp (vF 9) (an + 1)); omega⟩, rfl, hP, hD, hS, hl⟩
              · have t_44 : ¬ ((bA tp (vF 9) (an + 1))).toInt = 61 := toI_neq c_44 rfl (by decide)
                refine lv_iload_n hx hb dX12_takeSign_47 rfl (lv_at hl 2 rfl) ?_
                refine lv_bipush (v := 60) hx hb dX12_takeSign_48 (by decide) ?_
                refine lv_icmp_ne (tgt := 63) hx hb dX12_takeSign_50 (by decide) (fun c_50 => ?_) (fun c_50 => ?_)
                · have t_50 : (cv).toInt ≠ 60 := toI_ne c_50 rfl (by decide)
                  refine lv_iconst (v := 0) hx hb dX12_takeSign_63 (by decide) ?_
                  refine lv_istore_n hx hb dX12_takeSign_64 rfl hl (by decide) rfl (fun ls (hl : lv_has ls _ ([(3, .int 0), (2, .int (bA tp (vF 9) (an + 1))), (0, .ref h0), (1, .int cv)])) => ?_)
                  have hl : lv_has _ _ ([(0, .ref h0), (1, .int cv), (2, .int (bA tp (vF 9) (an + 1))), (3, .int 0)]) := lv_sub hl [2, 3, 1, 0] rfl
                  exact join1 _ _ _ _ ⟨0, ⟨Or.inl rfl, fun h9 => absurd h9 (by decide)⟩, rfl, hP, hD, hS, hl⟩
                · have t_50 : (cv).toInt = 60 := toI_nne c_50 rfl (by decide)
                  refine lv_iload_n hx hb dX12_takeSign_53 rfl (lv_at hl 0 rfl) ?_
                  refine lv_bipush (v := 62) hx hb dX12_takeSign_54 (by decide) ?_
                  refine lv_icmp_ne (tgt := 63) hx hb dX12_takeSign_56 (by decide) (fun c_56 => ?_) (fun c_56 => ?_)
                  · have t_56 : ((bA tp (vF 9) (an + 1))).toInt ≠ 62 := toI_ne c_56 rfl (by decide)
                    refine lv_iconst (v := 0) hx hb dX12_takeSign_63 (by decide) ?_
                    refine lv_istore_n hx hb dX12_takeSign_64 rfl hl (by decide) rfl (fun ls (hl : lv_has ls _ ([(3, .int 0), (2, .int (bA tp (vF 9) (an + 1))), (0, .ref h0), (1, .int cv)])) => ?_)
                    have hl : lv_has _ _ ([(0, .ref h0), (1, .int cv), (2, .int (bA tp (vF 9) (an + 1))), (3, .int 0)]) := lv_sub hl [2, 3, 1, 0] rfl
                    exact join1 _ _ _ _ ⟨0, ⟨Or.inl rfl, fun h9 => absurd h9 (by decide)⟩, rfl, hP, hD, hS, hl⟩
                  · have t_56 : ((bA tp (vF 9) (an + 1))).toInt = 62 := toI_nne c_56 rfl (by decide)
                    refine lv_iconst (v := 1) hx hb dX12_takeSign_59 (by decide) ?_
                    refine lv_goto (tgt := 64) hx hb dX12_takeSign_60 (by decide) ?_
                    refine lv_istore_n hx hb dX12_takeSign_64 rfl hl (by decide) rfl (fun ls (hl : lv_has ls _ ([(3, .int 1), (2, .int (bA tp (vF 9) (an + 1))), (0, .ref h0), (1, .int cv)])) => ?_)
                    have hl : lv_has _ _ ([(0, .ref h0), (1, .int cv), (2, .int (bA tp (vF 9) (an + 1))), (3, .int 1)]) := lv_sub hl [2, 3, 1, 0] rfl
                    exact join1 _ _ _ _ ⟨1, ⟨Or.inr rfl, fun _ => by (have b9 := bA_in tp (vF 9) (an + 1)); omega⟩, rfl, hP, hD, hS, hl⟩
  · rintro H locs ls stk ⟨tw, htw, rfl, hP, hD, hS, hl⟩
    refine lv_iload_n hx hb dX12_takeSign_65 rfl (lv_at hl 1 rfl) ?_
    refine lv_bipush (v := 61) hx hb dX12_takeSign_66 (by decide) ?_
    refine W.cut (pc := 168) (fun H locs ls stk => ∃ (on : Int32),  stk = [] ∧ va_P (dC, dI) vwCl (WR a k h0 vi vj vF vG) H ∧ va_D A (WR a k h0 vi vj vF vG) ∧ va_S A s.heap H locs ∧ lv_has ls 5 [(0, .ref h0), (1, .int cv), (2, .int (bA tp (vF 9) (an + 1))), (3, .int tw), (4, .int on)]) (fun join2 => ?_) ?_
    · refine lv_icmp_eq (tgt := 161) hx hb dX12_takeSign_68 (by decide) (fun c_68 => ?_) (fun c_68 => ?_)
      · have t_68 : (cv).toInt = 61 := toI_eq c_68 rfl (by decide)
        refine lv_iconst (v := 1) hx hb dX12_takeSign_161 (by decide) ?_
        refine lv_goto (tgt := 166) hx hb dX12_takeSign_162 (by decide) ?_
        refine lv_istore hx hb dX12_takeSign_166 hl (by decide) rfl (fun ls (hl : lv_has ls _ ([(4, .int 1), (0, .ref h0), (1, .int cv), (2, .int (bA tp (vF 9) (an + 1))), (3, .int tw)])) => ?_)
        have hl : lv_has _ _ ([(0, .ref h0), (1, .int cv), (2, .int (bA tp (vF 9) (an + 1))), (3, .int tw), (4, .int 1)]) := lv_sub hl [1, 2, 3, 4, 0] rfl
        exact join2 _ _ _ _ ⟨1, rfl, hP, hD, hS, hl⟩
      · have t_68 : ¬ (cv).toInt = 61 := toI_neq c_68 rfl (by decide)
        refine lv_iload_n hx hb dX12_takeSign_71 rfl (lv_at hl 1 rfl) ?_
        refine lv_bipush (v := 60) hx hb dX12_takeSign_72 (by decide) ?_
        refine lv_icmp_eq (tgt := 161) hx hb dX12_takeSign_74 (by decide) (fun c_74 => ?_) (fun c_74 => ?_)
        · have t_74 : (cv).toInt = 60 := toI_eq c_74 rfl (by decide)
          refine lv_iconst (v := 1) hx hb dX12_takeSign_161 (by decide) ?_
          refine lv_goto (tgt := 166) hx hb dX12_takeSign_162 (by decide) ?_
          refine lv_istore hx hb dX12_takeSign_166 hl (by decide) rfl (fun ls (hl : lv_has ls _ ([(4, .int 1), (0, .ref h0), (1, .int cv), (2, .int (bA tp (vF 9) (an + 1))), (3, .int tw)])) => ?_)
          have hl : lv_has _ _ ([(0, .ref h0), (1, .int cv), (2, .int (bA tp (vF 9) (an + 1))), (3, .int tw), (4, .int 1)]) := lv_sub hl [1, 2, 3, 4, 0] rfl
          exact join2 _ _ _ _ ⟨1, rfl, hP, hD, hS, hl⟩
        · have t_74 : ¬ (cv).toInt = 60 := toI_neq c_74 rfl (by decide)
          refine lv_iload_n hx hb dX12_takeSign_77 rfl (lv_at hl 1 rfl) ?_
          refine lv_bipush (v := 62) hx hb dX12_takeSign_78 (by decide) ?_
          refine lv_icmp_eq (tgt := 161) hx hb dX12_takeSign_80 (by decide) (fun c_80 => ?_) (fun c_80 => ?_)
          · have t_80 : (cv).toInt = 62 := toI_eq c_80 rfl (by decide)
            refine lv_iconst (v := 1) hx hb dX12_takeSign_161 (by decide) ?_
            refine lv_goto (tgt := 166) hx hb dX12_takeSign_162 (by decide) ?_
            refine lv_istore hx hb dX12_takeSign_166 hl (by decide) rfl (fun ls (hl : lv_has ls _ ([(4, .int 1), (0, .ref h0), (1, .int cv), (2, .int (bA tp (vF 9) (an + 1))), (3, .int tw)])) => ?_)
            have hl : lv_has _ _ ([(0, .ref h0), (1, .int cv), (2, .int (bA tp (vF 9) (an + 1))), (3, .int tw), (4, .int 1)]) := lv_sub hl [1, 2, 3, 4, 0] rfl
            exact join2 _ _ _ _ ⟨1, rfl, hP, hD, hS, hl⟩
          · have t_80 : ¬ (cv).toInt = 62 := toI_neq c_80 rfl (by decide)
            refine lv_iload_n hx hb dX12_takeSign_83 rfl (lv_at hl 1 rfl) ?_
            refine lv_bipush (v := 58) hx hb dX12_takeSign_84 (by decide) ?_
            refine lv_icmp_eq (tgt := 161) hx hb dX12_takeSign_86 (by decide) (fun c_86 => ?_) (fun c_86 => ?_)
            · have t_86 : (cv).toInt = 58 := toI_eq c_86 rfl (by decide)
              refine lv_iconst (v := 1) hx hb dX12_takeSign_161 (by decide) ?_
              refine lv_goto (tgt := 166) hx hb dX12_takeSign_162 (by decide) ?_
              refine lv_istore hx hb dX12_takeSign_166 hl (by decide) rfl (fun ls (hl : lv_has ls _ ([(4, .int 1), (0, .ref h0), (1, .int cv), (2, .int (bA tp (vF 9) (an + 1))), (3, .int tw)])) => ?_)
              have hl : lv_has _ _ ([(0, .ref h0), (1, .int cv), (2, .int (bA tp (vF 9) (an + 1))), (3, .int tw), (4, .int 1)]) := lv_sub hl [1, 2, 3, 4, 0] rfl
              exact join2 _ _ _ _ ⟨1, rfl, hP, hD, hS, hl⟩
            · have t_86 : ¬ (cv).toInt = 58 := toI_neq c_86 rfl (by decide)
              refine lv_iload_n hx hb dX12_takeSign_89 rfl (lv_at hl 1 rfl) ?_
              refine lv_bipush (v := 59) hx hb dX12_takeSign_90 (by decide) ?_
              refine lv_icmp_eq (tgt := 161) hx hb dX12_takeSign_92 (by decide) (fun c_92 => ?_) (fun c_92 => ?_)
              · have t_92 : (cv).toInt = 59 := toI_eq c_92 rfl (by decide)
                refine lv_iconst (v := 1) hx hb dX12_takeSign_161 (by decide) ?_
                refine lv_goto (tgt := 166) hx hb dX12_takeSign_162 (by decide) ?_
                refine lv_istore hx hb dX12_takeSign_166 hl (by decide) rfl (fun ls (hl : lv_has ls _ ([(4, .int 1), (0, .ref h0), (1, .int cv), (2, .int (bA tp (vF 9) (an + 1))), (3, .int tw)])) => ?_)
                have hl : lv_has _ _ ([(0, .ref h0), (1, .int cv), (2, .int (bA tp (vF 9) (an + 1))), (3, .int tw), (4, .int 1)]) := lv_sub hl [1, 2, 3, 4, 0] rfl
                exact join2 _ _ _ _ ⟨1, rfl, hP, hD, hS, hl⟩
              · have t_92 : ¬ (cv).toInt = 59 := toI_neq c_92 rfl (by decide)
                refine lv_iload_n hx hb dX12_takeSign_95 rfl (lv_at hl 1 rfl) ?_
                refine lv_bipush (v := 44) hx hb dX12_takeSign_96 (by decide) ?_
                refine lv_icmp_eq (tgt := 161) hx hb dX12_takeSign_98 (by decide) (fun c_98 => ?_) (fun c_98 => ?_)
                · have t_98 : (cv).toInt = 44 := toI_eq c_98 rfl (by decide)
                  refine lv_iconst (v := 1) hx hb dX12_takeSign_161 (by decide) ?_
                  refine lv_goto (tgt := 166) hx hb dX12_takeSign_162 (by decide) ?_
                  refine lv_istore hx hb dX12_takeSign_166 hl (by decide) rfl (fun ls (hl : lv_has ls _ ([(4, .int 1), (0, .ref h0), (1, .int cv), (2, .int (bA tp (vF 9) (an + 1))), (3, .int tw)])) => ?_)
                  have hl : lv_has _ _ ([(0, .ref h0), (1, .int cv), (2, .int (bA tp (vF 9) (an + 1))), (3, .int tw), (4, .int 1)]) := lv_sub hl [1, 2, 3, 4, 0] rfl
                  exact join2 _ _ _ _ ⟨1, rfl, hP, hD, hS, hl⟩
                · have t_98 : ¬ (cv).toInt = 44 := toI_neq c_98 rfl (by decide)
                  refine lv_iload_n hx hb dX12_takeSign_101 rfl (lv_at hl 1 rfl) ?_
                  refine lv_bipush (v := 91) hx hb dX12_takeSign_102 (by decide) ?_
                  refine lv_icmp_eq (tgt := 161) hx hb dX12_takeSign_104 (by decide) (fun c_104 => ?_) (fun c_104 => ?_)
                  · have t_104 : (cv).toInt = 91 := toI_eq c_104 rfl (by decide)
                    refine lv_iconst (v := 1) hx hb dX12_takeSign_161 (by decide) ?_
                    refine lv_goto (tgt := 166) hx hb dX12_takeSign_162 (by decide) ?_
                    refine lv_istore hx hb dX12_takeSign_166 hl (by decide) rfl (fun ls (hl : lv_has ls _ ([(4, .int 1), (0, .ref h0), (1, .int cv), (2, .int (bA tp (vF 9) (an + 1))), (3, .int tw)])) => ?_)
                    have hl : lv_has _ _ ([(0, .ref h0), (1, .int cv), (2, .int (bA tp (vF 9) (an + 1))), (3, .int tw), (4, .int 1)]) := lv_sub hl [1, 2, 3, 4, 0] rfl
                    exact join2 _ _ _ _ ⟨1, rfl, hP, hD, hS, hl⟩
                  · have t_104 : ¬ (cv).toInt = 91 := toI_neq c_104 rfl (by decide)
                    refine lv_iload_n hx hb dX12_takeSign_107 rfl (lv_at hl 1 rfl) ?_
                    refine lv_bipush (v := 93) hx hb dX12_takeSign_108 (by decide) ?_
                    refine lv_icmp_eq (tgt := 161) hx hb dX12_takeSign_110 (by decide) (fun c_110 => ?_) (fun c_110 => ?_)
                    · have t_110 : (cv).toInt = 93 := toI_eq c_110 rfl (by decide)
                      refine lv_iconst (v := 1) hx hb dX12_takeSign_161 (by decide) ?_
                      refine lv_goto (tgt := 166) hx hb dX12_takeSign_162 (by decide) ?_
                      refine lv_istore hx hb dX12_takeSign_166 hl (by decide) rfl (fun ls (hl : lv_has ls _ ([(4, .int 1), (0, .ref h0), (1, .int cv), (2, .int (bA tp (vF 9) (an + 1))), (3, .int tw)])) => ?_)
                      have hl : lv_has _ _ ([(0, .ref h0), (1, .int cv), (2, .int (bA tp (vF 9) (an + 1))), (3, .int tw), (4, .int 1)]) := lv_sub hl [1, 2, 3, 4, 0] rfl
                      exact join2 _ _ _ _ ⟨1, rfl, hP, hD, hS, hl⟩
                    · have t_110 : ¬ (cv).toInt = 93 := toI_neq c_110 rfl (by decide)
                      refine lv_iload_n hx hb dX12_takeSign_113 rfl (lv_at hl 1 rfl) ?_
                      refine lv_bipush (v := 123) hx hb dX12_takeSign_114 (by decide) ?_
                      refine lv_icmp_eq (tgt := 161) hx hb dX12_takeSign_116 (by decide) (fun c_116 => ?_) (fun c_116 => ?_)
                      · have t_116 : (cv).toInt = 123 := toI_eq c_116 rfl (by decide)
                        refine lv_iconst (v := 1) hx hb dX12_takeSign_161 (by decide) ?_
                        refine lv_goto (tgt := 166) hx hb dX12_takeSign_162 (by decide) ?_
                        refine lv_istore hx hb dX12_takeSign_166 hl (by decide) rfl (fun ls (hl : lv_has ls _ ([(4, .int 1), (0, .ref h0), (1, .int cv), (2, .int (bA tp (vF 9) (an + 1))), (3, .int tw)])) => ?_)
                        have hl : lv_has _ _ ([(0, .ref h0), (1, .int cv), (2, .int (bA tp (vF 9) (an + 1))), (3, .int tw), (4, .int 1)]) := lv_sub hl [1, 2, 3, 4, 0] rfl
                        exact join2 _ _ _ _ ⟨1, rfl, hP, hD, hS, hl⟩
                      · have t_116 : ¬ (cv).toInt = 123 := toI_neq c_116 rfl (by decide)
                        refine lv_iload_n hx hb dX12_takeSign_119 rfl (lv_at hl 1 rfl) ?_
                        refine lv_bipush (v := 125) hx hb dX12_takeSign_120 (by decide) ?_
                        refine lv_icmp_eq (tgt := 161) hx hb dX12_takeSign_122 (by decide) (fun c_122 => ?_) (fun c_122 => ?_)
                        · have t_122 : (cv).toInt = 125 := toI_eq c_122 rfl (by decide)
                          refine lv_iconst (v := 1) hx hb dX12_takeSign_161 (by decide) ?_
                          refine lv_goto (tgt := 166) hx hb dX12_takeSign_162 (by decide) ?_
                          refine lv_istore hx hb dX12_takeSign_166 hl (by decide) rfl (fun ls (hl : lv_has ls _ ([(4, .int 1), (0, .ref h0), (1, .int cv), (2, .int (bA tp (vF 9) (an + 1))), (3, .int tw)])) => ?_)
                          have hl : lv_has _ _ ([(0, .ref h0), (1, .int cv), (2, .int (bA tp (vF 9) (an + 1))), (3, .int tw), (4, .int 1)]) := lv_sub hl [1, 2, 3, 4, 0] rfl
                          exact join2 _ _ _ _ ⟨1, rfl, hP, hD, hS, hl⟩
                        · have t_122 : ¬ (cv).toInt = 125 := toI_neq c_122 rfl (by decide)
                          refine lv_iload_n hx hb dX12_takeSign_125 rfl (lv_at hl 1 rfl) ?_
                          refine lv_bipush (v := 40) hx hb dX12_takeSign_126 (by decide) ?_
                          refine lv_icmp_eq (tgt := 161) hx hb dX12_takeSign_128 (by decide) (fun c_128 => ?_) (fun c_128 => ?_)
                          · have t_128 : (cv).toInt = 40 := toI_eq c_128 rfl (by decide)
                            refine lv_iconst (v := 1) hx hb dX12_takeSign_161 (by decide) ?_
                            refine lv_goto (tgt := 166) hx hb dX12_takeSign_162 (by decide) ?_
                            refine lv_istore hx hb dX12_takeSign_166 hl (by decide) rfl (fun ls (hl : lv_has ls _ ([(4, .int 1), (0, .ref h0), (1, .int cv), (2, .int (bA tp (vF 9) (an + 1))), (3, .int tw)])) => ?_)
                            have hl : lv_has _ _ ([(0, .ref h0), (1, .int cv), (2, .int (bA tp (vF 9) (an + 1))), (3, .int tw), (4, .int 1)]) := lv_sub hl [1, 2, 3, 4, 0] rfl
                            exact join2 _ _ _ _ ⟨1, rfl, hP, hD, hS, hl⟩
                          · have t_128 : ¬ (cv).toInt = 40 := toI_neq c_128 rfl (by decide)
                            refine lv_iload_n hx hb dX12_takeSign_131 rfl (lv_at hl 1 rfl) ?_
                            refine lv_bipush (v := 41) hx hb dX12_takeSign_132 (by decide) ?_
                            refine lv_icmp_eq (tgt := 161) hx hb dX12_takeSign_134 (by decide) (fun c_134 => ?_) (fun c_134 => ?_)
                            · have t_134 : (cv).toInt = 41 := toI_eq c_134 rfl (by decide)
                              refine lv_iconst (v := 1) hx hb dX12_takeSign_161 (by decide) ?_
                              refine lv_goto (tgt := 166) hx hb dX12_takeSign_162 (by decide) ?_
                              refine lv_istore hx hb dX12_takeSign_166 hl (by decide) rfl (fun ls (hl : lv_has ls _ ([(4, .int 1), (0, .ref h0), (1, .int cv), (2, .int (bA tp (vF 9) (an + 1))), (3, .int tw)])) => ?_)
                              have hl : lv_has _ _ ([(0, .ref h0), (1, .int cv), (2, .int (bA tp (vF 9) (an + 1))), (3, .int tw), (4, .int 1)]) := lv_sub hl [1, 2, 3, 4, 0] rfl
                              exact join2 _ _ _ _ ⟨1, rfl, hP, hD, hS, hl⟩
                            · have t_134 : ¬ (cv).toInt = 41 := toI_neq c_134 rfl (by decide)
                              refine lv_iload_n hx hb dX12_takeSign_137 rfl (lv_at hl 1 rfl) ?_
                              refine lv_bipush (v := 43) hx hb dX12_takeSign_138 (by decide) ?_
                              refine lv_icmp_eq (tgt := 161) hx hb dX12_takeSign_140 (by decide) (fun c_140 => ?_) (fun c_140 => ?_)
                              · have t_140 : (cv).toInt = 43 := toI_eq c_140 rfl (by decide)
                                refine lv_iconst (v := 1) hx hb dX12_takeSign_161 (by decide) ?_
                                refine lv_goto (tgt := 166) hx hb dX12_takeSign_162 (by decide) ?_
                                refine lv_istore hx hb dX12_takeSign_166 hl (by decide) rfl (fun ls (hl : lv_has ls _ ([(4, .int 1), (0, .ref h0), (1, .int cv), (2, .int (bA tp (vF 9) (an + 1))), (3, .int tw)])) => ?_)
                                have hl : lv_has _ _ ([(0, .ref h0), (1, .int cv), (2, .int (bA tp (vF 9) (an + 1))), (3, .int tw), (4, .int 1)]) := lv_sub hl [1, 2, 3, 4, 0] rfl
                                exact join2 _ _ _ _ ⟨1, rfl, hP, hD, hS, hl⟩
                              · have t_140 : ¬ (cv).toInt = 43 := toI_neq c_140 rfl (by decide)
                                refine lv_iload_n hx hb dX12_takeSign_143 rfl (lv_at hl 1 rfl) ?_
                                refine lv_bipush (v := 45) hx hb dX12_takeSign_144 (by decide) ?_
                                refine lv_icmp_eq (tgt := 161) hx hb dX12_takeSign_146 (by decide) (fun c_146 => ?_) (fun c_146 => ?_)
                                · have t_146 : (cv).toInt = 45 := toI_eq c_146 rfl (by decide)
                                  refine lv_iconst (v := 1) hx hb dX12_takeSign_161 (by decide) ?_
                                  refine lv_goto (tgt := 166) hx hb dX12_takeSign_162 (by decide) ?_
                                  refine lv_istore hx hb dX12_takeSign_166 hl (by decide) rfl (fun ls (hl : lv_has ls _ ([(4, .int 1), (0, .ref h0), (1, .int cv), (2, .int (bA tp (vF 9) (an + 1))), (3, .int tw)])) => ?_)
                                  have hl : lv_has _ _ ([(0, .ref h0), (1, .int cv), (2, .int (bA tp (vF 9) (an + 1))), (3, .int tw), (4, .int 1)]) := lv_sub hl [1, 2, 3, 4, 0] rfl
                                  exact join2 _ _ _ _ ⟨1, rfl, hP, hD, hS, hl⟩
                                · have t_146 : ¬ (cv).toInt = 45 := toI_neq c_146 rfl (by decide)
                                  refine lv_iload_n hx hb dX12_takeSign_149 rfl (lv_at hl 1 rfl) ?_
                                  refine lv_bipush (v := 42) hx hb dX12_takeSign_150 (by decide) ?_
                                  refine lv_icmp_eq (tgt := 161) hx hb dX12_takeSign_152 (by decide) (fun c_152 => ?_) (fun c_152 => ?_)
                                  · have t_152 : (cv).toInt = 42 := toI_eq c_152 rfl (by decide)
                                    refine lv_iconst (v := 1) hx hb dX12_takeSign_161 (by decide) ?_
                                    refine lv_goto (tgt := 166) hx hb dX12_takeSign_162 (by decide) ?_
                                    refine lv_istore hx hb dX12_takeSign_166 hl (by decide) rfl (fun ls (hl : lv_has ls _ ([(4, .int 1), (0, .ref h0), (1, .int cv), (2, .int (bA tp (vF 9) (an + 1))), (3, .int tw)])) => ?_)
                                    have hl : lv_has _ _ ([(0, .ref h0), (1, .int cv), (2, .int (bA tp (vF 9) (an + 1))), (3, .int tw), (4, .int 1)]) := lv_sub hl [1, 2, 3, 4, 0] rfl
                                    exact join2 _ _ _ _ ⟨1, rfl, hP, hD, hS, hl⟩
                                  · have t_152 : ¬ (cv).toInt = 42 := toI_neq c_152 rfl (by decide)
                                    refine lv_iload_n hx hb dX12_takeSign_155 rfl (lv_at hl 1 rfl) ?_
                                    refine lv_bipush (v := 47) hx hb dX12_takeSign_156 (by decide) ?_
                                    refine lv_icmp_ne (tgt := 165) hx hb dX12_takeSign_158 (by decide) (fun c_158 => ?_) (fun c_158 => ?_)
                                    · have t_158 : (cv).toInt ≠ 47 := toI_ne c_158 rfl (by decide)
                                      refine lv_iconst (v := 0) hx hb dX12_takeSign_165 (by decide) ?_
                                      refine lv_istore hx hb dX12_takeSign_166 hl (by decide) rfl (fun ls (hl : lv_has ls _ ([(4, .int 0), (0, .ref h0), (1, .int cv), (2, .int (bA tp (vF 9) (an + 1))), (3, .int tw)])) => ?_)
                                      have hl : lv_has _ _ ([(0, .ref h0), (1, .int cv), (2, .int (bA tp (vF 9) (an + 1))), (3, .int tw), (4, .int 0)]) := lv_sub hl [1, 2, 3, 4, 0] rfl
                                      exact join2 _ _ _ _ ⟨0, rfl, hP, hD, hS, hl⟩
                                    · have t_158 : (cv).toInt = 47 := toI_nne c_158 rfl (by decide)
                                      refine lv_iconst (v := 1) hx hb dX12_takeSign_161 (by decide) ?_
                                      refine lv_goto (tgt := 166) hx hb dX12_takeSign_162 (by decide) ?_
                                      refine lv_istore hx hb dX12_takeSign_166 hl (by decide) rfl (fun ls (hl : lv_has ls _ ([(4, .int 1), (0, .ref h0), (1, .int cv), (2, .int (bA tp (vF 9) (an + 1))), (3, .int tw)])) => ?_)
                                      have hl : lv_has _ _ ([(0, .ref h0), (1, .int cv), (2, .int (bA tp (vF 9) (an + 1))), (3, .int tw), (4, .int 1)]) := lv_sub hl [1, 2, 3, 4, 0] rfl
                                      exact join2 _ _ _ _ ⟨1, rfl, hP, hD, hS, hl⟩
    · rintro H locs ls stk ⟨on, rfl, hP, hD, hS, hl⟩
      refine lv_aload_n hx hb dX12_takeSign_168 rfl (lv_at hl 0 rfl) ?_
      refine lv_iload_n hx hb dX12_takeSign_169 rfl (lv_at hl 3 rfl) ?_
      refine W.cut (pc := 186) (fun H locs ls stk => ∃ (wd : Int32), (wd = 4 ∨ wd = 5) ∧  stk = [] ∧ va_P (dC, dI) vwCl (WR a k h0 (fT vi 18 wd) vj vF vG) H ∧ va_D A (WR a k h0 (fT vi 18 wd) vj vF vG) ∧ va_S A s.heap H locs ∧ lv_has ls 5 [(0, .ref h0), (1, .int cv), (2, .int (bA tp (vF 9) (an + 1))), (3, .int tw)]) (fun join3 => ?_) ?_
      · refine lv_if_ne (tgt := 178) hx hb dX12_takeSign_170 (by decide) (fun c_170 => ?_) (fun c_170 => ?_)
        · have t_170 : (tw).toInt ≠ 0 := toI_ne c_170 rfl (by decide)
          refine lv_iconst (v := 4) hx hb dX12_takeSign_178 (by decide) ?_
          refine lv_goto (tgt := 183) hx hb dX12_takeSign_179 (by decide) ?_
          refine va_put (D := (dC, dI)) (ci := 12) (v := .int 4) (ty := .int) (C := RX12) (T := TX12) (N := 163) (fs := fM (vS a vi vj)) hx hb hts iwsRX12_takeSign_in12 tyX12 tyX12_ok nmX12 hown hK hP hD hS 0 rfl rfl 18 (by decide) (hts (.fieldLink RX12 494 "OptimaWorksModel" "word" "I") (by decide +kernel)) (fun _ h9 => h9) rfl (by decide +kernel) rfl rfl (Nat.le_of_ble_eq_true rfl) dX12_takeSign_183 (fun H locs hP hD hS => ?_)
          have hP : va_P (dC, dI) vwCl (WR a k h0 (fT vi 18 4) vj vF vG) H := by rw [← WR_i 18 _ rfl]; exact hP
          have hD : va_D A (WR a k h0 (fT vi 18 4) vj vF vG) := by rw [← WR_i 18 _ rfl]; exact hD
          have hl : lv_has _ _ ([(0, .ref h0), (1, .int cv), (2, .int (bA tp (vF 9) (an + 1))), (3, .int tw)]) := lv_sub hl [0, 1, 2, 3] rfl
          exact join3 _ _ _ _ ⟨4, Or.inl rfl, rfl, hP, hD, hS, hl⟩
        · have t_170 : (tw).toInt = 0 := toI_nne c_170 rfl (by decide)
          refine lv_iload hx hb dX12_takeSign_173 (lv_at hl 4 rfl) ?_
          refine lv_if_eq (tgt := 182) hx hb dX12_takeSign_175 (by decide) (fun c_175 => ?_) (fun c_175 => ?_)
          · have t_175 : (on).toInt = 0 := toI_eq c_175 rfl (by decide)
            refine lv_iconst (v := 5) hx hb dX12_takeSign_182 (by decide) ?_
            refine va_put (D := (dC, dI)) (ci := 12) (v := .int 5) (ty := .int) (C := RX12) (T := TX12) (N := 163) (fs := fM (vS a vi vj)) hx hb hts iwsRX12_takeSign_in12 tyX12 tyX12_ok nmX12 hown hK hP hD hS 0 rfl rfl 18 (by decide) (hts (.fieldLink RX12 494 "OptimaWorksModel" "word" "I") (by decide +kernel)) (fun _ h9 => h9) rfl (by decide +kernel) rfl rfl (Nat.le_of_ble_eq_true rfl) dX12_takeSign_183 (fun H locs hP hD hS => ?_)
            have hP : va_P (dC, dI) vwCl (WR a k h0 (fT vi 18 5) vj vF vG) H := by rw [← WR_i 18 _ rfl]; exact hP
            have hD : va_D A (WR a k h0 (fT vi 18 5) vj vF vG) := by rw [← WR_i 18 _ rfl]; exact hD
            have hl : lv_has _ _ ([(0, .ref h0), (1, .int cv), (2, .int (bA tp (vF 9) (an + 1))), (3, .int tw)]) := lv_sub hl [0, 1, 2, 3] rfl
            exact join3 _ _ _ _ ⟨5, Or.inr rfl, rfl, hP, hD, hS, hl⟩
          · have t_175 : ¬ (on).toInt = 0 := toI_neq c_175 rfl (by decide)
            refine lv_iconst (v := 4) hx hb dX12_takeSign_178 (by decide) ?_
            refine lv_goto (tgt := 183) hx hb dX12_takeSign_179 (by decide) ?_
            refine va_put (D := (dC, dI)) (ci := 12) (v := .int 4) (ty := .int) (C := RX12) (T := TX12) (N := 163) (fs := fM (vS a vi vj)) hx hb hts iwsRX12_takeSign_in12 tyX12 tyX12_ok nmX12 hown hK hP hD hS 0 rfl rfl 18 (by decide) (hts (.fieldLink RX12 494 "OptimaWorksModel" "word" "I") (by decide +kernel)) (fun _ h9 => h9) rfl (by decide +kernel) rfl rfl (Nat.le_of_ble_eq_true rfl) dX12_takeSign_183 (fun H locs hP hD hS => ?_)
            have hP : va_P (dC, dI) vwCl (WR a k h0 (fT vi 18 4) vj vF vG) H := by rw [← WR_i 18 _ rfl]; exact hP
            have hD : va_D A (WR a k h0 (fT vi 18 4) vj vF vG) := by rw [← WR_i 18 _ rfl]; exact hD
            have hl : lv_has _ _ ([(0, .ref h0), (1, .int cv), (2, .int (bA tp (vF 9) (an + 1))), (3, .int tw)]) := lv_sub hl [0, 1, 2, 3] rfl
            exact join3 _ _ _ _ ⟨4, Or.inl rfl, rfl, hP, hD, hS, hl⟩
      · rintro H locs ls stk ⟨wd, hwd, rfl, hP, hD, hS, hl⟩
        refine lv_aload_n hx hb dX12_takeSign_186 rfl (lv_at hl 0 rfl) ?_
        refine lv_iload_n hx hb dX12_takeSign_187 rfl (lv_at hl 3 rfl) ?_
        refine W.cut (pc := 233) (fun H locs ls stk => ∃ (sg : Int32),  stk = [] ∧ va_P (dC, dI) vwCl (WR a k h0 (fT (fT vi 18 wd) 20 sg) vj vF vG) H ∧ va_D A (WR a k h0 (fT (fT vi 18 wd) 20 sg) vj vF vG) ∧ va_S A s.heap H locs ∧ lv_has ls 5 [(0, .ref h0), (3, .int tw)]) (fun join4 => ?_) ?_
        · refine lv_if_ne (tgt := 195) hx hb dX12_takeSign_188 (by decide) (fun c_188 => ?_) (fun c_188 => ?_)
          · have t_188 : (tw).toInt ≠ 0 := toI_ne c_188 rfl (by decide)
            refine lv_iload_n hx hb dX12_takeSign_195 rfl (lv_at hl 1 rfl) ?_
            refine lv_bipush (v := 46) hx hb dX12_takeSign_196 (by decide) ?_
            refine lv_icmp_ne (tgt := 206) hx hb dX12_takeSign_198 (by decide) (fun c_198 => ?_) (fun c_198 => ?_)
            · have t_198 : (cv).toInt ≠ 46 := toI_ne c_198 rfl (by decide)
              refine lv_iload_n hx hb dX12_takeSign_206 rfl (lv_at hl 2 rfl) ?_
              refine lv_bipush (v := 62) hx hb dX12_takeSign_207 (by decide) ?_
              refine lv_icmp_ne (tgt := 217) hx hb dX12_takeSign_209 (by decide) (fun c_209 => ?_) (fun c_209 => ?_)
              · have t_209 : ((bA tp (vF 9) (an + 1))).toInt ≠ 62 := toI_ne c_209 rfl (by decide)
                refine lv_iload_n hx hb dX12_takeSign_217 rfl (lv_at hl 1 rfl) ?_
                refine lv_bipush (v := 60) hx hb dX12_takeSign_218 (by decide) ?_
                refine lv_icmp_ne (tgt := 228) hx hb dX12_takeSign_220 (by decide) (fun c_220 => ?_) (fun c_220 => ?_)
                · have t_220 : (cv).toInt ≠ 60 := toI_ne c_220 rfl (by decide)
                  refine lv_bipush (v := 71) hx hb dX12_takeSign_228 (by decide) ?_
                  refine va_put (D := (dC, dI)) (ci := 12) (v := .int 71) (ty := .int) (C := RX12) (T := TX12) (N := 163) (fs := fM (vS a (fT vi 18 wd) vj)) hx hb hts iwsRX12_takeSign_in12 tyX12 tyX12_ok nmX12 hown hK hP hD hS 0 rfl rfl 20 (by decide) (hts (.fieldLink RX12 491 "OptimaWorksModel" "sign0" "I") (by decide +kernel)) (fun _ h9 => h9) rfl (by decide +kernel) rfl rfl (Nat.le_of_ble_eq_true rfl) dX12_takeSign_230 (fun H locs hP hD hS => ?_)
                  have hP : va_P (dC, dI) vwCl (WR a k h0 (fT (fT vi 18 wd) 20 71) vj vF vG) H := by rw [← WR_i 20 _ rfl]; exact hP
                  have hD : va_D A (WR a k h0 (fT (fT vi 18 wd) 20 71) vj vF vG) := by rw [← WR_i 20 _ rfl]; exact hD
                  have hl : lv_has _ _ ([(0, .ref h0), (3, .int tw)]) := lv_sub hl [0, 3] rfl
                  exact join4 _ _ _ _ ⟨71, rfl, hP, hD, hS, hl⟩
                · have t_220 : (cv).toInt = 60 := toI_nne c_220 rfl (by decide)
                  refine lv_bipush (v := 76) hx hb dX12_takeSign_223 (by decide) ?_
                  refine lv_goto (tgt := 230) hx hb dX12_takeSign_225 (by decide) ?_
                  refine va_put (D := (dC, dI)) (ci := 12) (v := .int 76) (ty := .int) (C := RX12) (T := TX12) (N := 163) (fs := fM (vS a (fT vi 18 wd) vj)) hx hb hts iwsRX12_takeSign_in12 tyX12 tyX12_ok nmX12 hown hK hP hD hS 0 rfl rfl 20 (by decide) (hts (.fieldLink RX12 491 "OptimaWorksModel" "sign0" "I") (by decide +kernel)) (fun _ h9 => h9) rfl (by decide +kernel) rfl rfl (Nat.le_of_ble_eq_true rfl) dX12_takeSign_230 (fun H locs hP hD hS => ?_)
                  have hP : va_P (dC, dI) vwCl (WR a k h0 (fT (fT vi 18 wd) 20 76) vj vF vG) H := by rw [← WR_i 20 _ rfl]; exact hP
                  have hD : va_D A (WR a k h0 (fT (fT vi 18 wd) 20 76) vj vF vG) := by rw [← WR_i 20 _ rfl]; exact hD
                  have hl : lv_has _ _ ([(0, .ref h0), (3, .int tw)]) := lv_sub hl [0, 3] rfl
                  exact join4 _ _ _ _ ⟨76, rfl, hP, hD, hS, hl⟩
              · have t_209 : ((bA tp (vF 9) (an + 1))).toInt = 62 := toI_nne c_209 rfl (by decide)
                refine lv_bipush (v := 78) hx hb dX12_takeSign_212 (by decide) ?_
                refine lv_goto (tgt := 230) hx hb dX12_takeSign_214 (by decide) ?_
                refine va_put (D := (dC, dI)) (ci := 12) (v := .int 78) (ty := .int) (C := RX12) (T := TX12) (N := 163) (fs := fM (vS a (fT vi 18 wd) vj)) hx hb hts iwsRX12_takeSign_in12 tyX12 tyX12_ok nmX12 hown hK hP hD hS 0 rfl rfl 20 (by decide) (hts (.fieldLink RX12 491 "OptimaWorksModel" "sign0" "I") (by decide +kernel)) (fun _ h9 => h9) rfl (by decide +kernel) rfl rfl (Nat.le_of_ble_eq_true rfl) dX12_takeSign_230 (fun H locs hP hD hS => ?_)
                have hP : va_P (dC, dI) vwCl (WR a k h0 (fT (fT vi 18 wd) 20 78) vj vF vG) H := by rw [← WR_i 20 _ rfl]; exact hP
                have hD : va_D A (WR a k h0 (fT (fT vi 18 wd) 20 78) vj vF vG) := by rw [← WR_i 20 _ rfl]; exact hD
                have hl : lv_has _ _ ([(0, .ref h0), (3, .int tw)]) := lv_sub hl [0, 3] rfl
                exact join4 _ _ _ _ ⟨78, rfl, hP, hD, hS, hl⟩
            · have t_198 : (cv).toInt = 46 := toI_nne c_198 rfl (by decide)
              refine lv_bipush (v := 46) hx hb dX12_takeSign_201 (by decide) ?_
              refine lv_goto (tgt := 230) hx hb dX12_takeSign_203 (by decide) ?_
              refine va_put (D := (dC, dI)) (ci := 12) (v := .int 46) (ty := .int) (C := RX12) (T := TX12) (N := 163) (fs := fM (vS a (fT vi 18 wd) vj)) hx hb hts iwsRX12_takeSign_in12 tyX12 tyX12_ok nmX12 hown hK hP hD hS 0 rfl rfl 20 (by decide) (hts (.fieldLink RX12 491 "OptimaWorksModel" "sign0" "I") (by decide +kernel)) (fun _ h9 => h9) rfl (by decide +kernel) rfl rfl (Nat.le_of_ble_eq_true rfl) dX12_takeSign_230 (fun H locs hP hD hS => ?_)
              have hP : va_P (dC, dI) vwCl (WR a k h0 (fT (fT vi 18 wd) 20 46) vj vF vG) H := by rw [← WR_i 20 _ rfl]; exact hP
              have hD : va_D A (WR a k h0 (fT (fT vi 18 wd) 20 46) vj vF vG) := by rw [← WR_i 20 _ rfl]; exact hD
              have hl : lv_has _ _ ([(0, .ref h0), (3, .int tw)]) := lv_sub hl [0, 3] rfl
              exact join4 _ _ _ _ ⟨46, rfl, hP, hD, hS, hl⟩
          · have t_188 : (tw).toInt = 0 := toI_nne c_188 rfl (by decide)
            refine lv_iload_n hx hb dX12_takeSign_191 rfl (lv_at hl 1 rfl) ?_
            refine lv_goto (tgt := 230) hx hb dX12_takeSign_192 (by decide) ?_
            refine va_put (D := (dC, dI)) (ci := 12) (v := .int cv) (ty := .int) (C := RX12) (T := TX12) (N := 163) (fs := fM (vS a (fT vi 18 wd) vj)) hx hb hts iwsRX12_takeSign_in12 tyX12 tyX12_ok nmX12 hown hK hP hD hS 0 rfl rfl 20 (by decide) (hts (.fieldLink RX12 491 "OptimaWorksModel" "sign0" "I") (by decide +kernel)) (fun _ h9 => h9) rfl (by decide +kernel) rfl rfl (Nat.le_of_ble_eq_true rfl) dX12_takeSign_230 (fun H locs hP hD hS => ?_)
            have hP : va_P (dC, dI) vwCl (WR a k h0 (fT (fT vi 18 wd) 20 cv) vj vF vG) H := by rw [← WR_i 20 _ rfl]; exact hP
            have hD : va_D A (WR a k h0 (fT (fT vi 18 wd) 20 cv) vj vF vG) := by rw [← WR_i 20 _ rfl]; exact hD
            have hl : lv_has _ _ ([(0, .ref h0), (3, .int tw)]) := lv_sub hl [0, 3] rfl
            exact join4 _ _ _ _ ⟨cv, rfl, hP, hD, hS, hl⟩
        · rintro H locs ls stk ⟨sg, rfl, hP, hD, hS, hl⟩
          refine lv_aload_n hx hb dX12_takeSign_233 rfl (lv_at hl 0 rfl) ?_
          refine lv_dup hx hb dX12_takeSign_234 rfl ?_
          refine va_get (D := (dC, dI)) (ci := 12) (v := .int (vi 17)) (C := RX12) (T := TX12) (N := 163) (fs := fM (vS a (fT (fT vi 18 wd) 20 sg) vj)) hx hb hts iwsRX12_takeSign_in12 hown hK hP 0 rfl rfl 17 (by decide) (hts (.fieldLink RX12 485 "OptimaWorksModel" "at0" "I") (by decide +kernel)) (fun _ h9 => h9) rfl dX12_takeSign_235 ?_
          refine lv_topi (fun y3 hy3 => ?_)
          obtain rfl : (nI an) = y3 := (hy3.trans (ha0)).symm
          refine lv_iload_n hx hb dX12_takeSign_238 rfl (lv_at hl 1 rfl) ?_
          refine lv_if_eq (tgt := 246) hx hb dX12_takeSign_239 (by decide) (fun c_239 => ?_) (fun c_239 => ?_)
          · have t_239 : (tw).toInt = 0 := toI_eq c_239 rfl (by decide)
            refine lv_iconst (v := 1) hx hb dX12_takeSign_246 (by decide) ?_
            refine lv_iadd hx hb dX12_takeSign_247 ?_
            refine lv_topi (fun y4 hy4 => ?_)
            obtain rfl : (nI (an + 1)) = y4 := (hy4.trans (nI_add an 1)).symm
            refine va_put (D := (dC, dI)) (ci := 12) (v := .int (nI (an + 1))) (ty := .int) (C := RX12) (T := TX12) (N := 163) (fs := fM (vS a (fT (fT vi 18 wd) 20 sg) vj)) hx hb hts iwsRX12_takeSign_in12 tyX12 tyX12_ok nmX12 hown hK hP hD hS 0 rfl rfl 17 (by decide) (hts (.fieldLink RX12 485 "OptimaWorksModel" "at0" "I") (by decide +kernel)) (fun _ h9 => h9) rfl (by decide +kernel) rfl rfl (Nat.le_of_ble_eq_true rfl) dX12_takeSign_248 (fun H locs hP hD hS => ?_)
            have hP : va_P (dC, dI) vwCl (WR a k h0 (fT (fT (fT vi 18 wd) 20 sg) 17 (nI (an + 1))) vj vF vG) H := by rw [← WR_i 17 _ rfl]; exact hP
            have hD : va_D A (WR a k h0 (fT (fT (fT vi 18 wd) 20 sg) 17 (nI (an + 1))) vj vF vG) := by rw [← WR_i 17 _ rfl]; exact hD
            refine W.widen (k := 0) (n := 0) (by decide +kernel) (by decide +kernel) ?_
            exact W.vret hx hb hr (fun t9_ ht hW => ⟨⟨((an + 1), sg, wd), rfl, by (try dsimp only); exact ⟨by omega, by omega, hwd⟩, by rw [ht]; exact hP, hD⟩, hS.F ht⟩) hS.2.2 dX12_takeSign_251
          · have t_239 : ¬ (tw).toInt = 0 := toI_neq c_239 rfl (by decide)
            refine lv_iconst (v := 2) hx hb dX12_takeSign_242 (by decide) ?_
            refine lv_goto (tgt := 247) hx hb dX12_takeSign_243 (by decide) ?_
            refine lv_iadd hx hb dX12_takeSign_247 ?_
            refine lv_topi (fun y5 hy5 => ?_)
            obtain rfl : (nI (an + 2)) = y5 := (hy5.trans (nI_add an 2)).symm
            refine va_put (D := (dC, dI)) (ci := 12) (v := .int (nI (an + 2))) (ty := .int) (C := RX12) (T := TX12) (N := 163) (fs := fM (vS a (fT (fT vi 18 wd) 20 sg) vj)) hx hb hts iwsRX12_takeSign_in12 tyX12 tyX12_ok nmX12 hown hK hP hD hS 0 rfl rfl 17 (by decide) (hts (.fieldLink RX12 485 "OptimaWorksModel" "at0" "I") (by decide +kernel)) (fun _ h9 => h9) rfl (by decide +kernel) rfl rfl (Nat.le_of_ble_eq_true rfl) dX12_takeSign_248 (fun H locs hP hD hS => ?_)
            have hP : va_P (dC, dI) vwCl (WR a k h0 (fT (fT (fT vi 18 wd) 20 sg) 17 (nI (an + 2))) vj vF vG) H := by rw [← WR_i 17 _ rfl]; exact hP
            have hD : va_D A (WR a k h0 (fT (fT (fT vi 18 wd) 20 sg) 17 (nI (an + 2))) vj vF vG) := by rw [← WR_i 17 _ rfl]; exact hD
            refine W.widen (k := 0) (n := 0) (by decide +kernel) (by decide +kernel) ?_
            exact W.vret hx hb hr (fun t9_ ht hW => ⟨⟨((an + 2), sg, wd), rfl, by (try dsimp only); exact ⟨by omega, by (have h9 := htw.2 (htw.1.resolve_left c_239)); omega, hwd⟩, by rw [ht]; exact hP, hD⟩, hS.F ht⟩) hS.2.2 dX12_takeSign_251

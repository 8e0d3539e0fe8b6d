section
theorem dX12_takeSign_0 : decode cX12_takeSign 0 = .ok (.aload_n 0, 1) := dk_42 (by decide +kernel)
theorem dX12_takeSign_1 : decode cX12_takeSign 1 = .ok (.aload_n 0, 1) := dk_42 (by decide +kernel)
theorem dX12_takeSign_2 : decode cX12_takeSign 2 = .ok (.getfield 485, 3) := dk_180 (by decide +kernel)
theorem dX12_takeSign_5 : decode cX12_takeSign 5 = .ok (.iconst 1, 1) := dk_4 (by decide +kernel)
theorem dX12_takeSign_6 : decode cX12_takeSign 6 = .ok (.iadd, 1) := dk_96 (by decide +kernel)
theorem dX12_takeSign_7 : decode cX12_takeSign 7 = .ok (.invokevirtual 482, 3) := dk_182 (by decide +kernel)
theorem dX12_takeSign_10 : decode cX12_takeSign 10 = .ok (.istore_n 2, 1) := dk_61 (by decide +kernel)
theorem dX12_takeSign_11 : decode cX12_takeSign 11 = .ok (.iload_n 1, 1) := dk_27 (by decide +kernel)
theorem dX12_takeSign_12 : decode cX12_takeSign 12 = .ok (.bipush 46, 2) := dk_16 (by decide +kernel)
theorem dX12_takeSign_14 : decode cX12_takeSign 14 = .ok (.if_icmp .ne 9, 3) := dk_160 (by decide +kernel)
theorem dX12_takeSign_17 : decode cX12_takeSign 17 = .ok (.iload_n 2, 1) := dk_28 (by decide +kernel)
theorem dX12_takeSign_18 : decode cX12_takeSign 18 = .ok (.bipush 46, 2) := dk_16 (by decide +kernel)
theorem dX12_takeSign_20 : decode cX12_takeSign 20 = .ok (.if_icmp .eq 39, 3) := dk_159 (by decide +kernel)
theorem dX12_takeSign_23 : decode cX12_takeSign 23 = .ok (.iload_n 1, 1) := dk_27 (by decide +kernel)
theorem dX12_takeSign_24 : decode cX12_takeSign 24 = .ok (.bipush 60, 2) := dk_16 (by decide +kernel)
theorem dX12_takeSign_26 : decode cX12_takeSign 26 = .ok (.if_icmp .ne 9, 3) := dk_160 (by decide +kernel)
theorem dX12_takeSign_29 : decode cX12_takeSign 29 = .ok (.iload_n 2, 1) := dk_28 (by decide +kernel)
theorem dX12_takeSign_30 : decode cX12_takeSign 30 = .ok (.bipush 61, 2) := dk_16 (by decide +kernel)
theorem dX12_takeSign_32 : decode cX12_takeSign 32 = .ok (.if_icmp .eq 27, 3) := dk_159 (by decide +kernel)
theorem dX12_takeSign_35 : decode cX12_takeSign 35 = .ok (.iload_n 1, 1) := dk_27 (by decide +kernel)
theorem dX12_takeSign_36 : decode cX12_takeSign 36 = .ok (.bipush 62, 2) := dk_16 (by decide +kernel)
theorem dX12_takeSign_38 : decode cX12_takeSign 38 = .ok (.if_icmp .ne 9, 3) := dk_160 (by decide +kernel)
theorem dX12_takeSign_41 : decode cX12_takeSign 41 = .ok (.iload_n 2, 1) := dk_28 (by decide +kernel)
theorem dX12_takeSign_42 : decode cX12_takeSign 42 = .ok (.bipush 61, 2) := dk_16 (by decide +kernel)
theorem dX12_takeSign_44 : decode cX12_takeSign 44 = .ok (.if_icmp .eq 15, 3) := dk_159 (by decide +kernel)
theorem dX12_takeSign_47 : decode cX12_takeSign 47 = .ok (.iload_n 1, 1) := dk_27 (by decide +kernel)
theorem dX12_takeSign_48 : decode cX12_takeSign 48 = .ok (.bipush 60, 2) := dk_16 (by decide +kernel)
theorem dX12_takeSign_50 : decode cX12_takeSign 50 = .ok (.if_icmp .ne 13, 3) := dk_160 (by decide +kernel)
theorem dX12_takeSign_53 : decode cX12_takeSign 53 = .ok (.iload_n 2, 1) := dk_28 (by decide +kernel)
theorem dX12_takeSign_54 : decode cX12_takeSign 54 = .ok (.bipush 62, 2) := dk_16 (by decide +kernel)
theorem dX12_takeSign_56 : decode cX12_takeSign 56 = .ok (.if_icmp .ne 7, 3) := dk_160 (by decide +kernel)
theorem dX12_takeSign_59 : decode cX12_takeSign 59 = .ok (.iconst 1, 1) := dk_4 (by decide +kernel)
theorem dX12_takeSign_60 : decode cX12_takeSign 60 = .ok (.goto 4, 3) := dk_167 (by decide +kernel)
theorem dX12_takeSign_63 : decode cX12_takeSign 63 = .ok (.iconst 0, 1) := dk_3 (by decide +kernel)
theorem dX12_takeSign_64 : decode cX12_takeSign 64 = .ok (.istore_n 3, 1) := dk_62 (by decide +kernel)
theorem dX12_takeSign_65 : decode cX12_takeSign 65 = .ok (.iload_n 1, 1) := dk_27 (by decide +kernel)
theorem dX12_takeSign_66 : decode cX12_takeSign 66 = .ok (.bipush 61, 2) := dk_16 (by decide +kernel)
theorem dX12_takeSign_68 : decode cX12_takeSign 68 = .ok (.if_icmp .eq 93, 3) := dk_159 (by decide +kernel)
theorem dX12_takeSign_71 : decode cX12_takeSign 71 = .ok (.iload_n 1, 1) := dk_27 (by decide +kernel)
theorem dX12_takeSign_72 : decode cX12_takeSign 72 = .ok (.bipush 60, 2) := dk_16 (by decide +kernel)
theorem dX12_takeSign_74 : decode cX12_takeSign 74 = .ok (.if_icmp .eq 87, 3) := dk_159 (by decide +kernel)
theorem dX12_takeSign_77 : decode cX12_takeSign 77 = .ok (.iload_n 1, 1) := dk_27 (by decide +kernel)
theorem dX12_takeSign_78 : decode cX12_takeSign 78 = .ok (.bipush 62, 2) := dk_16 (by decide +kernel)
theorem dX12_takeSign_80 : decode cX12_takeSign 80 = .ok (.if_icmp .eq 81, 3) := dk_159 (by decide +kernel)
theorem dX12_takeSign_83 : decode cX12_takeSign 83 = .ok (.iload_n 1, 1) := dk_27 (by decide +kernel)
theorem dX12_takeSign_84 : decode cX12_takeSign 84 = .ok (.bipush 58, 2) := dk_16 (by decide +kernel)
theorem dX12_takeSign_86 : decode cX12_takeSign 86 = .ok (.if_icmp .eq 75, 3) := dk_159 (by decide +kernel)
theorem dX12_takeSign_89 : decode cX12_takeSign 89 = .ok (.iload_n 1, 1) := dk_27 (by decide +kernel)
theorem dX12_takeSign_90 : decode cX12_takeSign 90 = .ok (.bipush 59, 2) := dk_16 (by decide +kernel)
theorem dX12_takeSign_92 : decode cX12_takeSign 92 = .ok (.if_icmp .eq 69, 3) := dk_159 (by decide +kernel)
theorem dX12_takeSign_95 : decode cX12_takeSign 95 = .ok (.iload_n 1, 1) := dk_27 (by decide +kernel)
theorem dX12_takeSign_96 : decode cX12_takeSign 96 = .ok (.bipush 44, 2) := dk_16 (by decide +kernel)
theorem dX12_takeSign_98 : decode cX12_takeSign 98 = .ok (.if_icmp .eq 63, 3) := dk_159 (by decide +kernel)
theorem dX12_takeSign_101 : decode cX12_takeSign 101 = .ok (.iload_n 1, 1) := dk_27 (by decide +kernel)
theorem dX12_takeSign_102 : decode cX12_takeSign 102 = .ok (.bipush 91, 2) := dk_16 (by decide +kernel)
theorem dX12_takeSign_104 : decode cX12_takeSign 104 = .ok (.if_icmp .eq 57, 3) := dk_159 (by decide +kernel)
theorem dX12_takeSign_107 : decode cX12_takeSign 107 = .ok (.iload_n 1, 1) := dk_27 (by decide +kernel)
theorem dX12_takeSign_108 : decode cX12_takeSign 108 = .ok (.bipush 93, 2) := dk_16 (by decide +kernel)
theorem dX12_takeSign_110 : decode cX12_takeSign 110 = .ok (.if_icmp .eq 51, 3) := dk_159 (by decide +kernel)
theorem dX12_takeSign_113 : decode cX12_takeSign 113 = .ok (.iload_n 1, 1) := dk_27 (by decide +kernel)
theorem dX12_takeSign_114 : decode cX12_takeSign 114 = .ok (.bipush 123, 2) := dk_16 (by decide +kernel)
theorem dX12_takeSign_116 : decode cX12_takeSign 116 = .ok (.if_icmp .eq 45, 3) := dk_159 (by decide +kernel)
theorem dX12_takeSign_119 : decode cX12_takeSign 119 = .ok (.iload_n 1, 1) := dk_27 (by decide +kernel)
theorem dX12_takeSign_120 : decode cX12_takeSign 120 = .ok (.bipush 125, 2) := dk_16 (by decide +kernel)
theorem dX12_takeSign_122 : decode cX12_takeSign 122 = .ok (.if_icmp .eq 39, 3) := dk_159 (by decide +kernel)
theorem dX12_takeSign_125 : decode cX12_takeSign 125 = .ok (.iload_n 1, 1) := dk_27 (by decide +kernel)
theorem dX12_takeSign_126 : decode cX12_takeSign 126 = .ok (.bipush 40, 2) := dk_16 (by decide +kernel)
theorem dX12_takeSign_128 : decode cX12_takeSign 128 = .ok (.if_icmp .eq 33, 3) := dk_159 (by decide +kernel)
theorem dX12_takeSign_131 : decode cX12_takeSign 131 = .ok (.iload_n 1, 1) := dk_27 (by decide +kernel)
theorem dX12_takeSign_132 : decode cX12_takeSign 132 = .ok (.bipush 41, 2) := dk_16 (by decide +kernel)
theorem dX12_takeSign_134 : decode cX12_takeSign 134 = .ok (.if_icmp .eq 27, 3) := dk_159 (by decide +kernel)
theorem dX12_takeSign_137 : decode cX12_takeSign 137 = .ok (.iload_n 1, 1) := dk_27 (by decide +kernel)
theorem dX12_takeSign_138 : decode cX12_takeSign 138 = .ok (.bipush 43, 2) := dk_16 (by decide +kernel)
theorem dX12_takeSign_140 : decode cX12_takeSign 140 = .ok (.if_icmp .eq 21, 3) := dk_159 (by decide +kernel)
theorem dX12_takeSign_143 : decode cX12_takeSign 143 = .ok (.iload_n 1, 1) := dk_27 (by decide +kernel)
theorem dX12_takeSign_144 : decode cX12_takeSign 144 = .ok (.bipush 45, 2) := dk_16 (by decide +kernel)
theorem dX12_takeSign_146 : decode cX12_takeSign 146 = .ok (.if_icmp .eq 15, 3) := dk_159 (by decide +kernel)
theorem dX12_takeSign_149 : decode cX12_takeSign 149 = .ok (.iload_n 1, 1) := dk_27 (by decide +kernel)
theorem dX12_takeSign_150 : decode cX12_takeSign 150 = .ok (.bipush 42, 2) := dk_16 (by decide +kernel)
theorem dX12_takeSign_152 : decode cX12_takeSign 152 = .ok (.if_icmp .eq 9, 3) := dk_159 (by decide +kernel)
theorem dX12_takeSign_155 : decode cX12_takeSign 155 = .ok (.iload_n 1, 1) := dk_27 (by decide +kernel)
theorem dX12_takeSign_156 : decode cX12_takeSign 156 = .ok (.bipush 47, 2) := dk_16 (by decide +kernel)
theorem dX12_takeSign_158 : decode cX12_takeSign 158 = .ok (.if_icmp .ne 7, 3) := dk_160 (by decide +kernel)
theorem dX12_takeSign_161 : decode cX12_takeSign 161 = .ok (.iconst 1, 1) := dk_4 (by decide +kernel)
theorem dX12_takeSign_162 : decode cX12_takeSign 162 = .ok (.goto 4, 3) := dk_167 (by decide +kernel)
theorem dX12_takeSign_165 : decode cX12_takeSign 165 = .ok (.iconst 0, 1) := dk_3 (by decide +kernel)
theorem dX12_takeSign_166 : decode cX12_takeSign 166 = .ok (.istore 4, 2) := dk_54 (by decide +kernel)
theorem dX12_takeSign_168 : decode cX12_takeSign 168 = .ok (.aload_n 0, 1) := dk_42 (by decide +kernel)
theorem dX12_takeSign_169 : decode cX12_takeSign 169 = .ok (.iload_n 3, 1) := dk_29 (by decide +kernel)
theorem dX12_takeSign_170 : decode cX12_takeSign 170 = .ok (.ifCond .ne 8, 3) := dk_154 (by decide +kernel)
theorem dX12_takeSign_173 : decode cX12_takeSign 173 = .ok (.iload 4, 2) := dk_21 (by decide +kernel)
theorem dX12_takeSign_175 : decode cX12_takeSign 175 = .ok (.ifCond .eq 7, 3) := dk_153 (by decide +kernel)
theorem dX12_takeSign_178 : decode cX12_takeSign 178 = .ok (.iconst 4, 1) := dk_7 (by decide +kernel)
theorem dX12_takeSign_179 : decode cX12_takeSign 179 = .ok (.goto 4, 3) := dk_167 (by decide +kernel)
theorem dX12_takeSign_182 : decode cX12_takeSign 182 = .ok (.iconst 5, 1) := dk_8 (by decide +kernel)
theorem dX12_takeSign_183 : decode cX12_takeSign 183 = .ok (.putfield 494, 3) := dk_181 (by decide +kernel)
theorem dX12_takeSign_186 : decode cX12_takeSign 186 = .ok (.aload_n 0, 1) := dk_42 (by decide +kernel)
theorem dX12_takeSign_187 : decode cX12_takeSign 187 = .ok (.iload_n 3, 1) := dk_29 (by decide +kernel)
theorem dX12_takeSign_188 : decode cX12_takeSign 188 = .ok (.ifCond .ne 7, 3) := dk_154 (by decide +kernel)
theorem dX12_takeSign_191 : decode cX12_takeSign 191 = .ok (.iload_n 1, 1) := dk_27 (by decide +kernel)
theorem dX12_takeSign_192 : decode cX12_takeSign 192 = .ok (.goto 38, 3) := dk_167 (by decide +kernel)
theorem dX12_takeSign_195 : decode cX12_takeSign 195 = .ok (.iload_n 1, 1) := dk_27 (by decide +kernel)
theorem dX12_takeSign_196 : decode cX12_takeSign 196 = .ok (.bipush 46, 2) := dk_16 (by decide +kernel)
theorem dX12_takeSign_198 : decode cX12_takeSign 198 = .ok (.if_icmp .ne 8, 3) := dk_160 (by decide +kernel)
theorem dX12_takeSign_201 : decode cX12_takeSign 201 = .ok (.bipush 46, 2) := dk_16 (by decide +kernel)
theorem dX12_takeSign_203 : decode cX12_takeSign 203 = .ok (.goto 27, 3) := dk_167 (by decide +kernel)
theorem dX12_takeSign_206 : decode cX12_takeSign 206 = .ok (.iload_n 2, 1) := dk_28 (by decide +kernel)
theorem dX12_takeSign_207 : decode cX12_takeSign 207 = .ok (.bipush 62, 2) := dk_16 (by decide +kernel)
theorem dX12_takeSign_209 : decode cX12_takeSign 209 = .ok (.if_icmp .ne 8, 3) := dk_160 (by decide +kernel)
theorem dX12_takeSign_212 : decode cX12_takeSign 212 = .ok (.bipush 78, 2) := dk_16 (by decide +kernel)
theorem dX12_takeSign_214 : decode cX12_takeSign 214 = .ok (.goto 16, 3) := dk_167 (by decide +kernel)
theorem dX12_takeSign_217 : decode cX12_takeSign 217 = .ok (.iload_n 1, 1) := dk_27 (by decide +kernel)
theorem dX12_takeSign_218 : decode cX12_takeSign 218 = .ok (.bipush 60, 2) := dk_16 (by decide +kernel)
theorem dX12_takeSign_220 : decode cX12_takeSign 220 = .ok (.if_icmp .ne 8, 3) := dk_160 (by decide +kernel)
theorem dX12_takeSign_223 : decode cX12_takeSign 223 = .ok (.bipush 76, 2) := dk_16 (by decide +kernel)
theorem dX12_takeSign_225 : decode cX12_takeSign 225 = .ok (.goto 5, 3) := dk_167 (by decide +kernel)
theorem dX12_takeSign_228 : decode cX12_takeSign 228 = .ok (.bipush 71, 2) := dk_16 (by decide +kernel)
theorem dX12_takeSign_230 : decode cX12_takeSign 230 = .ok (.putfield 491, 3) := dk_181 (by decide +kernel)
theorem dX12_takeSign_233 : decode cX12_takeSign 233 = .ok (.aload_n 0, 1) := dk_42 (by decide +kernel)
theorem dX12_takeSign_234 : decode cX12_takeSign 234 = .ok (.dup, 1) := dk_89 (by decide +kernel)
theorem dX12_takeSign_235 : decode cX12_takeSign 235 = .ok (.getfield 485, 3) := dk_180 (by decide +kernel)
theorem dX12_takeSign_238 : decode cX12_takeSign 238 = .ok (.iload_n 3, 1) := dk_29 (by decide +kernel)
theorem dX12_takeSign_239 : decode cX12_takeSign 239 = .ok (.ifCond .eq 7, 3) := dk_153 (by decide +kernel)
theorem dX12_takeSign_242 : decode cX12_takeSign 242 = .ok (.iconst 2, 1) := dk_5 (by decide +kernel)
theorem dX12_takeSign_243 : decode cX12_takeSign 243 = .ok (.goto 4, 3) := dk_167 (by decide +kernel)
theorem dX12_takeSign_246 : decode cX12_takeSign 246 = .ok (.iconst 1, 1) := dk_4 (by decide +kernel)
theorem dX12_takeSign_247 : decode cX12_takeSign 247 = .ok (.iadd, 1) := dk_96 (by decide +kernel)
theorem dX12_takeSign_248 : decode cX12_takeSign 248 = .ok (.putfield 485, 3) := dk_181 (by decide +kernel)
theorem dX12_takeSign_251 : decode cX12_takeSign 251 = .ok (.return_, 1) := dk_177 (by decide +kernel)
def wsRX12_takeSign : List Cond := .code yX12_takeSign cX12_takeSign 5 none :: ([.fieldLink RX12 485 "OptimaWorksModel" "at0" "I", .fieldLink RX12 494 "OptimaWorksModel" "word" "I", .fieldLink RX12 491 "OptimaWorksModel" "sign0" "I"] ++ wsX120 ++ (wsV RX12 482 RX12 yX12_byteAt wsRX12_byteAt))
theorem iwsRX12_takeSign_in12 : ∀ w ∈ wsX120, w ∈ wsRX12_takeSign := fun _ h => List.mem_cons_of_mem _ (List.mem_append_left _ (List.mem_append_right _ h))
theorem gwsRX12_takeSign_0 : GoodIn wsRX12_takeSign (wsV RX12 482 RX12 yX12_byteAt wsRX12_byteAt) := goodIn_sub (fun _ h => List.mem_cons_of_mem _ (List.mem_append_right _ h)) (gdV (by decide +kernel) gdwsRX12_byteAt)
theorem gdwsRX12_takeSign : wsRX12_takeSign.all goodWord = true := gdC rfl (gdA (gdA (by decide +kernel : ([.fieldLink RX12 485 "OptimaWorksModel" "at0" "I", .fieldLink RX12 494 "OptimaWorksModel" "word" "I", .fieldLink RX12 491 "OptimaWorksModel" "sign0" "I"] : List Cond).all goodWord = true) gdwsX120) (gdV (by decide +kernel) gdwsRX12_byteAt))
set_option maxHeartbeats 4000000 in
set_option maxRecDepth 100000 in
/-- takeSign(c) -/
theorem r_X12_takeSign (l : Launch) (dC : Nat → ClassId) (dI : Nat → Nat → Nat) (a : Nat → Nat) (k : Nat → ClassId) (h0 : Nat) (vi : Nat → Int32) (vj : Nat → Int64) (vF : Nat → Nat → Int32) (vG : Nat → Nat → Int64) (cv : Int32) (tp : Nat) (an : Nat) (hTp : vi 16 = nI tp) (htp : tp ≤ 4000) (ha0 : vi 17 = nI an) (hant : an < tp) (sz : Nat) : Met l yX12_takeSign wsRX12_takeSign ({ frames := 1, cells := 0, slots := 0, locals := 21 }) (va_Pc [.ref h0, .int cv] (fun U => U.heap.size = sz ∧ va_P (dC, dI) vwCl (WR a k h0 vi vj vF vG) U.heap ∧ va_K (dC, dI) vwCl (tX12 k) U ∧ va_D (fun _ => True) (WR a k h0 vi vj vF vG))) (va_Qv (fun (u : (Nat) × (Int32) × (Int32)) => (an < (u.1)) ∧ ((u.1) ≤ tp) ∧ ((u.2.2) = 4 ∨ (u.2.2) = 5)) (fun (u : (Nat) × (Int32) × (Int32)) t => va_P (dC, dI) vwCl (WR a k h0 (fT (fT (fT vi 18 (u.2.2)) 20 (u.2.1)) 17 (nI (u.1))) vj vF vG) t.heap ∧ va_D (va_A (WR a k h0 vi vj vF vG) sz) (WR a k h0 (fT (fT (fT vi 18 (u.2.2)) 20 (u.2.1)) 17 (nI (u.1))) vj vF vG)) (va_A (WR a k h0 vi vj vF vG) sz)) 0 0 (va_A (WR a k h0 vi vj vF vG) sz) := by
  refine Met.ofW (cc := cX12_takeSign) (maxL := 5) (ret := none) (by decide) rfl ?_
  intro p e s m args below meth c s₁ B hml hv
  obtain ⟨rfl, hsz, hP, hK, hD0⟩ := hv
  have hx := B.exec
  have hb := B.bytes
  have hr := B.returns
  have hts := atoms_spec (ws := wsRX12_takeSign) B.pre
  have hown : s.vm.findClass RX12 = some m.cls := findClass_of_methodNamed B.named
  have hlocks := B.notSynchronized
  subst hsz
  have hD := hD0.self (sz := s.heap.size)
  generalize hAe : va_A (WR a k h0 vi vj vF vG) s.heap.size = A at hD ⊢
  have hA : ∀ q : Nat, s.heap.size ≤ q → A q := fun q h => by rw [← hAe]; exact Or.inr h
  have hS : va_S A s.heap s.heap [] := va_S.rf
  have hl := lv_entry ([.ref h0, .int cv]) (n := 5) (Nat.le_of_ble_eq_true rfl)
  rw [lg_entry_eq]
  generalize (lg_sl ([.ref h0, .int cv]) ++ List.replicate (5 - (lg_sl ([.ref h0, .int cv])).length) Slot.unset).toArray = ls at hl ⊢
  have hl : lv_has ls 5 [(0, .ref h0), (1, .int cv)] := hl
  refine lv_aload_n hx hb dX12_takeSign_0 rfl (lv_at hl 0 rfl) ?_
  refine lv_aload_n hx hb dX12_takeSign_1 rfl (lv_at hl 0 rfl) ?_
  refine va_get (D := (dC, dI)) (ci := 12) (v := .int (vi 17)) (C := RX12) (T := TX12) (N := 163) (fs := fM (vS a vi vj)) hx hb hts iwsRX12_takeSign_in12 hown hK hP 0 rfl rfl 17 (by decide) (hts (.fieldLink RX12 485 "OptimaWorksModel" "at0" "I") (by decide +kernel)) (fun _ h9 => h9) rfl dX12_takeSign_2 ?_
  refine lv_topi (fun y1 hy1 => ?_)
  obtain rfl : (nI an) = y1 := (hy1.trans (ha0)).symm
  refine lv_iconst (v := 1) hx hb dX12_takeSign_5 (by decide) ?_
  refine lv_iadd hx hb dX12_takeSign_6 ?_
  refine lv_topi (fun y2 hy2 => ?_)
  obtain rfl : (nI (an + 1)) = y2 := (hy2.trans (nI_add an 1)).symm
  have hFc := allFree hD hS hA
  refine va_calli (va_runV (As := [.int (nI (an + 1))]) (rest := []) ⟨hx, hb, hml, hown, hts⟩ (r_X12_byteAt l dC dI a k h0 vi vj vF vG (an + 1) tp (by first | with_reducible assumption | decide | omega | rfl | assumption) (by first | with_reducible assumption | decide | omega | rfl | assumption) (by first | with_reducible assumption | decide | omega | rfl | assumption) s.heap.size) (cwV 1 hts gwsRX12_takeSign_0 rfl rfl rfl hd_yX12_byteAt_RX12 (by decide +kernel)) (fz_pre (va_recv hK hP (ci := 12) (q0 := 0) rfl rfl) hP hK hD) rfl rfl hl.1 rfl (lv_room (Nat.le_of_ble_eq_true rfl)) dX12_takeSign_7 (by decide +kernel)) hS (fun q _ h => hFc q h) hFc (fun r7 u t9_ H locs ht hvm hw9 hB9 hz1 hk1 hS => ?_)
  have hP : va_P (dC, dI) vwCl (WR a k h0 vi vj vF vG) H := fz_P ht hB9.1
  have hD : va_D A (WR a k h0 vi vj vF vG) := hB9.2.weaken (fun _ q _ h => hFc q.1 h)
  obtain rfl := hw9
  refine lv_istore_n hx hb dX12_takeSign_10 rfl hl (by decide) rfl (fun ls (hl : lv_has ls _ ([(2, .int (bA tp (vF 9) (an + 1))), (0, .ref h0), (1, .int cv)])) => ?_)
  refine lv_iload_n hx hb dX12_takeSign_11 rfl (lv_at hl 2 rfl) ?_
  refine lv_bipush (v := 46) hx hb dX12_takeSign_12 (by decide) ?_
  refine W.cut (pc := 65) (fun H locs ls stk => ∃ (tw : Int32), ((tw = 0 ∨ tw = 1) ∧ (tw = 1 → an + 1 < tp)) ∧  stk = [] ∧ va_P (dC, dI) vwCl (WR a k h0 vi vj vF vG) H ∧ va_D A (WR a k h0 vi vj vF vG) ∧ va_S A s.heap H locs ∧ lv_has ls 5 [(0, .ref h0), (1, .int cv), (2, .int (bA tp (vF 9) (an + 1))), (3, .int tw)]) (fun join1 => ?_) ?_
  · refine lv_icmp_ne (tgt := 23) hx hb dX12_takeSign_14 (by decide) (fun c_14 => ?_) (fun c_14 => ?_)
    · have t_14 : (cv).toInt ≠ 46 := toI_ne c_14 rfl (by decide)
      refine lv_iload_n hx hb dX12_takeSign_23 rfl (lv_at hl 2 rfl) ?_
      refine lv_bipush (v := 60) hx hb dX12_takeSign_24 (by decide) ?_
      refine lv_icmp_ne (tgt := 35) hx hb dX12_takeSign_26 (by decide) (fun c_26 => ?_) (fun c_26 => ?_)
      · have t_26 : (cv).toInt ≠ 60 := toI_ne c_26 rfl (by decide)
        refine lv_iload_n hx hb dX12_takeSign_35 rfl (lv_at hl 2 rfl) ?_
        refine lv_bipush (v := 62) hx hb dX12_takeSign_36 (by decide) ?_
        refine lv_icmp_ne (tgt := 47) hx hb dX12_takeSign_38 (by decide) (fun c_38 => ?_) (fun c_38 => ?_)
        · have t_38 : (cv).toInt ≠ 62 := toI_ne c_38 rfl (by decide)
          refine lv_iload_n hx hb dX12_takeSign_47 rfl (lv_at hl 2 rfl) ?_
          refine lv_bipush (v := 60) hx hb dX12_takeSign_48 (by decide) ?_
          refine lv_icmp_ne (tgt := 63) hx hb dX12_takeSign_50 (by decide) (fun c_50 => ?_) (fun c_50 => ?_)
          · have t_50 : (cv).toInt ≠ 60 := toI_ne c_50 rfl (by decide)
            refine lv_iconst (v := 0) hx hb dX12_takeSign_63 (by decide) ?_
            refine lv_istore_n hx hb dX12_takeSign_64 rfl hl (by decide) rfl (fun ls (hl : lv_has ls _ ([(3, .int 0), (2, .int (bA tp (vF 9) (an + 1))), (0, .ref h0), (1, .int cv)])) => ?_)
            have hl : lv_has _ _ ([(0, .ref h0), (1, .int cv), (2, .int (bA tp (vF 9) (an + 1))), (3, .int 0)]) := lv_sub hl [2, 3, 1, 0] rfl
            exact join1 _ _ _ _ ⟨0, ⟨Or.inl rfl, fun h9 => absurd h9 (by decide)⟩, rfl, hP, hD, hS, hl⟩
          · have t_50 : (cv).toInt = 60 := toI_nne c_50 rfl (by decide)
            refine lv_iload_n hx hb dX12_takeSign_53 rfl (lv_at hl 0 rfl) ?_
            refine lv_bipush (v := 62) hx hb dX12_takeSign_54 (by decide) ?_
            refine lv_icmp_ne (tgt := 63) hx hb dX12_takeSign_56 (by decide) (fun c_56 => ?_) (fun c_56 => ?_)
            · have t_56 : ((bA tp (vF 9) (an + 1))).toInt ≠ 62 := toI_ne c_56 rfl (by decide)
              refine lv_iconst (v := 0) hx hb dX12_takeSign_63 (by decide) ?_
              refine lv_istore_n hx hb dX12_takeSign_64 rfl hl (by decide) rfl (fun ls (hl : lv_has ls _ ([(3, .int 0), (2, .int (bA tp (vF 9) (an + 1))), (0, .ref h0), (1, .int cv)])) => ?_)
              have hl : lv_has _ _ ([(0, .ref h0), (1, .int cv), (2, .int (bA tp (vF 9) (an + 1))), (3, .int 0)]) := lv_sub hl [2, 3, 1, 0] rfl
              exact join1 _ _ _ _ ⟨0, ⟨Or.inl rfl, fun h9 => absurd h9 (by decide)⟩, rfl, hP, hD, hS, hl⟩
            · have t_56 : ((bA tp (vF 9) (an + 1))).toInt = 62 := toI_nne c_56 rfl (by decide)
              refine lv_iconst (v := 1) hx hb dX12_takeSign_59 (by decide) ?_
              refine lv_goto (tgt := 64) hx hb dX12_takeSign_60 (by decide) ?_
              refine lv_istore_n hx hb dX12_takeSign_64 rfl hl (by decide) rfl (fun ls (hl : lv_has ls _ ([(3, .int 1), (2, .int (bA tp (vF 9) (an + 1))), (0, .ref h0), (1, .int cv)])) => ?_)
              have hl : lv_has _ _ ([(0, .ref h0), (1, .int cv), (2, .int (bA tp (vF 9) (an + 1))), (3, .int 1)]) := lv_sub hl [2, 3, 1, 0] rfl
              exact join1 _ _ _ _ ⟨1, ⟨Or.inr rfl, fun _ => by (have b9 := bA_in tp (vF 9) (an + 1)); omega⟩, rfl, hP, hD, hS, hl⟩
        · have t_38 : (cv).toInt = 62 := toI_nne c_38 rfl (by decide)
          refine lv_iload_n hx hb dX12_takeSign_41 rfl (lv_at hl 0 rfl) ?_
          refine lv_bipush (v := 61) hx hb dX12_takeSign_42 (by decide) ?_
          refine lv_icmp_eq (tgt := 59) hx hb dX12_takeSign_44 (by decide) (fun c_44 => ?_) (fun c_44 => ?_)
          · have t_44 : ((bA tp (vF 9) (an + 1))).toInt = 61 := toI_eq c_44 rfl (by decide)
            refine lv_iconst (v := 1) hx hb dX12_takeSign_59 (by decide) ?_
            refine lv_goto (tgt := 64) hx hb dX12_takeSign_60 (by decide) ?_
            refine lv_istore_n hx hb dX12_takeSign_64 rfl hl (by decide) rfl (fun ls (hl : lv_has ls _ ([(3, .int 1), (2, .int (bA tp (vF 9) (an + 1))), (0, .ref h0), (1, .int cv)])) => ?_)
            have hl : lv_has _ _ ([(0, .ref h0), (1, .int cv), (2, .int (bA tp (vF 9) (an + 1))), (3, .int 1)]) := lv_sub hl [2, 3, 1, 0] rfl
            exact join1 _ _ _ _ ⟨1, ⟨Or.inr rfl, fun _ => by (have b9 := bA_in tp (vF 9) (an + 1)); omega⟩, rfl, hP, hD, hS, hl⟩
          · have t_44 : ¬ ((bA tp (vF 9) (an + 1))).toInt = 61 := toI_neq c_44 rfl (by decide)
            refine lv_iload_n hx hb dX12_takeSign_47 rfl (lv_at hl 2 rfl) ?_
            refine lv_bipush (v := 60) hx hb dX12_takeSign_48 (by decide) ?_
            refine lv_icmp_ne (tgt := 63) hx hb dX12_takeSign_50 (by decide) (fun c_50 => ?_) (fun c_50 => ?_)
            · have t_50 : (cv).toInt ≠ 60 := toI_ne c_50 rfl (by decide)
              refine lv_iconst (v := 0) hx hb dX12_takeSign_63 (by decide) ?_
              refine lv_istore_n hx hb dX12_takeSign_64 rfl hl (by decide) rfl (fun ls (hl : lv_has ls _ ([(3, .int 0), (2, .int (bA tp (vF 9) (an + 1))), (0, .ref h0), (1, .int cv)])) => ?_)
              have hl : lv_has _ _ ([(0, .ref h0), (1, .int cv), (2, .int (bA tp (vF 9) (an + 1))), (3, .int 0)]) := lv_sub hl [2, 3, 1, 0] rfl
              exact join1 _ _ _ _ ⟨0, ⟨Or.inl rfl, fun h9 => absurd h9 (by decide)⟩, rfl, hP, hD, hS, hl⟩
            · have t_50 : (cv).toInt = 60 := toI_nne c_50 rfl (by decide)
              refine lv_iload_n hx hb dX12_takeSign_53 rfl (lv_at hl 0 rfl) ?_
              refine lv_bipush (v := 62) hx hb dX12_takeSign_54 (by decide) ?_
              refine lv_icmp_ne (tgt := 63) hx hb dX12_takeSign_56 (by decide) (fun c_56 => ?_) (fun c_56 => ?_)
              · have t_56 : ((bA tp (vF 9) (an + 1))).toInt ≠ 62 := toI_ne c_56 rfl (by decide)
                refine lv_iconst (v := 0) hx hb dX12_takeSign_63 (by decide) ?_
                refine lv_istore_n hx hb dX12_takeSign_64 rfl hl (by decide) rfl (fun ls (hl : lv_has ls _ ([(3, .int 0), (2, .int (bA tp (vF 9) (an + 1))), (0, .ref h0), (1, .int cv)])) => ?_)
                have hl : lv_has _ _ ([(0, .ref h0), (1, .int cv), (2, .int (bA tp (vF 9) (an + 1))), (3, .int 0)]) := lv_sub hl [2, 3, 1, 0] rfl
                exact join1 _ _ _ _ ⟨0, ⟨Or.inl rfl, fun h9 => absurd h9 (by decide)⟩, rfl, hP, hD, hS, hl⟩
              · have t_56 : ((bA tp (vF 9) (an + 1))).toInt = 62 := toI_nne c_56 rfl (by decide)
                refine lv_iconst (v := 1) hx hb dX12_takeSign_59 (by decide) ?_
                refine lv_goto (tgt := 64) hx hb dX12_takeSign_60 (by decide) ?_
                refine lv_istore_n hx hb dX12_takeSign_64 rfl hl (by decide) rfl (fun ls (hl : lv_has ls _ ([(3, .int 1), (2, .int (bA tp (vF 9) (an + 1))), (0, .ref h0), (1, .int cv)])) => ?_)
                have hl : lv_has _ _ ([(0, .ref h0), (1, .int cv), (2, .int (bA tp (vF 9) (an + 1))), (3, .int 1)]) := lv_sub hl [2, 3, 1, 0] rfl
                exact join1 _ _ _ _ ⟨1, ⟨Or.inr rfl, fun _ => by (have b9 := bA_in tp (vF 9) (an + 1)); omega⟩, rfl, hP, hD, hS, hl⟩
      · have t_26 : (cv).toInt = 60 := toI_nne c_26 rfl (by decide)
        refine lv_iload_n hx hb dX12_takeSign_29 rfl (lv_at hl 0 rfl) ?_
        refine lv_bipush (v := 61) hx hb dX12_takeSign_30 (by decide) ?_
        refine lv_icmp_eq (tgt := 59) hx hb dX12_takeSign_32 (by decide) (fun c_32 => ?_) (fun c_32 => ?_)
        · have t_32 : ((bA tp (vF 9) (an + 1))).toInt = 61 := toI_eq c_32 rfl (by decide)
          refine lv_iconst (v := 1) hx hb dX12_takeSign_59 (by decide) ?_
          refine lv_goto (tgt := 64) hx hb dX12_takeSign_60 (by decide) ?_
          refine lv_istore_n hx hb dX12_takeSign_64 rfl hl (by decide) rfl (fun ls (hl : lv_has ls _ ([(3, .int 1), (2, .int (bA tp (vF 9) (an + 1))), (0, .ref h0), (1, .int cv)])) => ?_)
          have hl : lv_has _ _ ([(0, .ref h0), (1, .int cv), (2, .int (bA tp (vF 9) (an + 1))), (3, .int 1)]) := lv_sub hl [2, 3, 1, 0] rfl
          exact join1 _ _ _ _ ⟨1, ⟨Or.inr rfl, fun _ => by (have b9 := bA_in tp (vF 9) (an + 1)); omega⟩, rfl, hP, hD, hS, hl⟩
        · have t_32 : ¬ ((bA tp (vF 9) (an + 1))).toInt = 61 := toI_neq c_32 rfl (by decide)
          refine lv_iload_n hx hb dX12_takeSign_35 rfl (lv_at hl 2 rfl) ?_
          refine lv_bipush (v := 62) hx hb dX12_takeSign_36 (by decide) ?_
          refine lv_icmp_ne (tgt := 47) hx hb dX12_takeSign_38 (by decide) (fun c_38 => ?_) (fun c_38 => ?_)
          · have t_38 : (cv).toInt ≠ 62 := toI_ne c_38 rfl (by decide)
            refine lv_iload_n hx hb dX12_takeSign_47 rfl (lv_at hl 2 rfl) ?_
            refine lv_bipush (v := 60) hx hb dX12_takeSign_48 (by decide) ?_
            refine lv_icmp_ne (tgt := 63) hx hb dX12_takeSign_50 (by decide) (fun c_50 => ?_) (fun c_50 => ?_)
            · have t_50 : (cv).toInt ≠ 60 := toI_ne c_50 rfl (by decide)
              refine lv_iconst (v := 0) hx hb dX12_takeSign_63 (by decide) ?_
              refine lv_istore_n hx hb dX12_takeSign_64 rfl hl (by decide) rfl (fun ls (hl : lv_has ls _ ([(3, .int 0), (2, .int (bA tp (vF 9) (an + 1))), (0, .ref h0), (1, .int cv)])) => ?_)
              have hl : lv_has _ _ ([(0, .ref h0), (1, .int cv), (2, .int (bA tp (vF 9) (an + 1))), (3, .int 0)]) := lv_sub hl [2, 3, 1, 0] rfl
              exact join1 _ _ _ _ ⟨0, ⟨Or.inl rfl, fun h9 => absurd h9 (by decide)⟩, rfl, hP, hD, hS, hl⟩
            · have t_50 : (cv).toInt = 60 := toI_nne c_50 rfl (by decide)
              refine lv_iload_n hx hb dX12_takeSign_53 rfl (lv_at hl 0 rfl) ?_
              refine lv_bipush (v := 62) hx hb dX12_takeSign_54 (by decide) ?_
              refine lv_icmp_ne (tgt := 63) hx hb dX12_takeSign_56 (by decide) (fun c_56 => ?_) (fun c_56 => ?_)
              · have t_56 : ((bA tp (vF 9) (an + 1))).toInt ≠ 62 := toI_ne c_56 rfl (by decide)
                refine lv_iconst (v := 0) hx hb dX12_takeSign_63 (by decide) ?_
                refine lv_istore_n hx hb dX12_takeSign_64 rfl hl (by decide) rfl (fun ls (hl : lv_has ls _ ([(3, .int 0), (2, .int (bA tp (vF 9) (an + 1))), (0, .ref h0), (1, .int cv)])) => ?_)
                have hl : lv_has _ _ ([(0, .ref h0), (1, .int cv), (2, .int (bA tp (vF 9) (an + 1))), (3, .int 0)]) := lv_sub hl [2, 3, 1, 0] rfl
                exact join1 _ _ _ _ ⟨0, ⟨Or.inl rfl, fun h9 => absurd h9 (by decide)⟩, rfl, hP, hD, hS, hl⟩
              · have t_56 : ((bA tp (vF 9) (an + 1))).toInt = 62 := toI_nne c_56 rfl (by decide)
                refine lv_iconst (v := 1) hx hb dX12_takeSign_59 (by decide) ?_
                refine lv_goto (tgt := 64) hx hb dX12_takeSign_60 (by decide) ?_
                refine lv_istore_n hx hb dX12_takeSign_64 rfl hl (by decide) rfl (fun ls (hl : lv_has ls _ ([(3, .int 1), (2, .int (bA tp (vF 9) (an + 1))), (0, .ref h0), (1, .int cv)])) => ?_)
                have hl : lv_has _ _ ([(0, .ref h0), (1, .int cv), (2, .int (bA tp (vF 9) (an + 1))), (3, .int 1)]) := lv_sub hl [2, 3, 1, 0] rfl
                exact join1 _ _ _ _ ⟨1, ⟨Or.inr rfl, fun _ => by (have b9 := bA_in tp (vF 9) (an + 1)); omega⟩, rfl, hP, hD, hS, hl⟩
          · have t_38 : (cv).toInt = 62 := toI_nne c_38 rfl (by decide)
            refine lv_iload_n hx hb dX12_takeSign_41 rfl (lv_at hl 0 rfl) ?_
            refine lv_bipush (v := 61) hx hb dX12_takeSign_42 (by decide) ?_
            refine lv_icmp_eq (tgt := 59) hx hb dX12_takeSign_44 (by decide) (fun c_44 => ?_) (fun c_44 => ?_)
            · have t_44 : ((bA tp (vF 9) (an + 1))).toInt = 61 := toI_eq c_44 rfl (by decide)
              refine lv_iconst (v := 1) hx hb dX12_takeSign_59 (by decide) ?_
              refine lv_goto (tgt := 64) hx hb dX12_takeSign_60 (by decide) ?_
              refine lv_istore_n hx hb dX12_takeSign_64 rfl hl (by decide) rfl (fun ls (hl : lv_has ls _ ([(3, .int 1), (2, .int (bA tp (vF 9) (an + 1))), (0, .ref h0), (1, .int cv)])) => ?_)
              have hl : lv_has _ _ ([(0, .ref h0), (1, .int cv), (2, .int (bA tp (vF 9) (an + 1))), (3, .int 1)]) := lv_sub hl [2, 3, 1, 0] rfl
              exact join1 _ _ _ _ ⟨1, ⟨Or.inr rfl, fun _ => by (have b9 := bA_in tp (vF 9) (an + 1)); omega⟩, rfl, hP, hD, hS, hl⟩
            · have t_44 : ¬ ((bA tp (vF 9) (an + 1))).toInt = 61 := toI_neq c_44 rfl (by decide)
              refine lv_iload_n hx hb dX12_takeSign_47 rfl (lv_at hl 2 rfl) ?_
              refine lv_bipush (v := 60) hx hb dX12_takeSign_48 (by decide) ?_
              refine lv_icmp_ne (tgt := 63) hx hb dX12_takeSign_50 (by decide) (fun c_50 => ?_) (fun c_50 => ?_)
              · have t_50 : (cv).toInt ≠ 60 := toI_ne c_50 rfl (by decide)
                refine lv_iconst (v := 0) hx hb dX12_takeSign_63 (by decide) ?_
                refine lv_istore_n hx hb dX12_takeSign_64 rfl hl (by decide) rfl (fun ls (hl : lv_has ls _ ([(3, .int 0), (2, .int (bA tp (vF 9) (an + 1))), (0, .ref h0), (1, .int cv)])) => ?_)
                have hl : lv_has _ _ ([(0, .ref h0), (1, .int cv), (2, .int (bA tp (vF 9) (an + 1))), (3, .int 0)]) := lv_sub hl [2, 3, 1, 0] rfl
                exact join1 _ _ _ _ ⟨0, ⟨Or.inl rfl, fun h9 => absurd h9 (by decide)⟩, rfl, hP, hD, hS, hl⟩
              · have t_50 : (cv).toInt = 60 := toI_nne c_50 rfl (by decide)
                refine lv_iload_n hx hb dX12_takeSign_53 rfl (lv_at hl 0 rfl) ?_
                refine lv_bipush (v := 62) hx hb dX12_takeSign_54 (by decide) ?_
                refine lv_icmp_ne (tgt := 63) hx hb dX12_takeSign_56 (by decide) (fun c_56 => ?_) (fun c_56 => ?_)
                · have t_56 : ((bA tp (vF 9) (an + 1))).toInt ≠ 62 := toI_ne c_56 rfl (by decide)
                  refine lv_iconst (v := 0) hx hb dX12_takeSign_63 (by decide) ?_
                  refine lv_istore_n hx hb dX12_takeSign_64 rfl hl (by decide) rfl (fun ls (hl : lv_has ls _ ([(3, .int 0), (2, .int (bA tp (vF 9) (an + 1))), (0, .ref h0), (1, .int cv)])) => ?_)
                  have hl : lv_has _ _ ([(0, .ref h0), (1, .int cv), (2, .int (bA tp (vF 9) (an + 1))), (3, .int 0)]) := lv_sub hl [2, 3, 1, 0] rfl
                  exact join1 _ _ _ _ ⟨0, ⟨Or.inl rfl, fun h9 => absurd h9 (by decide)⟩, rfl, hP, hD, hS, hl⟩
                · have t_56 : ((bA tp (vF 9) (an + 1))).toInt = 62 := toI_nne c_56 rfl (by decide)
                  refine lv_iconst (v := 1) hx hb dX12_takeSign_59 (by decide) ?_
                  refine lv_goto (tgt := 64) hx hb dX12_takeSign_60 (by decide) ?_
                  refine lv_istore_n hx hb dX12_takeSign_64 rfl hl (by decide) rfl (fun ls (hl : lv_has ls _ ([(3, .int 1), (2, .int (bA tp (vF 9) (an + 1))), (0, .ref h0), (1, .int cv)])) => ?_)
                  have hl : lv_has _ _ ([(0, .ref h0), (1, .int cv), (2, .int (bA tp (vF 9) (an + 1))), (3, .int 1)]) := lv_sub hl [2, 3, 1, 0] rfl
                  exact join1 _ _ _ _ ⟨1, ⟨Or.inr rfl, fun _ => by (have b9 := bA_in tp (vF 9) (an + 1)); omega⟩, rfl, hP, hD, hS, hl⟩
    · have t_14 : (cv).toInt = 46 := toI_nne c_14 rfl (by decide)
      refine lv_iload_n hx hb dX12_takeSign_17 rfl (lv_at hl 0 rfl) ?_
      refine lv_bipush (v := 46) hx hb dX12_takeSign_18 (by decide) ?_
      refine lv_icmp_eq (tgt := 59) hx hb dX12_takeSign_20 (by decide) (fun c_20 => ?_) (fun c_20 => ?_)
      · have t_20 : ((bA tp (vF 9) (an + 1))).toInt = 46 := toI_eq c_20 rfl (by decide)
        refine lv_iconst (v := 1) hx hb dX12_takeSign_59 (by decide) ?_
        refine lv_goto (tgt := 64) hx hb dX12_takeSign_60 (by decide) ?_
        refine lv_istore_n hx hb dX12_takeSign_64 rfl hl (by decide) rfl (fun ls (hl : lv_has ls _ ([(3, .int 1), (2, .int (bA tp (vF 9) (an + 1))), (0, .ref h0), (1, .int cv)])) => ?_)
        have hl : lv_has _ _ ([(0, .ref h0), (1, .int cv), (2, .int (bA tp (vF 9) (an + 1))), (3, .int 1)]) := lv_sub hl [2, 3, 1, 0] rfl
        exact join1 _ _ _ _ ⟨1, ⟨Or.inr rfl, fun _ => by (have b9 := bA_in tp (vF 9) (an + 1)); omega⟩, rfl, hP, hD, hS, hl⟩
      · have t_20 : ¬ ((bA tp (vF 9) (an + 1))).toInt = 46 := toI_neq c_20 rfl (by decide)
        refine lv_iload_n hx hb dX12_takeSign_23 rfl (lv_at hl 2 rfl) ?_
        refine lv_bipush (v := 60) hx hb dX12_takeSign_24 (by decide) ?_
        refine lv_icmp_ne (tgt := 35) hx hb dX12_takeSign_26 (by decide) (fun c_26 => ?_) (fun c_26 => ?_)
        · have t_26 : (cv).toInt ≠ 60 := toI_ne c_26 rfl (by decide)
          refine lv_iload_n hx hb dX12_takeSign_35 rfl (lv_at hl 2 rfl) ?_
          refine lv_bipush (v := 62) hx hb dX12_takeSign_36 (by decide) ?_
          refine lv_icmp_ne (tgt := 47) hx hb dX12_takeSign_38 (by decide) (fun c_38 => ?_) (fun c_38 => ?_)
          · have t_38 : (cv).toInt ≠ 62 := toI_ne c_38 rfl (by decide)
            refine lv_iload_n hx hb dX12_takeSign_47 rfl (lv_at hl 2 rfl) ?_
            refine lv_bipush (v := 60) hx hb dX12_takeSign_48 (by decide) ?_
            refine lv_icmp_ne (tgt := 63) hx hb dX12_takeSign_50 (by decide) (fun c_50 => ?_) (fun c_50 => ?_)
            · have t_50 : (cv).toInt ≠ 60 := toI_ne c_50 rfl (by decide)
              refine lv_iconst (v := 0) hx hb dX12_takeSign_63 (by decide) ?_
              refine lv_istore_n hx hb dX12_takeSign_64 rfl hl (by decide) rfl (fun ls (hl : lv_has ls _ ([(3, .int 0), (2, .int (bA tp (vF 9) (an + 1))), (0, .ref h0), (1, .int cv)])) => ?_)
              have hl : lv_has _ _ ([(0, .ref h0), (1, .int cv), (2, .int (bA tp (vF 9) (an + 1))), (3, .int 0)]) := lv_sub hl [2, 3, 1, 0] rfl
              exact join1 _ _ _ _ ⟨0, ⟨Or.inl rfl, fun h9 => absurd h9 (by decide)⟩, rfl, hP, hD, hS, hl⟩
            · have t_50 : (cv).toInt = 60 := toI_nne c_50 rfl (by decide)
              refine lv_iload_n hx hb dX12_takeSign_53 rfl (lv_at hl 0 rfl) ?_
              refine lv_bipush (v := 62) hx hb dX12_takeSign_54 (by decide) ?_
              refine lv_icmp_ne (tgt := 63) hx hb dX12_takeSign_56 (by decide) (fun c_56 => ?_) (fun c_56 => ?_)
              · have t_56 : ((bA tp (vF 9) (an + 1))).toInt ≠ 62 := toI_ne c_56 rfl (by decide)
                refine lv_iconst (v := 0) hx hb dX12_takeSign_63 (by decide) ?_
                refine lv_istore_n hx hb dX12_takeSign_64 rfl hl (by decide) rfl (fun ls (hl : lv_has ls _ ([(3, .int 0), (2, .int (bA tp (vF 9) (an + 1))), (0, .ref h0), (1, .int cv)])) => ?_)
                have hl : lv_has _ _ ([(0, .ref h0), (1, .int cv), (2, .int (bA tp (vF 9) (an + 1))), (3, .int 0)]) := lv_sub hl [2, 3, 1, 0] rfl
                exact join1 _ _ _ _ ⟨0, ⟨Or.inl rfl, fun h9 => absurd h9 (by decide)⟩, rfl, hP, hD, hS, hl⟩
              · have t_56 : ((bA tp (vF 9) (an + 1))).toInt = 62 := toI_nne c_56 rfl (by decide)
                refine lv_iconst (v := 1) hx hb dX12_takeSign_59 (by decide) ?_
                refine lv_goto (tgt := 64) hx hb dX12_takeSign_60 (by decide) ?_
                refine lv_istore_n hx hb dX12_takeSign_64 rfl hl (by decide) rfl (fun ls (hl : lv_has ls _ ([(3, .int 1), (2, .int (bA tp (vF 9) (an + 1))), (0, .ref h0), (1, .int cv)])) => ?_)
                have hl : lv_has _ _ ([(0, .ref h0), (1, .int cv), (2, .int (bA tp (vF 9) (an + 1))), (3, .int 1)]) := lv_sub hl [2, 3, 1, 0] rfl
                exact join1 _ _ _ _ ⟨1, ⟨Or.inr rfl, fun _ => by (have b9 := bA_in tp (vF 9) (an + 1)); omega⟩, rfl, hP, hD, hS, hl⟩
          · have t_38 : (cv).toInt = 62 := toI_nne c_38 rfl (by decide)
            refine lv_iload_n hx hb dX12_takeSign_41 rfl (lv_at hl 0 rfl) ?_
            refine lv_bipush (v := 61) hx hb dX12_takeSign_42 (by decide) ?_
            refine lv_icmp_eq (tgt := 59) hx hb dX12_takeSign_44 (by decide) (fun c_44 => ?_) (fun c_44 => ?_)
            · have t_44 : ((bA tp (vF 9) (an + 1))).toInt = 61 := toI_eq c_44 rfl (by decide)
              refine lv_iconst (v := 1) hx hb dX12_takeSign_59 (by decide) ?_
              refine lv_goto (tgt := 64) hx hb dX12_takeSign_60 (by decide) ?_
              refine lv_istore_n hx hb dX12_takeSign_64 rfl hl (by decide) rfl (fun ls (hl : lv_has ls _ ([(3, .int 1), (2, .int (bA tp (vF 9) (an + 1))), (0, .ref h0), (1, .int cv)])) => ?_)
              have hl : lv_has _ _ ([(0, .ref h0), (1, .int cv), (2, .int (bA tp (vF 9) (an + 1))), (3, .int 1)]) := lv_sub hl [2, 3, 1, 0] rfl
              exact join1 _ _ _ _ ⟨1, ⟨Or.inr rfl, fun _ => by (have b9 := bA_in tp (vF 9) (an + 1)); omega⟩, rfl, hP, hD, hS, hl⟩
            · have t_44 : ¬ ((bA tp (vF 9) (an + 1))).toInt = 61 := toI_neq c_44 rfl (by decide)
              refine lv_iload_n hx hb dX12_takeSign_47 rfl (lv_at hl 2 rfl) ?_
              refine lv_bipush (v := 60) hx hb dX12_takeSign_48 (by decide) ?_
              refine lv_icmp_ne (tgt := 63) hx hb dX12_takeSign_50 (by decide) (fun c_50 => ?_) (fun c_50 => ?_)
              · have t_50 : (cv).toInt ≠ 60 := toI_ne c_50 rfl (by decide)
                refine lv_iconst (v := 0) hx hb dX12_takeSign_63 (by decide) ?_
                refine lv_istore_n hx hb dX12_takeSign_64 rfl hl (by decide) rfl (fun ls (hl : lv_has ls _ ([(3, .int 0), (2, .int (bA tp (vF 9) (an + 1))), (0, .ref h0), (1, .int cv)])) => ?_)
                have hl : lv_has _ _ ([(0, .ref h0), (1, .int cv), (2, .int (bA tp (vF 9) (an + 1))), (3, .int 0)]) := lv_sub hl [2, 3, 1, 0] rfl
                exact join1 _ _ _ _ ⟨0, ⟨Or.inl rfl, fun h9 => absurd h9 (by decide)⟩, rfl, hP, hD, hS, hl⟩
              · have t_50 : (cv).toInt = 60 := toI_nne c_50 rfl (by decide)
                refine lv_iload_n hx hb dX12_takeSign_53 rfl (lv_at hl 0 rfl) ?_
                refine lv_bipush (v := 62) hx hb dX12_takeSign_54 (by decide) ?_
                refine lv_icmp_ne (tgt := 63) hx hb dX12_takeSign_56 (by decide) (fun c_56 => ?_) (fun c_56 => ?_)
                · have t_56 : ((bA tp (vF 9) (an + 1))).toInt ≠ 62 := toI_ne c_56 rfl (by decide)
                  refine lv_iconst (v := 0) hx hb dX12_takeSign_63 (by decide) ?_
                  refine lv_istore_n hx hb dX12_takeSign_64 rfl hl (by decide) rfl (fun ls (hl : lv_has ls _ ([(3, .int 0), (2, .int (bA tp (vF 9) (an + 1))), (0, .ref h0), (1, .int cv)])) => ?_)
                  have hl : lv_has _ _ ([(0, .ref h0), (1, .int cv), (2, .int (bA tp (vF 9) (an + 1))), (3, .int 0)]) := lv_sub hl [2, 3, 1, 0] rfl
                  exact join1 _ _ _ _ ⟨0, ⟨Or.inl rfl, fun h9 => absurd h9 (by decide)⟩, rfl, hP, hD, hS, hl⟩
                · have t_56 : ((bA tp (vF 9) (an + 1))).toInt = 62 := toI_nne c_56 rfl (by decide)
                  refine lv_iconst (v := 1) hx hb dX12_takeSign_59 (by decide) ?_
                  refine lv_goto (tgt := 64) hx hb dX12_takeSign_60 (by decide) ?_
                  refine lv_istore_n hx hb dX12_takeSign_64 rfl hl (by decide) rfl (fun ls (hl : lv_has ls _ ([(3, .int 1), (2, .int (bA tp (vF 9) (an + 1))), (0, .ref h0), (1, .int cv)])) => ?_)
                  have hl : lv_has _ _ ([(0, .ref h0), (1, .int cv), (2, .int (bA tp (vF 9) (an + 1))), (3, .int 1)]) := lv_sub hl [2, 3, 1, 0] rfl
                  exact join1 _ _ _ _ ⟨1, ⟨Or.inr rfl, fun _ => by (have b9 := bA_in tp (vF 9) (an + 1)); omega⟩, rfl, hP, hD, hS, hl⟩
        · have t_26 : (cv).toInt = 60 := toI_nne c_26 rfl (by decide)
          refine lv_iload_n hx hb dX12_takeSign_29 rfl (lv_at hl 0 rfl) ?_
          refine lv_bipush (v := 61) hx hb dX12_takeSign_30 (by decide) ?_
          refine lv_icmp_eq (tgt := 59) hx hb dX12_takeSign_32 (by decide) (fun c_32 => ?_) (fun c_32 => ?_)
          · have t_32 : ((bA tp (vF 9) (an + 1))).toInt = 61 := toI_eq c_32 rfl (by decide)
            refine lv_iconst (v := 1) hx hb dX12_takeSign_59 (by decide) ?_
            refine lv_goto (tgt := 64) hx hb dX12_takeSign_60 (by decide) ?_
            refine lv_istore_n hx hb dX12_takeSign_64 rfl hl (by decide) rfl (fun ls (hl : lv_has ls _ ([(3, .int 1), (2, .int (bA tp (vF 9) (an + 1))), (0, .ref h0), (1, .int cv)])) => ?_)
            have hl : lv_has _ _ ([(0, .ref h0), (1, .int cv), (2, .int (bA tp (vF 9) (an + 1))), (3, .int 1)]) := lv_sub hl [2, 3, 1, 0] rfl
            exact join1 _ _ _ _ ⟨1, ⟨Or.inr rfl, fun _ => by (have b9 := bA_in tp (vF 9) (an + 1)); omega⟩, rfl, hP, hD, hS, hl⟩
          · have t_32 : ¬ ((bA tp (vF 9) (an + 1))).toInt = 61 := toI_neq c_32 rfl (by decide)
            refine lv_iload_n hx hb dX12_takeSign_35 rfl (lv_at hl 2 rfl) ?_
            refine lv_bipush (v := 62) hx hb dX12_takeSign_36 (by decide) ?_
            refine lv_icmp_ne (tgt := 47) hx hb dX12_takeSign_38 (by decide) (fun c_38 => ?_) (fun c_38 => ?_)
            · have t_38 : (cv).toInt ≠ 62 := toI_ne c_38 rfl (by decide)
              refine lv_iload_n hx hb dX12_takeSign_47 rfl (lv_at hl 2 rfl) ?_
              refine lv_bipush (v := 60) hx hb dX12_takeSign_48 (by decide) ?_
              refine lv_icmp_ne (tgt := 63) hx hb dX12_takeSign_50 (by decide) (fun c_50 => ?_) (fun c_50 => ?_)
              · have t_50 : (cv).toInt ≠ 60 := toI_ne c_50 rfl (by decide)
                refine lv_iconst (v := 0) hx hb dX12_takeSign_63 (by decide) ?_
                refine lv_istore_n hx hb dX12_takeSign_64 rfl hl (by decide) rfl (fun ls (hl : lv_has ls _ ([(3, .int 0), (2, .int (bA tp (vF 9) (an + 1))), (0, .ref h0), (1, .int cv)])) => ?_)
                have hl : lv_has _ _ ([(0, .ref h0), (1, .int cv), (2, .int (bA tp (vF 9) (an + 1))), (3, .int 0)]) := lv_sub hl [2, 3, 1, 0] rfl
                exact join1 _ _ _ _ ⟨0, ⟨Or.inl rfl, fun h9 => absurd h9 (by decide)⟩, rfl, hP, hD, hS, hl⟩
              · have t_50 : (cv).toInt = 60 := toI_nne c_50 rfl (by decide)
                refine lv_iload_n hx hb dX12_takeSign_53 rfl (lv_at hl 0 rfl) ?_
                refine lv_bipush (v := 62) hx hb dX12_takeSign_54 (by decide) ?_
                refine lv_icmp_ne (tgt := 63) hx hb dX12_takeSign_56 (by decide) (fun c_56 => ?_) (fun c_56 => ?_)
                · have t_56 : ((bA tp (vF 9) (an + 1))).toInt ≠ 62 := toI_ne c_56 rfl (by decide)
                  refine lv_iconst (v := 0) hx hb dX12_takeSign_63 (by decide) ?_
                  refine lv_istore_n hx hb dX12_takeSign_64 rfl hl (by decide) rfl (fun ls (hl : lv_has ls _ ([(3, .int 0), (2, .int (bA tp (vF 9) (an + 1))), (0, .ref h0), (1, .int cv)])) => ?_)
                  have hl : lv_has _ _ ([(0, .ref h0), (1, .int cv), (2, .int (bA tp (vF 9) (an + 1))), (3, .int 0)]) := lv_sub hl [2, 3, 1, 0] rfl
                  exact join1 _ _ _ _ ⟨0, ⟨Or.inl rfl, fun h9 => absurd h9 (by decide)⟩, rfl, hP, hD, hS, hl⟩
                · have t_56 : ((bA tp (vF 9) (an + 1))).toInt = 62 := toI_nne c_56 rfl (by decide)
                  refine lv_iconst (v := 1) hx hb dX12_takeSign_59 (by decide) ?_
                  refine lv_goto (tgt := 64) hx hb dX12_takeSign_60 (by decide) ?_
                  refine lv_istore_n hx hb dX12_takeSign_64 rfl hl (by decide) rfl (fun ls (hl : lv_has ls _ ([(3, .int 1), (2, .int (bA tp (vF 9) (an + 1))), (0, .ref h0), (1, .int cv)])) => ?_)
                  have hl : lv_has _ _ ([(0, .ref h0), (1, .int cv), (2, .int (bA tp (vF 9) (an + 1))), (3, .int 1)]) := lv_sub hl [2, 3, 1, 0] rfl
                  exact join1 _ _ _ _ ⟨1, ⟨Or.inr rfl, fun _ => by (have b9 := bA_in tp (vF 9) (an + 1)); omega⟩, rfl, hP, hD, hS, hl⟩
            · have t_38 : (cv).toInt = 62 := toI_nne c_38 rfl (by decide)
              refine lv_iload_n hx hb dX12_takeSign_41 rfl (lv_at hl 0 rfl) ?_
              refine lv_bipush (v := 61) hx hb dX12_takeSign_42 (by decide) ?_
              refine lv_icmp_eq (tgt := 59) hx hb dX12_takeSign_44 (by decide) (fun c_44 => ?_) (fun c_44 => ?_)
              · have t_44 : ((bA tp (vF 9) (an + 1))).toInt = 61 := toI_eq c_44 rfl (by decide)
                refine lv_iconst (v := 1) hx hb dX12_takeSign_59 (by decide) ?_
                refine lv_goto (tgt := 64) hx hb dX12_takeSign_60 (by decide) ?_
                refine lv_istore_n hx hb dX12_takeSign_64 rfl hl (by decide) rfl (fun ls (hl : lv_has ls _ ([(3, .int 1), (2, .int (bA tp (vF 9) (an + 1))), (0, .ref h0), (1, .int cv)])) => ?_)
                have hl : lv_has _ _ ([(0, .ref h0), (1, .int cv), (2, .int (bA tp (vF 9) (an + 1))), (3, .int 1)]) := lv_sub hl [2, 3, 1, 0] rfl
                exact join1 _ _ _ _ ⟨1, ⟨Or.inr rfl, fun _ => by (have b9 := bA_in tp (vF 9) (an + 1)); omega⟩, rfl, hP, hD, hS, hl⟩
              · have t_44 : ¬ ((bA tp (vF 9) (an + 1))).toInt = 61 := toI_neq c_44 rfl (by decide)
                refine lv_iload_n hx hb dX12_takeSign_47 rfl (lv_at hl 2 rfl) ?_
                refine lv_bipush (v := 60) hx hb dX12_takeSign_48 (by decide) ?_
                refine lv_icmp_ne (tgt := 63) hx hb dX12_takeSign_50 (by decide) (fun c_50 => ?_) (fun c_50 => ?_)
                · have t_50 : (cv).toInt ≠ 60 := toI_ne c_50 rfl (by decide)
                  refine lv_iconst (v := 0) hx hb dX12_takeSign_63 (by decide) ?_
                  refine lv_istore_n hx hb dX12_takeSign_64 rfl hl (by decide) rfl (fun ls (hl : lv_has ls _ ([(3, .int 0), (2, .int (bA tp (vF 9) (an + 1))), (0, .ref h0), (1, .int cv)])) => ?_)
                  have hl : lv_has _ _ ([(0, .ref h0), (1, .int cv), (2, .int (bA tp (vF 9) (an + 1))), (3, .int 0)]) := lv_sub hl [2, 3, 1, 0] rfl
                  exact join1 _ _ _ _ ⟨0, ⟨Or.inl rfl, fun h9 => absurd h9 (by decide)⟩, rfl, hP, hD, hS, hl⟩
                · have t_50 : (cv).toInt = 60 := toI_nne c_50 rfl (by decide)
                  refine lv_iload_n hx hb dX12_takeSign_53 rfl (lv_at hl 0 rfl) ?_
                  refine lv_bipush (v := 62) hx hb dX12_takeSign_54 (by decide) ?_
                  refine lv_icmp_ne (tgt := 63) hx hb dX12_takeSign_56 (by decide) (fun c_56 => ?_) (fun c_56 => ?_)
                  · have t_56 : ((bA tp (vF 9) (an + 1))).toInt ≠ 62 := toI_ne c_56 rfl (by decide)
                    refine lv_iconst (v := 0) hx hb dX12_takeSign_63 (by decide) ?_
                    refine lv_istore_n hx hb dX12_takeSign_64 rfl hl (by decide) rfl (fun ls (hl : lv_has ls _ ([(3, .int 0), (2, .int (bA tp (vF 9) (an + 1))), (0, .ref h0), (1, .int cv)])) => ?_)
                    have hl : lv_has _ _ ([(0, .ref h0), (1, .int cv), (2, .int (bA tp (vF 9) (an + 1))), (3, .int 0)]) := lv_sub hl [2, 3, 1, 0] rfl
                    exact join1 _ _ _ _ ⟨0, ⟨Or.inl rfl, fun h9 => absurd h9 (by decide)⟩, rfl, hP, hD, hS, hl⟩
                  · have t_56 : ((bA tp (vF 9) (an + 1))).toInt = 62 := toI_nne c_56 rfl (by decide)
                    refine lv_iconst (v := 1) hx hb dX12_takeSign_59 (by decide) ?_
                    refine lv_goto (tgt := 64) hx hb dX12_takeSign_60 (by decide) ?_
                    refine lv_istore_n hx hb dX12_takeSign_64 rfl hl (by decide) rfl (fun ls (hl : lv_has ls _ ([(3, .int 1), (2, .int (bA tp (vF 9) (an + 1))), (0, .ref h0), (1, .int cv)])) => ?_)
                    have hl : lv_has _ _ ([(0, .ref h0), (1, .int cv), (2, .int (bA tp (vF 9) (an + 1))), (3, .int 1)]) := lv_sub hl [2, 3, 1, 0] rfl
                    exact join1 _ _ _ _ ⟨1, ⟨Or.inr rfl, fun _ => by (have b9 := bA_in tp (vF 9) (an + 1)); omega⟩, rfl, hP, hD, hS, hl⟩
  · rintro H locs ls stk ⟨tw, htw, rfl, hP, hD, hS, hl⟩
    refine lv_iload_n hx hb dX12_takeSign_65 rfl (lv_at hl 1 rfl) ?_
    refine lv_bipush (v := 61) hx hb dX12_takeSign_66 (by decide) ?_
    refine W.cut (pc := 168) (fun H locs ls stk => ∃ (on : Int32),  stk = [] ∧ va_P (dC, dI) vwCl (WR a k h0 vi vj vF vG) H ∧ va_D A (WR a k h0 vi vj vF vG) ∧ va_S A s.heap H locs ∧ lv_has ls 5 [(0, .ref h0), (1, .int cv), (2, .int (bA tp (vF 9) (an + 1))), (3, .int tw), (4, .int on)]) (fun join2 => ?_) ?_
    · refine lv_icmp_eq (tgt := 161) hx hb dX12_takeSign_68 (by decide) (fun c_68 => ?_) (fun c_68 => ?_)
      · have t_68 : (cv).toInt = 61 := toI_eq c_68 rfl (by decide)
        refine lv_iconst (v := 1) hx hb dX12_takeSign_161 (by decide) ?_
        refine lv_goto (tgt := 166) hx hb dX12_takeSign_162 (by decide) ?_
        refine lv_istore hx hb dX12_takeSign_166 hl (by decide) rfl (fun ls (hl : lv_has ls _ ([(4, .int 1), (0, .ref h0), (1, .int cv), (2, .int (bA tp (vF 9) (an + 1))), (3, .int tw)])) => ?_)
        have hl : lv_has _ _ ([(0, .ref h0), (1, .int cv), (2, .int (bA tp (vF 9) (an + 1))), (3, .int tw), (4, .int 1)]) := lv_sub hl [1, 2, 3, 4, 0] rfl
        exact join2 _ _ _ _ ⟨1, rfl, hP, hD, hS, hl⟩
      · have t_68 : ¬ (cv).toInt = 61 := toI_neq c_68 rfl (by decide)
        refine lv_iload_n hx hb dX12_takeSign_71 rfl (lv_at hl 1 rfl) ?_
        refine lv_bipush (v := 60) hx hb dX12_takeSign_72 (by decide) ?_
        refine lv_icmp_eq (tgt := 161) hx hb dX12_takeSign_74 (by decide) (fun c_74 => ?_) (fun c_74 => ?_)
        · have t_74 : (cv).toInt = 60 := toI_eq c_74 rfl (by decide)
          refine lv_iconst (v := 1) hx hb dX12_takeSign_161 (by decide) ?_
          refine lv_goto (tgt := 166) hx hb dX12_takeSign_162 (by decide) ?_
          refine lv_istore hx hb dX12_takeSign_166 hl (by decide) rfl (fun ls (hl : lv_has ls _ ([(4, .int 1), (0, .ref h0), (1, .int cv), (2, .int (bA tp (vF 9) (an + 1))), (3, .int tw)])) => ?_)
          have hl : lv_has _ _ ([(0, .ref h0), (1, .int cv), (2, .int (bA tp (vF 9) (an + 1))), (3, .int tw), (4, .int 1)]) := lv_sub hl [1, 2, 3, 4, 0] rfl
          exact join2 _ _ _ _ ⟨1, rfl, hP, hD, hS, hl⟩
        · have t_74 : ¬ (cv).toInt = 60 := toI_neq c_74 rfl (by decide)
          refine lv_iload_n hx hb dX12_takeSign_77 rfl (lv_at hl 1 rfl) ?_
          refine lv_bipush (v := 62) hx hb dX12_takeSign_78 (by decide) ?_
          refine lv_icmp_eq (tgt := 161) hx hb dX12_takeSign_80 (by decide) (fun c_80 => ?_) (fun c_80 => ?_)
          · have t_80 : (cv).toInt = 62 := toI_eq c_80 rfl (by decide)
            refine lv_iconst (v := 1) hx hb dX12_takeSign_161 (by decide) ?_
            refine lv_goto (tgt := 166) hx hb dX12_takeSign_162 (by decide) ?_
            refine lv_istore hx hb dX12_takeSign_166 hl (by decide) rfl (fun ls (hl : lv_has ls _ ([(4, .int 1), (0, .ref h0), (1, .int cv), (2, .int (bA tp (vF 9) (an + 1))), (3, .int tw)])) => ?_)
            have hl : lv_has _ _ ([(0, .ref h0), (1, .int cv), (2, .int (bA tp (vF 9) (an + 1))), (3, .int tw), (4, .int 1)]) := lv_sub hl [1, 2, 3, 4, 0] rfl
            exact join2 _ _ _ _ ⟨1, rfl, hP, hD, hS, hl⟩
          · have t_80 : ¬ (cv).toInt = 62 := toI_neq c_80 rfl (by decide)
            refine lv_iload_n hx hb dX12_takeSign_83 rfl (lv_at hl 1 rfl) ?_
            refine lv_bipush (v := 58) hx hb dX12_takeSign_84 (by decide) ?_
            refine lv_icmp_eq (tgt := 161) hx hb dX12_takeSign_86 (by decide) (fun c_86 => ?_) (fun c_86 => ?_)
            · have t_86 : (cv).toInt = 58 := toI_eq c_86 rfl (by decide)
              refine lv_iconst (v := 1) hx hb dX12_takeSign_161 (by decide) ?_
              refine lv_goto (tgt := 166) hx hb dX12_takeSign_162 (by decide) ?_
              refine lv_istore hx hb dX12_takeSign_166 hl (by decide) rfl (fun ls (hl : lv_has ls _ ([(4, .int 1), (0, .ref h0), (1, .int cv), (2, .int (bA tp (vF 9) (an + 1))), (3, .int tw)])) => ?_)
              have hl : lv_has _ _ ([(0, .ref h0), (1, .int cv), (2, .int (bA tp (vF 9) (an + 1))), (3, .int tw), (4, .int 1)]) := lv_sub hl [1, 2, 3, 4, 0] rfl
              exact join2 _ _ _ _ ⟨1, rfl, hP, hD, hS, hl⟩
            · have t_86 : ¬ (cv).toInt = 58 := toI_neq c_86 rfl (by decide)
              refine lv_iload_n hx hb dX12_takeSign_89 rfl (lv_at hl 1 rfl) ?_
              refine lv_bipush (v := 59) hx hb dX12_takeSign_90 (by decide) ?_
              refine lv_icmp_eq (tgt := 161) hx hb dX12_takeSign_92 (by decide) (fun c_92 => ?_) (fun c_92 => ?_)
              · have t_92 : (cv).toInt = 59 := toI_eq c_92 rfl (by decide)
                refine lv_iconst (v := 1) hx hb dX12_takeSign_161 (by decide) ?_
                refine lv_goto (tgt := 166) hx hb dX12_takeSign_162 (by decide) ?_
                refine lv_istore hx hb dX12_takeSign_166 hl (by decide) rfl (fun ls (hl : lv_has ls _ ([(4, .int 1), (0, .ref h0), (1, .int cv), (2, .int (bA tp (vF 9) (an + 1))), (3, .int tw)])) => ?_)
                have hl : lv_has _ _ ([(0, .ref h0), (1, .int cv), (2, .int (bA tp (vF 9) (an + 1))), (3, .int tw), (4, .int 1)]) := lv_sub hl [1, 2, 3, 4, 0] rfl
                exact join2 _ _ _ _ ⟨1, rfl, hP, hD, hS, hl⟩
              · have t_92 : ¬ (cv).toInt = 59 := toI_neq c_92 rfl (by decide)
                refine lv_iload_n hx hb dX12_takeSign_95 rfl (lv_at hl 1 rfl) ?_
                refine lv_bipush (v := 44) hx hb dX12_takeSign_96 (by decide) ?_
                refine lv_icmp_eq (tgt := 161) hx hb dX12_takeSign_98 (by decide) (fun c_98 => ?_) (fun c_98 => ?_)
                · have t_98 : (cv).toInt = 44 := toI_eq c_98 rfl (by decide)
                  refine lv_iconst (v := 1) hx hb dX12_takeSign_161 (by decide) ?_
                  refine lv_goto (tgt := 166) hx hb dX12_takeSign_162 (by decide) ?_
                  refine lv_istore hx hb dX12_takeSign_166 hl (by decide) rfl (fun ls (hl : lv_has ls _ ([(4, .int 1), (0, .ref h0), (1, .int cv), (2, .int (bA tp (vF 9) (an + 1))), (3, .int tw)])) => ?_)
                  have hl : lv_has _ _ ([(0, .ref h0), (1, .int cv), (2, .int (bA tp (vF 9) (an + 1))), (3, .int tw), (4, .int 1)]) := lv_sub hl [1, 2, 3, 4, 0] rfl
                  exact join2 _ _ _ _ ⟨1, rfl, hP, hD, hS, hl⟩
                · have t_98 : ¬ (cv).toInt = 44 := toI_neq c_98 rfl (by decide)
                  refine lv_iload_n hx hb dX12_takeSign_101 rfl (lv_at hl 1 rfl) ?_
                  refine lv_bipush (v := 91) hx hb dX12_takeSign_102 (by decide) ?_
                  refine lv_icmp_eq (tgt := 161) hx hb dX12_takeSign_104 (by decide) (fun c_104 => ?_) (fun c_104 => ?_)
                  · have t_104 : (cv).toInt = 91 := toI_eq c_104 rfl (by decide)
                    refine lv_iconst (v := 1) hx hb dX12_takeSign_161 (by decide) ?_
                    refine lv_goto (tgt := 166) hx hb dX12_takeSign_162 (by decide) ?_
                    refine lv_istore hx hb dX12_takeSign_166 hl (by decide) rfl (fun ls (hl : lv_has ls _ ([(4, .int 1), (0, .ref h0), (1, .int cv), (2, .int (bA tp (vF 9) (an + 1))), (3, .int tw)])) => ?_)
                    have hl : lv_has _ _ ([(0, .ref h0), (1, .int cv), (2, .int (bA tp (vF 9) (an + 1))), (3, .int tw), (4, .int 1)]) := lv_sub hl [1, 2, 3, 4, 0] rfl
                    exact join2 _ _ _ _ ⟨1, rfl, hP, hD, hS, hl⟩
                  · have t_104 : ¬ (cv).toInt = 91 := toI_neq c_104 rfl (by decide)
                    refine lv_iload_n hx hb dX12_takeSign_107 rfl (lv_at hl 1 rfl) ?_
                    refine lv_bipush (v := 93) hx hb dX12_takeSign_108 (by decide) ?_
                    refine lv_icmp_eq (tgt := 161) hx hb dX12_takeSign_110 (by decide) (fun c_110 => ?_) (fun c_110 => ?_)
                    · have t_110 : (cv).toInt = 93 := toI_eq c_110 rfl (by decide)
                      refine lv_iconst (v := 1) hx hb dX12_takeSign_161 (by decide) ?_
                      refine lv_goto (tgt := 166) hx hb dX12_takeSign_162 (by decide) ?_
                      refine lv_istore hx hb dX12_takeSign_166 hl (by decide) rfl (fun ls (hl : lv_has ls _ ([(4, .int 1), (0, .ref h0), (1, .int cv), (2, .int (bA tp (vF 9) (an + 1))), (3, .int tw)])) => ?_)
                      have hl : lv_has _ _ ([(0, .ref h0), (1, .int cv), (2, .int (bA tp (vF 9) (an + 1))), (3, .int tw), (4, .int 1)]) := lv_sub hl [1, 2, 3, 4, 0] rfl
                      exact join2 _ _ _ _ ⟨1, rfl, hP, hD, hS, hl⟩
                    · have t_110 : ¬ (cv).toInt = 93 := toI_neq c_110 rfl (by decide)
                      refine lv_iload_n hx hb dX12_takeSign_113 rfl (lv_at hl 1 rfl) ?_
                      refine lv_bipush (v := 123) hx hb dX12_takeSign_114 (by decide) ?_
                      refine lv_icmp_eq (tgt := 161) hx hb dX12_takeSign_116 (by decide) (fun c_116 => ?_) (fun c_116 => ?_)
                      · have t_116 : (cv).toInt = 123 := toI_eq c_116 rfl (by decide)
                        refine lv_iconst (v := 1) hx hb dX12_takeSign_161 (by decide) ?_
                        refine lv_goto (tgt := 166) hx hb dX12_takeSign_162 (by decide) ?_
                        refine lv_istore hx hb dX12_takeSign_166 hl (by decide) rfl (fun ls (hl : lv_has ls _ ([(4, .int 1), (0, .ref h0), (1, .int cv), (2, .int (bA tp (vF 9) (an + 1))), (3, .int tw)])) => ?_)
                        have hl : lv_has _ _ ([(0, .ref h0), (1, .int cv), (2, .int (bA tp (vF 9) (an + 1))), (3, .int tw), (4, .int 1)]) := lv_sub hl [1, 2, 3, 4, 0] rfl
                        exact join2 _ _ _ _ ⟨1, rfl, hP, hD, hS, hl⟩
                      · have t_116 : ¬ (cv).toInt = 123 := toI_neq c_116 rfl (by decide)
                        refine lv_iload_n hx hb dX12_takeSign_119 rfl (lv_at hl 1 rfl) ?_
                        refine lv_bipush (v := 125) hx hb dX12_takeSign_120 (by decide) ?_
                        refine lv_icmp_eq (tgt := 161) hx hb dX12_takeSign_122 (by decide) (fun c_122 => ?_) (fun c_122 => ?_)
                        · have t_122 : (cv).toInt = 125 := toI_eq c_122 rfl (by decide)
                          refine lv_iconst (v := 1) hx hb dX12_takeSign_161 (by decide) ?_
                          refine lv_goto (tgt := 166) hx hb dX12_takeSign_162 (by decide) ?_
                          refine lv_istore hx hb dX12_takeSign_166 hl (by decide) rfl (fun ls (hl : lv_has ls _ ([(4, .int 1), (0, .ref h0), (1, .int cv), (2, .int (bA tp (vF 9) (an + 1))), (3, .int tw)])) => ?_)
                          have hl : lv_has _ _ ([(0, .ref h0), (1, .int cv), (2, .int (bA tp (vF 9) (an + 1))), (3, .int tw), (4, .int 1)]) := lv_sub hl [1, 2, 3, 4, 0] rfl
                          exact join2 _ _ _ _ ⟨1, rfl, hP, hD, hS, hl⟩
                        · have t_122 : ¬ (cv).toInt = 125 := toI_neq c_122 rfl (by decide)
                          refine lv_iload_n hx hb dX12_takeSign_125 rfl (lv_at hl 1 rfl) ?_
                          refine lv_bipush (v := 40) hx hb dX12_takeSign_126 (by decide) ?_
                          refine lv_icmp_eq (tgt := 161) hx hb dX12_takeSign_128 (by decide) (fun c_128 => ?_) (fun c_128 => ?_)
                          · have t_128 : (cv).toInt = 40 := toI_eq c_128 rfl (by decide)
                            refine lv_iconst (v := 1) hx hb dX12_takeSign_161 (by decide) ?_
                            refine lv_goto (tgt := 166) hx hb dX12_takeSign_162 (by decide) ?_
                            refine lv_istore hx hb dX12_takeSign_166 hl (by decide) rfl (fun ls (hl : lv_has ls _ ([(4, .int 1), (0, .ref h0), (1, .int cv), (2, .int (bA tp (vF 9) (an + 1))), (3, .int tw)])) => ?_)
                            have hl : lv_has _ _ ([(0, .ref h0), (1, .int cv), (2, .int (bA tp (vF 9) (an + 1))), (3, .int tw), (4, .int 1)]) := lv_sub hl [1, 2, 3, 4, 0] rfl
                            exact join2 _ _ _ _ ⟨1, rfl, hP, hD, hS, hl⟩
                          · have t_128 : ¬ (cv).toInt = 40 := toI_neq c_128 rfl (by decide)
                            refine lv_iload_n hx hb dX12_takeSign_131 rfl (lv_at hl 1 rfl) ?_
                            refine lv_bipush (v := 41) hx hb dX12_takeSign_132 (by decide) ?_
                            refine lv_icmp_eq (tgt := 161) hx hb dX12_takeSign_134 (by decide) (fun c_134 => ?_) (fun c_134 => ?_)
                            · have t_134 : (cv).toInt = 41 := toI_eq c_134 rfl (by decide)
                              refine lv_iconst (v := 1) hx hb dX12_takeSign_161 (by decide) ?_
                              refine lv_goto (tgt := 166) hx hb dX12_takeSign_162 (by decide) ?_
                              refine lv_istore hx hb dX12_takeSign_166 hl (by decide) rfl (fun ls (hl : lv_has ls _ ([(4, .int 1), (0, .ref h0), (1, .int cv), (2, .int (bA tp (vF 9) (an + 1))), (3, .int tw)])) => ?_)
                              have hl : lv_has _ _ ([(0, .ref h0), (1, .int cv), (2, .int (bA tp (vF 9) (an + 1))), (3, .int tw), (4, .int 1)]) := lv_sub hl [1, 2, 3, 4, 0] rfl
                              exact join2 _ _ _ _ ⟨1, rfl, hP, hD, hS, hl⟩
                            · have t_134 : ¬ (cv).toInt = 41 := toI_neq c_134 rfl (by decide)
                              refine lv_iload_n hx hb dX12_takeSign_137 rfl (lv_at hl 1 rfl) ?_
                              refine lv_bipush (v := 43) hx hb dX12_takeSign_138 (by decide) ?_
                              refine lv_icmp_eq (tgt := 161) hx hb dX12_takeSign_140 (by decide) (fun c_140 => ?_) (fun c_140 => ?_)
                              · have t_140 : (cv).toInt = 43 := toI_eq c_140 rfl (by decide)
                                refine lv_iconst (v := 1) hx hb dX12_takeSign_161 (by decide) ?_
                                refine lv_goto (tgt := 166) hx hb dX12_takeSign_162 (by decide) ?_
                                refine lv_istore hx hb dX12_takeSign_166 hl (by decide) rfl (fun ls (hl : lv_has ls _ ([(4, .int 1), (0, .ref h0), (1, .int cv), (2, .int (bA tp (vF 9) (an + 1))), (3, .int tw)])) => ?_)
                                have hl : lv_has _ _ ([(0, .ref h0), (1, .int cv), (2, .int (bA tp (vF 9) (an + 1))), (3, .int tw), (4, .int 1)]) := lv_sub hl [1, 2, 3, 4, 0] rfl
                                exact join2 _ _ _ _ ⟨1, rfl, hP, hD, hS, hl⟩
                              · have t_140 : ¬ (cv).toInt = 43 := toI_neq c_140 rfl (by decide)
                                refine lv_iload_n hx hb dX12_takeSign_143 rfl (lv_at hl 1 rfl) ?_
                                refine lv_bipush (v := 45) hx hb dX12_takeSign_144 (by decide) ?_
                                refine lv_icmp_eq (tgt := 161) hx hb dX12_takeSign_146 (by decide) (fun c_146 => ?_) (fun c_146 => ?_)
                                · have t_146 : (cv).toInt = 45 := toI_eq c_146 rfl (by decide)
                                  refine lv_iconst (v := 1) hx hb dX12_takeSign_161 (by decide) ?_
                                  refine lv_goto (tgt := 166) hx hb dX12_takeSign_162 (by decide) ?_
                                  refine lv_istore hx hb dX12_takeSign_166 hl (by decide) rfl (fun ls (hl : lv_has ls _ ([(4, .int 1), (0, .ref h0), (1, .int cv), (2, .int (bA tp (vF 9) (an + 1))), (3, .int tw)])) => ?_)
                                  have hl : lv_has _ _ ([(0, .ref h0), (1, .int cv), (2, .int (bA tp (vF 9) (an + 1))), (3, .int tw), (4, .int 1)]) := lv_sub hl [1, 2, 3, 4, 0] rfl
                                  exact join2 _ _ _ _ ⟨1, rfl, hP, hD, hS, hl⟩
                                · have t_146 : ¬ (cv).toInt = 45 := toI_neq c_146 rfl (by decide)
                                  refine lv_iload_n hx hb dX12_takeSign_149 rfl (lv_at hl 1 rfl) ?_
                                  refine lv_bipush (v := 42) hx hb dX12_takeSign_150 (by decide) ?_
                                  refine lv_icmp_eq (tgt := 161) hx hb dX12_takeSign_152 (by decide) (fun c_152 => ?_) (fun c_152 => ?_)
                                  · have t_152 : (cv).toInt = 42 := toI_eq c_152 rfl (by decide)
                                    refine lv_iconst (v := 1) hx hb dX12_takeSign_161 (by decide) ?_
                                    refine lv_goto (tgt := 166) hx hb dX12_takeSign_162 (by decide) ?_
                                    refine lv_istore hx hb dX12_takeSign_166 hl (by decide) rfl (fun ls (hl : lv_has ls _ ([(4, .int 1), (0, .ref h0), (1, .int cv), (2, .int (bA tp (vF 9) (an + 1))), (3, .int tw)])) => ?_)
                                    have hl : lv_has _ _ ([(0, .ref h0), (1, .int cv), (2, .int (bA tp (vF 9) (an + 1))), (3, .int tw), (4, .int 1)]) := lv_sub hl [1, 2, 3, 4, 0] rfl
                                    exact join2 _ _ _ _ ⟨1, rfl, hP, hD, hS, hl⟩
                                  · have t_152 : ¬ (cv).toInt = 42 := toI_neq c_152 rfl (by decide)
                                    refine lv_iload_n hx hb dX12_takeSign_155 rfl (lv_at hl 1 rfl) ?_
                                    refine lv_bipush (v := 47) hx hb dX12_takeSign_156 (by decide) ?_
                                    refine lv_icmp_ne (tgt := 165) hx hb dX12_takeSign_158 (by decide) (fun c_158 => ?_) (fun c_158 => ?_)
                                    · have t_158 : (cv).toInt ≠ 47 := toI_ne c_158 rfl (by decide)
                                      refine lv_iconst (v := 0) hx hb dX12_takeSign_165 (by decide) ?_
                                      refine lv_istore hx hb dX12_takeSign_166 hl (by decide) rfl (fun ls (hl : lv_has ls _ ([(4, .int 0), (0, .ref h0), (1, .int cv), (2, .int (bA tp (vF 9) (an + 1))), (3, .int tw)])) => ?_)
                                      have hl : lv_has _ _ ([(0, .ref h0), (1, .int cv), (2, .int (bA tp (vF 9) (an + 1))), (3, .int tw), (4, .int 0)]) := lv_sub hl [1, 2, 3, 4, 0] rfl
                                      exact join2 _ _ _ _ ⟨0, rfl, hP, hD, hS, hl⟩
                                    · have t_158 : (cv).toInt = 47 := toI_nne c_158 rfl (by decide)
                                      refine lv_iconst (v := 1) hx hb dX12_takeSign_161 (by decide) ?_
                                      refine lv_goto (tgt := 166) hx hb dX12_takeSign_162 (by decide) ?_
                                      refine lv_istore hx hb dX12_takeSign_166 hl (by decide) rfl (fun ls (hl : lv_has ls _ ([(4, .int 1), (0, .ref h0), (1, .int cv), (2, .int (bA tp (vF 9) (an + 1))), (3, .int tw)])) => ?_)
                                      have hl : lv_has _ _ ([(0, .ref h0), (1, .int cv), (2, .int (bA tp (vF 9) (an + 1))), (3, .int tw), (4, .int 1)]) := lv_sub hl [1, 2, 3, 4, 0] rfl
                                      exact join2 _ _ _ _ ⟨1, rfl, hP, hD, hS, hl⟩
    · rintro H locs ls stk ⟨on, rfl, hP, hD, hS, hl⟩
      refine lv_aload_n hx hb dX12_takeSign_168 rfl (lv_at hl 0 rfl) ?_
      refine lv_iload_n hx hb dX12_takeSign_169 rfl (lv_at hl 3 rfl) ?_
      refine W.cut (pc := 186) (fun H locs ls stk => ∃ (wd : Int32), (wd = 4 ∨ wd = 5) ∧  stk = [] ∧ va_P (dC, dI) vwCl (WR a k h0 (fT vi 18 wd) vj vF vG) H ∧ va_D A (WR a k h0 (fT vi 18 wd) vj vF vG) ∧ va_S A s.heap H locs ∧ lv_has ls 5 [(0, .ref h0), (1, .int cv), (2, .int (bA tp (vF 9) (an + 1))), (3, .int tw)]) (fun join3 => ?_) ?_
      · refine lv_if_ne (tgt := 178) hx hb dX12_takeSign_170 (by decide) (fun c_170 => ?_) (fun c_170 => ?_)
        · have t_170 : (tw).toInt ≠ 0 := toI_ne c_170 rfl (by decide)
          refine lv_iconst (v := 4) hx hb dX12_takeSign_178 (by decide) ?_
          refine lv_goto (tgt := 183) hx hb dX12_takeSign_179 (by decide) ?_
          refine va_put (D := (dC, dI)) (ci := 12) (v := .int 4) (ty := .int) (C := RX12) (T := TX12) (N := 163) (fs := fM (vS a vi vj)) hx hb hts iwsRX12_takeSign_in12 tyX12 tyX12_ok nmX12 hown hK hP hD hS 0 rfl rfl 18 (by decide) (hts (.fieldLink RX12 494 "OptimaWorksModel" "word" "I") (by decide +kernel)) (fun _ h9 => h9) rfl (by decide +kernel) rfl rfl (Nat.le_of_ble_eq_true rfl) dX12_takeSign_183 (fun H locs hP hD hS => ?_)
          have hP : va_P (dC, dI) vwCl (WR a k h0 (fT vi 18 4) vj vF vG) H := by rw [← WR_i 18 _ rfl]; exact hP
          have hD : va_D A (WR a k h0 (fT vi 18 4) vj vF vG) := by rw [← WR_i 18 _ rfl]; exact hD
          have hl : lv_has _ _ ([(0, .ref h0), (1, .int cv), (2, .int (bA tp (vF 9) (an + 1))), (3, .int tw)]) := lv_sub hl [0, 1, 2, 3] rfl
          exact join3 _ _ _ _ ⟨4, Or.inl rfl, rfl, hP, hD, hS, hl⟩
        · have t_170 : (tw).toInt = 0 := toI_nne c_170 rfl (by decide)
          refine lv_iload hx hb dX12_takeSign_173 (lv_at hl 4 rfl) ?_
          refine lv_if_eq (tgt := 182) hx hb dX12_takeSign_175 (by decide) (fun c_175 => ?_) (fun c_175 => ?_)
          · have t_175 : (on).toInt = 0 := toI_eq c_175 rfl (by decide)
            refine lv_iconst (v := 5) hx hb dX12_takeSign_182 (by decide) ?_
            refine va_put (D := (dC, dI)) (ci := 12) (v := .int 5) (ty := .int) (C := RX12) (T := TX12) (N := 163) (fs := fM (vS a vi vj)) hx hb hts iwsRX12_takeSign_in12 tyX12 tyX12_ok nmX12 hown hK hP hD hS 0 rfl rfl 18 (by decide) (hts (.fieldLink RX12 494 "OptimaWorksModel" "word" "I") (by decide +kernel)) (fun _ h9 => h9) rfl (by decide +kernel) rfl rfl (Nat.le_of_ble_eq_true rfl) dX12_takeSign_183 (fun H locs hP hD hS => ?_)
            have hP : va_P (dC, dI) vwCl (WR a k h0 (fT vi 18 5) vj vF vG) H := by rw [← WR_i 18 _ rfl]; exact hP
            have hD : va_D A (WR a k h0 (fT vi 18 5) vj vF vG) := by rw [← WR_i 18 _ rfl]; exact hD
            have hl : lv_has _ _ ([(0, .ref h0), (1, .int cv), (2, .int (bA tp (vF 9) (an + 1))), (3, .int tw)]) := lv_sub hl [0, 1, 2, 3] rfl
            exact join3 _ _ _ _ ⟨5, Or.inr rfl, rfl, hP, hD, hS, hl⟩
          · have t_175 : ¬ (on).toInt = 0 := toI_neq c_175 rfl (by decide)
            refine lv_iconst (v := 4) hx hb dX12_takeSign_178 (by decide) ?_
            refine lv_goto (tgt := 183) hx hb dX12_takeSign_179 (by decide) ?_
            refine va_put (D := (dC, dI)) (ci := 12) (v := .int 4) (ty := .int) (C := RX12) (T := TX12) (N := 163) (fs := fM (vS a vi vj)) hx hb hts iwsRX12_takeSign_in12 tyX12 tyX12_ok nmX12 hown hK hP hD hS 0 rfl rfl 18 (by decide) (hts (.fieldLink RX12 494 "OptimaWorksModel" "word" "I") (by decide +kernel)) (fun _ h9 => h9) rfl (by decide +kernel) rfl rfl (Nat.le_of_ble_eq_true rfl) dX12_takeSign_183 (fun H locs hP hD hS => ?_)
            have hP : va_P (dC, dI) vwCl (WR a k h0 (fT vi 18 4) vj vF vG) H := by rw [← WR_i 18 _ rfl]; exact hP
            have hD : va_D A (WR a k h0 (fT vi 18 4) vj vF vG) := by rw [← WR_i 18 _ rfl]; exact hD
            have hl : lv_has _ _ ([(0, .ref h0), (1, .int cv), (2, .int (bA tp (vF 9) (an + 1))), (3, .int tw)]) := lv_sub hl [0, 1, 2, 3] rfl
            exact join3 _ _ _ _ ⟨4, Or.inl rfl, rfl, hP, hD, hS, hl⟩
      · rintro H locs ls stk ⟨wd, hwd, rfl, hP, hD, hS, hl⟩
        refine lv_aload_n hx hb dX12_takeSign_186 rfl (lv_at hl 0 rfl) ?_
        refine lv_iload_n hx hb dX12_takeSign_187 rfl (lv_at hl 3 rfl) ?_
        refine W.cut (pc := 233) (fun H locs ls stk => ∃ (sg : Int32),  stk = [] ∧ va_P (dC, dI) vwCl (WR a k h0 (fT (fT vi 18 wd) 20 sg) vj vF vG) H ∧ va_D A (WR a k h0 (fT (fT vi 18 wd) 20 sg) vj vF vG) ∧ va_S A s.heap H locs ∧ lv_has ls 5 [(0, .ref h0), (3, .int tw)]) (fun join4 => ?_) ?_
        · refine lv_if_ne (tgt := 195) hx hb dX12_takeSign_188 (by decide) (fun c_188 => ?_) (fun c_188 => ?_)
          · have t_188 : (tw).toInt ≠ 0 := toI_ne c_188 rfl (by decide)
            refine lv_iload_n hx hb dX12_takeSign_195 rfl (lv_at hl 1 rfl) ?_
            refine lv_bipush (v := 46) hx hb dX12_takeSign_196 (by decide) ?_
            refine lv_icmp_ne (tgt := 206) hx hb dX12_takeSign_198 (by decide) (fun c_198 => ?_) (fun c_198 => ?_)
            · have t_198 : (cv).toInt ≠ 46 := toI_ne c_198 rfl (by decide)
              refine lv_iload_n hx hb dX12_takeSign_206 rfl (lv_at hl 2 rfl) ?_
              refine lv_bipush (v := 62) hx hb dX12_takeSign_207 (by decide) ?_
              refine lv_icmp_ne (tgt := 217) hx hb dX12_takeSign_209 (by decide) (fun c_209 => ?_) (fun c_209 => ?_)
              · have t_209 : ((bA tp (vF 9) (an + 1))).toInt ≠ 62 := toI_ne c_209 rfl (by decide)
                refine lv_iload_n hx hb dX12_takeSign_217 rfl (lv_at hl 1 rfl) ?_
                refine lv_bipush (v := 60) hx hb dX12_takeSign_218 (by decide) ?_
                refine lv_icmp_ne (tgt := 228) hx hb dX12_takeSign_220 (by decide) (fun c_220 => ?_) (fun c_220 => ?_)
                · have t_220 : (cv).toInt ≠ 60 := toI_ne c_220 rfl (by decide)
                  refine lv_bipush (v := 71) hx hb dX12_takeSign_228 (by decide) ?_
                  refine va_put (D := (dC, dI)) (ci := 12) (v := .int 71) (ty := .int) (C := RX12) (T := TX12) (N := 163) (fs := fM (vS a (fT vi 18 wd) vj)) hx hb hts iwsRX12_takeSign_in12 tyX12 tyX12_ok nmX12 hown hK hP hD hS 0 rfl rfl 20 (by decide) (hts (.fieldLink RX12 491 "OptimaWorksModel" "sign0" "I") (by decide +kernel)) (fun _ h9 => h9) rfl (by decide +kernel) rfl rfl (Nat.le_of_ble_eq_true rfl) dX12_takeSign_230 (fun H locs hP hD hS => ?_)
                  have hP : va_P (dC, dI) vwCl (WR a k h0 (fT (fT vi 18 wd) 20 71) vj vF vG) H := by rw [← WR_i 20 _ rfl]; exact hP
                  have hD : va_D A (WR a k h0 (fT (fT vi 18 wd) 20 71) vj vF vG) := by rw [← WR_i 20 _ rfl]; exact hD
                  have hl : lv_has _ _ ([(0, .ref h0), (3, .int tw)]) := lv_sub hl [0, 3] rfl
                  exact join4 _ _ _ _ ⟨71, rfl, hP, hD, hS, hl⟩
                · have t_220 : (cv).toInt = 60 := toI_nne c_220 rfl (by decide)
                  refine lv_bipush (v := 76) hx hb dX12_takeSign_223 (by decide) ?_
                  refine lv_goto (tgt := 230) hx hb dX12_takeSign_225 (by decide) ?_
                  refine va_put (D := (dC, dI)) (ci := 12) (v := .int 76) (ty := .int) (C := RX12) (T := TX12) (N := 163) (fs := fM (vS a (fT vi 18 wd) vj)) hx hb hts iwsRX12_takeSign_in12 tyX12 tyX12_ok nmX12 hown hK hP hD hS 0 rfl rfl 20 (by decide) (hts (.fieldLink RX12 491 "OptimaWorksModel" "sign0" "I") (by decide +kernel)) (fun _ h9 => h9) rfl (by decide +kernel) rfl rfl (Nat.le_of_ble_eq_true rfl) dX12_takeSign_230 (fun H locs hP hD hS => ?_)
                  have hP : va_P (dC, dI) vwCl (WR a k h0 (fT (fT vi 18 wd) 20 76) vj vF vG) H := by rw [← WR_i 20 _ rfl]; exact hP
                  have hD : va_D A (WR a k h0 (fT (fT vi 18 wd) 20 76) vj vF vG) := by rw [← WR_i 20 _ rfl]; exact hD
                  have hl : lv_has _ _ ([(0, .ref h0), (3, .int tw)]) := lv_sub hl [0, 3] rfl
                  exact join4 _ _ _ _ ⟨76, rfl, hP, hD, hS, hl⟩
              · have t_209 : ((bA tp (vF 9) (an + 1))).toInt = 62 := toI_nne c_209 rfl (by decide)
                refine lv_bipush (v := 78) hx hb dX12_takeSign_212 (by decide) ?_
                refine lv_goto (tgt := 230) hx hb dX12_takeSign_214 (by decide) ?_
                refine va_put (D := (dC, dI)) (ci := 12) (v := .int 78) (ty := .int) (C := RX12) (T := TX12) (N := 163) (fs := fM (vS a (fT vi 18 wd) vj)) hx hb hts iwsRX12_takeSign_in12 tyX12 tyX12_ok nmX12 hown hK hP hD hS 0 rfl rfl 20 (by decide) (hts (.fieldLink RX12 491 "OptimaWorksModel" "sign0" "I") (by decide +kernel)) (fun _ h9 => h9) rfl (by decide +kernel) rfl rfl (Nat.le_of_ble_eq_true rfl) dX12_takeSign_230 (fun H locs hP hD hS => ?_)
                have hP : va_P (dC, dI) vwCl (WR a k h0 (fT (fT vi 18 wd) 20 78) vj vF vG) H := by rw [← WR_i 20 _ rfl]; exact hP
                have hD : va_D A (WR a k h0 (fT (fT vi 18 wd) 20 78) vj vF vG) := by rw [← WR_i 20 _ rfl]; exact hD
                have hl : lv_has _ _ ([(0, .ref h0), (3, .int tw)]) := lv_sub hl [0, 3] rfl
                exact join4 _ _ _ _ ⟨78, rfl, hP, hD, hS, hl⟩
            · have t_198 : (cv).toInt = 46 := toI_nne c_198 rfl (by decide)
              refine lv_bipush (v := 46) hx hb dX12_takeSign_201 (by decide) ?_
              refine lv_goto (tgt := 230) hx hb dX12_takeSign_203 (by decide) ?_
              refine va_put (D := (dC, dI)) (ci := 12) (v := .int 46) (ty := .int) (C := RX12) (T := TX12) (N := 163) (fs := fM (vS a (fT vi 18 wd) vj)) hx hb hts iwsRX12_takeSign_in12 tyX12 tyX12_ok nmX12 hown hK hP hD hS 0 rfl rfl 20 (by decide) (hts (.fieldLink RX12 491 "OptimaWorksModel" "sign0" "I") (by decide +kernel)) (fun _ h9 => h9) rfl (by decide +kernel) rfl rfl (Nat.le_of_ble_eq_true rfl) dX12_takeSign_230 (fun H locs hP hD hS => ?_)
              have hP : va_P (dC, dI) vwCl (WR a k h0 (fT (fT vi 18 wd) 20 46) vj vF vG) H := by rw [← WR_i 20 _ rfl]; exact hP
              have hD : va_D A (WR a k h0 (fT (fT vi 18 wd) 20 46) vj vF vG) := by rw [← WR_i 20 _ rfl]; exact hD
              have hl : lv_has _ _ ([(0, .ref h0), (3, .int tw)]) := lv_sub hl [0, 3] rfl
              exact join4 _ _ _ _ ⟨46, rfl, hP, hD, hS, hl⟩
          · have t_188 : (tw).toInt = 0 := toI_nne c_188 rfl (by decide)
            refine lv_iload_n hx hb dX12_takeSign_191 rfl (lv_at hl 1 rfl) ?_
            refine lv_goto (tgt := 230) hx hb dX12_takeSign_192 (by decide) ?_
            refine va_put (D := (dC, dI)) (ci := 12) (v := .int cv) (ty := .int) (C := RX12) (T := TX12) (N := 163) (fs := fM (vS a (fT vi 18 wd) vj)) hx hb hts iwsRX12_takeSign_in12 tyX12 tyX12_ok nmX12 hown hK hP hD hS 0 rfl rfl 20 (by decide) (hts (.fieldLink RX12 491 "OptimaWorksModel" "sign0" "I") (by decide +kernel)) (fun _ h9 => h9) rfl (by decide +kernel) rfl rfl (Nat.le_of_ble_eq_true rfl) dX12_takeSign_230 (fun H locs hP hD hS => ?_)
            have hP : va_P (dC, dI) vwCl (WR a k h0 (fT (fT vi 18 wd) 20 cv) vj vF vG) H := by rw [← WR_i 20 _ rfl]; exact hP
            have hD : va_D A (WR a k h0 (fT (fT vi 18 wd) 20 cv) vj vF vG) := by rw [← WR_i 20 _ rfl]; exact hD
            have hl : lv_has _ _ ([(0, .ref h0), (3, .int tw)]) := lv_sub hl [0, 3] rfl
            exact join4 _ _ _ _ ⟨cv, rfl, hP, hD, hS, hl⟩
        · rintro H locs ls stk ⟨sg, rfl, hP, hD, hS, hl⟩
          refine lv_aload_n hx hb dX12_takeSign_233 rfl (lv_at hl 0 rfl) ?_
          refine lv_dup hx hb dX12_takeSign_234 rfl ?_
          refine va_get (D := (dC, dI)) (ci := 12) (v := .int (vi 17)) (C := RX12) (T := TX12) (N := 163) (fs := fM (vS a (fT (fT vi 18 wd) 20 sg) vj)) hx hb hts iwsRX12_takeSign_in12 hown hK hP 0 rfl rfl 17 (by decide) (hts (.fieldLink RX12 485 "OptimaWorksModel" "at0" "I") (by decide +kernel)) (fun _ h9 => h9) rfl dX12_takeSign_235 ?_
          refine lv_topi (fun y3 hy3 => ?_)
          obtain rfl : (nI an) = y3 := (hy3.trans (ha0)).symm
          refine lv_iload_n hx hb dX12_takeSign_238 rfl (lv_at hl 1 rfl) ?_
          refine lv_if_eq (tgt := 246) hx hb dX12_takeSign_239 (by decide) (fun c_239 => ?_) (fun c_239 => ?_)
          · have t_239 : (tw).toInt = 0 := toI_eq c_239 rfl (by decide)
            refine lv_iconst (v := 1) hx hb dX12_takeSign_246 (by decide) ?_
            refine lv_iadd hx hb dX12_takeSign_247 ?_
            refine lv_topi (fun y4 hy4 => ?_)
            obtain rfl : (nI (an + 1)) = y4 := (hy4.trans (nI_add an 1)).symm
            refine va_put (D := (dC, dI)) (ci := 12) (v := .int (nI (an + 1))) (ty := .int) (C := RX12) (T := TX12) (N := 163) (fs := fM (vS a (fT (fT vi 18 wd) 20 sg) vj)) hx hb hts iwsRX12_takeSign_in12 tyX12 tyX12_ok nmX12 hown hK hP hD hS 0 rfl rfl 17 (by decide) (hts (.fieldLink RX12 485 "OptimaWorksModel" "at0" "I") (by decide +kernel)) (fun _ h9 => h9) rfl (by decide +kernel) rfl rfl (Nat.le_of_ble_eq_true rfl) dX12_takeSign_248 (fun H locs hP hD hS => ?_)
            have hP : va_P (dC, dI) vwCl (WR a k h0 (fT (fT (fT vi 18 wd) 20 sg) 17 (nI (an + 1))) vj vF vG) H := by rw [← WR_i 17 _ rfl]; exact hP
            have hD : va_D A (WR a k h0 (fT (fT (fT vi 18 wd) 20 sg) 17 (nI (an + 1))) vj vF vG) := by rw [← WR_i 17 _ rfl]; exact hD
            refine W.widen (k := 0) (n := 0) (by decide +kernel) (by decide +kernel) ?_
            exact W.vret hx hb hr (fun t9_ ht hW => ⟨⟨((an + 1), sg, wd), rfl, by (try dsimp only); exact ⟨by omega, by omega, hwd⟩, by rw [ht]; exact hP, hD⟩, hS.F ht⟩) hS.2.2 dX12_takeSign_251
          · have t_239 : ¬ (tw).toInt = 0 := toI_neq c_239 rfl (by decide)
            refine lv_iconst (v := 2) hx hb dX12_takeSign_242 (by decide) ?_
            refine lv_goto (tgt := 247) hx hb dX12_takeSign_243 (by decide) ?_
            refine lv_iadd hx hb dX12_takeSign_247 ?_
            refine lv_topi (fun y5 hy5 => ?_)
            obtain rfl : (nI (an + 2)) = y5 := (hy5.trans (nI_add an 2)).symm
            refine va_put (D := (dC, dI)) (ci := 12) (v := .int (nI (an + 2))) (ty := .int) (C := RX12) (T := TX12) (N := 163) (fs := fM (vS a (fT (fT vi 18 wd) 20 sg) vj)) hx hb hts iwsRX12_takeSign_in12 tyX12 tyX12_ok nmX12 hown hK hP hD hS 0 rfl rfl 17 (by decide) (hts (.fieldLink RX12 485 "OptimaWorksModel" "at0" "I") (by decide +kernel)) (fun _ h9 => h9) rfl (by decide +kernel) rfl rfl (Nat.le_of_ble_eq_true rfl) dX12_takeSign_248 (fun H locs hP hD hS => ?_)
            have hP : va_P (dC, dI) vwCl (WR a k h0 (fT (fT (fT vi 18 wd) 20 sg) 17 (nI (an + 2))) vj vF vG) H := by rw [← WR_i 17 _ rfl]; exact hP
            have hD : va_D A (WR a k h0 (fT (fT (fT vi 18 wd) 20 sg) 17 (nI (an + 2))) vj vF vG) := by rw [← WR_i 17 _ rfl]; exact hD
            refine W.widen (k := 0) (n := 0) (by decide +kernel) (by decide +kernel) ?_
            exact W.vret hx hb hr (fun t9_ ht hW => ⟨⟨((an + 2), sg, wd), rfl, by (try dsimp only); exact ⟨by omega, by (have h9 := htw.2 (htw.1.resolve_left c_239)); omega, hwd⟩, by rw [ht]; exact hP, hD⟩, hS.F ht⟩) hS.2.2 dX12_takeSign_251
end
section
/-- texts on the tape, by place and length -/
def NmO (f g : Nat → Int32) (n : Nat) : Prop := ∀ k, k < n → ∃ x y : Nat, f k = nI x ∧ g k = nI y ∧ x + y ≤ 4000
end
section
theorem hd_yX12_sameText_RX12 : yX12_sameText.cls = RX12 ∧ yX12_sameText.cls ≠ "java/lang/invoke/MethodHandle" ∧ yX12_sameText.cls ≠ "java/lang/invoke/VarHandle" ∧ (parseMethodDescriptor yX12_sameText.desc).map (fun d => d.parameters.length) = some 4 := by decide +kernel
theorem dX12_sameText_0 : decode cX12_sameText 0 = .ok (.iload_n 2, 1) := dk_28 (by decide +kernel)
theorem dX12_sameText_1 : decode cX12_sameText 1 = .ok (.iload 4, 2) := dk_21 (by decide +kernel)
theorem dX12_sameText_3 : decode cX12_sameText 3 = .ok (.if_icmp .ne 7, 3) := dk_160 (by decide +kernel)
theorem dX12_sameText_6 : decode cX12_sameText 6 = .ok (.iconst 1, 1) := dk_4 (by decide +kernel)
theorem dX12_sameText_7 : decode cX12_sameText 7 = .ok (.goto 4, 3) := dk_167 (by decide +kernel)
theorem dX12_sameText_10 : decode cX12_sameText 10 = .ok (.iconst 0, 1) := dk_3 (by decide +kernel)
theorem dX12_sameText_11 : decode cX12_sameText 11 = .ok (.istore 5, 2) := dk_54 (by decide +kernel)
theorem dX12_sameText_13 : decode cX12_sameText 13 = .ok (.iconst 0, 1) := dk_3 (by decide +kernel)
theorem dX12_sameText_14 : decode cX12_sameText 14 = .ok (.istore 6, 2) := dk_54 (by decide +kernel)
theorem dX12_sameText_16 : decode cX12_sameText 16 = .ok (.iload 6, 2) := dk_21 (by decide +kernel)
theorem dX12_sameText_18 : decode cX12_sameText 18 = .ok (.iload_n 2, 1) := dk_28 (by decide +kernel)
theorem dX12_sameText_19 : decode cX12_sameText 19 = .ok (.if_icmp .ge 42, 3) := dk_162 (by decide +kernel)
theorem dX12_sameText_22 : decode cX12_sameText 22 = .ok (.iload 5, 2) := dk_21 (by decide +kernel)
theorem dX12_sameText_24 : decode cX12_sameText 24 = .ok (.ifCond .eq 37, 3) := dk_153 (by decide +kernel)
theorem dX12_sameText_27 : decode cX12_sameText 27 = .ok (.aload_n 0, 1) := dk_42 (by decide +kernel)
theorem dX12_sameText_28 : decode cX12_sameText 28 = .ok (.getfield 39, 3) := dk_180 (by decide +kernel)
theorem dX12_sameText_31 : decode cX12_sameText 31 = .ok (.iload_n 1, 1) := dk_27 (by decide +kernel)
theorem dX12_sameText_32 : decode cX12_sameText 32 = .ok (.iload 6, 2) := dk_21 (by decide +kernel)
theorem dX12_sameText_34 : decode cX12_sameText 34 = .ok (.iadd, 1) := dk_96 (by decide +kernel)
theorem dX12_sameText_35 : decode cX12_sameText 35 = .ok (.baload, 1) := dk_51 (by decide +kernel)
theorem dX12_sameText_36 : decode cX12_sameText 36 = .ok (.aload_n 0, 1) := dk_42 (by decide +kernel)
theorem dX12_sameText_37 : decode cX12_sameText 37 = .ok (.getfield 39, 3) := dk_180 (by decide +kernel)
theorem dX12_sameText_40 : decode cX12_sameText 40 = .ok (.iload_n 3, 1) := dk_29 (by decide +kernel)
theorem dX12_sameText_41 : decode cX12_sameText 41 = .ok (.iload 6, 2) := dk_21 (by decide +kernel)
theorem dX12_sameText_43 : decode cX12_sameText 43 = .ok (.iadd, 1) := dk_96 (by decide +kernel)
theorem dX12_sameText_44 : decode cX12_sameText 44 = .ok (.baload, 1) := dk_51 (by decide +kernel)
theorem dX12_sameText_45 : decode cX12_sameText 45 = .ok (.if_icmp .ne 7, 3) := dk_160 (by decide +kernel)
theorem dX12_sameText_48 : decode cX12_sameText 48 = .ok (.iconst 1, 1) := dk_4 (by decide +kernel)
theorem dX12_sameText_49 : decode cX12_sameText 49 = .ok (.goto 4, 3) := dk_167 (by decide +kernel)
theorem dX12_sameText_52 : decode cX12_sameText 52 = .ok (.iconst 0, 1) := dk_3 (by decide +kernel)
theorem dX12_sameText_53 : decode cX12_sameText 53 = .ok (.istore 5, 2) := dk_54 (by decide +kernel)
theorem dX12_sameText_55 : decode cX12_sameText 55 = .ok (.iinc 6 1, 3) := dk_132 (by decide +kernel)
theorem dX12_sameText_58 : decode cX12_sameText 58 = .ok (.goto (-42), 3) := dk_167 (by decide +kernel)
theorem dX12_sameText_61 : decode cX12_sameText 61 = .ok (.iload 5, 2) := dk_21 (by decide +kernel)
theorem dX12_sameText_63 : decode cX12_sameText 63 = .ok (.ireturn, 1) := dk_172 (by decide +kernel)
def wsRX12_sameText : List Cond := .code yX12_sameText cX12_sameText 7 (some .boolean) :: ([.fieldLink RX12 39 "OptimaWorksModel" "tape" "[B"] ++ wsX120)
theorem iwsRX12_sameText_in12 : ∀ w ∈ wsX120, w ∈ wsRX12_sameText := fun _ h => List.mem_cons_of_mem _ (List.mem_append_right _ h)
theorem gdwsRX12_sameText : wsRX12_sameText.all goodWord = true := gdC rfl (gdA (by decide +kernel : ([.fieldLink RX12 39 "OptimaWorksModel" "tape" "[B"] : List Cond).all goodWord = true) gdwsX120)
set_option maxHeartbeats 4000000 in
set_option maxRecDepth 100000 in
/-- sameText(a, n, b, m) -/
theorem r_X12_sameText (l : Launch) (dC : Nat → ClassId) (dI : Nat → Nat → Nat) (a : Nat → Nat) (k : Nat → ClassId) (h0 : Nat) (vi : Nat → Int32) (vj : Nat → Int64) (vF : Nat → Nat → Int32) (vG : Nat → Nat → Int64) (xa : Nat) (xn : Nat) (xb : Nat) (xm : Nat) (h1 : xa + xn ≤ 4000) (h2 : xb + xm ≤ 4000) (sz : Nat) : Met l yX12_sameText wsRX12_sameText ({ frames := 0, cells := 0, slots := 0, locals := 0 }) (va_Pc [.ref h0, .int (nI xa), .int (nI xn), .int (nI xb), .int (nI xm)] (fun U => U.heap.size = sz ∧ va_P (dC, dI) vwCl (WR a k h0 vi vj vF vG) U.heap ∧ va_K (dC, dI) vwCl (tX12 k) U ∧ va_D (fun _ => True) (WR a k h0 vi vj vF vG))) (va_Qi (fun (r : Int32) (u : Unit) => ((r) = 0 ∨ (r) = 1)) (fun (u : Unit) t => va_P (dC, dI) vwCl (WR a k h0 vi vj vF vG) t.heap ∧ va_D (va_A (WR a k h0 vi vj vF vG) sz) (WR a k h0 vi vj vF vG)) (va_A (WR a k h0 vi vj vF vG) sz)) 0 0 (va_A (WR a k h0 vi vj vF vG) sz) := by
  refine Met.ofW (cc := cX12_sameText) (maxL := 7) (ret := (some .boolean)) (by decide) rfl ?_
  intro p e s m args below meth c s₁ B hml hv
  obtain ⟨rfl, hsz, hP, hK, hD0⟩ := hv
  have hx := B.exec
  have hb := B.bytes
  have hr := B.returns
  have hts := atoms_spec (ws := wsRX12_sameText) B.pre
  have hown : s.vm.findClass RX12 = some m.cls := findClass_of_methodNamed B.named
  have hlocks := B.notSynchronized
  subst hsz
  have hD := hD0.self (sz := s.heap.size)
  generalize hAe : va_A (WR a k h0 vi vj vF vG) s.heap.size = A at hD ⊢
  have hA : ∀ q : Nat, s.heap.size ≤ q → A q := fun q h => by rw [← hAe]; exact Or.inr h
  have hS : va_S A s.heap s.heap [] := va_S.rf
  have hl := lv_entry ([.ref h0, .int (nI xa), .int (nI xn), .int (nI xb), .int (nI xm)]) (n := 7) (Nat.le_of_ble_eq_true rfl)
  rw [lg_entry_eq]
  generalize (lg_sl ([.ref h0, .int (nI xa), .int (nI xn), .int (nI xb), .int (nI xm)]) ++ List.replicate (7 - (lg_sl ([.ref h0, .int (nI xa), .int (nI xn), .int (nI xb), .int (nI xm)])).length) Slot.unset).toArray = ls at hl ⊢
  have hl : lv_has ls 7 [(0, .ref h0), (1, .int (nI xa)), (2, .int (nI xn)), (3, .int (nI xb)), (4, .int (nI xm))] := hl
  refine lv_iload_n hx hb dX12_sameText_0 rfl (lv_at hl 2 rfl) ?_
  refine lv_iload hx hb dX12_sameText_1 (lv_at hl 4 rfl) ?_
  refine W.cut (pc := 13) (fun H locs ls stk => ∃ (zq : Int32), ((zq = 0) ∨ (zq = 1 ∧ xn = xm)) ∧  stk = [] ∧ va_P (dC, dI) vwCl (WR a k h0 vi vj vF vG) H ∧ va_D A (WR a k h0 vi vj vF vG) ∧ va_S A s.heap H locs ∧ lv_has ls 7 [(0, .ref h0), (1, .int (nI xa)), (2, .int (nI xn)), (3, .int (nI xb)), (5, .int zq)]) (fun join1 => ?_) ?_
  · refine lv_icmp_ne (tgt := 10) hx hb dX12_sameText_3 (by decide) (fun c_3 => ?_) (fun c_3 => ?_)
    · have t_3 : ((xn : Nat) : Int) ≠ ((xm : Nat) : Int) := toI_ne c_3 (nI_toInt (by omega)) (nI_toInt (by omega))
      refine lv_iconst (v := 0) hx hb dX12_sameText_10 (by decide) ?_
      refine lv_istore hx hb dX12_sameText_11 hl (by decide) rfl (fun ls (hl : lv_has ls _ ([(5, .int 0), (0, .ref h0), (1, .int (nI xa)), (2, .int (nI xn)), (3, .int (nI xb)), (4, .int (nI xm))])) => ?_)
      have hl : lv_has _ _ ([(0, .ref h0), (1, .int (nI xa)), (2, .int (nI xn)), (3, .int (nI xb)), (5, .int 0)]) := lv_sub hl [1, 2, 3, 4, 0] rfl
      exact join1 _ _ _ _ ⟨0, Or.inl rfl, rfl, hP, hD, hS, hl⟩
    · have t_3 : ((xn : Nat) : Int) = ((xm : Nat) : Int) := toI_nne c_3 (nI_toInt (by omega)) (nI_toInt (by omega))
      refine lv_iconst (v := 1) hx hb dX12_sameText_6 (by decide) ?_
      refine lv_goto (tgt := 11) hx hb dX12_sameText_7 (by decide) ?_
      refine lv_istore hx hb dX12_sameText_11 hl (by decide) rfl (fun ls (hl : lv_has ls _ ([(5, .int 1), (0, .ref h0), (1, .int (nI xa)), (2, .int (nI xn)), (3, .int (nI xb)), (4, .int (nI xm))])) => ?_)
      have hl : lv_has _ _ ([(0, .ref h0), (1, .int (nI xa)), (2, .int (nI xn)), (3, .int (nI xb)), (5, .int 1)]) := lv_sub hl [1, 2, 3, 4, 0] rfl
      exact join1 _ _ _ _ ⟨1, Or.inr ⟨rfl, by omega⟩, rfl, hP, hD, hS, hl⟩
  · rintro H locs ls stk ⟨zq, hzq, rfl, hP, hD, hS, hl⟩
    refine lv_iconst (v := 0) hx hb dX12_sameText_13 (by decide) ?_
    refine lv_istore hx hb dX12_sameText_14 hl (by decide) rfl (fun ls (hl : lv_has ls _ ([(6, .int 0), (0, .ref h0), (1, .int (nI xa)), (2, .int (nI xn)), (3, .int (nI xb)), (5, .int zq)])) => ?_)
    have hl : lv_has _ _ ([(0, .ref h0), (1, .int (nI xa)), (2, .int (nI xn)), (3, .int (nI xb)), (5, .int zq), (6, .int (nI 0))]) := lv_sub hl [1, 2, 3, 4, 5, 0] rfl
    refine (fun (loop : ∀ (n9 : Nat) (k5 : Nat) (zw : Int32) (H : Heap) (locs : List Loc) (ls : Array Slot), (k5 ≤ xn) → ((zw = 0) ∨ (zw = 1 ∧ xn = xm)) →  (xn < k5 + n9) → va_P (dC, dI) vwCl (WR a k h0 vi vj vF vG) H → va_D A (WR a k h0 vi vj vF vG) → va_S A s.heap H locs → lv_has ls 7 [(0, .ref h0), (1, .int (nI xa)), (2, .int (nI xn)), (3, .int (nI xb)), (5, .int zw), (6, .int (nI k5))] → W p l e _ s m _ below meth c H locs 0 0 _ (F0 m 16 ls [])) => loop (xn + 1) 0 zq _ _ _ (by omega) (hzq) (by omega) hP hD hS hl) ?_
    intro n9
    induction n9 with
    | zero => intro k5 zw H locs ls hk5 hzw hf9; exact False.elim (by omega)
    | succ n9 ih16 =>
      intro k5 zw H locs ls hk5 hzw hf16 hP hD hS hl
      refine lv_iload hx hb dX12_sameText_16 (lv_at hl 5 rfl) ?_
      refine lv_iload_n hx hb dX12_sameText_18 rfl (lv_at hl 2 rfl) ?_
      refine lv_icmp_ge (tgt := 61) hx hb dX12_sameText_19 (by decide) (fun c_19 => ?_) (fun c_19 => ?_)
      · have t_19 : ((k5 : Nat) : Int) ≥ ((xn : Nat) : Int) := toI_ge c_19 (nI_toInt (by omega)) (nI_toInt (by omega))
        refine lv_iload hx hb dX12_sameText_61 (lv_at hl 4 rfl) ?_
        refine W.widen (k := 0) (n := 0) (by decide +kernel) (by decide +kernel) ?_
        exact W.zret (v := zw) hx hb hr (by rcases hzw with h9 | h9; (rw [h9]; rfl); (rw [h9.1]; rfl)) (fun t9_ ht hW => ⟨⟨zw, (), rfl, by (try dsimp only); rcases hzw with h9 | h9; (exact Or.inl h9); (exact Or.inr h9.1), by rw [ht]; exact hP, hD⟩, hS.F ht⟩) hS.2.2 dX12_sameText_63
      · have t_19 : ¬ ((k5 : Nat) : Int) ≥ ((xn : Nat) : Int) := toI_nge c_19 (nI_toInt (by omega)) (nI_toInt (by omega))
        refine lv_iload hx hb dX12_sameText_22 (lv_at hl 4 rfl) ?_
        refine lv_if_eq (tgt := 61) hx hb dX12_sameText_24 (by decide) (fun c_24 => ?_) (fun c_24 => ?_)
        · have t_24 : (zw).toInt = 0 := toI_eq c_24 rfl (by decide)
          refine lv_iload hx hb dX12_sameText_61 (lv_at hl 4 rfl) ?_
          refine W.widen (k := 0) (n := 0) (by decide +kernel) (by decide +kernel) ?_
          exact W.zret (v := zw) hx hb hr (by rcases hzw with h9 | h9; (rw [h9]; rfl); (rw [h9.1]; rfl)) (fun t9_ ht hW => ⟨⟨zw, (), rfl, by (try dsimp only); rcases hzw with h9 | h9; (exact Or.inl h9); (exact Or.inr h9.1), by rw [ht]; exact hP, hD⟩, hS.F ht⟩) hS.2.2 dX12_sameText_63
        · have t_24 : ¬ (zw).toInt = 0 := toI_neq c_24 rfl (by decide)
          have hm9 : xn = xm := (hzw.resolve_left c_24).2
          refine lv_aload_n hx hb dX12_sameText_27 rfl (lv_at hl 0 rfl) ?_
          refine va_get (D := (dC, dI)) (ci := 12) (v := .ref (a 9)) (C := RX12) (T := TX12) (N := 163) (fs := fM (vS a vi vj)) hx hb hts iwsRX12_sameText_in12 hown hK hP 0 rfl rfl 15 (by decide) (hts (.fieldLink RX12 39 "OptimaWorksModel" "tape" "[B") (by decide +kernel)) (fun _ h9 => h9) rfl dX12_sameText_28 ?_
          refine lv_iload_n hx hb dX12_sameText_31 rfl (lv_at hl 1 rfl) ?_
          refine lv_iload hx hb dX12_sameText_32 (lv_at hl 5 rfl) ?_
          refine lv_iadd hx hb dX12_sameText_34 ?_
          refine lv_topi (fun y1 hy1 => ?_)
          obtain rfl : (nI (xa + k5)) = y1 := (hy1.trans (nI_add xa k5)).symm
          refine va_bald (cA := k 9) (n := 4000) (f := (vF 9)) hx hb hK hP 10 9 (WR_get 9 (by decide)) (TR_get 9 (by decide)) (vp_in_nI (show (xa + k5) < 4000 by omega) (by omega)) dX12_sameText_35 ?_
          refine lv_topi (fun y2 hy2 => ?_)
          obtain rfl : ((vF 9) (xa + k5)) = y2 := (hy2.trans (by rw [nI_clamp (by omega)])).symm
          refine lv_aload_n hx hb dX12_sameText_36 rfl (lv_at hl 0 rfl) ?_
          refine va_get (D := (dC, dI)) (ci := 12) (v := .ref (a 9)) (C := RX12) (T := TX12) (N := 163) (fs := fM (vS a vi vj)) hx hb hts iwsRX12_sameText_in12 hown hK hP 0 rfl rfl 15 (by decide) (hts (.fieldLink RX12 39 "OptimaWorksModel" "tape" "[B") (by decide +kernel)) (fun _ h9 => h9) rfl dX12_sameText_37 ?_
          refine lv_iload_n hx hb dX12_sameText_40 rfl (lv_at hl 3 rfl) ?_
          refine lv_iload hx hb dX12_sameText_41 (lv_at hl 5 rfl) ?_
          refine lv_iadd hx hb dX12_sameText_43 ?_
          refine lv_topi (fun y3 hy3 => ?_)
          obtain rfl : (nI (xb + k5)) = y3 := (hy3.trans (nI_add xb k5)).symm
          refine va_bald (cA := k 9) (n := 4000) (f := (vF 9)) hx hb hK hP 10 9 (WR_get 9 (by decide)) (TR_get 9 (by decide)) (vp_in_nI (show (xb + k5) < 4000 by omega) (by omega)) dX12_sameText_44 ?_
          refine lv_topi (fun y4 hy4 => ?_)
          obtain rfl : ((vF 9) (xb + k5)) = y4 := (hy4.trans (by rw [nI_clamp (by omega)])).symm
          refine lv_icmp_ne (tgt := 52) hx hb dX12_sameText_45 (by decide) (fun c_45 => ?_) (fun c_45 => ?_)
          · have t_45 : (((vF 9) (xa + k5))).toInt ≠ (((vF 9) (xb + k5))).toInt := toI_ne c_45 rfl rfl
            refine lv_iconst (v := 0) hx hb dX12_sameText_52 (by decide) ?_
            refine lv_istore hx hb dX12_sameText_53 hl (by decide) rfl (fun ls (hl : lv_has ls _ ([(5, .int 0), (0, .ref h0), (1, .int (nI xa)), (2, .int (nI xn)), (3, .int (nI xb)), (6, .int (nI k5))])) => ?_)
            refine lv_iinc (v := (nI (k5 + 1))) hx hb dX12_sameText_55 hl (k := 5) rfl (nI_add k5 1) (by decide) rfl (fun ls (hl : lv_has ls _ ([(6, .int (nI (k5 + 1))), (5, .int 0), (0, .ref h0), (1, .int (nI xa)), (2, .int (nI xn)), (3, .int (nI xb))])) => ?_)
            refine lv_goto (tgt := 16) hx hb dX12_sameText_58 (by decide) ?_
            have hl : lv_has _ _ ([(0, .ref h0), (1, .int (nI xa)), (2, .int (nI xn)), (3, .int (nI xb)), (5, .int 0), (6, .int (nI (k5 + 1)))]) := lv_sub hl [2, 3, 4, 5, 1, 0] rfl
            exact ih16 (k5 + 1) 0 _ _ _ (by omega) (Or.inl rfl) (by omega) hP hD hS hl
          · have t_45 : (((vF 9) (xa + k5))).toInt = (((vF 9) (xb + k5))).toInt := toI_nne c_45 rfl rfl
            refine lv_iconst (v := 1) hx hb dX12_sameText_48 (by decide) ?_
            refine lv_goto (tgt := 53) hx hb dX12_sameText_49 (by decide) ?_
            refine lv_istore hx hb dX12_sameText_53 hl (by decide) rfl (fun ls (hl : lv_has ls _ ([(5, .int 1), (0, .ref h0), (1, .int (nI xa)), (2, .int (nI xn)), (3, .int (nI xb)), (6, .int (nI k5))])) => ?_)
            refine lv_iinc (v := (nI (k5 + 1))) hx hb dX12_sameText_55 hl (k := 5) rfl (nI_add k5 1) (by decide) rfl (fun ls (hl : lv_has ls _ ([(6, .int (nI (k5 + 1))), (5, .int 1), (0, .ref h0), (1, .int (nI xa)), (2, .int (nI xn)), (3, .int (nI xb))])) => ?_)
            refine lv_goto (tgt := 16) hx hb dX12_sameText_58 (by decide) ?_
            have hl : lv_has _ _ ([(0, .ref h0), (1, .int (nI xa)), (2, .int (nI xn)), (3, .int (nI xb)), (5, .int 1), (6, .int (nI (k5 + 1)))]) := lv_sub hl [2, 3, 4, 5, 1, 0] rfl
            exact ih16 (k5 + 1) 1 _ _ _ (by omega) (Or.inr ⟨rfl, hm9⟩) (by omega) hP hD hS hl
theorem dX12_declared_0 : decode cX12_declared 0 = .ok (.iconst 0, 1) := dk_3 (by decide +kernel)
theorem dX12_declared_1 : decode cX12_declared 1 = .ok (.istore_n 1, 1) := dk_60 (by decide +kernel)
theorem dX12_declared_2 : decode cX12_declared 2 = .ok (.iload_n 1, 1) := dk_27 (by decide +kernel)
theorem dX12_declared_3 : decode cX12_declared 3 = .ok (.aload_n 0, 1) := dk_42 (by decide +kernel)
theorem dX12_declared_4 : decode cX12_declared 4 = .ok (.getfield 533, 3) := dk_180 (by decide +kernel)
theorem dX12_declared_7 : decode cX12_declared 7 = .ok (.if_icmp .ge 43, 3) := dk_162 (by decide +kernel)
theorem dX12_declared_10 : decode cX12_declared 10 = .ok (.aload_n 0, 1) := dk_42 (by decide +kernel)
theorem dX12_declared_11 : decode cX12_declared 11 = .ok (.aload_n 0, 1) := dk_42 (by decide +kernel)
theorem dX12_declared_12 : decode cX12_declared 12 = .ok (.getfield 53, 3) := dk_180 (by decide +kernel)
theorem dX12_declared_15 : decode cX12_declared 15 = .ok (.iload_n 1, 1) := dk_27 (by decide +kernel)
theorem dX12_declared_16 : decode cX12_declared 16 = .ok (.iaload, 1) := dk_46 (by decide +kernel)
theorem dX12_declared_17 : decode cX12_declared 17 = .ok (.aload_n 0, 1) := dk_42 (by decide +kernel)
theorem dX12_declared_18 : decode cX12_declared 18 = .ok (.getfield 56, 3) := dk_180 (by decide +kernel)
theorem dX12_declared_21 : decode cX12_declared 21 = .ok (.iload_n 1, 1) := dk_27 (by decide +kernel)
theorem dX12_declared_22 : decode cX12_declared 22 = .ok (.iaload, 1) := dk_46 (by decide +kernel)
theorem dX12_declared_23 : decode cX12_declared 23 = .ok (.aload_n 0, 1) := dk_42 (by decide +kernel)
theorem dX12_declared_24 : decode cX12_declared 24 = .ok (.getfield 488, 3) := dk_180 (by decide +kernel)
theorem dX12_declared_27 : decode cX12_declared 27 = .ok (.aload_n 0, 1) := dk_42 (by decide +kernel)
theorem dX12_declared_28 : decode cX12_declared 28 = .ok (.getfield 485, 3) := dk_180 (by decide +kernel)
theorem dX12_declared_31 : decode cX12_declared 31 = .ok (.aload_n 0, 1) := dk_42 (by decide +kernel)
theorem dX12_declared_32 : decode cX12_declared 32 = .ok (.getfield 488, 3) := dk_180 (by decide +kernel)
theorem dX12_declared_35 : decode cX12_declared 35 = .ok (.isub, 1) := dk_100 (by decide +kernel)
theorem dX12_declared_36 : decode cX12_declared 36 = .ok (.invokevirtual 536, 3) := dk_182 (by decide +kernel)
theorem dX12_declared_39 : decode cX12_declared 39 = .ok (.ifCond .eq 5, 3) := dk_153 (by decide +kernel)
theorem dX12_declared_42 : decode cX12_declared 42 = .ok (.iload_n 1, 1) := dk_27 (by decide +kernel)
theorem dX12_declared_43 : decode cX12_declared 43 = .ok (.ireturn, 1) := dk_172 (by decide +kernel)
theorem dX12_declared_44 : decode cX12_declared 44 = .ok (.iinc 1 1, 3) := dk_132 (by decide +kernel)
theorem dX12_declared_47 : decode cX12_declared 47 = .ok (.goto (-45), 3) := dk_167 (by decide +kernel)
theorem dX12_declared_50 : decode cX12_declared 50 = .ok (.iconst (-1), 1) := dk_2 (by decide +kernel)
theorem dX12_declared_51 : decode cX12_declared 51 = .ok (.ireturn, 1) := dk_172 (by decide +kernel)
def wsRX12_declared : List Cond := .code yX12_declared cX12_declared 2 (some .int) :: ([.fieldLink RX12 533 "OptimaWorksModel" "names" "I", .fieldLink RX12 53 "OptimaWorksModel" "nameFrom" "[I", .fieldLink RX12 56 "OptimaWorksModel" "nameLong" "[I", .fieldLink RX12 488 "OptimaWorksModel" "from" "I", .fieldLink RX12 485 "OptimaWorksModel" "at0" "I"] ++ wsX120 ++ (wsV RX12 536 RX12 yX12_sameText wsRX12_sameText))
theorem iwsRX12_declared_in12 : ∀ w ∈ wsX120, w ∈ wsRX12_declared := fun _ h => List.mem_cons_of_mem _ (List.mem_append_left _ (List.mem_append_right _ h))
theorem gwsRX12_declared_0 : GoodIn wsRX12_declared (wsV RX12 536 RX12 yX12_sameText wsRX12_sameText) := goodIn_sub (fun _ h => List.mem_cons_of_mem _ (List.mem_append_right _ h)) (gdV (by decide +kernel) gdwsRX12_sameText)
theorem gdwsRX12_declared : wsRX12_declared.all goodWord = true := gdC rfl (gdA (gdA (by decide +kernel : ([.fieldLink RX12 533 "OptimaWorksModel" "names" "I", .fieldLink RX12 53 "OptimaWorksModel" "nameFrom" "[I", .fieldLink RX12 56 "OptimaWorksModel" "nameLong" "[I", .fieldLink RX12 488 "OptimaWorksModel" "from" "I", .fieldLink RX12 485 "OptimaWorksModel" "at0" "I"] : List Cond).all goodWord = true) gdwsX120) (gdV (by decide +kernel) gdwsRX12_sameText))
set_option maxHeartbeats 4000000 in
set_option maxRecDepth 100000 in
/-- declared() -/
theorem r_X12_declared (l : Launch) (dC : Nat → ClassId) (dI : Nat → Nat → Nat) (a : Nat → Nat) (k : Nat → ClassId) (h0 : Nat) (vi : Nat → Int32) (vj : Nat → Int64) (vF : Nat → Nat → Int32) (vG : Nat → Nat → Int64) (an : Nat) (fn : Nat) (nm : Nat) (ha0 : vi 17 = nI an) (hfr : vi 19 = nI fn) (hfa : fn ≤ an) (han : an ≤ 4000) (hnm : vi 25 = nI nm) (hnm9 : nm ≤ 44) (hno : NmO (vF 11) (vF 12) nm) (sz : Nat) : Met l yX12_declared wsRX12_declared ({ frames := 1, cells := 0, slots := 0, locals := 26 }) (va_Pc [.ref h0] (fun U => U.heap.size = sz ∧ va_P (dC, dI) vwCl (WR a k h0 vi vj vF vG) U.heap ∧ va_K (dC, dI) vwCl (tX12 k) U ∧ va_D (fun _ => True) (WR a k h0 vi vj vF vG))) (va_Qi (fun (r : Int32) (u : Nat) => (r = (-1)) ∨ (r = (nI u) ∧ (u < nm))) (fun (u : Nat) t => va_P (dC, dI) vwCl (WR a k h0 vi vj vF vG) t.heap ∧ va_D (va_A (WR a k h0 vi vj vF vG) sz) (WR a k h0 vi vj vF vG)) (va_A (WR a k h0 vi vj vF vG) sz)) 0 0 (va_A (WR a k h0 vi vj vF vG) sz) := by
  refine Met.ofW (cc := cX12_declared) (maxL := 2) (ret := (some .int)) (by decide) rfl ?_
  intro p e s m args below meth c s₁ B hml hv
  obtain ⟨rfl, hsz, hP, hK, hD0⟩ := hv
  have hx := B.exec
  have hb := B.bytes
  have hr := B.returns
  have hts := atoms_spec (ws := wsRX12_declared) B.pre
  have hown : s.vm.findClass RX12 = some m.cls := findClass_of_methodNamed B.named
  have hlocks := B.notSynchronized
  subst hsz
  have hD := hD0.self (sz := s.heap.size)
  generalize hAe : va_A (WR a k h0 vi vj vF vG) s.heap.size = A at hD ⊢
  have hA : ∀ q : Nat, s.heap.size ≤ q → A q := fun q h => by rw [← hAe]; exact Or.inr h
  have hS : va_S A s.heap s.heap [] := va_S.rf
  have hl := lv_entry ([.ref h0]) (n := 2) (Nat.le_of_ble_eq_true rfl)
  rw [lg_entry_eq]
  generalize (lg_sl ([.ref h0]) ++ List.replicate (2 - (lg_sl ([.ref h0])).length) Slot.unset).toArray = ls at hl ⊢
  have hl : lv_has ls 2 [(0, .ref h0)] := hl
  refine lv_iconst (v := 0) hx hb dX12_declared_0 (by decide) ?_
  refine lv_istore_n hx hb dX12_declared_1 rfl hl (by decide) rfl (fun ls (hl : lv_has ls _ ([(1, .int 0), (0, .ref h0)])) => ?_)
  have hl : lv_has _ _ ([(0, .ref h0), (1, .int (nI 0))]) := lv_sub hl [1, 0] rfl
  refine (fun (loop : ∀ (n9 : Nat) (k5 : Nat) (H : Heap) (locs : List Loc) (ls : Array Slot), (k5 ≤ nm) →  (nm < k5 + n9) → va_P (dC, dI) vwCl (WR a k h0 vi vj vF vG) H → va_D A (WR a k h0 vi vj vF vG) → va_S A s.heap H locs → lv_has ls 2 [(0, .ref h0), (1, .int (nI k5))] → W p l e _ s m _ below meth c H locs 0 0 _ (F0 m 2 ls [])) => loop (nm + 1) 0 _ _ _ (by omega) (by omega) hP hD hS hl) ?_
  intro n9
  induction n9 with
  | zero => intro k5 H locs ls hk5 hf9; exact False.elim (by omega)
  | succ n9 ih2 =>
    intro k5 H locs ls hk5 hf2 hP hD hS hl
    refine lv_iload_n hx hb dX12_declared_2 rfl (lv_at hl 1 rfl) ?_
    refine lv_aload_n hx hb dX12_declared_3 rfl (lv_at hl 0 rfl) ?_
    refine va_get (D := (dC, dI)) (ci := 12) (v := .int (vi 25)) (C := RX12) (T := TX12) (N := 163) (fs := fM (vS a vi vj)) hx hb hts iwsRX12_declared_in12 hown hK hP 0 rfl rfl 25 (by decide) (hts (.fieldLink RX12 533 "OptimaWorksModel" "names" "I") (by decide +kernel)) (fun _ h9 => h9) rfl dX12_declared_4 ?_
    refine lv_topi (fun y1 hy1 => ?_)
    obtain rfl : (nI nm) = y1 := (hy1.trans (hnm)).symm
    refine lv_icmp_ge (tgt := 50) hx hb dX12_declared_7 (by decide) (fun c_7 => ?_) (fun c_7 => ?_)
    · have t_7 : ((k5 : Nat) : Int) ≥ ((nm : Nat) : Int) := toI_ge c_7 (nI_toInt (by omega)) (nI_toInt (by omega))
      refine lv_iconst (v := (-1)) hx hb dX12_declared_50 (by decide) ?_
      refine W.widen (k := 0) (n := 0) (by decide +kernel) (by decide +kernel) ?_
      exact W.iret (v := (-1)) hx hb hr (fun t9_ ht hW => ⟨⟨(-1), 0, rfl, by (try dsimp only); exact Or.inl rfl, by rw [ht]; exact hP, hD⟩, hS.F ht⟩) hS.2.2 dX12_declared_51
    · have t_7 : ¬ ((k5 : Nat) : Int) ≥ ((nm : Nat) : Int) := toI_nge c_7 (nI_toInt (by omega)) (nI_toInt (by omega))
      obtain ⟨x9, y9, ex, ey, exy⟩ := hno k5 (by omega)
      refine lv_aload_n hx hb dX12_declared_10 rfl (lv_at hl 0 rfl) ?_
      refine lv_aload_n hx hb dX12_declared_11 rfl (lv_at hl 0 rfl) ?_
      refine va_get (D := (dC, dI)) (ci := 12) (v := .ref (a 11)) (C := RX12) (T := TX12) (N := 163) (fs := fM (vS a vi vj)) hx hb hts iwsRX12_declared_in12 hown hK hP 0 rfl rfl 27 (by decide) (hts (.fieldLink RX12 53 "OptimaWorksModel" "nameFrom" "[I") (by decide +kernel)) (fun _ h9 => h9) rfl dX12_declared_12 ?_
      refine lv_iload_n hx hb dX12_declared_15 rfl (lv_at hl 1 rfl) ?_
      refine va_iald (cA := k 11) (n := 44) (f := (vF 11)) hx hb hK hP 12 11 (WR_get 11 (by decide)) (TR_get 11 (by decide)) (vp_in_nI (show k5 < 44 by omega) (by omega)) dX12_declared_16 ?_
      refine lv_topi (fun y2 hy2 => ?_)
      obtain rfl : ((vF 11) k5) = y2 := (hy2.trans (by rw [nI_clamp (by omega)])).symm
      refine lv_topi (fun y3 hy3 => ?_)
      obtain rfl : (nI x9) = y3 := (hy3.trans (ex)).symm
      refine lv_aload_n hx hb dX12_declared_17 rfl (lv_at hl 0 rfl) ?_
      refine va_get (D := (dC, dI)) (ci := 12) (v := .ref (a 12)) (C := RX12) (T := TX12) (N := 163) (fs := fM (vS a vi vj)) hx hb hts iwsRX12_declared_in12 hown hK hP 0 rfl rfl 28 (by decide) (hts (.fieldLink RX12 56 "OptimaWorksModel" "nameLong" "[I") (by decide +kernel)) (fun _ h9 => h9) rfl dX12_declared_18 ?_
      refine lv_iload_n hx hb dX12_declared_21 rfl (lv_at hl 1 rfl) ?_
      refine va_iald (cA := k 12) (n := 44) (f := (vF 12)) hx hb hK hP 13 12 (WR_get 12 (by decide)) (TR_get 12 (by decide)) (vp_in_nI (show k5 < 44 by omega) (by omega)) dX12_declared_22 ?_
      refine lv_topi (fun y4 hy4 => ?_)
      obtain rfl : ((vF 12) k5) = y4 := (hy4.trans (by rw [nI_clamp (by omega)])).symm
      refine lv_topi (fun y5 hy5 => ?_)
      obtain rfl : (nI y9) = y5 := (hy5.trans (ey)).symm
      refine lv_aload_n hx hb dX12_declared_23 rfl (lv_at hl 0 rfl) ?_
      refine va_get (D := (dC, dI)) (ci := 12) (v := .int (vi 19)) (C := RX12) (T := TX12) (N := 163) (fs := fM (vS a vi vj)) hx hb hts iwsRX12_declared_in12 hown hK hP 0 rfl rfl 19 (by decide) (hts (.fieldLink RX12 488 "OptimaWorksModel" "from" "I") (by decide +kernel)) (fun _ h9 => h9) rfl dX12_declared_24 ?_
      refine lv_topi (fun y6 hy6 => ?_)
      obtain rfl : (nI fn) = y6 := (hy6.trans (hfr)).symm
      refine lv_aload_n hx hb dX12_declared_27 rfl (lv_at hl 0 rfl) ?_
      refine va_get (D := (dC, dI)) (ci := 12) (v := .int (vi 17)) (C := RX12) (T := TX12) (N := 163) (fs := fM (vS a vi vj)) hx hb hts iwsRX12_declared_in12 hown hK hP 0 rfl rfl 17 (by decide) (hts (.fieldLink RX12 485 "OptimaWorksModel" "at0" "I") (by decide +kernel)) (fun _ h9 => h9) rfl dX12_declared_28 ?_
      refine lv_topi (fun y7 hy7 => ?_)
      obtain rfl : (nI an) = y7 := (hy7.trans (ha0)).symm
      refine lv_aload_n hx hb dX12_declared_31 rfl (lv_at hl 0 rfl) ?_
      refine va_get (D := (dC, dI)) (ci := 12) (v := .int (vi 19)) (C := RX12) (T := TX12) (N := 163) (fs := fM (vS a vi vj)) hx hb hts iwsRX12_declared_in12 hown hK hP 0 rfl rfl 19 (by decide) (hts (.fieldLink RX12 488 "OptimaWorksModel" "from" "I") (by decide +kernel)) (fun _ h9 => h9) rfl dX12_declared_32 ?_
      refine lv_topi (fun y8 hy8 => ?_)
      obtain rfl : (nI fn) = y8 := (hy8.trans (hfr)).symm
      refine lv_isub hx hb dX12_declared_35 ?_
      refine lv_topi (fun y9 hy9 => ?_)
      obtain rfl : (nI (an - fn)) = y9 := (hy9.trans (pk_sub (a := an) (b := fn) (by omega))).symm
      have hFc := allFree hD hS hA
      refine va_calli (va_runV (As := [.int (nI x9), .int (nI y9), .int (nI fn), .int (nI (an - fn))]) (rest := []) ⟨hx, hb, hml, hown, hts⟩ (r_X12_sameText l dC dI a k h0 vi vj vF vG x9 y9 fn (an - fn) (by first | with_reducible assumption | decide | omega | rfl | assumption) (by omega) H.size) (cwV 4 hts gwsRX12_declared_0 rfl rfl rfl hd_yX12_sameText_RX12 (by decide +kernel)) (fz_pre (va_recv hK hP (ci := 12) (q0 := 0) rfl rfl) hP hK hD) rfl rfl hl.1 rfl (lv_room (Nat.le_of_ble_eq_true rfl)) dX12_declared_36 (by decide +kernel)) hS (fun q _ h => hFc q h) hFc (fun r36 u t9_ H locs ht hvm hw9 hB9 hz1 hk1 hS => ?_)
      have hP : va_P (dC, dI) vwCl (WR a k h0 vi vj vF vG) H := fz_P ht hB9.1
      have hD : va_D A (WR a k h0 vi vj vF vG) := hB9.2.weaken (fun _ q _ h => hFc q.1 h)
      have f36_0 := hw9
      try dsimp only at f36_0
      refine lv_if_eq (tgt := 44) hx hb dX12_declared_39 (by decide) (fun c_39 => ?_) (fun c_39 => ?_)
      · have t_39 : (r36).toInt = 0 := toI_eq c_39 rfl (by decide)
        refine lv_iinc (v := (nI (k5 + 1))) hx hb dX12_declared_44 hl (k := 1) rfl (nI_add k5 1) (by decide) rfl (fun ls (hl : lv_has ls _ ([(1, .int (nI (k5 + 1))), (0, .ref h0)])) => ?_)
        refine lv_goto (tgt := 2) hx hb dX12_declared_47 (by decide) ?_
        have hl : lv_has _ _ ([(0, .ref h0), (1, .int (nI (k5 + 1)))]) := lv_sub hl [1, 0] rfl
        exact ih2 (k5 + 1) _ _ _ (by omega) (by omega) hP hD hS hl
      · have t_39 : ¬ (r36).toInt = 0 := toI_neq c_39 rfl (by decide)
        refine lv_iload_n hx hb dX12_declared_42 rfl (lv_at hl 1 rfl) ?_
        refine W.widen (k := 0) (n := 0) (by decide +kernel) (by decide +kernel) ?_
        exact W.iret (v := (nI k5)) hx hb hr (fun t9_ ht hW => ⟨⟨(nI k5), k5, rfl, by (try dsimp only); exact Or.inr ⟨rfl, by omega⟩, by rw [ht]; exact hP, hD⟩, hS.F ht⟩) hS.2.2 dX12_declared_43
theorem dX12_binder_0 : decode cX12_binder 0 = .ok (.aload_n 0, 1) := dk_42 (by decide +kernel)
theorem dX12_binder_1 : decode cX12_binder 1 = .ok (.getfield 540, 3) := dk_180 (by decide +kernel)
theorem dX12_binder_4 : decode cX12_binder 4 = .ok (.iconst 1, 1) := dk_4 (by decide +kernel)
theorem dX12_binder_5 : decode cX12_binder 5 = .ok (.isub, 1) := dk_100 (by decide +kernel)
theorem dX12_binder_6 : decode cX12_binder 6 = .ok (.istore_n 1, 1) := dk_60 (by decide +kernel)
theorem dX12_binder_7 : decode cX12_binder 7 = .ok (.iload_n 1, 1) := dk_27 (by decide +kernel)
theorem dX12_binder_8 : decode cX12_binder 8 = .ok (.ifCond .lt 43, 3) := dk_155 (by decide +kernel)
theorem dX12_binder_11 : decode cX12_binder 11 = .ok (.aload_n 0, 1) := dk_42 (by decide +kernel)
theorem dX12_binder_12 : decode cX12_binder 12 = .ok (.aload_n 0, 1) := dk_42 (by decide +kernel)
theorem dX12_binder_13 : decode cX12_binder 13 = .ok (.getfield 62, 3) := dk_180 (by decide +kernel)
theorem dX12_binder_16 : decode cX12_binder 16 = .ok (.iload_n 1, 1) := dk_27 (by decide +kernel)
theorem dX12_binder_17 : decode cX12_binder 17 = .ok (.iaload, 1) := dk_46 (by decide +kernel)
theorem dX12_binder_18 : decode cX12_binder 18 = .ok (.aload_n 0, 1) := dk_42 (by decide +kernel)
theorem dX12_binder_19 : decode cX12_binder 19 = .ok (.getfield 65, 3) := dk_180 (by decide +kernel)
theorem dX12_binder_22 : decode cX12_binder 22 = .ok (.iload_n 1, 1) := dk_27 (by decide +kernel)
theorem dX12_binder_23 : decode cX12_binder 23 = .ok (.iaload, 1) := dk_46 (by decide +kernel)
theorem dX12_binder_24 : decode cX12_binder 24 = .ok (.aload_n 0, 1) := dk_42 (by decide +kernel)
theorem dX12_binder_25 : decode cX12_binder 25 = .ok (.getfield 488, 3) := dk_180 (by decide +kernel)
theorem dX12_binder_28 : decode cX12_binder 28 = .ok (.aload_n 0, 1) := dk_42 (by decide +kernel)
theorem dX12_binder_29 : decode cX12_binder 29 = .ok (.getfield 485, 3) := dk_180 (by decide +kernel)
theorem dX12_binder_32 : decode cX12_binder 32 = .ok (.aload_n 0, 1) := dk_42 (by decide +kernel)
theorem dX12_binder_33 : decode cX12_binder 33 = .ok (.getfield 488, 3) := dk_180 (by decide +kernel)
theorem dX12_binder_36 : decode cX12_binder 36 = .ok (.isub, 1) := dk_100 (by decide +kernel)
theorem dX12_binder_37 : decode cX12_binder 37 = .ok (.invokevirtual 536, 3) := dk_182 (by decide +kernel)
theorem dX12_binder_40 : decode cX12_binder 40 = .ok (.ifCond .eq 5, 3) := dk_153 (by decide +kernel)
theorem dX12_binder_43 : decode cX12_binder 43 = .ok (.iload_n 1, 1) := dk_27 (by decide +kernel)
theorem dX12_binder_44 : decode cX12_binder 44 = .ok (.ireturn, 1) := dk_172 (by decide +kernel)
theorem dX12_binder_45 : decode cX12_binder 45 = .ok (.iinc 1 (-1), 3) := dk_132 (by decide +kernel)
theorem dX12_binder_48 : decode cX12_binder 48 = .ok (.goto (-41), 3) := dk_167 (by decide +kernel)
theorem dX12_binder_51 : decode cX12_binder 51 = .ok (.iconst (-1), 1) := dk_2 (by decide +kernel)
theorem dX12_binder_52 : decode cX12_binder 52 = .ok (.ireturn, 1) := dk_172 (by decide +kernel)
def wsRX12_binder : List Cond := .code yX12_binder cX12_binder 2 (some .int) :: ([.fieldLink RX12 540 "OptimaWorksModel" "binders" "I", .fieldLink RX12 62 "OptimaWorksModel" "binderFrom" "[I", .fieldLink RX12 65 "OptimaWorksModel" "binderLong" "[I", .fieldLink RX12 488 "OptimaWorksModel" "from" "I", .fieldLink RX12 485 "OptimaWorksModel" "at0" "I"] ++ wsX120 ++ (wsV RX12 536 RX12 yX12_sameText wsRX12_sameText))
theorem iwsRX12_binder_in12 : ∀ w ∈ wsX120, w ∈ wsRX12_binder := fun _ h => List.mem_cons_of_mem _ (List.mem_append_left _ (List.mem_append_right _ h))
theorem gwsRX12_binder_0 : GoodIn wsRX12_binder (wsV RX12 536 RX12 yX12_sameText wsRX12_sameText) := goodIn_sub (fun _ h => List.mem_cons_of_mem _ (List.mem_append_right _ h)) (gdV (by decide +kernel) gdwsRX12_sameText)
theorem gdwsRX12_binder : wsRX12_binder.all goodWord = true := gdC rfl (gdA (gdA (by decide +kernel : ([.fieldLink RX12 540 "OptimaWorksModel" "binders" "I", .fieldLink RX12 62 "OptimaWorksModel" "binderFrom" "[I", .fieldLink RX12 65 "OptimaWorksModel" "binderLong" "[I", .fieldLink RX12 488 "OptimaWorksModel" "from" "I", .fieldLink RX12 485 "OptimaWorksModel" "at0" "I"] : List Cond).all goodWord = true) gdwsX120) (gdV (by decide +kernel) gdwsRX12_sameText))
set_option maxHeartbeats 4000000 in
set_option maxRecDepth 100000 in
/-- binder() -/
theorem r_X12_binder (l : Launch) (dC : Nat → ClassId) (dI : Nat → Nat → Nat) (a : Nat → Nat) (k : Nat → ClassId) (h0 : Nat) (vi : Nat → Int32) (vj : Nat → Int64) (vF : Nat → Nat → Int32) (vG : Nat → Nat → Int64) (an : Nat) (fn : Nat) (nm : Nat) (ha0 : vi 17 = nI an) (hfr : vi 19 = nI fn) (hfa : fn ≤ an) (han : an ≤ 4000) (hnm : vi 30 = nI nm) (hnm9 : nm ≤ 60) (hno : NmO (vF 14) (vF 15) nm) (sz : Nat) : Met l yX12_binder wsRX12_binder ({ frames := 1, cells := 0, slots := 0, locals := 26 }) (va_Pc [.ref h0] (fun U => U.heap.size = sz ∧ va_P (dC, dI) vwCl (WR a k h0 vi vj vF vG) U.heap ∧ va_K (dC, dI) vwCl (tX12 k) U ∧ va_D (fun _ => True) (WR a k h0 vi vj vF vG))) (va_Qi (fun (r : Int32) (u : Nat) => (r = (-1)) ∨ (r = (nI u) ∧ (u < nm))) (fun (u : Nat) t => va_P (dC, dI) vwCl (WR a k h0 vi vj vF vG) t.heap ∧ va_D (va_A (WR a k h0 vi vj vF vG) sz) (WR a k h0 vi vj vF vG)) (va_A (WR a k h0 vi vj vF vG) sz)) 0 0 (va_A (WR a k h0 vi vj vF vG) sz) := by
  refine Met.ofW (cc := cX12_binder) (maxL := 2) (ret := (some .int)) (by decide) rfl ?_
  intro p e s m args below meth c s₁ B hml hv
  obtain ⟨rfl, hsz, hP, hK, hD0⟩ := hv
  have hx := B.exec
  have hb := B.bytes
  have hr := B.returns
  have hts := atoms_spec (ws := wsRX12_binder) B.pre
  have hown : s.vm.findClass RX12 = some m.cls := findClass_of_methodNamed B.named
  have hlocks := B.notSynchronized
  subst hsz
  have hD := hD0.self (sz := s.heap.size)
  generalize hAe : va_A (WR a k h0 vi vj vF vG) s.heap.size = A at hD ⊢
  have hA : ∀ q : Nat, s.heap.size ≤ q → A q := fun q h => by rw [← hAe]; exact Or.inr h
  have hS : va_S A s.heap s.heap [] := va_S.rf
  have hl := lv_entry ([.ref h0]) (n := 2) (Nat.le_of_ble_eq_true rfl)
  rw [lg_entry_eq]
  generalize (lg_sl ([.ref h0]) ++ List.replicate (2 - (lg_sl ([.ref h0])).length) Slot.unset).toArray = ls at hl ⊢
  have hl : lv_has ls 2 [(0, .ref h0)] := hl
  refine lv_aload_n hx hb dX12_binder_0 rfl (lv_at hl 0 rfl) ?_
  refine va_get (D := (dC, dI)) (ci := 12) (v := .int (vi 30)) (C := RX12) (T := TX12) (N := 163) (fs := fM (vS a vi vj)) hx hb hts iwsRX12_binder_in12 hown hK hP 0 rfl rfl 30 (by decide) (hts (.fieldLink RX12 540 "OptimaWorksModel" "binders" "I") (by decide +kernel)) (fun _ h9 => h9) rfl dX12_binder_1 ?_
  refine lv_topi (fun y1 hy1 => ?_)
  obtain rfl : (nI nm) = y1 := (hy1.trans (hnm)).symm
  refine lv_iconst (v := 1) hx hb dX12_binder_4 (by decide) ?_
  refine lv_isub hx hb dX12_binder_5 ?_
  refine lv_istore_n hx hb dX12_binder_6 rfl hl (by decide) rfl (fun ls (hl : lv_has ls _ ([(1, .int ((nI nm) - 1)), (0, .ref h0)])) => ?_)
  have hl : lv_has _ _ ([(0, .ref h0), (1, .int ((nI nm) - 1))]) := lv_sub hl [1, 0] rfl
  refine (fun (loop : ∀ (n9 : Nat) (kq : Int32) (kk1 : Nat) (H : Heap) (locs : List Loc) (ls : Array Slot), ((kq).toInt = (kk1 : Int) - 1) → (kk1 ≤ nm) →  (kk1 < n9) → va_P (dC, dI) vwCl (WR a k h0 vi vj vF vG) H → va_D A (WR a k h0 vi vj vF vG) → va_S A s.heap H locs → lv_has ls 2 [(0, .ref h0), (1, .int kq)] → W p l e _ s m _ below meth c H locs 0 0 _ (F0 m 7 ls [])) => loop (nm + 1) ((nI nm) - 1) nm _ _ _ (by exact pk_sub_toInt (a := nm) (b := 1) (by omega) (by omega)) (by omega) (by omega) hP hD hS hl) ?_
  intro n9
  induction n9 with
  | zero => intro kq kk1 H locs ls hkq hkn hf9; exact False.elim (by omega)
  | succ n9 ih7 =>
    intro kq kk1 H locs ls hkq hkn hf7 hP hD hS hl
    refine lv_iload_n hx hb dX12_binder_7 rfl (lv_at hl 1 rfl) ?_
    refine lv_if_lt (tgt := 51) hx hb dX12_binder_8 (by decide) (fun c_8 => ?_) (fun c_8 => ?_)
    · have t_8 : (kq).toInt < 0 := toI_lt c_8 rfl (by decide)
      refine lv_iconst (v := (-1)) hx hb dX12_binder_51 (by decide) ?_
      refine W.widen (k := 0) (n := 0) (by decide +kernel) (by decide +kernel) ?_
      exact W.iret (v := (-1)) hx hb hr (fun t9_ ht hW => ⟨⟨(-1), 0, rfl, by (try dsimp only); exact Or.inl rfl, by rw [ht]; exact hP, hD⟩, hS.F ht⟩) hS.2.2 dX12_binder_52
    · have t_8 : ¬ (kq).toInt < 0 := toI_nlt c_8 rfl (by decide)
      obtain ⟨kk, h_kk, rfl⟩ := of_toInt (x := kq) (k := 60) (by omega) (by omega)
      have e_kk : (nI kk).toInt = (kk : Int) := nI_toInt (by omega)
      obtain ⟨x9, y9, ex, ey, exy⟩ := hno kk (by omega)
      refine lv_aload_n hx hb dX12_binder_11 rfl (lv_at hl 0 rfl) ?_
      refine lv_aload_n hx hb dX12_binder_12 rfl (lv_at hl 0 rfl) ?_
      refine va_get (D := (dC, dI)) (ci := 12) (v := .ref (a 14)) (C := RX12) (T := TX12) (N := 163) (fs := fM (vS a vi vj)) hx hb hts iwsRX12_binder_in12 hown hK hP 0 rfl rfl 31 (by decide) (hts (.fieldLink RX12 62 "OptimaWorksModel" "binderFrom" "[I") (by decide +kernel)) (fun _ h9 => h9) rfl dX12_binder_13 ?_
      refine lv_iload_n hx hb dX12_binder_16 rfl (lv_at hl 1 rfl) ?_
      refine va_iald (cA := k 14) (n := 60) (f := (vF 14)) hx hb hK hP 15 14 (WR_get 14 (by decide)) (TR_get 14 (by decide)) (vp_in_nI (show kk < 60 by omega) (by omega)) dX12_binder_17 ?_
      refine lv_topi (fun y2 hy2 => ?_)
      obtain rfl : ((vF 14) kk) = y2 := (hy2.trans (by rw [nI_clamp (by omega)])).symm
      refine lv_topi (fun y3 hy3 => ?_)
      obtain rfl : (nI x9) = y3 := (hy3.trans (ex)).symm
      refine lv_aload_n hx hb dX12_binder_18 rfl (lv_at hl 0 rfl) ?_
      refine va_get (D := (dC, dI)) (ci := 12) (v := .ref (a 15)) (C := RX12) (T := TX12) (N := 163) (fs := fM (vS a vi vj)) hx hb hts iwsRX12_binder_in12 hown hK hP 0 rfl rfl 32 (by decide) (hts (.fieldLink RX12 65 "OptimaWorksModel" "binderLong" "[I") (by decide +kernel)) (fun _ h9 => h9) rfl dX12_binder_19 ?_
      refine lv_iload_n hx hb dX12_binder_22 rfl (lv_at hl 1 rfl) ?_
      refine va_iald (cA := k 15) (n := 60) (f := (vF 15)) hx hb hK hP 16 15 (WR_get 15 (by decide)) (TR_get 15 (by decide)) (vp_in_nI (show kk < 60 by omega) (by omega)) dX12_binder_23 ?_
      refine lv_topi (fun y4 hy4 => ?_)
      obtain rfl : ((vF 15) kk) = y4 := (hy4.trans (by rw [nI_clamp (by omega)])).symm
      refine lv_topi (fun y5 hy5 => ?_)
      obtain rfl : (nI y9) = y5 := (hy5.trans (ey)).symm
      refine lv_aload_n hx hb dX12_binder_24 rfl (lv_at hl 0 rfl) ?_
      refine va_get (D := (dC, dI)) (ci := 12) (v := .int (vi 19)) (C := RX12) (T := TX12) (N := 163) (fs := fM (vS a vi vj)) hx hb hts iwsRX12_binder_in12 hown hK hP 0 rfl rfl 19 (by decide) (hts (.fieldLink RX12 488 "OptimaWorksModel" "from" "I") (by decide +kernel)) (fun _ h9 => h9) rfl dX12_binder_25 ?_
      refine lv_topi (fun y6 hy6 => ?_)
      obtain rfl : (nI fn) = y6 := (hy6.trans (hfr)).symm
      refine lv_aload_n hx hb dX12_binder_28 rfl (lv_at hl 0 rfl) ?_
      refine va_get (D := (dC, dI)) (ci := 12) (v := .int (vi 17)) (C := RX12) (T := TX12) (N := 163) (fs := fM (vS a vi vj)) hx hb hts iwsRX12_binder_in12 hown hK hP 0 rfl rfl 17 (by decide) (hts (.fieldLink RX12 485 "OptimaWorksModel" "at0" "I") (by decide +kernel)) (fun _ h9 => h9) rfl dX12_binder_29 ?_
      refine lv_topi (fun y7 hy7 => ?_)
      obtain rfl : (nI an) = y7 := (hy7.trans (ha0)).symm
      refine lv_aload_n hx hb dX12_binder_32 rfl (lv_at hl 0 rfl) ?_
      refine va_get (D := (dC, dI)) (ci := 12) (v := .int (vi 19)) (C := RX12) (T := TX12) (N := 163) (fs := fM (vS a vi vj)) hx hb hts iwsRX12_binder_in12 hown hK hP 0 rfl rfl 19 (by decide) (hts (.fieldLink RX12 488 "OptimaWorksModel" "from" "I") (by decide +kernel)) (fun _ h9 => h9) rfl dX12_binder_33 ?_
      refine lv_topi (fun y8 hy8 => ?_)
      obtain rfl : (nI fn) = y8 := (hy8.trans (hfr)).symm
      refine lv_isub hx hb dX12_binder_36 ?_
      refine lv_topi (fun y9 hy9 => ?_)
      obtain rfl : (nI (an - fn)) = y9 := (hy9.trans (pk_sub (a := an) (b := fn) (by omega))).symm
      have hFc := allFree hD hS hA
      refine va_calli (va_runV (As := [.int (nI x9), .int (nI y9), .int (nI fn), .int (nI (an - fn))]) (rest := []) ⟨hx, hb, hml, hown, hts⟩ (r_X12_sameText l dC dI a k h0 vi vj vF vG x9 y9 fn (an - fn) (by first | with_reducible assumption | decide | omega | rfl | assumption) (by omega) H.size) (cwV 4 hts gwsRX12_binder_0 rfl rfl rfl hd_yX12_sameText_RX12 (by decide +kernel)) (fz_pre (va_recv hK hP (ci := 12) (q0 := 0) rfl rfl) hP hK hD) rfl rfl hl.1 rfl (lv_room (Nat.le_of_ble_eq_true rfl)) dX12_binder_37 (by decide +kernel)) hS (fun q _ h => hFc q h) hFc (fun r37 u t9_ H locs ht hvm hw9 hB9 hz1 hk1 hS => ?_)
      have hP : va_P (dC, dI) vwCl (WR a k h0 vi vj vF vG) H := fz_P ht hB9.1
      have hD : va_D A (WR a k h0 vi vj vF vG) := hB9.2.weaken (fun _ q _ h => hFc q.1 h)
      have f37_0 := hw9
      try dsimp only at f37_0
      refine lv_if_eq (tgt := 45) hx hb dX12_binder_40 (by decide) (fun c_40 => ?_) (fun c_40 => ?_)
      · have t_40 : (r37).toInt = 0 := toI_eq c_40 rfl (by decide)
        refine lv_iinc (v := ((nI kk) + (-1))) hx hb dX12_binder_45 hl (k := 1) rfl rfl (by decide) rfl (fun ls (hl : lv_has ls _ ([(1, .int ((nI kk) + (-1))), (0, .ref h0)])) => ?_)
        refine lv_goto (tgt := 7) hx hb dX12_binder_48 (by decide) ?_
        have hl : lv_has _ _ ([(0, .ref h0), (1, .int ((nI kk) + (-1)))]) := lv_sub hl [1, 0] rfl
        exact ih7 ((nI kk) + (-1)) (kk1 - 1) _ _ _ (by rw [m1T (by omega)]; omega) (by omega) (by omega) hP hD hS hl
      · have t_40 : ¬ (r37).toInt = 0 := toI_neq c_40 rfl (by decide)
        refine lv_iload_n hx hb dX12_binder_43 rfl (lv_at hl 1 rfl) ?_
        refine W.widen (k := 0) (n := 0) (by decide +kernel) (by decide +kernel) ?_
        exact W.iret (v := (nI kk)) hx hb hr (fun t9_ ht hW => ⟨⟨(nI kk), kk, rfl, by (try dsimp only); exact Or.inr ⟨rfl, by omega⟩, by rw [ht]; exact hP, hD⟩, hS.F ht⟩) hS.2.2 dX12_binder_44
theorem dX12_node_0 : decode cX12_node 0 = .ok (.aload_n 0, 1) := dk_42 (by decide +kernel)
theorem dX12_node_1 : decode cX12_node 1 = .ok (.getfield 110, 3) := dk_180 (by decide +kernel)
theorem dX12_node_4 : decode cX12_node 4 = .ok (.aload_n 0, 1) := dk_42 (by decide +kernel)
theorem dX12_node_5 : decode cX12_node 5 = .ok (.getfield 543, 3) := dk_180 (by decide +kernel)
theorem dX12_node_8 : decode cX12_node 8 = .ok (.iload_n 1, 1) := dk_27 (by decide +kernel)
theorem dX12_node_9 : decode cX12_node 9 = .ok (.iastore, 1) := dk_79 (by decide +kernel)
theorem dX12_node_10 : decode cX12_node 10 = .ok (.aload_n 0, 1) := dk_42 (by decide +kernel)
theorem dX12_node_11 : decode cX12_node 11 = .ok (.getfield 113, 3) := dk_180 (by decide +kernel)
theorem dX12_node_14 : decode cX12_node 14 = .ok (.aload_n 0, 1) := dk_42 (by decide +kernel)
theorem dX12_node_15 : decode cX12_node 15 = .ok (.getfield 543, 3) := dk_180 (by decide +kernel)
theorem dX12_node_18 : decode cX12_node 18 = .ok (.iload_n 2, 1) := dk_28 (by decide +kernel)
theorem dX12_node_19 : decode cX12_node 19 = .ok (.iastore, 1) := dk_79 (by decide +kernel)
theorem dX12_node_20 : decode cX12_node 20 = .ok (.aload_n 0, 1) := dk_42 (by decide +kernel)
theorem dX12_node_21 : decode cX12_node 21 = .ok (.getfield 116, 3) := dk_180 (by decide +kernel)
theorem dX12_node_24 : decode cX12_node 24 = .ok (.aload_n 0, 1) := dk_42 (by decide +kernel)
theorem dX12_node_25 : decode cX12_node 25 = .ok (.getfield 543, 3) := dk_180 (by decide +kernel)
theorem dX12_node_28 : decode cX12_node 28 = .ok (.iload_n 3, 1) := dk_29 (by decide +kernel)
theorem dX12_node_29 : decode cX12_node 29 = .ok (.iastore, 1) := dk_79 (by decide +kernel)
theorem dX12_node_30 : decode cX12_node 30 = .ok (.aload_n 0, 1) := dk_42 (by decide +kernel)
theorem dX12_node_31 : decode cX12_node 31 = .ok (.getfield 119, 3) := dk_180 (by decide +kernel)
theorem dX12_node_34 : decode cX12_node 34 = .ok (.aload_n 0, 1) := dk_42 (by decide +kernel)
theorem dX12_node_35 : decode cX12_node 35 = .ok (.getfield 543, 3) := dk_180 (by decide +kernel)
theorem dX12_node_38 : decode cX12_node 38 = .ok (.iload 4, 2) := dk_21 (by decide +kernel)
theorem dX12_node_40 : decode cX12_node 40 = .ok (.iastore, 1) := dk_79 (by decide +kernel)
theorem dX12_node_41 : decode cX12_node 41 = .ok (.aload_n 0, 1) := dk_42 (by decide +kernel)
theorem dX12_node_42 : decode cX12_node 42 = .ok (.getfield 122, 3) := dk_180 (by decide +kernel)
theorem dX12_node_45 : decode cX12_node 45 = .ok (.aload_n 0, 1) := dk_42 (by decide +kernel)
theorem dX12_node_46 : decode cX12_node 46 = .ok (.getfield 543, 3) := dk_180 (by decide +kernel)
theorem dX12_node_49 : decode cX12_node 49 = .ok (.iload 5, 2) := dk_21 (by decide +kernel)
theorem dX12_node_51 : decode cX12_node 51 = .ok (.iastore, 1) := dk_79 (by decide +kernel)
theorem dX12_node_52 : decode cX12_node 52 = .ok (.aload_n 0, 1) := dk_42 (by decide +kernel)
theorem dX12_node_53 : decode cX12_node 53 = .ok (.getfield 125, 3) := dk_180 (by decide +kernel)
theorem dX12_node_56 : decode cX12_node 56 = .ok (.aload_n 0, 1) := dk_42 (by decide +kernel)
theorem dX12_node_57 : decode cX12_node 57 = .ok (.getfield 543, 3) := dk_180 (by decide +kernel)
theorem dX12_node_60 : decode cX12_node 60 = .ok (.iconst 0, 1) := dk_3 (by decide +kernel)
theorem dX12_node_61 : decode cX12_node 61 = .ok (.iastore, 1) := dk_79 (by decide +kernel)
theorem dX12_node_62 : decode cX12_node 62 = .ok (.aload_n 0, 1) := dk_42 (by decide +kernel)
theorem dX12_node_63 : decode cX12_node 63 = .ok (.getfield 128, 3) := dk_180 (by decide +kernel)
theorem dX12_node_66 : decode cX12_node 66 = .ok (.aload_n 0, 1) := dk_42 (by decide +kernel)
theorem dX12_node_67 : decode cX12_node 67 = .ok (.getfield 543, 3) := dk_180 (by decide +kernel)
theorem dX12_node_70 : decode cX12_node 70 = .ok (.iconst 0, 1) := dk_3 (by decide +kernel)
theorem dX12_node_71 : decode cX12_node 71 = .ok (.iastore, 1) := dk_79 (by decide +kernel)
theorem dX12_node_72 : decode cX12_node 72 = .ok (.aload_n 0, 1) := dk_42 (by decide +kernel)
theorem dX12_node_73 : decode cX12_node 73 = .ok (.dup, 1) := dk_89 (by decide +kernel)
theorem dX12_node_74 : decode cX12_node 74 = .ok (.getfield 543, 3) := dk_180 (by decide +kernel)
theorem dX12_node_77 : decode cX12_node 77 = .ok (.iconst 1, 1) := dk_4 (by decide +kernel)
theorem dX12_node_78 : decode cX12_node 78 = .ok (.iadd, 1) := dk_96 (by decide +kernel)
theorem dX12_node_79 : decode cX12_node 79 = .ok (.putfield 543, 3) := dk_181 (by decide +kernel)
theorem dX12_node_82 : decode cX12_node 82 = .ok (.aload_n 0, 1) := dk_42 (by decide +kernel)
theorem dX12_node_83 : decode cX12_node 83 = .ok (.getfield 543, 3) := dk_180 (by decide +kernel)
theorem dX12_node_86 : decode cX12_node 86 = .ok (.iconst 1, 1) := dk_4 (by decide +kernel)
theorem dX12_node_87 : decode cX12_node 87 = .ok (.isub, 1) := dk_100 (by decide +kernel)
theorem dX12_node_88 : decode cX12_node 88 = .ok (.ireturn, 1) := dk_172 (by decide +kernel)
def wsRX12_node : List Cond := .code yX12_node cX12_node 6 (some .int) :: ([.fieldLink RX12 110 "OptimaWorksModel" "kind" "[I", .fieldLink RX12 543 "OptimaWorksModel" "nodes" "I", .fieldLink RX12 113 "OptimaWorksModel" "partA" "[I", .fieldLink RX12 116 "OptimaWorksModel" "partB" "[I", .fieldLink RX12 119 "OptimaWorksModel" "partC" "[I", .fieldLink RX12 122 "OptimaWorksModel" "where" "[I", .fieldLink RX12 125 "OptimaWorksModel" "firstA" "[I", .fieldLink RX12 128 "OptimaWorksModel" "firstB" "[I"] ++ wsX120)
theorem iwsRX12_node_in12 : ∀ w ∈ wsX120, w ∈ wsRX12_node := fun _ h => List.mem_cons_of_mem _ (List.mem_append_right _ h)
theorem gdwsRX12_node : wsRX12_node.all goodWord = true := gdC rfl (gdA (by decide +kernel : ([.fieldLink RX12 110 "OptimaWorksModel" "kind" "[I", .fieldLink RX12 543 "OptimaWorksModel" "nodes" "I", .fieldLink RX12 113 "OptimaWorksModel" "partA" "[I", .fieldLink RX12 116 "OptimaWorksModel" "partB" "[I", .fieldLink RX12 119 "OptimaWorksModel" "partC" "[I", .fieldLink RX12 122 "OptimaWorksModel" "where" "[I", .fieldLink RX12 125 "OptimaWorksModel" "firstA" "[I", .fieldLink RX12 128 "OptimaWorksModel" "firstB" "[I"] : List Cond).all goodWord = true) gdwsX120)
set_option maxHeartbeats 4000000 in
set_option maxRecDepth 100000 in
/-- node(k, a, b, c, p) -/
theorem r_X12_node (l : Launch) (dC : Nat → ClassId) (dI : Nat → Nat → Nat) (a : Nat → Nat) (k : Nat → ClassId) (h0 : Nat) (vi : Nat → Int32) (vj : Nat → Int64) (vF : Nat → Nat → Int32) (vG : Nat → Nat → Int64) (nd : Nat) (kv : Int32) (av : Int32) (bv : Int32) (cv : Int32) (pv : Int32) (hnd : vi 52 = nI nd) (hnd2 : nd < 4200) (sz : Nat) : Met l yX12_node wsRX12_node ({ frames := 0, cells := 0, slots := 0, locals := 0 }) (va_Pc [.ref h0, .int kv, .int av, .int bv, .int cv, .int pv] (fun U => U.heap.size = sz ∧ va_P (dC, dI) vwCl (WR a k h0 vi vj vF vG) U.heap ∧ va_K (dC, dI) vwCl (tX12 k) U ∧ va_D (fun _ => True) (WR a k h0 vi vj vF vG))) (va_Qi (fun (r : Int32) (u : Unit) => r = (nI nd)) (fun (u : Unit) t => va_P (dC, dI) vwCl (WR a k h0 (fT vi 52 (nI (nd + 1))) vj (fT (fT (fT (fT (fT (fT (fT vF 29 (upd (vF 29) (nI nd).toNatClampNeg kv)) 30 (upd (vF 30) (nI nd).toNatClampNeg av)) 31 (upd (vF 31) (nI nd).toNatClampNeg bv)) 32 (upd (vF 32) (nI nd).toNatClampNeg cv)) 33 (upd (vF 33) (nI nd).toNatClampNeg pv)) 34 (upd (vF 34) (nI nd).toNatClampNeg 0)) 35 (upd (vF 35) (nI nd).toNatClampNeg 0)) vG) t.heap ∧ va_D (va_A (WR a k h0 vi vj vF vG) sz) (WR a k h0 (fT vi 52 (nI (nd + 1))) vj (fT (fT (fT (fT (fT (fT (fT vF 29 (upd (vF 29) (nI nd).toNatClampNeg kv)) 30 (upd (vF 30) (nI nd).toNatClampNeg av)) 31 (upd (vF 31) (nI nd).toNatClampNeg bv)) 32 (upd (vF 32) (nI nd).toNatClampNeg cv)) 33 (upd (vF 33) (nI nd).toNatClampNeg pv)) 34 (upd (vF 34) (nI nd).toNatClampNeg 0)) 35 (upd (vF 35) (nI nd).toNatClampNeg 0)) vG)) (va_A (WR a k h0 vi vj vF vG) sz)) 0 0 (va_A (WR a k h0 vi vj vF vG) sz) := by
  refine Met.ofW (cc := cX12_node) (maxL := 6) (ret := (some .int)) (by decide) rfl ?_
  intro p e s m args below meth c s₁ B hml hv
  obtain ⟨rfl, hsz, hP, hK, hD0⟩ := hv
  have hx := B.exec
  have hb := B.bytes
  have hr := B.returns
  have hts := atoms_spec (ws := wsRX12_node) B.pre
  have hown : s.vm.findClass RX12 = some m.cls := findClass_of_methodNamed B.named
  have hlocks := B.notSynchronized
  subst hsz
  have hD := hD0.self (sz := s.heap.size)
  generalize hAe : va_A (WR a k h0 vi vj vF vG) s.heap.size = A at hD ⊢
  have hA : ∀ q : Nat, s.heap.size ≤ q → A q := fun q h => by rw [← hAe]; exact Or.inr h
  have hS : va_S A s.heap s.heap [] := va_S.rf
  have hl := lv_entry ([.ref h0, .int kv, .int av, .int bv, .int cv, .int pv]) (n := 6) (Nat.le_of_ble_eq_true rfl)
  rw [lg_entry_eq]
  generalize (lg_sl ([.ref h0, .int kv, .int av, .int bv, .int cv, .int pv]) ++ List.replicate (6 - (lg_sl ([.ref h0, .int kv, .int av, .int bv, .int cv, .int pv])).length) Slot.unset).toArray = ls at hl ⊢
  have hl : lv_has ls 6 [(0, .ref h0), (1, .int kv), (2, .int av), (3, .int bv), (4, .int cv), (5, .int pv)] := hl
  refine lv_aload_n hx hb dX12_node_0 rfl (lv_at hl 0 rfl) ?_
  refine va_get (D := (dC, dI)) (ci := 12) (v := .ref (a 29)) (C := RX12) (T := TX12) (N := 163) (fs := fM (vS a vi vj)) hx hb hts iwsRX12_node_in12 hown hK hP 0 rfl rfl 53 (by decide) (hts (.fieldLink RX12 110 "OptimaWorksModel" "kind" "[I") (by decide +kernel)) (fun _ h9 => h9) rfl dX12_node_1 ?_
  refine lv_aload_n hx hb dX12_node_4 rfl (lv_at hl 0 rfl) ?_
  refine va_get (D := (dC, dI)) (ci := 12) (v := .int (vi 52)) (C := RX12) (T := TX12) (N := 163) (fs := fM (vS a vi vj)) hx hb hts iwsRX12_node_in12 hown hK hP 0 rfl rfl 52 (by decide) (hts (.fieldLink RX12 543 "OptimaWorksModel" "nodes" "I") (by decide +kernel)) (fun _ h9 => h9) rfl dX12_node_5 ?_
  refine lv_topi (fun y1 hy1 => ?_)
  obtain rfl : (nI nd) = y1 := (hy1.trans (hnd)).symm
  refine lv_iload_n hx hb dX12_node_8 rfl (lv_at hl 1 rfl) ?_
  refine va_iast (cA := k 29) (n := 4200) (f := (vF 29)) hx hb hK hP hD hS 30 29 (WR_get 29 (by decide)) (TR_get 29 (by decide)) (vp_in_nI (show nd < 4200 by omega) (by omega)) dX12_node_9 (fun H locs hP hD hS => ?_)
  have hP : va_P (dC, dI) vwCl (WR a k h0 vi vj (fT vF 29 (upd (vF 29) ((nI nd)).toNatClampNeg kv)) vG) H := by rw [← WR_F 29 (by decide) _ rfl]; exact hP
  have hD : va_D A (WR a k h0 vi vj (fT vF 29 (upd (vF 29) ((nI nd)).toNatClampNeg kv)) vG) := by rw [← WR_F 29 (by decide) _ rfl]; exact hD
  refine lv_aload_n hx hb dX12_node_10 rfl (lv_at hl 0 rfl) ?_
  refine va_get (D := (dC, dI)) (ci := 12) (v := .ref (a 30)) (C := RX12) (T := TX12) (N := 163) (fs := fM (vS a vi vj)) hx hb hts iwsRX12_node_in12 hown hK hP 0 rfl rfl 54 (by decide) (hts (.fieldLink RX12 113 "OptimaWorksModel" "partA" "[I") (by decide +kernel)) (fun _ h9 => h9) rfl dX12_node_11 ?_
  refine lv_aload_n hx hb dX12_node_14 rfl (lv_at hl 0 rfl) ?_
  refine va_get (D := (dC, dI)) (ci := 12) (v := .int (vi 52)) (C := RX12) (T := TX12) (N := 163) (fs := fM (vS a vi vj)) hx hb hts iwsRX12_node_in12 hown hK hP 0 rfl rfl 52 (by decide) (hts (.fieldLink RX12 543 "OptimaWorksModel" "nodes" "I") (by decide +kernel)) (fun _ h9 => h9) rfl dX12_node_15 ?_
  refine lv_topi (fun y2 hy2 => ?_)
  obtain rfl : (nI nd) = y2 := (hy2.trans (hnd)).symm
  refine lv_iload_n hx hb dX12_node_18 rfl (lv_at hl 2 rfl) ?_
  refine va_iast (cA := k 30) (n := 4200) (f := (vF 30)) hx hb hK hP hD hS 31 30 (WR_get 30 (by decide)) (TR_get 30 (by decide)) (vp_in_nI (show nd < 4200 by omega) (by omega)) dX12_node_19 (fun H locs hP hD hS => ?_)
  have hP : va_P (dC, dI) vwCl (WR a k h0 vi vj (fT (fT vF 29 (upd (vF 29) ((nI nd)).toNatClampNeg kv)) 30 (upd (vF 30) ((nI nd)).toNatClampNeg av)) vG) H := by rw [← WR_F 30 (by decide) _ rfl]; exact hP
  have hD : va_D A (WR a k h0 vi vj (fT (fT vF 29 (upd (vF 29) ((nI nd)).toNatClampNeg kv)) 30 (upd (vF 30) ((nI nd)).toNatClampNeg av)) vG) := by rw [← WR_F 30 (by decide) _ rfl]; exact hD
  refine lv_aload_n hx hb dX12_node_20 rfl (lv_at hl 0 rfl) ?_
  refine va_get (D := (dC, dI)) (ci := 12) (v := .ref (a 31)) (C := RX12) (T := TX12) (N := 163) (fs := fM (vS a vi vj)) hx hb hts iwsRX12_node_in12 hown hK hP 0 rfl rfl 55 (by decide) (hts (.fieldLink RX12 116 "OptimaWorksModel" "partB" "[I") (by decide +kernel)) (fun _ h9 => h9) rfl dX12_node_21 ?_
  refine lv_aload_n hx hb dX12_node_24 rfl (lv_at hl 0 rfl) ?_
  refine va_get (D := (dC, dI)) (ci := 12) (v := .int (vi 52)) (C := RX12) (T := TX12) (N := 163) (fs := fM (vS a vi vj)) hx hb hts iwsRX12_node_in12 hown hK hP 0 rfl rfl 52 (by decide) (hts (.fieldLink RX12 543 "OptimaWorksModel" "nodes" "I") (by decide +kernel)) (fun _ h9 => h9) rfl dX12_node_25 ?_
  refine lv_topi (fun y3 hy3 => ?_)
  obtain rfl : (nI nd) = y3 := (hy3.trans (hnd)).symm
  refine lv_iload_n hx hb dX12_node_28 rfl (lv_at hl 3 rfl) ?_
  refine va_iast (cA := k 31) (n := 4200) (f := (vF 31)) hx hb hK hP hD hS 32 31 (WR_get 31 (by decide)) (TR_get 31 (by decide)) (vp_in_nI (show nd < 4200 by omega) (by omega)) dX12_node_29 (fun H locs hP hD hS => ?_)
  have hP : va_P (dC, dI) vwCl (WR a k h0 vi vj (fT (fT (fT vF 29 (upd (vF 29) ((nI nd)).toNatClampNeg kv)) 30 (upd (vF 30) ((nI nd)).toNatClampNeg av)) 31 (upd (vF 31) ((nI nd)).toNatClampNeg bv)) vG) H := by rw [← WR_F 31 (by decide) _ rfl]; exact hP
  have hD : va_D A (WR a k h0 vi vj (fT (fT (fT vF 29 (upd (vF 29) ((nI nd)).toNatClampNeg kv)) 30 (upd (vF 30) ((nI nd)).toNatClampNeg av)) 31 (upd (vF 31) ((nI nd)).toNatClampNeg bv)) vG) := by rw [← WR_F 31 (by decide) _ rfl]; exact hD
  refine lv_aload_n hx hb dX12_node_30 rfl (lv_at hl 0 rfl) ?_
  refine va_get (D := (dC, dI)) (ci := 12) (v := .ref (a 32)) (C := RX12) (T := TX12) (N := 163) (fs := fM (vS a vi vj)) hx hb hts iwsRX12_node_in12 hown hK hP 0 rfl rfl 56 (by decide) (hts (.fieldLink RX12 119 "OptimaWorksModel" "partC" "[I") (by decide +kernel)) (fun _ h9 => h9) rfl dX12_node_31 ?_
  refine lv_aload_n hx hb dX12_node_34 rfl (lv_at hl 0 rfl) ?_
  refine va_get (D := (dC, dI)) (ci := 12) (v := .int (vi 52)) (C := RX12) (T := TX12) (N := 163) (fs := fM (vS a vi vj)) hx hb hts iwsRX12_node_in12 hown hK hP 0 rfl rfl 52 (by decide) (hts (.fieldLink RX12 543 "OptimaWorksModel" "nodes" "I") (by decide +kernel)) (fun _ h9 => h9) rfl dX12_node_35 ?_
  refine lv_topi (fun y4 hy4 => ?_)
  obtain rfl : (nI nd) = y4 := (hy4.trans (hnd)).symm
  refine lv_iload hx hb dX12_node_38 (lv_at hl 4 rfl) ?_
  refine va_iast (cA := k 32) (n := 4200) (f := (vF 32)) hx hb hK hP hD hS 33 32 (WR_get 32 (by decide)) (TR_get 32 (by decide)) (vp_in_nI (show nd < 4200 by omega) (by omega)) dX12_node_40 (fun H locs hP hD hS => ?_)
  have hP : va_P (dC, dI) vwCl (WR a k h0 vi vj (fT (fT (fT (fT vF 29 (upd (vF 29) ((nI nd)).toNatClampNeg kv)) 30 (upd (vF 30) ((nI nd)).toNatClampNeg av)) 31 (upd (vF 31) ((nI nd)).toNatClampNeg bv)) 32 (upd (vF 32) ((nI nd)).toNatClampNeg cv)) vG) H := by rw [← WR_F 32 (by decide) _ rfl]; exact hP
  have hD : va_D A (WR a k h0 vi vj (fT (fT (fT (fT vF 29 (upd (vF 29) ((nI nd)).toNatClampNeg kv)) 30 (upd (vF 30) ((nI nd)).toNatClampNeg av)) 31 (upd (vF 31) ((nI nd)).toNatClampNeg bv)) 32 (upd (vF 32) ((nI nd)).toNatClampNeg cv)) vG) := by rw [← WR_F 32 (by decide) _ rfl]; exact hD
  refine lv_aload_n hx hb dX12_node_41 rfl (lv_at hl 0 rfl) ?_
  refine va_get (D := (dC, dI)) (ci := 12) (v := .ref (a 33)) (C := RX12) (T := TX12) (N := 163) (fs := fM (vS a vi vj)) hx hb hts iwsRX12_node_in12 hown hK hP 0 rfl rfl 57 (by decide) (hts (.fieldLink RX12 122 "OptimaWorksModel" "where" "[I") (by decide +kernel)) (fun _ h9 => h9) rfl dX12_node_42 ?_
  refine lv_aload_n hx hb dX12_node_45 rfl (lv_at hl 0 rfl) ?_
  refine va_get (D := (dC, dI)) (ci := 12) (v := .int (vi 52)) (C := RX12) (T := TX12) (N := 163) (fs := fM (vS a vi vj)) hx hb hts iwsRX12_node_in12 hown hK hP 0 rfl rfl 52 (by decide) (hts (.fieldLink RX12 543 "OptimaWorksModel" "nodes" "I") (by decide +kernel)) (fun _ h9 => h9) rfl dX12_node_46 ?_
  refine lv_topi (fun y5 hy5 => ?_)
  obtain rfl : (nI nd) = y5 := (hy5.trans (hnd)).symm
  refine lv_iload hx hb dX12_node_49 (lv_at hl 5 rfl) ?_
  refine va_iast (cA := k 33) (n := 4200) (f := (vF 33)) hx hb hK hP hD hS 34 33 (WR_get 33 (by decide)) (TR_get 33 (by decide)) (vp_in_nI (show nd < 4200 by omega) (by omega)) dX12_node_51 (fun H locs hP hD hS => ?_)
  have hP : va_P (dC, dI) vwCl (WR a k h0 vi vj (fT (fT (fT (fT (fT vF 29 (upd (vF 29) ((nI nd)).toNatClampNeg kv)) 30 (upd (vF 30) ((nI nd)).toNatClampNeg av)) 31 (upd (vF 31) ((nI nd)).toNatClampNeg bv)) 32 (upd (vF 32) ((nI nd)).toNatClampNeg cv)) 33 (upd (vF 33) ((nI nd)).toNatClampNeg pv)) vG) H := by rw [← WR_F 33 (by decide) _ rfl]; exact hP
  have hD : va_D A (WR a k h0 vi vj (fT (fT (fT (fT (fT vF 29 (upd (vF 29) ((nI nd)).toNatClampNeg kv)) 30 (upd (vF 30) ((nI nd)).toNatClampNeg av)) 31 (upd (vF 31) ((nI nd)).toNatClampNeg bv)) 32 (upd (vF 32) ((nI nd)).toNatClampNeg cv)) 33 (upd (vF 33) ((nI nd)).toNatClampNeg pv)) vG) := by rw [← WR_F 33 (by decide) _ rfl]; exact hD
  refine lv_aload_n hx hb dX12_node_52 rfl (lv_at hl 0 rfl) ?_
  refine va_get (D := (dC, dI)) (ci := 12) (v := .ref (a 34)) (C := RX12) (T := TX12) (N := 163) (fs := fM (vS a vi vj)) hx hb hts iwsRX12_node_in12 hown hK hP 0 rfl rfl 58 (by decide) (hts (.fieldLink RX12 125 "OptimaWorksModel" "firstA" "[I") (by decide +kernel)) (fun _ h9 => h9) rfl dX12_node_53 ?_
  refine lv_aload_n hx hb dX12_node_56 rfl (lv_at hl 0 rfl) ?_
  refine va_get (D := (dC, dI)) (ci := 12) (v := .int (vi 52)) (C := RX12) (T := TX12) (N := 163) (fs := fM (vS a vi vj)) hx hb hts iwsRX12_node_in12 hown hK hP 0 rfl rfl 52 (by decide) (hts (.fieldLink RX12 543 "OptimaWorksModel" "nodes" "I") (by decide +kernel)) (fun _ h9 => h9) rfl dX12_node_57 ?_
  refine lv_topi (fun y6 hy6 => ?_)
  obtain rfl : (nI nd) = y6 := (hy6.trans (hnd)).symm
  refine lv_iconst (v := 0) hx hb dX12_node_60 (by decide) ?_
  refine va_iast (cA := k 34) (n := 4200) (f := (vF 34)) hx hb hK hP hD hS 35 34 (WR_get 34 (by decide)) (TR_get 34 (by decide)) (vp_in_nI (show nd < 4200 by omega) (by omega)) dX12_node_61 (fun H locs hP hD hS => ?_)
  have hP : va_P (dC, dI) vwCl (WR a k h0 vi vj (fT (fT (fT (fT (fT (fT vF 29 (upd (vF 29) ((nI nd)).toNatClampNeg kv)) 30 (upd (vF 30) ((nI nd)).toNatClampNeg av)) 31 (upd (vF 31) ((nI nd)).toNatClampNeg bv)) 32 (upd (vF 32) ((nI nd)).toNatClampNeg cv)) 33 (upd (vF 33) ((nI nd)).toNatClampNeg pv)) 34 (upd (vF 34) ((nI nd)).toNatClampNeg 0)) vG) H := by rw [← WR_F 34 (by decide) _ rfl]; exact hP
  have hD : va_D A (WR a k h0 vi vj (fT (fT (fT (fT (fT (fT vF 29 (upd (vF 29) ((nI nd)).toNatClampNeg kv)) 30 (upd (vF 30) ((nI nd)).toNatClampNeg av)) 31 (upd (vF 31) ((nI nd)).toNatClampNeg bv)) 32 (upd (vF 32) ((nI nd)).toNatClampNeg cv)) 33 (upd (vF 33) ((nI nd)).toNatClampNeg pv)) 34 (upd (vF 34) ((nI nd)).toNatClampNeg 0)) vG) := by rw [← WR_F 34 (by decide) _ rfl]; exact hD
  refine lv_aload_n hx hb dX12_node_62 rfl (lv_at hl 0 rfl) ?_
  refine va_get (D := (dC, dI)) (ci := 12) (v := .ref (a 35)) (C := RX12) (T := TX12) (N := 163) (fs := fM (vS a vi vj)) hx hb hts iwsRX12_node_in12 hown hK hP 0 rfl rfl 59 (by decide) (hts (.fieldLink RX12 128 "OptimaWorksModel" "firstB" "[I") (by decide +kernel)) (fun _ h9 => h9) rfl dX12_node_63 ?_
  refine lv_aload_n hx hb dX12_node_66 rfl (lv_at hl 0 rfl) ?_
  refine va_get (D := (dC, dI)) (ci := 12) (v := .int (vi 52)) (C := RX12) (T := TX12) (N := 163) (fs := fM (vS a vi vj)) hx hb hts iwsRX12_node_in12 hown hK hP 0 rfl rfl 52 (by decide) (hts (.fieldLink RX12 543 "OptimaWorksModel" "nodes" "I") (by decide +kernel)) (fun _ h9 => h9) rfl dX12_node_67 ?_
  refine lv_topi (fun y7 hy7 => ?_)
  obtain rfl : (nI nd) = y7 := (hy7.trans (hnd)).symm
  refine lv_iconst (v := 0) hx hb dX12_node_70 (by decide) ?_
  refine va_iast (cA := k 35) (n := 4200) (f := (vF 35)) hx hb hK hP hD hS 36 35 (WR_get 35 (by decide)) (TR_get 35 (by decide)) (vp_in_nI (show nd < 4200 by omega) (by omega)) dX12_node_71 (fun H locs hP hD hS => ?_)
  have hP : va_P (dC, dI) vwCl (WR a k h0 vi vj (fT (fT (fT (fT (fT (fT (fT vF 29 (upd (vF 29) ((nI nd)).toNatClampNeg kv)) 30 (upd (vF 30) ((nI nd)).toNatClampNeg av)) 31 (upd (vF 31) ((nI nd)).toNatClampNeg bv)) 32 (upd (vF 32) ((nI nd)).toNatClampNeg cv)) 33 (upd (vF 33) ((nI nd)).toNatClampNeg pv)) 34 (upd (vF 34) ((nI nd)).toNatClampNeg 0)) 35 (upd (vF 35) ((nI nd)).toNatClampNeg 0)) vG) H := by rw [← WR_F 35 (by decide) _ rfl]; exact hP
  have hD : va_D A (WR a k h0 vi vj (fT (fT (fT (fT (fT (fT (fT vF 29 (upd (vF 29) ((nI nd)).toNatClampNeg kv)) 30 (upd (vF 30) ((nI nd)).toNatClampNeg av)) 31 (upd (vF 31) ((nI nd)).toNatClampNeg bv)) 32 (upd (vF 32) ((nI nd)).toNatClampNeg cv)) 33 (upd (vF 33) ((nI nd)).toNatClampNeg pv)) 34 (upd (vF 34) ((nI nd)).toNatClampNeg 0)) 35 (upd (vF 35) ((nI nd)).toNatClampNeg 0)) vG) := by rw [← WR_F 35 (by decide) _ rfl]; exact hD
  refine lv_aload_n hx hb dX12_node_72 rfl (lv_at hl 0 rfl) ?_
  refine lv_dup hx hb dX12_node_73 rfl ?_
  refine va_get (D := (dC, dI)) (ci := 12) (v := .int (vi 52)) (C := RX12) (T := TX12) (N := 163) (fs := fM (vS a vi vj)) hx hb hts iwsRX12_node_in12 hown hK hP 0 rfl rfl 52 (by decide) (hts (.fieldLink RX12 543 "OptimaWorksModel" "nodes" "I") (by decide +kernel)) (fun _ h9 => h9) rfl dX12_node_74 ?_
  refine lv_topi (fun y8 hy8 => ?_)
  obtain rfl : (nI nd) = y8 := (hy8.trans (hnd)).symm
  refine lv_iconst (v := 1) hx hb dX12_node_77 (by decide) ?_
  refine lv_iadd hx hb dX12_node_78 ?_
  refine lv_topi (fun y9 hy9 => ?_)
  obtain rfl : (nI (nd + 1)) = y9 := (hy9.trans (nI_add nd 1)).symm
  refine va_put (D := (dC, dI)) (ci := 12) (v := .int (nI (nd + 1))) (ty := .int) (C := RX12) (T := TX12) (N := 163) (fs := fM (vS a vi vj)) hx hb hts iwsRX12_node_in12 tyX12 tyX12_ok nmX12 hown hK hP hD hS 0 rfl rfl 52 (by decide) (hts (.fieldLink RX12 543 "OptimaWorksModel" "nodes" "I") (by decide +kernel)) (fun _ h9 => h9) rfl (by decide +kernel) rfl rfl (Nat.le_of_ble_eq_true rfl) dX12_node_79 (fun H locs hP hD hS => ?_)
  have hP : va_P (dC, dI) vwCl (WR a k h0 (fT vi 52 (nI (nd + 1))) vj (fT (fT (fT (fT (fT (fT (fT vF 29 (upd (vF 29) ((nI nd)).toNatClampNeg kv)) 30 (upd (vF 30) ((nI nd)).toNatClampNeg av)) 31 (upd (vF 31) ((nI nd)).toNatClampNeg bv)) 32 (upd (vF 32) ((nI nd)).toNatClampNeg cv)) 33 (upd (vF 33) ((nI nd)).toNatClampNeg pv)) 34 (upd (vF 34) ((nI nd)).toNatClampNeg 0)) 35 (upd (vF 35) ((nI nd)).toNatClampNeg 0)) vG) H := by rw [← WR_i 52 _ rfl]; exact hP
  have hD : va_D A (WR a k h0 (fT vi 52 (nI (nd + 1))) vj (fT (fT (fT (fT (fT (fT (fT vF 29 (upd (vF 29) ((nI nd)).toNatClampNeg kv)) 30 (upd (vF 30) ((nI nd)).toNatClampNeg av)) 31 (upd (vF 31) ((nI nd)).toNatClampNeg bv)) 32 (upd (vF 32) ((nI nd)).toNatClampNeg cv)) 33 (upd (vF 33) ((nI nd)).toNatClampNeg pv)) 34 (upd (vF 34) ((nI nd)).toNatClampNeg 0)) 35 (upd (vF 35) ((nI nd)).toNatClampNeg 0)) vG) := by rw [← WR_i 52 _ rfl]; exact hD
  refine lv_aload_n hx hb dX12_node_82 rfl (lv_at hl 0 rfl) ?_
  refine va_get (D := (dC, dI)) (ci := 12) (v := .int (nI (nd + 1))) (C := RX12) (T := TX12) (N := 163) (fs := fM (vS a (fT vi 52 (nI (nd + 1))) vj)) hx hb hts iwsRX12_node_in12 hown hK hP 0 rfl rfl 52 (by decide) (hts (.fieldLink RX12 543 "OptimaWorksModel" "nodes" "I") (by decide +kernel)) (fun _ h9 => h9) rfl dX12_node_83 ?_
  refine lv_iconst (v := 1) hx hb dX12_node_86 (by decide) ?_
  refine lv_isub hx hb dX12_node_87 ?_
  refine lv_topi (fun y10 hy10 => ?_)
  obtain rfl : (nI ((nd + 1) - 1)) = y10 := (hy10.trans (pk_sub (a := (nd + 1)) (b := 1) (by omega))).symm
  refine W.widen (k := 0) (n := 0) (by decide +kernel) (by decide +kernel) ?_
  have e9 : fT (fT (fT (fT (fT (fT (fT vF 29 (upd (vF 29) (nI nd).toNatClampNeg kv)) 30 (upd (vF 30) (nI nd).toNatClampNeg av)) 31 (upd (vF 31) (nI nd).toNatClampNeg bv)) 32 (upd (vF 32) (nI nd).toNatClampNeg cv)) 33 (upd (vF 33) (nI nd).toNatClampNeg pv)) 34 (upd (vF 34) (nI nd).toNatClampNeg 0)) 35 (upd (vF 35) (nI nd).toNatClampNeg 0) = fT (fT (fT (fT (fT (fT (fT vF 29 (upd (vF 29) ((nI nd)).toNatClampNeg kv)) 30 (upd (vF 30) ((nI nd)).toNatClampNeg av)) 31 (upd (vF 31) ((nI nd)).toNatClampNeg bv)) 32 (upd (vF 32) ((nI nd)).toNatClampNeg cv)) 33 (upd (vF 33) ((nI nd)).toNatClampNeg pv)) 34 (upd (vF 34) ((nI nd)).toNatClampNeg 0)) 35 (upd (vF 35) ((nI nd)).toNatClampNeg 0) := by funext q9; by_cases h9_29 : q9 = 29; (subst h9_29; exact ((fT_ne _ _ (Nat.ne_of_beq_eq_false rfl)).trans ((fT_ne _ _ (Nat.ne_of_beq_eq_false rfl)).trans ((fT_ne _ _ (Nat.ne_of_beq_eq_false rfl)).trans ((fT_ne _ _ (Nat.ne_of_beq_eq_false rfl)).trans ((fT_ne _ _ (Nat.ne_of_beq_eq_false rfl)).trans ((fT_ne _ _ (Nat.ne_of_beq_eq_false rfl)).trans (fT_eq _ _ _))))))).trans (Eq.trans (by first | with_reducible rfl | with_reducible assumption | (symm; with_reducible assumption) | rfl | assumption | (symm; assumption) | (subst_vars; rfl)) ((fT_ne _ _ (Nat.ne_of_beq_eq_false rfl)).trans ((fT_ne _ _ (Nat.ne_of_beq_eq_false rfl)).trans ((fT_ne _ _ (Nat.ne_of_beq_eq_false rfl)).trans ((fT_ne _ _ (Nat.ne_of_beq_eq_false rfl)).trans ((fT_ne _ _ (Nat.ne_of_beq_eq_false rfl)).trans ((fT_ne _ _ (Nat.ne_of_beq_eq_false rfl)).trans (fT_eq _ _ _))))))).symm)); by_cases h9_30 : q9 = 30; (subst h9_30; exact ((fT_ne _ _ (Nat.ne_of_beq_eq_false rfl)).trans ((fT_ne _ _ (Nat.ne_of_beq_eq_false rfl)).trans ((fT_ne _ _ (Nat.ne_of_beq_eq_false rfl)).trans ((fT_ne _ _ (Nat.ne_of_beq_eq_false rfl)).trans ((fT_ne _ _ (Nat.ne_of_beq_eq_false rfl)).trans (fT_eq _ _ _)))))).trans (Eq.trans (by first | with_reducible rfl | with_reducible assumption | (symm; with_reducible assumption) | rfl | assumption | (symm; assumption) | (subst_vars; rfl)) ((fT_ne _ _ (Nat.ne_of_beq_eq_false rfl)).trans ((fT_ne _ _ (Nat.ne_of_beq_eq_false rfl)).trans ((fT_ne _ _ (Nat.ne_of_beq_eq_false rfl)).trans ((fT_ne _ _ (Nat.ne_of_beq_eq_false rfl)).trans ((fT_ne _ _ (Nat.ne_of_beq_eq_false rfl)).trans (fT_eq _ _ _)))))).symm)); by_cases h9_31 : q9 = 31; (subst h9_31; exact ((fT_ne _ _ (Nat.ne_of_beq_eq_false rfl)).trans ((fT_ne _ _ (Nat.ne_of_beq_eq_false rfl)).trans ((fT_ne _ _ (Nat.ne_of_beq_eq_false rfl)).trans ((fT_ne _ _ (Nat.ne_of_beq_eq_false rfl)).trans (fT_eq _ _ _))))).trans (Eq.trans (by first | with_reducible rfl | with_reducible assumption | (symm; with_reducible assumption) | rfl | assumption | (symm; assumption) | (subst_vars; rfl)) ((fT_ne _ _ (Nat.ne_of_beq_eq_false rfl)).trans ((fT_ne _ _ (Nat.ne_of_beq_eq_false rfl)).trans ((fT_ne _ _ (Nat.ne_of_beq_eq_false rfl)).trans ((fT_ne _ _ (Nat.ne_of_beq_eq_false rfl)).trans (fT_eq _ _ _))))).symm)); by_cases h9_32 : q9 = 32; (subst h9_32; exact ((fT_ne _ _ (Nat.ne_of_beq_eq_false rfl)).trans ((fT_ne _ _ (Nat.ne_of_beq_eq_false rfl)).trans ((fT_ne _ _ (Nat.ne_of_beq_eq_false rfl)).trans (fT_eq _ _ _)))).trans (Eq.trans (by first | with_reducible rfl | with_reducible assumption | (symm; with_reducible assumption) | rfl | assumption | (symm; assumption) | (subst_vars; rfl)) ((fT_ne _ _ (Nat.ne_of_beq_eq_false rfl)).trans ((fT_ne _ _ (Nat.ne_of_beq_eq_false rfl)).trans ((fT_ne _ _ (Nat.ne_of_beq_eq_false rfl)).trans (fT_eq _ _ _)))).symm)); by_cases h9_33 : q9 = 33; (subst h9_33; exact ((fT_ne _ _ (Nat.ne_of_beq_eq_false rfl)).trans ((fT_ne _ _ (Nat.ne_of_beq_eq_false rfl)).trans (fT_eq _ _ _))).trans (Eq.trans (by first | with_reducible rfl | with_reducible assumption | (symm; with_reducible assumption) | rfl | assumption | (symm; assumption) | (subst_vars; rfl)) ((fT_ne _ _ (Nat.ne_of_beq_eq_false rfl)).trans ((fT_ne _ _ (Nat.ne_of_beq_eq_false rfl)).trans (fT_eq _ _ _))).symm)); by_cases h9_34 : q9 = 34; (subst h9_34; exact ((fT_ne _ _ (Nat.ne_of_beq_eq_false rfl)).trans (fT_eq _ _ _)).trans (Eq.trans (by first | with_reducible rfl | with_reducible assumption | (symm; with_reducible assumption) | rfl | assumption | (symm; assumption) | (subst_vars; rfl)) ((fT_ne _ _ (Nat.ne_of_beq_eq_false rfl)).trans (fT_eq _ _ _)).symm)); by_cases h9_35 : q9 = 35; (subst h9_35; exact (fT_eq _ _ _).trans (Eq.trans (by first | with_reducible rfl | with_reducible assumption | (symm; with_reducible assumption) | rfl | assumption | (symm; assumption) | (subst_vars; rfl)) (fT_eq _ _ _).symm)); exact ((fT_ne _ _ h9_35).trans ((fT_ne _ _ h9_34).trans ((fT_ne _ _ h9_33).trans ((fT_ne _ _ h9_32).trans ((fT_ne _ _ h9_31).trans ((fT_ne _ _ h9_30).trans (fT_ne _ _ h9_29))))))).trans ((fT_ne _ _ h9_35).trans ((fT_ne _ _ h9_34).trans ((fT_ne _ _ h9_33).trans ((fT_ne _ _ h9_32).trans ((fT_ne _ _ h9_31).trans ((fT_ne _ _ h9_30).trans (fT_ne _ _ h9_29))))))).symm
  have hP : va_P (dC, dI) vwCl (WR a k h0 (fT vi 52 (nI (nd + 1))) vj (fT (fT (fT (fT (fT (fT (fT vF 29 (upd (vF 29) (nI nd).toNatClampNeg kv)) 30 (upd (vF 30) (nI nd).toNatClampNeg av)) 31 (upd (vF 31) (nI nd).toNatClampNeg bv)) 32 (upd (vF 32) (nI nd).toNatClampNeg cv)) 33 (upd (vF 33) (nI nd).toNatClampNeg pv)) 34 (upd (vF 34) (nI nd).toNatClampNeg 0)) 35 (upd (vF 35) (nI nd).toNatClampNeg 0)) vG) H := by rw [e9]; exact hP
  have hD : va_D A (WR a k h0 (fT vi 52 (nI (nd + 1))) vj (fT (fT (fT (fT (fT (fT (fT vF 29 (upd (vF 29) (nI nd).toNatClampNeg kv)) 30 (upd (vF 30) (nI nd).toNatClampNeg av)) 31 (upd (vF 31) (nI nd).toNatClampNeg bv)) 32 (upd (vF 32) (nI nd).toNatClampNeg cv)) 33 (upd (vF 33) (nI nd).toNatClampNeg pv)) 34 (upd (vF 34) (nI nd).toNatClampNeg 0)) 35 (upd (vF 35) (nI nd).toNatClampNeg 0)) vG) := by rw [e9]; exact hD
  clear e9
  exact W.iret (v := (nI ((nd + 1) - 1))) hx hb hr (fun t9_ ht hW => ⟨⟨(nI ((nd + 1) - 1)), (), rfl, by (try dsimp only); rw [show nd + 1 - 1 = nd by omega], by rw [ht]; exact hP, hD⟩, hS.F ht⟩) hS.2.2 dX12_node_88
theorem dX12_say_0 : decode cX12_say 0 = .ok (.aload_n 0, 1) := dk_42 (by decide +kernel)
theorem dX12_say_1 : decode cX12_say 1 = .ok (.getfield 933, 3) := dk_180 (by decide +kernel)
theorem dX12_say_4 : decode cX12_say 4 = .ok (.sipush 30000, 3) := dk_17 (by decide +kernel)
theorem dX12_say_7 : decode cX12_say 7 = .ok (.if_icmp .ge 24, 3) := dk_162 (by decide +kernel)
theorem dX12_say_10 : decode cX12_say 10 = .ok (.aload_n 0, 1) := dk_42 (by decide +kernel)
theorem dX12_say_11 : decode cX12_say 11 = .ok (.getfield 248, 3) := dk_180 (by decide +kernel)
theorem dX12_say_14 : decode cX12_say 14 = .ok (.aload_n 0, 1) := dk_42 (by decide +kernel)
theorem dX12_say_15 : decode cX12_say 15 = .ok (.getfield 933, 3) := dk_180 (by decide +kernel)
theorem dX12_say_18 : decode cX12_say 18 = .ok (.iload_n 1, 1) := dk_27 (by decide +kernel)
theorem dX12_say_19 : decode cX12_say 19 = .ok (.i2b, 1) := dk_145 (by decide +kernel)
theorem dX12_say_20 : decode cX12_say 20 = .ok (.bastore, 1) := dk_84 (by decide +kernel)
theorem dX12_say_21 : decode cX12_say 21 = .ok (.aload_n 0, 1) := dk_42 (by decide +kernel)
theorem dX12_say_22 : decode cX12_say 22 = .ok (.dup, 1) := dk_89 (by decide +kernel)
theorem dX12_say_23 : decode cX12_say 23 = .ok (.getfield 933, 3) := dk_180 (by decide +kernel)
theorem dX12_say_26 : decode cX12_say 26 = .ok (.iconst 1, 1) := dk_4 (by decide +kernel)
theorem dX12_say_27 : decode cX12_say 27 = .ok (.iadd, 1) := dk_96 (by decide +kernel)
theorem dX12_say_28 : decode cX12_say 28 = .ok (.putfield 933, 3) := dk_181 (by decide +kernel)
theorem dX12_say_31 : decode cX12_say 31 = .ok (.return_, 1) := dk_177 (by decide +kernel)
def wsRX12_say : List Cond := .code yX12_say cX12_say 2 none :: ([.fieldLink RX12 933 "OptimaWorksModel" "printed" "I", .fieldLink RX12 248 "OptimaWorksModel" "out" "[B"] ++ wsX120)
theorem iwsRX12_say_in12 : ∀ w ∈ wsX120, w ∈ wsRX12_say := fun _ h => List.mem_cons_of_mem _ (List.mem_append_right _ h)
theorem gdwsRX12_say : wsRX12_say.all goodWord = true := gdC rfl (gdA (by decide +kernel : ([.fieldLink RX12 933 "OptimaWorksModel" "printed" "I", .fieldLink RX12 248 "OptimaWorksModel" "out" "[B"] : List Cond).all goodWord = true) gdwsX120)
set_option maxHeartbeats 4000000 in
set_option maxRecDepth 100000 in
/-- say(c) -/
theorem r_X12_say (l : Launch) (dC : Nat → ClassId) (dI : Nat → Nat → Nat) (a : Nat → Nat) (k : Nat → ClassId) (h0 : Nat) (vi : Nat → Int32) (vj : Nat → Int64) (vF : Nat → Nat → Int32) (vG : Nat → Nat → Int64) (cv : Int32) (pn : Nat) (hpn : vi 125 = nI pn) (hpn2 : pn ≤ 30000) (sz : Nat) : Met l yX12_say wsRX12_say ({ frames := 0, cells := 0, slots := 0, locals := 0 }) (va_Pc [.ref h0, .int cv] (fun U => U.heap.size = sz ∧ va_P (dC, dI) vwCl (WR a k h0 vi vj vF vG) U.heap ∧ va_K (dC, dI) vwCl (tX12 k) U ∧ va_D (fun _ => True) (WR a k h0 vi vj vF vG))) (va_Qv (fun (u : (Nat) × (Nat → Int32)) => (pn ≤ (u.1)) ∧ ((u.1) ≤ 30000) ∧ ((u.1) ≤ pn + 1)) (fun (u : (Nat) × (Nat → Int32)) t => va_P (dC, dI) vwCl (WR a k h0 (fT vi 125 (nI (u.1))) vj (fT vF 75 (u.2)) vG) t.heap ∧ va_D (va_A (WR a k h0 vi vj vF vG) sz) (WR a k h0 (fT vi 125 (nI (u.1))) vj (fT vF 75 (u.2)) vG)) (va_A (WR a k h0 vi vj vF vG) sz)) 0 0 (va_A (WR a k h0 vi vj vF vG) sz) := by
  refine Met.ofW (cc := cX12_say) (maxL := 2) (ret := none) (by decide) rfl ?_
  intro p e s m args below meth c s₁ B hml hv
  obtain ⟨rfl, hsz, hP, hK, hD0⟩ := hv
  have hx := B.exec
  have hb := B.bytes
  have hr := B.returns
  have hts := atoms_spec (ws := wsRX12_say) B.pre
  have hown : s.vm.findClass RX12 = some m.cls := findClass_of_methodNamed B.named
  have hlocks := B.notSynchronized
  subst hsz
  have hD := hD0.self (sz := s.heap.size)
  generalize hAe : va_A (WR a k h0 vi vj vF vG) s.heap.size = A at hD ⊢
  have hA : ∀ q : Nat, s.heap.size ≤ q → A q := fun q h => by rw [← hAe]; exact Or.inr h
  have hS : va_S A s.heap s.heap [] := va_S.rf
  have hl := lv_entry ([.ref h0, .int cv]) (n := 2) (Nat.le_of_ble_eq_true rfl)
  rw [lg_entry_eq]
  generalize (lg_sl ([.ref h0, .int cv]) ++ List.replicate (2 - (lg_sl ([.ref h0, .int cv])).length) Slot.unset).toArray = ls at hl ⊢
  have hl : lv_has ls 2 [(0, .ref h0), (1, .int cv)] := hl
  refine lv_aload_n hx hb dX12_say_0 rfl (lv_at hl 0 rfl) ?_
  refine va_get (D := (dC, dI)) (ci := 12) (v := .int (vi 125)) (C := RX12) (T := TX12) (N := 163) (fs := fM (vS a vi vj)) hx hb hts iwsRX12_say_in12 hown hK hP 0 rfl rfl 125 (by decide) (hts (.fieldLink RX12 933 "OptimaWorksModel" "printed" "I") (by decide +kernel)) (fun _ h9 => h9) rfl dX12_say_1 ?_
  refine lv_topi (fun y1 hy1 => ?_)
  obtain rfl : (nI pn) = y1 := (hy1.trans (hpn)).symm
  refine lv_sipush (v := 30000) hx hb dX12_say_4 (by decide) ?_
  refine lv_icmp_ge (tgt := 31) hx hb dX12_say_7 (by decide) (fun c_7 => ?_) (fun c_7 => ?_)
  · have t_7 : ((pn : Nat) : Int) ≥ 30000 := toI_ge c_7 (nI_toInt (by omega)) (by decide)
    refine W.widen (k := 0) (n := 0) (by decide +kernel) (by decide +kernel) ?_
    have e9 : fT vi 125 (nI pn) = vi := by funext q9; by_cases h9_125 : q9 = 125; (subst h9_125; exact (fT_eq _ _ _).trans (Eq.trans (by first | with_reducible rfl | with_reducible assumption | (symm; with_reducible assumption) | rfl | assumption | (symm; assumption) | (subst_vars; rfl)) (Eq.refl _).symm)); exact (fT_ne _ _ h9_125).trans (Eq.refl _).symm
    have hP : va_P (dC, dI) vwCl (WR a k h0 (fT vi 125 (nI pn)) vj vF vG) s.heap := by rw [e9]; exact hP
    have hD : va_D A (WR a k h0 (fT vi 125 (nI pn)) vj vF vG) := by rw [e9]; exact hD
    clear e9
    have e9 : fT vF 75 (vF 75) = vF := fT_id _ _ (rfl)
    have hP : va_P (dC, dI) vwCl (WR a k h0 (fT vi 125 (nI pn)) vj (fT vF 75 (vF 75)) vG) s.heap := by rw [e9]; exact hP
    have hD : va_D A (WR a k h0 (fT vi 125 (nI pn)) vj (fT vF 75 (vF 75)) vG) := by rw [e9]; exact hD
    clear e9
    exact W.vret hx hb hr (fun t9_ ht hW => ⟨⟨(pn, (vF 75)), rfl, by (try dsimp only); exact ⟨by omega, by omega, by omega⟩, by rw [ht]; exact hP, hD⟩, hS.F ht⟩) hS.2.2 dX12_say_31
  · have t_7 : ¬ ((pn : Nat) : Int) ≥ 30000 := toI_nge c_7 (nI_toInt (by omega)) (by decide)
    refine lv_aload_n hx hb dX12_say_10 rfl (lv_at hl 0 rfl) ?_
    refine va_get (D := (dC, dI)) (ci := 12) (v := .ref (a 75)) (C := RX12) (T := TX12) (N := 163) (fs := fM (vS a vi vj)) hx hb hts iwsRX12_say_in12 hown hK hP 0 rfl rfl 124 (by decide) (hts (.fieldLink RX12 248 "OptimaWorksModel" "out" "[B") (by decide +kernel)) (fun _ h9 => h9) rfl dX12_say_11 ?_
    refine lv_aload_n hx hb dX12_say_14 rfl (lv_at hl 0 rfl) ?_
    refine va_get (D := (dC, dI)) (ci := 12) (v := .int (vi 125)) (C := RX12) (T := TX12) (N := 163) (fs := fM (vS a vi vj)) hx hb hts iwsRX12_say_in12 hown hK hP 0 rfl rfl 125 (by decide) (hts (.fieldLink RX12 933 "OptimaWorksModel" "printed" "I") (by decide +kernel)) (fun _ h9 => h9) rfl dX12_say_15 ?_
    refine lv_topi (fun y2 hy2 => ?_)
    obtain rfl : (nI pn) = y2 := (hy2.trans (hpn)).symm
    refine lv_iload_n hx hb dX12_say_18 rfl (lv_at hl 1 rfl) ?_
    refine lv_i2b hx hb dX12_say_19 rfl ?_
    refine va_bast (cA := k 75) (n := 30000) (f := (vF 75)) hx hb hK hP hD hS 76 75 (WR_get 75 (by decide)) (TR_get 75 (by decide)) (vp_in_nI (show pn < 30000 by omega) (by omega)) dX12_say_20 (fun H locs hP hD hS => ?_)
    have hP : va_P (dC, dI) vwCl (WR a k h0 vi vj (fT vF 75 (upd (vF 75) ((nI pn)).toNatClampNeg (vp_nar FieldType.byte ((cv).toInt8.toInt32)))) vG) H := by rw [← WR_F 75 (by decide) _ rfl]; exact hP
    have hD : va_D A (WR a k h0 vi vj (fT vF 75 (upd (vF 75) ((nI pn)).toNatClampNeg (vp_nar FieldType.byte ((cv).toInt8.toInt32)))) vG) := by rw [← WR_F 75 (by decide) _ rfl]; exact hD
    refine lv_aload_n hx hb dX12_say_21 rfl (lv_at hl 0 rfl) ?_
    refine lv_dup hx hb dX12_say_22 rfl ?_
    refine va_get (D := (dC, dI)) (ci := 12) (v := .int (vi 125)) (C := RX12) (T := TX12) (N := 163) (fs := fM (vS a vi vj)) hx hb hts iwsRX12_say_in12 hown hK hP 0 rfl rfl 125 (by decide) (hts (.fieldLink RX12 933 "OptimaWorksModel" "printed" "I") (by decide +kernel)) (fun _ h9 => h9) rfl dX12_say_23 ?_
    refine lv_topi (fun y3 hy3 => ?_)
    obtain rfl : (nI pn) = y3 := (hy3.trans (hpn)).symm
    refine lv_iconst (v := 1) hx hb dX12_say_26 (by decide) ?_
    refine lv_iadd hx hb dX12_say_27 ?_
    refine lv_topi (fun y4 hy4 => ?_)
    obtain rfl : (nI (pn + 1)) = y4 := (hy4.trans (nI_add pn 1)).symm
    refine va_put (D := (dC, dI)) (ci := 12) (v := .int (nI (pn + 1))) (ty := .int) (C := RX12) (T := TX12) (N := 163) (fs := fM (vS a vi vj)) hx hb hts iwsRX12_say_in12 tyX12 tyX12_ok nmX12 hown hK hP hD hS 0 rfl rfl 125 (by decide) (hts (.fieldLink RX12 933 "OptimaWorksModel" "printed" "I") (by decide +kernel)) (fun _ h9 => h9) rfl (by decide +kernel) rfl rfl (Nat.le_of_ble_eq_true rfl) dX12_say_28 (fun H locs hP hD hS => ?_)
    have hP : va_P (dC, dI) vwCl (WR a k h0 (fT vi 125 (nI (pn + 1))) vj (fT vF 75 (upd (vF 75) ((nI pn)).toNatClampNeg (vp_nar FieldType.byte ((cv).toInt8.toInt32)))) vG) H := by rw [← WR_i 125 _ rfl]; exact hP
    have hD : va_D A (WR a k h0 (fT vi 125 (nI (pn + 1))) vj (fT vF 75 (upd (vF 75) ((nI pn)).toNatClampNeg (vp_nar FieldType.byte ((cv).toInt8.toInt32)))) vG) := by rw [← WR_i 125 _ rfl]; exact hD
    refine W.widen (k := 0) (n := 0) (by decide +kernel) (by decide +kernel) ?_
    exact W.vret hx hb hr (fun t9_ ht hW => ⟨⟨((pn + 1), (upd (vF 75) ((nI pn)).toNatClampNeg (vp_nar FieldType.byte ((cv).toInt8.toInt32)))), rfl, by (try dsimp only); exact ⟨by omega, by omega, by omega⟩, by rw [ht]; exact hP, hD⟩, hS.F ht⟩) hS.2.2 dX12_say_31
end
section
theorem div64i {x y : Int64} (hx : -4611686018427387904 < x.toInt ∧ x.toInt < 4611686018427387904) (hy : 0 < y.toInt) : (x / y).toInt = x.toInt.tdiv y.toInt ∧ (x / y).toInt.natAbs ≤ x.toInt.natAbs := by
  have h := div64 (x := x) (y := y) (by omega) hy
  exact ⟨h.1, by rw [h.1]; exact sh_le _ _⟩
theorem l2i_small {x : Int64} (h : -1000000 ≤ x.toInt ∧ x.toInt ≤ 1000000) : x.toInt32.toInt = x.toInt := by
  rw [Int64.toInt_toInt32]; exact Int.bmod_eq_of_le (by omega) (by omega)
theorem tdiv_ne {x g : Int} (hx : x ≠ 0) (hg : 0 < g) (h : g ∣ x) : x.tdiv g ≠ 0 := fun e => by
  have := Int.tdiv_mul_cancel h
  rw [e, Int.zero_mul] at this; exact hx this.symm
end
section
theorem dX12_put1_0 : decode cX12_put1 0 = .ok (.lload_n 3, 1) := dk_33 (by decide +kernel)
theorem dX12_put1_1 : decode cX12_put1 1 = .ok (.lload 5, 2) := dk_22 (by decide +kernel)
theorem dX12_put1_3 : decode cX12_put1 3 = .ok (.invokestatic 626, 3) := dk_184 (by decide +kernel)
theorem dX12_put1_6 : decode cX12_put1 6 = .ok (.lstore 8, 2) := dk_55 (by decide +kernel)
theorem dX12_put1_8 : decode cX12_put1 8 = .ok (.lload 8, 2) := dk_22 (by decide +kernel)
theorem dX12_put1_10 : decode cX12_put1 10 = .ok (.lconst 0, 1) := dk_9 (by decide +kernel)
theorem dX12_put1_11 : decode cX12_put1 11 = .ok (.lcmp, 1) := dk_148 (by decide +kernel)
theorem dX12_put1_12 : decode cX12_put1 12 = .ok (.ifCond .ne 7, 3) := dk_154 (by decide +kernel)
theorem dX12_put1_19 : decode cX12_put1 19 = .ok (.lload_n 3, 1) := dk_33 (by decide +kernel)
theorem dX12_put1_20 : decode cX12_put1 20 = .ok (.lload 8, 2) := dk_22 (by decide +kernel)
theorem dX12_put1_22 : decode cX12_put1 22 = .ok (.ldiv, 1) := dk_109 (by decide +kernel)
theorem dX12_put1_23 : decode cX12_put1 23 = .ok (.lstore 10, 2) := dk_55 (by decide +kernel)
theorem dX12_put1_25 : decode cX12_put1 25 = .ok (.lload 8, 2) := dk_22 (by decide +kernel)
theorem dX12_put1_27 : decode cX12_put1 27 = .ok (.lconst 0, 1) := dk_9 (by decide +kernel)
theorem dX12_put1_28 : decode cX12_put1 28 = .ok (.lcmp, 1) := dk_148 (by decide +kernel)
theorem dX12_put1_29 : decode cX12_put1 29 = .ok (.ifCond .ne 7, 3) := dk_154 (by decide +kernel)
theorem dX12_put1_36 : decode cX12_put1 36 = .ok (.lload 5, 2) := dk_22 (by decide +kernel)
theorem dX12_put1_38 : decode cX12_put1 38 = .ok (.lload 8, 2) := dk_22 (by decide +kernel)
theorem dX12_put1_40 : decode cX12_put1 40 = .ok (.ldiv, 1) := dk_109 (by decide +kernel)
theorem dX12_put1_41 : decode cX12_put1 41 = .ok (.lstore 12, 2) := dk_55 (by decide +kernel)
theorem dX12_put1_43 : decode cX12_put1 43 = .ok (.lload 12, 2) := dk_22 (by decide +kernel)
theorem dX12_put1_45 : decode cX12_put1 45 = .ok (.lconst 0, 1) := dk_9 (by decide +kernel)
theorem dX12_put1_46 : decode cX12_put1 46 = .ok (.lcmp, 1) := dk_148 (by decide +kernel)
theorem dX12_put1_47 : decode cX12_put1 47 = .ok (.ifCond .ge 13, 3) := dk_156 (by decide +kernel)
theorem dX12_put1_50 : decode cX12_put1 50 = .ok (.lload 10, 2) := dk_22 (by decide +kernel)
theorem dX12_put1_52 : decode cX12_put1 52 = .ok (.lneg, 1) := dk_117 (by decide +kernel)
theorem dX12_put1_53 : decode cX12_put1 53 = .ok (.lstore 10, 2) := dk_55 (by decide +kernel)
theorem dX12_put1_55 : decode cX12_put1 55 = .ok (.lload 12, 2) := dk_22 (by decide +kernel)
theorem dX12_put1_57 : decode cX12_put1 57 = .ok (.lneg, 1) := dk_117 (by decide +kernel)
theorem dX12_put1_58 : decode cX12_put1 58 = .ok (.lstore 12, 2) := dk_55 (by decide +kernel)
theorem dX12_put1_60 : decode cX12_put1 60 = .ok (.lload 10, 2) := dk_22 (by decide +kernel)
theorem dX12_put1_62 : decode cX12_put1 62 = .ok (.ldc2_w 630, 3) := dk_20 (by decide +kernel)
theorem dX12_put1_65 : decode cX12_put1 65 = .ok (.lcmp, 1) := dk_148 (by decide +kernel)
theorem dX12_put1_66 : decode cX12_put1 66 = .ok (.ifCond .gt 21, 3) := dk_157 (by decide +kernel)
theorem dX12_put1_69 : decode cX12_put1 69 = .ok (.lload 10, 2) := dk_22 (by decide +kernel)
theorem dX12_put1_71 : decode cX12_put1 71 = .ok (.ldc2_w 632, 3) := dk_20 (by decide +kernel)
theorem dX12_put1_74 : decode cX12_put1 74 = .ok (.lcmp, 1) := dk_148 (by decide +kernel)
theorem dX12_put1_75 : decode cX12_put1 75 = .ok (.ifCond .lt 12, 3) := dk_155 (by decide +kernel)
theorem dX12_put1_78 : decode cX12_put1 78 = .ok (.lload 12, 2) := dk_22 (by decide +kernel)
theorem dX12_put1_80 : decode cX12_put1 80 = .ok (.ldc2_w 630, 3) := dk_20 (by decide +kernel)
theorem dX12_put1_83 : decode cX12_put1 83 = .ok (.lcmp, 1) := dk_148 (by decide +kernel)
theorem dX12_put1_84 : decode cX12_put1 84 = .ok (.ifCond .le 11, 3) := dk_158 (by decide +kernel)
theorem dX12_put1_87 : decode cX12_put1 87 = .ok (.aload_n 0, 1) := dk_42 (by decide +kernel)
theorem dX12_put1_88 : decode cX12_put1 88 = .ok (.bipush 9, 2) := dk_16 (by decide +kernel)
theorem dX12_put1_90 : decode cX12_put1 90 = .ok (.iload 7, 2) := dk_21 (by decide +kernel)
theorem dX12_put1_92 : decode cX12_put1 92 = .ok (.invokevirtual 518, 3) := dk_182 (by decide +kernel)
theorem dX12_put1_95 : decode cX12_put1 95 = .ok (.aload_n 0, 1) := dk_42 (by decide +kernel)
theorem dX12_put1_96 : decode cX12_put1 96 = .ok (.getfield 515, 3) := dk_180 (by decide +kernel)
theorem dX12_put1_99 : decode cX12_put1 99 = .ok (.ifCond .le 4, 3) := dk_158 (by decide +kernel)
theorem dX12_put1_102 : decode cX12_put1 102 = .ok (.return_, 1) := dk_177 (by decide +kernel)
theorem dX12_put1_103 : decode cX12_put1 103 = .ok (.aload_n 0, 1) := dk_42 (by decide +kernel)
theorem dX12_put1_104 : decode cX12_put1 104 = .ok (.getfield 170, 3) := dk_180 (by decide +kernel)
theorem dX12_put1_107 : decode cX12_put1 107 = .ok (.bipush 9, 2) := dk_16 (by decide +kernel)
theorem dX12_put1_109 : decode cX12_put1 109 = .ok (.iload_n 1, 1) := dk_27 (by decide +kernel)
theorem dX12_put1_110 : decode cX12_put1 110 = .ok (.imul, 1) := dk_104 (by decide +kernel)
theorem dX12_put1_111 : decode cX12_put1 111 = .ok (.iload_n 2, 1) := dk_28 (by decide +kernel)
theorem dX12_put1_112 : decode cX12_put1 112 = .ok (.iadd, 1) := dk_96 (by decide +kernel)
theorem dX12_put1_113 : decode cX12_put1 113 = .ok (.lload 10, 2) := dk_22 (by decide +kernel)
theorem dX12_put1_115 : decode cX12_put1 115 = .ok (.l2i, 1) := dk_136 (by decide +kernel)
theorem dX12_put1_116 : decode cX12_put1 116 = .ok (.iastore, 1) := dk_79 (by decide +kernel)
theorem dX12_put1_117 : decode cX12_put1 117 = .ok (.aload_n 0, 1) := dk_42 (by decide +kernel)
theorem dX12_put1_118 : decode cX12_put1 118 = .ok (.getfield 173, 3) := dk_180 (by decide +kernel)
theorem dX12_put1_121 : decode cX12_put1 121 = .ok (.bipush 9, 2) := dk_16 (by decide +kernel)
theorem dX12_put1_123 : decode cX12_put1 123 = .ok (.iload_n 1, 1) := dk_27 (by decide +kernel)
theorem dX12_put1_124 : decode cX12_put1 124 = .ok (.imul, 1) := dk_104 (by decide +kernel)
theorem dX12_put1_125 : decode cX12_put1 125 = .ok (.iload_n 2, 1) := dk_28 (by decide +kernel)
theorem dX12_put1_126 : decode cX12_put1 126 = .ok (.iadd, 1) := dk_96 (by decide +kernel)
theorem dX12_put1_127 : decode cX12_put1 127 = .ok (.lload 12, 2) := dk_22 (by decide +kernel)
theorem dX12_put1_129 : decode cX12_put1 129 = .ok (.l2i, 1) := dk_136 (by decide +kernel)
theorem dX12_put1_130 : decode cX12_put1 130 = .ok (.iastore, 1) := dk_79 (by decide +kernel)
theorem dX12_put1_131 : decode cX12_put1 131 = .ok (.return_, 1) := dk_177 (by decide +kernel)
def wsRX12_put1 : List Cond := .code yX12_put1 cX12_put1 14 none :: ([.constantLong RX12 630 1000000, .constantLong RX12 632 (-1000000), .fieldLink RX12 515 "OptimaWorksModel" "stop" "I", .fieldLink RX12 170 "OptimaWorksModel" "top" "[I", .fieldLink RX12 173 "OptimaWorksModel" "under" "[I"] ++ wsX120 ++ (va_wsS RX12 626 yX12_common1 wsRX12_common1) ++ (wsV RX12 518 RX12 yX12_faultAt wsRX12_faultAt))
theorem iwsRX12_put1_in12 : ∀ w ∈ wsX120, w ∈ wsRX12_put1 := fun _ h => List.mem_cons_of_mem _ (List.mem_append_left _ (List.mem_append_left _ (List.mem_append_right _ h)))
theorem gwsRX12_put1_0 : GoodIn wsRX12_put1 (va_wsS RX12 626 yX12_common1 wsRX12_common1) := goodIn_sub (fun _ h => List.mem_cons_of_mem _ (List.mem_append_left _ (List.mem_append_right _ h))) (gdS (by decide +kernel) gdwsRX12_common1)
theorem gwsRX12_put1_1 : GoodIn wsRX12_put1 (wsV RX12 518 RX12 yX12_faultAt wsRX12_faultAt) := goodIn_sub (fun _ h => List.mem_cons_of_mem _ (List.mem_append_right _ h)) (gdV (by decide +kernel) gdwsRX12_faultAt)
theorem gdwsRX12_put1 : wsRX12_put1.all goodWord = true := gdC rfl (gdA (gdA (gdA (by decide +kernel : ([.constantLong RX12 630 1000000, .constantLong RX12 632 (-1000000), .fieldLink RX12 515 "OptimaWorksModel" "stop" "I", .fieldLink RX12 170 "OptimaWorksModel" "top" "[I", .fieldLink RX12 173 "OptimaWorksModel" "under" "[I"] : List Cond).all goodWord = true) gdwsX120) (gdS (by decide +kernel) gdwsRX12_common1)) (gdV (by decide +kernel) gdwsRX12_faultAt))
set_option maxHeartbeats 4000000 in
set_option maxRecDepth 100000 in
/-- put1(v, k, n, d, p) -/
theorem r_X12_put1 (l : Launch) (dC : Nat → ClassId) (dI : Nat → Nat → Nat) (a : Nat → Nat) (k : Nat → ClassId) (h0 : Nat) (vi : Nat → Int32) (vj : Nat → Int64) (vF : Nat → Nat → Int32) (vG : Nat → Nat → Int64) (vn : Nat) (kn : Nat) (xn : Int64) (xd : Int64) (pv : Int32) (hvn : vn < 100) (hkn : kn < 9) (hxn : -4611686018427387904 < (xn).toInt ∧ (xn).toInt < 4611686018427387904) (hxd : -4611686018427387904 < (xd).toInt ∧ (xd).toInt < 4611686018427387904) (hd0 : (xd).toInt ≠ 0) (sz : Nat) : Met l yX12_put1 wsRX12_put1 ({ frames := 1, cells := 0, slots := 0, locals := 29 }) (va_Pc [.ref h0, .int (nI vn), .int (nI kn), .long xn, .long xd, .int pv] (fun U => U.heap.size = sz ∧ va_P (dC, dI) vwCl (WR a k h0 vi vj vF vG) U.heap ∧ va_K (dC, dI) vwCl (tX12 k) U ∧ va_D (fun _ => True) (WR a k h0 vi vj vF vG))) (va_Qv (fun (u : (Int32) × (Int32) × (Nat → Int32) × (Nat → Int32)) => ((¬ ((u.1)).toInt ≤ 0 ∧ (u.2.2.1) = vF 49 ∧ (u.2.2.2) = vF 50) ∨ (((u.1)).toInt ≤ 0 ∧ (u.1) = vi 21 ∧ ∃ tv uv : Int32, ((tv).toInt ≤ 1000000 ∧ -1000000 ≤ (tv).toInt ∧ 1 ≤ (uv).toInt ∧ (uv).toInt ≤ 1000000) ∧ (u.2.2.1) = upd (vF 49) (nI (9 * vn + kn)).toNatClampNeg tv ∧ (u.2.2.2) = upd (vF 50) (nI (9 * vn + kn)).toNatClampNeg uv))) (fun (u : (Int32) × (Int32) × (Nat → Int32) × (Nat → Int32)) t => va_P (dC, dI) vwCl (WR a k h0 (fT (fT vi 21 (u.1)) 22 (u.2.1)) vj (fT (fT vF 49 (u.2.2.1)) 50 (u.2.2.2)) vG) t.heap ∧ va_D (va_A (WR a k h0 vi vj vF vG) sz) (WR a k h0 (fT (fT vi 21 (u.1)) 22 (u.2.1)) vj (fT (fT vF 49 (u.2.2.1)) 50 (u.2.2.2)) vG)) (va_A (WR a k h0 vi vj vF vG) sz)) 0 0 (va_A (WR a k h0 vi vj vF vG) sz) := by
  refine Met.ofW (cc := cX12_put1) (maxL := 14) (ret := none) (by decide) rfl ?_
  intro p e s m args below meth c s₁ B hml hv
  obtain ⟨rfl, hsz, hP, hK, hD0⟩ := hv
  have hx := B.exec
  have hb := B.bytes
  have hr := B.returns
  have hts := atoms_spec (ws := wsRX12_put1) B.pre
  have hown : s.vm.findClass RX12 = some m.cls := findClass_of_methodNamed B.named
  have hlocks := B.notSynchronized
  subst hsz
  have hD := hD0.self (sz := s.heap.size)
  generalize hAe : va_A (WR a k h0 vi vj vF vG) s.heap.size = A at hD ⊢
  have hA : ∀ q : Nat, s.heap.size ≤ q → A q := fun q h => by rw [← hAe]; exact Or.inr h
  have hS : va_S A s.heap s.heap [] := va_S.rf
  have hl := lv_entry ([.ref h0, .int (nI vn), .int (nI kn), .long xn, .long xd, .int pv]) (n := 14) (Nat.le_of_ble_eq_true rfl)
  rw [lg_entry_eq]
  generalize (lg_sl ([.ref h0, .int (nI vn), .int (nI kn), .long xn, .long xd, .int pv]) ++ List.replicate (14 - (lg_sl ([.ref h0, .int (nI vn), .int (nI kn), .long xn, .long xd, .int pv])).length) Slot.unset).toArray = ls at hl ⊢
  have hl : lv_has ls 14 [(0, .ref h0), (1, .int (nI vn)), (2, .int (nI kn)), (3, .long xn), (5, .long xd), (7, .int pv)] := hl
  refine lv_lload_n hx hb dX12_put1_0 rfl (lv_at hl 3 rfl) ?_
  refine lv_lload hx hb dX12_put1_1 (lv_at hl 4 rfl) ?_
  have hFc := noneFree hS hA
  refine va_calll (va_runS (As := [.long xn, .long xd]) (rest := []) ⟨hx, hb, hml, hown, hts⟩ (r_X12_common1 l dC dI xn xd (by first | with_reducible assumption | decide | omega | rfl | assumption) (by first | with_reducible assumption | decide | omega | rfl | assumption) s.heap.size) (va_cwS 2 hts gwsRX12_put1_0 rfl rfl rfl (by decide +kernel) ⟨by decide +kernel, by decide +kernel⟩) ⟨fun a U g mk q => by obtain ⟨q0, q1, qP, qK, qD⟩ := q; exact ⟨q0, q1, qP, va_K.moved (u := U) (U := U.calling g mk a) (Vm.Alike.refl U.vm) qK, qD⟩, fun U hU9 hW => ⟨rfl, by rw [hU9], by rw [hU9]; exact nilP, va_K.moved hW.alike (hK.sub (tys' := []) [] rfl), nilD⟩⟩ rfl rfl hl.1 rfl (lv_room (Nat.le_of_ble_eq_true rfl)) dX12_put1_3 (by decide +kernel)) hS (fun q _ h => hFc q h) hFc (fun r3 u t9_ H1 locs ht hvm hw9 hB9 hz1 hk1 hS => ?_)
  have hP := keepAll hP hk1
  clear hB9
  generalize H1 = H at hP hS ⊢
  have hP : va_P (dC, dI) vwCl (WR a k h0 vi vj vF vG) H := hP
  have hD : va_D A (WR a k h0 vi vj vF vG) := hD
  have f3_0 := hw9
  try dsimp only at f3_0
  have hgp : 0 < (r3).toInt := by (have h9 := gcd_ne (x := (xn).toInt) (y := (xd).toInt) (Or.inr hd0)); rw [f3_0]; omega
  refine lv_lstore hx hb dX12_put1_6 hl (by decide) rfl (fun ls (hl : lv_has ls _ ([(8, .long r3), (0, .ref h0), (1, .int (nI vn)), (2, .int (nI kn)), (3, .long xn), (5, .long xd), (7, .int pv)])) => ?_)
  refine lv_lload hx hb dX12_put1_8 (lv_at hl 0 rfl) ?_
  refine lv_lconst (v := 0) hx hb dX12_put1_10 (by decide) ?_
  refine W.lcmp hx hb dX12_put1_11 ?_
  refine lv_if_ne (tgt := 19) hx hb dX12_put1_12 (by decide) (fun c_12 => ?_) (fun c9 => False.elim (by have t9 : (r3).toInt = 0 := toL_nne c9 rfl (by decide); omega))
  have t_12 : (r3).toInt ≠ 0 := toL_ne c_12 rfl (by decide)
  refine lv_lload_n hx hb dX12_put1_19 rfl (lv_at hl 4 rfl) ?_
  refine lv_lload hx hb dX12_put1_20 (lv_at hl 0 rfl) ?_
  refine lv_ldiv hx hb dX12_put1_22 (by exact ne0_64 hgp) ?_
  have qa := div64i (x := xn) (y := r3) hxn hgp
  obtain ⟨av, hav⟩ : ∃ av, av = ((xn / r3) : Int64) := ⟨_, rfl⟩
  have ba : av.toInt.natAbs ≤ (xn).toInt.natAbs := by rw [hav]; exact qa.2
  refine lv_topl (fun y1 hy1 => ?_)
  obtain rfl : av = y1 := (hy1.trans (hav.symm)).symm
  refine lv_lstore hx hb dX12_put1_23 hl (by decide) rfl (fun ls (hl : lv_has ls _ ([(10, .long av), (8, .long r3), (0, .ref h0), (1, .int (nI vn)), (2, .int (nI kn)), (3, .long xn), (5, .long xd), (7, .int pv)])) => ?_)
  refine lv_lload hx hb dX12_put1_25 (lv_at hl 1 rfl) ?_
  refine lv_lconst (v := 0) hx hb dX12_put1_27 (by decide) ?_
  refine W.lcmp hx hb dX12_put1_28 ?_
  refine lv_if_ne (tgt := 36) hx hb dX12_put1_29 (by decide) (fun c_29 => ?_) (fun c9 => False.elim (by have t9 : (r3).toInt = 0 := toL_nne c9 rfl (by decide); omega))
  have t_29 : (r3).toInt ≠ 0 := toL_ne c_29 rfl (by decide)
  refine lv_lload hx hb dX12_put1_36 (lv_at hl 6 rfl) ?_
  refine lv_lload hx hb dX12_put1_38 (lv_at hl 1 rfl) ?_
  refine lv_ldiv hx hb dX12_put1_40 (by exact ne0_64 hgp) ?_
  have qb := div64i (x := xd) (y := r3) hxd hgp
  obtain ⟨bv, hbv⟩ : ∃ bv, bv = ((xd / r3) : Int64) := ⟨_, rfl⟩
  have bb9 : bv.toInt.natAbs ≤ (xd).toInt.natAbs := by rw [hbv]; exact qb.2
  have bn9 : bv.toInt ≠ 0 := by rw [hbv, qb.1]; exact tdiv_ne hd0 hgp (by rw [f3_0]; exact Int.gcd_dvd_right _ _)
  refine lv_topl (fun y2 hy2 => ?_)
  obtain rfl : bv = y2 := (hy2.trans (hbv.symm)).symm
  refine lv_lstore hx hb dX12_put1_41 hl (by decide) rfl (fun ls (hl : lv_has ls _ ([(12, .long bv), (10, .long av), (8, .long r3), (0, .ref h0), (1, .int (nI vn)), (2, .int (nI kn)), (3, .long xn), (5, .long xd), (7, .int pv)])) => ?_)
  refine lv_lload hx hb dX12_put1_43 (lv_at hl 0 rfl) ?_
  refine lv_lconst (v := 0) hx hb dX12_put1_45 (by decide) ?_
  refine W.lcmp hx hb dX12_put1_46 ?_
  refine W.cut (pc := 60) (fun H locs ls stk => ∃ (aw : Int64) (bw : Int64), (-4611686018427387904 < aw.toInt ∧ aw.toInt < 4611686018427387904) ∧ (1 ≤ bw.toInt ∧ bw.toInt < 4611686018427387904) ∧  stk = [] ∧ va_P (dC, dI) vwCl (WR a k h0 vi vj vF vG) H ∧ va_D A (WR a k h0 vi vj vF vG) ∧ va_S A s.heap H locs ∧ lv_has ls 14 [(0, .ref h0), (1, .int (nI vn)), (2, .int (nI kn)), (7, .int pv), (10, .long aw), (12, .long bw)]) (fun join1 => ?_) ?_
  · refine lv_if_ge (tgt := 60) hx hb dX12_put1_47 (by decide) (fun c_47 => ?_) (fun c_47 => ?_)
    · have t_47 : (bv).toInt ≥ 0 := toL_ge c_47 rfl (by decide)
      have hl : lv_has _ _ ([(0, .ref h0), (1, .int (nI vn)), (2, .int (nI kn)), (7, .int pv), (10, .long av), (12, .long bv)]) := lv_sub hl [3, 4, 5, 8, 1, 0] rfl
      exact join1 _ _ _ _ ⟨av, bv, by omega, by omega, rfl, hP, hD, hS, hl⟩
    · have t_47 : ¬ (bv).toInt ≥ 0 := toL_nge c_47 rfl (by decide)
      refine lv_lload hx hb dX12_put1_50 (lv_at hl 1 rfl) ?_
      refine lv_lneg hx hb dX12_put1_52 ?_
      refine lv_lstore hx hb dX12_put1_53 hl (by decide) rfl (fun ls (hl : lv_has ls _ ([(10, .long (-av)), (12, .long bv), (8, .long r3), (0, .ref h0), (1, .int (nI vn)), (2, .int (nI kn)), (3, .long xn), (5, .long xd), (7, .int pv)])) => ?_)
      refine lv_lload hx hb dX12_put1_55 (lv_at hl 1 rfl) ?_
      refine lv_lneg hx hb dX12_put1_57 ?_
      refine lv_lstore hx hb dX12_put1_58 hl (by decide) rfl (fun ls (hl : lv_has ls _ ([(12, .long (-bv)), (10, .long (-av)), (8, .long r3), (0, .ref h0), (1, .int (nI vn)), (2, .int (nI kn)), (3, .long xn), (5, .long xd), (7, .int pv)])) => ?_)
      have hl : lv_has _ _ ([(0, .ref h0), (1, .int (nI vn)), (2, .int (nI kn)), (7, .int pv), (10, .long (-av)), (12, .long (-bv))]) := lv_sub hl [3, 4, 5, 8, 1, 0] rfl
      exact join1 _ _ _ _ ⟨(-av), (-bv), by rw [Int64.toInt_neg, Int.bmod_eq_of_le (by omega) (by omega)]; omega, by rw [Int64.toInt_neg, Int.bmod_eq_of_le (by omega) (by omega)]; omega, rfl, hP, hD, hS, hl⟩
  · rintro H locs ls stk ⟨aw, bw, haw, hbw, rfl, hP, hD, hS, hl⟩
    refine lv_lload hx hb dX12_put1_60 (lv_at hl 4 rfl) ?_
    refine lv_ldc2 (v := 1000000) hx hb hown (hts (.constantLong RX12 630 1000000) (by decide +kernel)) dX12_put1_62 ?_
    refine W.lcmp hx hb dX12_put1_65 ?_
    refine W.cut (pc := 95) (fun H locs ls stk => ∃ (s3 : Int32) (p3 : Int32), (¬ (s3).toInt ≤ 0 ∨ (s3 = vi 21 ∧ -1000000 ≤ aw.toInt ∧ aw.toInt ≤ 1000000 ∧ bw.toInt ≤ 1000000)) ∧  stk = [] ∧ va_P (dC, dI) vwCl (WR a k h0 (fT (fT vi 21 s3) 22 p3) vj vF vG) H ∧ va_D A (WR a k h0 (fT (fT vi 21 s3) 22 p3) vj vF vG) ∧ va_S A s.heap H locs ∧ lv_has ls 14 [(0, .ref h0), (1, .int (nI vn)), (2, .int (nI kn)), (7, .int pv), (10, .long aw), (12, .long bw)]) (fun join2 => ?_) ?_
    · refine lv_if_gt (tgt := 87) hx hb dX12_put1_66 (by decide) (fun c_66 => ?_) (fun c_66 => ?_)
      · have t_66 : (aw).toInt > 1000000 := toL_gt c_66 rfl (by decide)
        refine lv_aload_n hx hb dX12_put1_87 rfl (lv_at hl 0 rfl) ?_
        refine lv_bipush (v := 9) hx hb dX12_put1_88 (by decide) ?_
        refine lv_iload hx hb dX12_put1_90 (lv_at hl 3 rfl) ?_
        have hFc := allFree hD hS hA
        refine va_callv (va_runV (As := [.int 9, .int pv]) (rest := []) ⟨hx, hb, hml, hown, hts⟩ (r_X12_faultAt l dC dI a k h0 vi vj vF vG 9 pv (by first | with_reducible assumption | decide | omega | rfl | assumption) H.size) (cwV 2 hts gwsRX12_put1_1 rfl rfl rfl hd_yX12_faultAt_RX12 (by decide +kernel)) (fz_pre (va_recv hK hP (ci := 12) (q0 := 0) rfl rfl) hP hK hD) rfl rfl hl.1 rfl (lv_room (Nat.le_of_ble_eq_true rfl)) dX12_put1_92 (by decide +kernel)) hS (fun q _ h => hFc q h) hFc (fun u t9_ H locs ht hvm hw9 hB9 hz1 hk1 hS => ?_)
        revert u
        refine fz_p2 ?_
        intro s292 p292 hw9 hB9
        try dsimp only at hw9 hB9
        have hP : va_P (dC, dI) vwCl (WR a k h0 (fT (fT vi 21 s292) 22 p292) vj vF vG) H := fz_P ht hB9.1
        have hD : va_D A (WR a k h0 (fT (fT vi 21 s292) 22 p292) vj vF vG) := hB9.2.weaken (fun _ q _ h => hFc q.1 h)
        revert hw9
        refine fz_a2 ?_
        intro f92_0 f92_1
        have f92_0 : (0 < (vi 21).toInt ∧ s292 = (vi 21) ∧ p292 = (vi 22)) ∨ (¬ 0 < (vi 21).toInt ∧ s292 = 9 ∧ p292 = pv) := f92_0
        have hl : lv_has _ _ ([(0, .ref h0), (1, .int (nI vn)), (2, .int (nI kn)), (7, .int pv), (10, .long aw), (12, .long bw)]) := lv_sub hl [0, 1, 2, 3, 4, 5] rfl
        exact join2 _ _ _ _ ⟨s292, p292, Or.inl (by rcases f92_0 with h9 | h9; (rw [h9.2.1]; omega); (rw [h9.2.1]; decide)), rfl, hP, hD, hS, hl⟩
      · have t_66 : ¬ (aw).toInt > 1000000 := toL_ngt c_66 rfl (by decide)
        refine lv_lload hx hb dX12_put1_69 (lv_at hl 4 rfl) ?_
        refine lv_ldc2 (v := (-1000000)) hx hb hown (hts (.constantLong RX12 632 (-1000000)) (by decide +kernel)) dX12_put1_71 ?_
        refine W.lcmp hx hb dX12_put1_74 ?_
        refine lv_if_lt (tgt := 87) hx hb dX12_put1_75 (by decide) (fun c_75 => ?_) (fun c_75 => ?_)
        · have t_75 : (aw).toInt < -1000000 := toL_lt c_75 rfl (by decide)
          refine lv_aload_n hx hb dX12_put1_87 rfl (lv_at hl 0 rfl) ?_
          refine lv_bipush (v := 9) hx hb dX12_put1_88 (by decide) ?_
          refine lv_iload hx hb dX12_put1_90 (lv_at hl 3 rfl) ?_
          have hFc := allFree hD hS hA
          refine va_callv (va_runV (As := [.int 9, .int pv]) (rest := []) ⟨hx, hb, hml, hown, hts⟩ (r_X12_faultAt l dC dI a k h0 vi vj vF vG 9 pv (by first | with_reducible assumption | decide | omega | rfl | assumption) H.size) (cwV 2 hts gwsRX12_put1_1 rfl rfl rfl hd_yX12_faultAt_RX12 (by decide +kernel)) (fz_pre (va_recv hK hP (ci := 12) (q0 := 0) rfl rfl) hP hK hD) rfl rfl hl.1 rfl (lv_room (Nat.le_of_ble_eq_true rfl)) dX12_put1_92 (by decide +kernel)) hS (fun q _ h => hFc q h) hFc (fun u t9_ H locs ht hvm hw9 hB9 hz1 hk1 hS => ?_)
          revert u
          refine fz_p2 ?_
          intro s292_1 p292_1 hw9 hB9
          try dsimp only at hw9 hB9
          have hP : va_P (dC, dI) vwCl (WR a k h0 (fT (fT vi 21 s292_1) 22 p292_1) vj vF vG) H := fz_P ht hB9.1
          have hD : va_D A (WR a k h0 (fT (fT vi 21 s292_1) 22 p292_1) vj vF vG) := hB9.2.weaken (fun _ q _ h => hFc q.1 h)
          revert hw9
          refine fz_a2 ?_
          intro f92_1_0 f92_1_1
          have f92_1_0 : (0 < (vi 21).toInt ∧ s292_1 = (vi 21) ∧ p292_1 = (vi 22)) ∨ (¬ 0 < (vi 21).toInt ∧ s292_1 = 9 ∧ p292_1 = pv) := f92_1_0
          have hl : lv_has _ _ ([(0, .ref h0), (1, .int (nI vn)), (2, .int (nI kn)), (7, .int pv), (10, .long aw), (12, .long bw)]) := lv_sub hl [0, 1, 2, 3, 4, 5] rfl
          exact join2 _ _ _ _ ⟨s292_1, p292_1, Or.inl (by rcases f92_1_0 with h9 | h9; (rw [h9.2.1]; omega); (rw [h9.2.1]; decide)), rfl, hP, hD, hS, hl⟩
        · have t_75 : ¬ (aw).toInt < -1000000 := toL_nlt c_75 rfl (by decide)
          refine lv_lload hx hb dX12_put1_78 (lv_at hl 5 rfl) ?_
          refine lv_ldc2 (v := 1000000) hx hb hown (hts (.constantLong RX12 630 1000000) (by decide +kernel)) dX12_put1_80 ?_
          refine W.lcmp hx hb dX12_put1_83 ?_
          refine lv_if_le (tgt := 95) hx hb dX12_put1_84 (by decide) (fun c_84 => ?_) (fun c_84 => ?_)
          · have t_84 : (bw).toInt ≤ 1000000 := toL_le c_84 rfl (by decide)
            have e9 : fT (fT vi 21 (vi 21)) 22 (vi 22) = vi := by funext q9; by_cases h9_21 : q9 = 21; (subst h9_21; exact ((fT_ne _ _ (Nat.ne_of_beq_eq_false rfl)).trans (fT_eq _ _ _)).trans (Eq.trans (by first | with_reducible rfl | with_reducible assumption | (symm; with_reducible assumption) | rfl | assumption | (symm; assumption) | (subst_vars; rfl)) (Eq.refl _).symm)); by_cases h9_22 : q9 = 22; (subst h9_22; exact (fT_eq _ _ _).trans (Eq.trans (by first | with_reducible rfl | with_reducible assumption | (symm; with_reducible assumption) | rfl | assumption | (symm; assumption) | (subst_vars; rfl)) (Eq.refl _).symm)); exact ((fT_ne _ _ h9_22).trans (fT_ne _ _ h9_21)).trans (Eq.refl _).symm
            have hP : va_P (dC, dI) vwCl (WR a k h0 (fT (fT vi 21 (vi 21)) 22 (vi 22)) vj vF vG) H := by rw [e9]; exact hP
            have hD : va_D A (WR a k h0 (fT (fT vi 21 (vi 21)) 22 (vi 22)) vj vF vG) := by rw [e9]; exact hD
            clear e9
            have hl : lv_has _ _ ([(0, .ref h0), (1, .int (nI vn)), (2, .int (nI kn)), (7, .int pv), (10, .long aw), (12, .long bw)]) := lv_sub hl [0, 1, 2, 3, 4, 5] rfl
            exact join2 _ _ _ _ ⟨(vi 21), (vi 22), Or.inr ⟨rfl, by omega, by omega, by omega⟩, rfl, hP, hD, hS, hl⟩
          · have t_84 : ¬ (bw).toInt ≤ 1000000 := toL_nle c_84 rfl (by decide)
            refine lv_aload_n hx hb dX12_put1_87 rfl (lv_at hl 0 rfl) ?_
            refine lv_bipush (v := 9) hx hb dX12_put1_88 (by decide) ?_
            refine lv_iload hx hb dX12_put1_90 (lv_at hl 3 rfl) ?_
            have hFc := allFree hD hS hA
            refine va_callv (va_runV (As := [.int 9, .int pv]) (rest := []) ⟨hx, hb, hml, hown, hts⟩ (r_X12_faultAt l dC dI a k h0 vi vj vF vG 9 pv (by first | with_reducible assumption | decide | omega | rfl | assumption) H.size) (cwV 2 hts gwsRX12_put1_1 rfl rfl rfl hd_yX12_faultAt_RX12 (by decide +kernel)) (fz_pre (va_recv hK hP (ci := 12) (q0 := 0) rfl rfl) hP hK hD) rfl rfl hl.1 rfl (lv_room (Nat.le_of_ble_eq_true rfl)) dX12_put1_92 (by decide +kernel)) hS (fun q _ h => hFc q h) hFc (fun u t9_ H locs ht hvm hw9 hB9 hz1 hk1 hS => ?_)
            revert u
            refine fz_p2 ?_
            intro s292_2 p292_2 hw9 hB9
            try dsimp only at hw9 hB9
            have hP : va_P (dC, dI) vwCl (WR a k h0 (fT (fT vi 21 s292_2) 22 p292_2) vj vF vG) H := fz_P ht hB9.1
            have hD : va_D A (WR a k h0 (fT (fT vi 21 s292_2) 22 p292_2) vj vF vG) := hB9.2.weaken (fun _ q _ h => hFc q.1 h)
            revert hw9
            refine fz_a2 ?_
            intro f92_2_0 f92_2_1
            have f92_2_0 : (0 < (vi 21).toInt ∧ s292_2 = (vi 21) ∧ p292_2 = (vi 22)) ∨ (¬ 0 < (vi 21).toInt ∧ s292_2 = 9 ∧ p292_2 = pv) := f92_2_0
            have hl : lv_has _ _ ([(0, .ref h0), (1, .int (nI vn)), (2, .int (nI kn)), (7, .int pv), (10, .long aw), (12, .long bw)]) := lv_sub hl [0, 1, 2, 3, 4, 5] rfl
            exact join2 _ _ _ _ ⟨s292_2, p292_2, Or.inl (by rcases f92_2_0 with h9 | h9; (rw [h9.2.1]; omega); (rw [h9.2.1]; decide)), rfl, hP, hD, hS, hl⟩
    · rintro H locs ls stk ⟨s3, p3, hs3, rfl, hP, hD, hS, hl⟩
      refine lv_aload_n hx hb dX12_put1_95 rfl (lv_at hl 0 rfl) ?_
      refine va_get (D := (dC, dI)) (ci := 12) (v := .int s3) (C := RX12) (T := TX12) (N := 163) (fs := fM (vS a (fT (fT vi 21 s3) 22 p3) vj)) hx hb hts iwsRX12_put1_in12 hown hK hP 0 rfl rfl 21 (by decide) (hts (.fieldLink RX12 515 "OptimaWorksModel" "stop" "I") (by decide +kernel)) (fun _ h9 => h9) rfl dX12_put1_96 ?_
      refine lv_if_le (tgt := 103) hx hb dX12_put1_99 (by decide) (fun c_99 => ?_) (fun c_99 => ?_)
      · have t_99 : (s3).toInt ≤ 0 := toI_le c_99 rfl (by decide)
        refine lv_aload_n hx hb dX12_put1_103 rfl (lv_at hl 0 rfl) ?_
        refine va_get (D := (dC, dI)) (ci := 12) (v := .ref (a 49)) (C := RX12) (T := TX12) (N := 163) (fs := fM (vS a (fT (fT vi 21 s3) 22 p3) vj)) hx hb hts iwsRX12_put1_in12 hown hK hP 0 rfl rfl 78 (by decide) (hts (.fieldLink RX12 170 "OptimaWorksModel" "top" "[I") (by decide +kernel)) (fun _ h9 => h9) rfl dX12_put1_104 ?_
        refine lv_bipush (v := 9) hx hb dX12_put1_107 (by decide) ?_
        refine lv_iload_n hx hb dX12_put1_109 rfl (lv_at hl 1 rfl) ?_
        refine lv_imul hx hb dX12_put1_110 ?_
        refine lv_topi (fun y3 hy3 => ?_)
        obtain rfl : (nI (9 * vn)) = y3 := (hy3.trans (pk_mul 9 vn)).symm
        refine lv_iload_n hx hb dX12_put1_111 rfl (lv_at hl 2 rfl) ?_
        refine lv_iadd hx hb dX12_put1_112 ?_
        refine lv_topi (fun y4 hy4 => ?_)
        obtain rfl : (nI ((9 * vn) + kn)) = y4 := (hy4.trans (nI_add (9 * vn) kn)).symm
        refine lv_lload hx hb dX12_put1_113 (lv_at hl 4 rfl) ?_
        refine lv_l2i hx hb dX12_put1_115 rfl ?_
        refine va_iast (cA := k 49) (n := 900) (f := (vF 49)) hx hb hK hP hD hS 50 49 (WR_get 49 (by decide)) (TR_get 49 (by decide)) (vp_in_nI (show ((9 * vn) + kn) < 900 by omega) (by omega)) dX12_put1_116 (fun H locs hP hD hS => ?_)
        have hP : va_P (dC, dI) vwCl (WR a k h0 (fT (fT vi 21 s3) 22 p3) vj (fT vF 49 (upd (vF 49) ((nI ((9 * vn) + kn))).toNatClampNeg ((aw).toInt32))) vG) H := by rw [← WR_F 49 (by decide) _ rfl]; exact hP
        have hD : va_D A (WR a k h0 (fT (fT vi 21 s3) 22 p3) vj (fT vF 49 (upd (vF 49) ((nI ((9 * vn) + kn))).toNatClampNeg ((aw).toInt32))) vG) := by rw [← WR_F 49 (by decide) _ rfl]; exact hD
        refine lv_aload_n hx hb dX12_put1_117 rfl (lv_at hl 0 rfl) ?_
        refine va_get (D := (dC, dI)) (ci := 12) (v := .ref (a 50)) (C := RX12) (T := TX12) (N := 163) (fs := fM (vS a (fT (fT vi 21 s3) 22 p3) vj)) hx hb hts iwsRX12_put1_in12 hown hK hP 0 rfl rfl 79 (by decide) (hts (.fieldLink RX12 173 "OptimaWorksModel" "under" "[I") (by decide +kernel)) (fun _ h9 => h9) rfl dX12_put1_118 ?_
        refine lv_bipush (v := 9) hx hb dX12_put1_121 (by decide) ?_
        refine lv_iload_n hx hb dX12_put1_123 rfl (lv_at hl 1 rfl) ?_
        refine lv_imul hx hb dX12_put1_124 ?_
        refine lv_topi (fun y5 hy5 => ?_)
        obtain rfl : (nI (9 * vn)) = y5 := (hy5.trans (pk_mul 9 vn)).symm
        refine lv_iload_n hx hb dX12_put1_125 rfl (lv_at hl 2 rfl) ?_
        refine lv_iadd hx hb dX12_put1_126 ?_
        refine lv_topi (fun y6 hy6 => ?_)
        obtain rfl : (nI ((9 * vn) + kn)) = y6 := (hy6.trans (nI_add (9 * vn) kn)).symm
        refine lv_lload hx hb dX12_put1_127 (lv_at hl 5 rfl) ?_
        refine lv_l2i hx hb dX12_put1_129 rfl ?_
        refine va_iast (cA := k 50) (n := 900) (f := (vF 50)) hx hb hK hP hD hS 51 50 (WR_get 50 (by decide)) (TR_get 50 (by decide)) (vp_in_nI (show ((9 * vn) + kn) < 900 by omega) (by omega)) dX12_put1_130 (fun H locs hP hD hS => ?_)
        have hP : va_P (dC, dI) vwCl (WR a k h0 (fT (fT vi 21 s3) 22 p3) vj (fT (fT vF 49 (upd (vF 49) ((nI ((9 * vn) + kn))).toNatClampNeg ((aw).toInt32))) 50 (upd (vF 50) ((nI ((9 * vn) + kn))).toNatClampNeg ((bw).toInt32))) vG) H := by rw [← WR_F 50 (by decide) _ rfl]; exact hP
        have hD : va_D A (WR a k h0 (fT (fT vi 21 s3) 22 p3) vj (fT (fT vF 49 (upd (vF 49) ((nI ((9 * vn) + kn))).toNatClampNeg ((aw).toInt32))) 50 (upd (vF 50) ((nI ((9 * vn) + kn))).toNatClampNeg ((bw).toInt32))) vG) := by rw [← WR_F 50 (by decide) _ rfl]; exact hD
        refine W.widen (k := 0) (n := 0) (by decide +kernel) (by decide +kernel) ?_
        exact W.vret hx hb hr (fun t9_ ht hW => ⟨⟨(s3, p3, (upd (vF 49) ((nI ((9 * vn) + kn))).toNatClampNeg ((aw).toInt32)), (upd (vF 50) ((nI ((9 * vn) + kn))).toNatClampNeg ((bw).toInt32))), rfl, by (try dsimp only); (have h9 := hs3.resolve_left (fun h => h (by omega))); exact Or.inr ⟨by omega, h9.1, _, _, ⟨by rw [l2i_small ⟨h9.2.1, h9.2.2.1⟩]; omega, by rw [l2i_small ⟨h9.2.1, h9.2.2.1⟩]; omega, by rw [l2i_small (by omega)]; omega, by rw [l2i_small (by omega)]; omega⟩, rfl, rfl⟩, by rw [ht]; exact hP, hD⟩, hS.F ht⟩) hS.2.2 dX12_put1_131
      · have t_99 : ¬ (s3).toInt ≤ 0 := toI_nle c_99 rfl (by decide)
        refine W.widen (k := 0) (n := 0) (by decide +kernel) (by decide +kernel) ?_
        have e9 : fT (fT vF 49 (vF 49)) 50 (vF 50) = vF := (fT_id _ _ (fT_ne _ _ (Nat.ne_of_beq_eq_false rfl))).trans (fT_id _ _ (rfl))
        have hP : va_P (dC, dI) vwCl (WR a k h0 (fT (fT vi 21 s3) 22 p3) vj (fT (fT vF 49 (vF 49)) 50 (vF 50)) vG) H := by rw [e9]; exact hP
        have hD : va_D A (WR a k h0 (fT (fT vi 21 s3) 22 p3) vj (fT (fT vF 49 (vF 49)) 50 (vF 50)) vG) := by rw [e9]; exact hD
        clear e9
        exact W.vret hx hb hr (fun t9_ ht hW => ⟨⟨(s3, p3, (vF 49), (vF 50)), rfl, by (try dsimp only); exact Or.inl ⟨by omega, rfl, rfl⟩, by rw [ht]; exact hP, hD⟩, hS.F ht⟩) hS.2.2 dX12_put1_102
end
section
/-- the numbers of a row on the pile are in their bounds -/
def RowU (f g : Nat → Int32) (v : Nat) : Prop := ∀ q, q < 9 → -2000000 ≤ (f (9 * v + q)).toInt ∧ (f (9 * v + q)).toInt ≤ 2000000 ∧ 1 ≤ (g (9 * v + q)).toInt ∧ (g (9 * v + q)).toInt ≤ 2000000
theorem RowU.put {f g : Nat → Int32} {u v k : Nat} {x y : Int32} (hv : v < 100) (hu : u < 100) (hk : k < 9) (h : RowU f g u) (hx : (x).toInt ≤ 1000000 ∧ -1000000 ≤ (x).toInt ∧ 1 ≤ (y).toInt ∧ (y).toInt ≤ 1000000) : RowU (upd f (nI (9 * v + k)).toNatClampNeg x) (upd g (nI (9 * v + k)).toNatClampNeg y) u := by
  intro q hq
  rw [upd_at (by omega), upd_at (by omega)]
  by_cases e : 9 * u + q = 9 * v + k
  · rw [if_pos e, if_pos e]; omega
  · rw [if_neg e, if_neg e]; exact h q hq
end
section
theorem hd_yX12_put1_RX12 : yX12_put1.cls = RX12 ∧ yX12_put1.cls ≠ "java/lang/invoke/MethodHandle" ∧ yX12_put1.cls ≠ "java/lang/invoke/VarHandle" ∧ (parseMethodDescriptor yX12_put1.desc).map (fun d => d.parameters.length) = some 5 := by decide +kernel
theorem dX12_join_0 : decode cX12_join 0 = .ok (.iconst 0, 1) := dk_3 (by decide +kernel)
theorem dX12_join_1 : decode cX12_join 1 = .ok (.istore 5, 2) := dk_54 (by decide +kernel)
theorem dX12_join_3 : decode cX12_join 3 = .ok (.iload 5, 2) := dk_21 (by decide +kernel)
theorem dX12_join_5 : decode cX12_join 5 = .ok (.bipush 9, 2) := dk_16 (by decide +kernel)
theorem dX12_join_7 : decode cX12_join 7 = .ok (.if_icmp .ge 110, 3) := dk_162 (by decide +kernel)
theorem dX12_join_10 : decode cX12_join 10 = .ok (.aload_n 0, 1) := dk_42 (by decide +kernel)
theorem dX12_join_11 : decode cX12_join 11 = .ok (.getfield 515, 3) := dk_180 (by decide +kernel)
theorem dX12_join_14 : decode cX12_join 14 = .ok (.ifCond .ne 103, 3) := dk_154 (by decide +kernel)
theorem dX12_join_17 : decode cX12_join 17 = .ok (.aload_n 0, 1) := dk_42 (by decide +kernel)
theorem dX12_join_18 : decode cX12_join 18 = .ok (.iload_n 1, 1) := dk_27 (by decide +kernel)
theorem dX12_join_19 : decode cX12_join 19 = .ok (.iload 5, 2) := dk_21 (by decide +kernel)
theorem dX12_join_21 : decode cX12_join 21 = .ok (.aload_n 0, 1) := dk_42 (by decide +kernel)
theorem dX12_join_22 : decode cX12_join 22 = .ok (.getfield 170, 3) := dk_180 (by decide +kernel)
theorem dX12_join_25 : decode cX12_join 25 = .ok (.bipush 9, 2) := dk_16 (by decide +kernel)
theorem dX12_join_27 : decode cX12_join 27 = .ok (.iload_n 1, 1) := dk_27 (by decide +kernel)
theorem dX12_join_28 : decode cX12_join 28 = .ok (.imul, 1) := dk_104 (by decide +kernel)
theorem dX12_join_29 : decode cX12_join 29 = .ok (.iload 5, 2) := dk_21 (by decide +kernel)
theorem dX12_join_31 : decode cX12_join 31 = .ok (.iadd, 1) := dk_96 (by decide +kernel)
theorem dX12_join_32 : decode cX12_join 32 = .ok (.iaload, 1) := dk_46 (by decide +kernel)
theorem dX12_join_33 : decode cX12_join 33 = .ok (.i2l, 1) := dk_133 (by decide +kernel)
theorem dX12_join_34 : decode cX12_join 34 = .ok (.aload_n 0, 1) := dk_42 (by decide +kernel)
theorem dX12_join_35 : decode cX12_join 35 = .ok (.getfield 173, 3) := dk_180 (by decide +kernel)
theorem dX12_join_38 : decode cX12_join 38 = .ok (.bipush 9, 2) := dk_16 (by decide +kernel)
theorem dX12_join_40 : decode cX12_join 40 = .ok (.iload_n 2, 1) := dk_28 (by decide +kernel)
theorem dX12_join_41 : decode cX12_join 41 = .ok (.imul, 1) := dk_104 (by decide +kernel)
theorem dX12_join_42 : decode cX12_join 42 = .ok (.iload 5, 2) := dk_21 (by decide +kernel)
theorem dX12_join_44 : decode cX12_join 44 = .ok (.iadd, 1) := dk_96 (by decide +kernel)
theorem dX12_join_45 : decode cX12_join 45 = .ok (.iaload, 1) := dk_46 (by decide +kernel)
theorem dX12_join_46 : decode cX12_join 46 = .ok (.i2l, 1) := dk_133 (by decide +kernel)
theorem dX12_join_47 : decode cX12_join 47 = .ok (.lmul, 1) := dk_105 (by decide +kernel)
theorem dX12_join_48 : decode cX12_join 48 = .ok (.iload_n 3, 1) := dk_29 (by decide +kernel)
theorem dX12_join_49 : decode cX12_join 49 = .ok (.i2l, 1) := dk_133 (by decide +kernel)
theorem dX12_join_50 : decode cX12_join 50 = .ok (.aload_n 0, 1) := dk_42 (by decide +kernel)
theorem dX12_join_51 : decode cX12_join 51 = .ok (.getfield 170, 3) := dk_180 (by decide +kernel)
theorem dX12_join_54 : decode cX12_join 54 = .ok (.bipush 9, 2) := dk_16 (by decide +kernel)
theorem dX12_join_56 : decode cX12_join 56 = .ok (.iload_n 2, 1) := dk_28 (by decide +kernel)
theorem dX12_join_57 : decode cX12_join 57 = .ok (.imul, 1) := dk_104 (by decide +kernel)
theorem dX12_join_58 : decode cX12_join 58 = .ok (.iload 5, 2) := dk_21 (by decide +kernel)
theorem dX12_join_60 : decode cX12_join 60 = .ok (.iadd, 1) := dk_96 (by decide +kernel)
theorem dX12_join_61 : decode cX12_join 61 = .ok (.iaload, 1) := dk_46 (by decide +kernel)
theorem dX12_join_62 : decode cX12_join 62 = .ok (.i2l, 1) := dk_133 (by decide +kernel)
theorem dX12_join_63 : decode cX12_join 63 = .ok (.lmul, 1) := dk_105 (by decide +kernel)
theorem dX12_join_64 : decode cX12_join 64 = .ok (.aload_n 0, 1) := dk_42 (by decide +kernel)
theorem dX12_join_65 : decode cX12_join 65 = .ok (.getfield 173, 3) := dk_180 (by decide +kernel)
theorem dX12_join_68 : decode cX12_join 68 = .ok (.bipush 9, 2) := dk_16 (by decide +kernel)
theorem dX12_join_70 : decode cX12_join 70 = .ok (.iload_n 1, 1) := dk_27 (by decide +kernel)
theorem dX12_join_71 : decode cX12_join 71 = .ok (.imul, 1) := dk_104 (by decide +kernel)
theorem dX12_join_72 : decode cX12_join 72 = .ok (.iload 5, 2) := dk_21 (by decide +kernel)
theorem dX12_join_74 : decode cX12_join 74 = .ok (.iadd, 1) := dk_96 (by decide +kernel)
theorem dX12_join_75 : decode cX12_join 75 = .ok (.iaload, 1) := dk_46 (by decide +kernel)
theorem dX12_join_76 : decode cX12_join 76 = .ok (.i2l, 1) := dk_133 (by decide +kernel)
theorem dX12_join_77 : decode cX12_join 77 = .ok (.lmul, 1) := dk_105 (by decide +kernel)
theorem dX12_join_78 : decode cX12_join 78 = .ok (.ladd, 1) := dk_97 (by decide +kernel)
theorem dX12_join_79 : decode cX12_join 79 = .ok (.aload_n 0, 1) := dk_42 (by decide +kernel)
theorem dX12_join_80 : decode cX12_join 80 = .ok (.getfield 173, 3) := dk_180 (by decide +kernel)
theorem dX12_join_83 : decode cX12_join 83 = .ok (.bipush 9, 2) := dk_16 (by decide +kernel)
theorem dX12_join_85 : decode cX12_join 85 = .ok (.iload_n 1, 1) := dk_27 (by decide +kernel)
theorem dX12_join_86 : decode cX12_join 86 = .ok (.imul, 1) := dk_104 (by decide +kernel)
theorem dX12_join_87 : decode cX12_join 87 = .ok (.iload 5, 2) := dk_21 (by decide +kernel)
theorem dX12_join_89 : decode cX12_join 89 = .ok (.iadd, 1) := dk_96 (by decide +kernel)
theorem dX12_join_90 : decode cX12_join 90 = .ok (.iaload, 1) := dk_46 (by decide +kernel)
theorem dX12_join_91 : decode cX12_join 91 = .ok (.i2l, 1) := dk_133 (by decide +kernel)
theorem dX12_join_92 : decode cX12_join 92 = .ok (.aload_n 0, 1) := dk_42 (by decide +kernel)
theorem dX12_join_93 : decode cX12_join 93 = .ok (.getfield 173, 3) := dk_180 (by decide +kernel)
theorem dX12_join_96 : decode cX12_join 96 = .ok (.bipush 9, 2) := dk_16 (by decide +kernel)
theorem dX12_join_98 : decode cX12_join 98 = .ok (.iload_n 2, 1) := dk_28 (by decide +kernel)
theorem dX12_join_99 : decode cX12_join 99 = .ok (.imul, 1) := dk_104 (by decide +kernel)
theorem dX12_join_100 : decode cX12_join 100 = .ok (.iload 5, 2) := dk_21 (by decide +kernel)
theorem dX12_join_102 : decode cX12_join 102 = .ok (.iadd, 1) := dk_96 (by decide +kernel)
theorem dX12_join_103 : decode cX12_join 103 = .ok (.iaload, 1) := dk_46 (by decide +kernel)
theorem dX12_join_104 : decode cX12_join 104 = .ok (.i2l, 1) := dk_133 (by decide +kernel)
theorem dX12_join_105 : decode cX12_join 105 = .ok (.lmul, 1) := dk_105 (by decide +kernel)
theorem dX12_join_106 : decode cX12_join 106 = .ok (.iload 4, 2) := dk_21 (by decide +kernel)
theorem dX12_join_108 : decode cX12_join 108 = .ok (.invokevirtual 634, 3) := dk_182 (by decide +kernel)
theorem dX12_join_111 : decode cX12_join 111 = .ok (.iinc 5 1, 3) := dk_132 (by decide +kernel)
theorem dX12_join_114 : decode cX12_join 114 = .ok (.goto (-111), 3) := dk_167 (by decide +kernel)
theorem dX12_join_117 : decode cX12_join 117 = .ok (.return_, 1) := dk_177 (by decide +kernel)
def wsRX12_join : List Cond := .code yX12_join cX12_join 6 none :: ([.fieldLink RX12 515 "OptimaWorksModel" "stop" "I", .fieldLink RX12 170 "OptimaWorksModel" "top" "[I", .fieldLink RX12 173 "OptimaWorksModel" "under" "[I"] ++ wsX120 ++ (wsV RX12 634 RX12 yX12_put1 wsRX12_put1))
theorem iwsRX12_join_in12 : ∀ w ∈ wsX120, w ∈ wsRX12_join := fun _ h => List.mem_cons_of_mem _ (List.mem_append_left _ (List.mem_append_right _ h))
theorem gwsRX12_join_0 : GoodIn wsRX12_join (wsV RX12 634 RX12 yX12_put1 wsRX12_put1) := goodIn_sub (fun _ h => List.mem_cons_of_mem _ (List.mem_append_right _ h)) (gdV (by decide +kernel) gdwsRX12_put1)
theorem gdwsRX12_join : wsRX12_join.all goodWord = true := gdC rfl (gdA (gdA (by decide +kernel : ([.fieldLink RX12 515 "OptimaWorksModel" "stop" "I", .fieldLink RX12 170 "OptimaWorksModel" "top" "[I", .fieldLink RX12 173 "OptimaWorksModel" "under" "[I"] : List Cond).all goodWord = true) gdwsX120) (gdV (by decide +kernel) gdwsRX12_put1))
set_option maxHeartbeats 4000000 in
set_option maxRecDepth 100000 in
/-- join(v, w, how, p) -/
theorem r_X12_join (l : Launch) (dC : Nat → ClassId) (dI : Nat → Nat → Nat) (a : Nat → Nat) (k : Nat → ClassId) (h0 : Nat) (vi : Nat → Int32) (vj : Nat → Int64) (vF : Nat → Nat → Int32) (vG : Nat → Nat → Int64) (vn : Nat) (wn : Nat) (hw : Int32) (hI : Int) (pv : Int32) (hvn : vn < 100) (hwn : wn < 100) (hhI : (hw).toInt = hI) (hI1 : hI = 1 ∨ hI = -1) (hrv : RowU (vF 49) (vF 50) vn) (hrw : RowU (vF 49) (vF 50) wn) (sz : Nat) : Met l yX12_join wsRX12_join ({ frames := 2, cells := 0, slots := 0, locals := 62 }) (va_Pc [.ref h0, .int (nI vn), .int (nI wn), .int hw, .int pv] (fun U => U.heap.size = sz ∧ va_P (dC, dI) vwCl (WR a k h0 vi vj vF vG) U.heap ∧ va_K (dC, dI) vwCl (tX12 k) U ∧ va_D (fun _ => True) (WR a k h0 vi vj vF vG))) (va_Qv (fun (u : (Int32) × (Int32) × (Nat → Int32) × (Nat → Int32)) => (∀ v9, v9 < 100 → RowU (vF 49) (vF 50) v9 → RowU (u.2.2.1) (u.2.2.2) v9) ∧ (∀ q, (q < 9 * vn ∨ 9 * vn + 9 ≤ q) → (u.2.2.1) q = vF 49 q) ∧ (∀ q, (q < 9 * vn ∨ 9 * vn + 9 ≤ q) → (u.2.2.2) q = vF 50 q) ∧ ((u.1) = vi 21 ∨ 0 < ((u.1)).toInt)) (fun (u : (Int32) × (Int32) × (Nat → Int32) × (Nat → Int32)) t => va_P (dC, dI) vwCl (WR a k h0 (fT (fT vi 21 (u.1)) 22 (u.2.1)) vj (fT (fT vF 49 (u.2.2.1)) 50 (u.2.2.2)) vG) t.heap ∧ va_D (va_A (WR a k h0 vi vj vF vG) sz) (WR a k h0 (fT (fT vi 21 (u.1)) 22 (u.2.1)) vj (fT (fT vF 49 (u.2.2.1)) 50 (u.2.2.2)) vG)) (va_A (WR a k h0 vi vj vF vG) sz)) 0 0 (va_A (WR a k h0 vi vj vF vG) sz) := by
  refine Met.ofW (cc := cX12_join) (maxL := 6) (ret := none) (by decide) rfl ?_
  intro p e s m args below meth c s₁ B hml hv
  obtain ⟨rfl, hsz, hP, hK, hD0⟩ := hv
  have hx := B.exec
  have hb := B.bytes
  have hr := B.returns
  have hts := atoms_spec (ws := wsRX12_join) B.pre
  have hown : s.vm.findClass RX12 = some m.cls := findClass_of_methodNamed B.named
  have hlocks := B.notSynchronized
  subst hsz
  have hD := hD0.self (sz := s.heap.size)
  generalize hAe : va_A (WR a k h0 vi vj vF vG) s.heap.size = A at hD ⊢
  have hA : ∀ q : Nat, s.heap.size ≤ q → A q := fun q h => by rw [← hAe]; exact Or.inr h
  have hS : va_S A s.heap s.heap [] := va_S.rf
  have hl := lv_entry ([.ref h0, .int (nI vn), .int (nI wn), .int hw, .int pv]) (n := 6) (Nat.le_of_ble_eq_true rfl)
  rw [lg_entry_eq]
  generalize (lg_sl ([.ref h0, .int (nI vn), .int (nI wn), .int hw, .int pv]) ++ List.replicate (6 - (lg_sl ([.ref h0, .int (nI vn), .int (nI wn), .int hw, .int pv])).length) Slot.unset).toArray = ls at hl ⊢
  have hl : lv_has ls 6 [(0, .ref h0), (1, .int (nI vn)), (2, .int (nI wn)), (3, .int hw), (4, .int pv)] := hl
  refine lv_iconst (v := 0) hx hb dX12_join_0 (by decide) ?_
  refine lv_istore hx hb dX12_join_1 hl (by decide) rfl (fun ls (hl : lv_has ls _ ([(5, .int 0), (0, .ref h0), (1, .int (nI vn)), (2, .int (nI wn)), (3, .int hw), (4, .int pv)])) => ?_)
  have e9 : fT (fT vi 21 (vi 21)) 22 (vi 22) = vi := by funext q9; by_cases h9_21 : q9 = 21; (subst h9_21; exact ((fT_ne _ _ (Nat.ne_of_beq_eq_false rfl)).trans (fT_eq _ _ _)).trans (Eq.trans (by first | with_reducible rfl | with_reducible assumption | (symm; with_reducible assumption) | rfl | assumption | (symm; assumption) | (subst_vars; rfl)) (Eq.refl _).symm)); by_cases h9_22 : q9 = 22; (subst h9_22; exact (fT_eq _ _ _).trans (Eq.trans (by first | with_reducible rfl | with_reducible assumption | (symm; with_reducible assumption) | rfl | assumption | (symm; assumption) | (subst_vars; rfl)) (Eq.refl _).symm)); exact ((fT_ne _ _ h9_22).trans (fT_ne _ _ h9_21)).trans (Eq.refl _).symm
  have hP : va_P (dC, dI) vwCl (WR a k h0 (fT (fT vi 21 (vi 21)) 22 (vi 22)) vj vF vG) s.heap := by rw [e9]; exact hP
  have hD : va_D A (WR a k h0 (fT (fT vi 21 (vi 21)) 22 (vi 22)) vj vF vG) := by rw [e9]; exact hD
  clear e9
  have e9 : fT (fT vF 49 (vF 49)) 50 (vF 50) = vF := by funext q9; by_cases h9_49 : q9 = 49; (subst h9_49; exact ((fT_ne _ _ (Nat.ne_of_beq_eq_false rfl)).trans (fT_eq _ _ _)).trans (Eq.trans (by first | with_reducible rfl | with_reducible assumption | (symm; with_reducible assumption) | rfl | assumption | (symm; assumption) | (subst_vars; rfl)) (Eq.refl _).symm)); by_cases h9_50 : q9 = 50; (subst h9_50; exact (fT_eq _ _ _).trans (Eq.trans (by first | with_reducible rfl | with_reducible assumption | (symm; with_reducible assumption) | rfl | assumption | (symm; assumption) | (subst_vars; rfl)) (Eq.refl _).symm)); exact ((fT_ne _ _ h9_50).trans (fT_ne _ _ h9_49)).trans (Eq.refl _).symm
  have hP : va_P (dC, dI) vwCl (WR a k h0 (fT (fT vi 21 (vi 21)) 22 (vi 22)) vj (fT (fT vF 49 (vF 49)) 50 (vF 50)) vG) s.heap := by rw [e9]; exact hP
  have hD : va_D A (WR a k h0 (fT (fT vi 21 (vi 21)) 22 (vi 22)) vj (fT (fT vF 49 (vF 49)) 50 (vF 50)) vG) := by rw [e9]; exact hD
  clear e9
  have hl : lv_has _ _ ([(0, .ref h0), (1, .int (nI vn)), (2, .int (nI wn)), (3, .int hw), (4, .int pv), (5, .int (nI 0))]) := lv_sub hl [1, 2, 3, 4, 5, 0] rfl
  refine (fun (loop : ∀ (n9 : Nat) (k5 : Nat) (s3 : Int32) (p3 : Int32) (f49 : Nat → Int32) (f50 : Nat → Int32) (H : Heap) (locs : List Loc) (ls : Array Slot), (k5 ≤ 9) → (∀ v9, v9 < 100 → RowU (vF 49) (vF 50) v9 → RowU f49 f50 v9) → (∀ q, (q < 9 * vn ∨ 9 * vn + 9 ≤ q) → f49 q = vF 49 q) → (∀ q, (q < 9 * vn ∨ 9 * vn + 9 ≤ q) → f50 q = vF 50 q) → (s3 = vi 21 ∨ 0 < (s3).toInt) →  (9 < k5 + n9) → va_P (dC, dI) vwCl (WR a k h0 (fT (fT vi 21 s3) 22 p3) vj (fT (fT vF 49 f49) 50 f50) vG) H → va_D A (WR a k h0 (fT (fT vi 21 s3) 22 p3) vj (fT (fT vF 49 f49) 50 f50) vG) → va_S A s.heap H locs → lv_has ls 6 [(0, .ref h0), (1, .int (nI vn)), (2, .int (nI wn)), (3, .int hw), (4, .int pv), (5, .int (nI k5))] → W p l e _ s m _ below meth c H locs 0 0 _ (F0 m 3 ls [])) => loop (10) 0 (vi 21) (vi 22) (vF 49) (vF 50) _ _ _ (by omega) (fun u _ h => h) (fun q _ => rfl) (fun q _ => rfl) (Or.inl rfl) (by omega) hP hD hS hl) ?_
  intro n9
  induction n9 with
  | zero => intro k5 s3 p3 f49 f50 H locs ls hk5 hpr ho1 ho2 hst hf9; exact False.elim (by omega)
  | succ n9 ih3 =>
    intro k5 s3 p3 f49 f50 H locs ls hk5 hpr ho1 ho2 hst hf3 hP hD hS hl
    refine lv_iload hx hb dX12_join_3 (lv_at hl 5 rfl) ?_
    refine lv_bipush (v := 9) hx hb dX12_join_5 (by decide) ?_
    refine lv_icmp_ge (tgt := 117) hx hb dX12_join_7 (by decide) (fun c_7 => ?_) (fun c_7 => ?_)
    · have t_7 : ((k5 : Nat) : Int) ≥ 9 := toI_ge c_7 (nI_toInt (by omega)) (by decide)
      refine W.widen (k := 0) (n := 0) (by decide +kernel) (by decide +kernel) ?_
      exact W.vret hx hb hr (fun t9_ ht hW => ⟨⟨(s3, p3, f49, f50), rfl, by (try dsimp only); exact ⟨hpr, ho1, ho2, hst⟩, by rw [ht]; exact hP, hD⟩, hS.F ht⟩) hS.2.2 dX12_join_117
    · have t_7 : ¬ ((k5 : Nat) : Int) ≥ 9 := toI_nge c_7 (nI_toInt (by omega)) (by decide)
      refine lv_aload_n hx hb dX12_join_10 rfl (lv_at hl 0 rfl) ?_
      refine va_get (D := (dC, dI)) (ci := 12) (v := .int s3) (C := RX12) (T := TX12) (N := 163) (fs := fM (vS a (fT (fT vi 21 s3) 22 p3) vj)) hx hb hts iwsRX12_join_in12 hown hK hP 0 rfl rfl 21 (by decide) (hts (.fieldLink RX12 515 "OptimaWorksModel" "stop" "I") (by decide +kernel)) (fun _ h9 => h9) rfl dX12_join_11 ?_
      refine lv_if_ne (tgt := 117) hx hb dX12_join_14 (by decide) (fun c_14 => ?_) (fun c_14 => ?_)
      · have t_14 : (s3).toInt ≠ 0 := toI_ne c_14 rfl (by decide)
        refine W.widen (k := 0) (n := 0) (by decide +kernel) (by decide +kernel) ?_
        exact W.vret hx hb hr (fun t9_ ht hW => ⟨⟨(s3, p3, f49, f50), rfl, by (try dsimp only); exact ⟨hpr, ho1, ho2, hst⟩, by rw [ht]; exact hP, hD⟩, hS.F ht⟩) hS.2.2 dX12_join_117
      · have t_14 : (s3).toInt = 0 := toI_nne c_14 rfl (by decide)
        have r1 := hpr vn hvn hrv k5 (by omega)
        have r2 := hpr wn hwn hrw k5 (by omega)
        have m1 := mulI (x := (f49 (9 * vn + k5))) (y := (f50 (9 * wn + k5)))
        have m2 := mulI (x := hw) (y := (f49 (9 * wn + k5)))
        have m4 := mulI (x := (f50 (9 * vn + k5))) (y := (f50 (9 * wn + k5)))
        have b1 : ((f49 (9 * vn + k5)).toInt * (f50 (9 * wn + k5)).toInt).natAbs ≤ 2000000 * 2000000 := mul_box (by omega) (by omega)
        have b2 : (hI * (f49 (9 * wn + k5)).toInt).natAbs ≤ 1 * 2000000 := mul_box (by omega) (by omega)
        have m3 := mulQ (x := hw.toInt64 * (f49 (9 * wn + k5)).toInt64) (y := (f50 (9 * vn + k5)).toInt64) (by rw [m2, hhI]; omega) (by rw [i64T]; omega)
        rw [m2, i64T, hhI] at m3
        have b3 : (hI * (f49 (9 * wn + k5)).toInt * (f50 (9 * vn + k5)).toInt).natAbs ≤ 2000000 * 2000000 := mul_box (by omega) (by omega)
        have b4 : ((f50 (9 * vn + k5)).toInt * (f50 (9 * wn + k5)).toInt).natAbs ≤ 2000000 * 2000000 := mul_box (by omega) (by omega)
        have b5 : 0 < (f50 (9 * vn + k5)).toInt * (f50 (9 * wn + k5)).toInt := Int.mul_pos (by omega) (by omega)
        refine lv_aload_n hx hb dX12_join_17 rfl (lv_at hl 0 rfl) ?_
        refine lv_iload_n hx hb dX12_join_18 rfl (lv_at hl 1 rfl) ?_
        refine lv_iload hx hb dX12_join_19 (lv_at hl 5 rfl) ?_
        refine lv_aload_n hx hb dX12_join_21 rfl (lv_at hl 0 rfl) ?_
        refine va_get (D := (dC, dI)) (ci := 12) (v := .ref (a 49)) (C := RX12) (T := TX12) (N := 163) (fs := fM (vS a (fT (fT vi 21 s3) 22 p3) vj)) hx hb hts iwsRX12_join_in12 hown hK hP 0 rfl rfl 78 (by decide) (hts (.fieldLink RX12 170 "OptimaWorksModel" "top" "[I") (by decide +kernel)) (fun _ h9 => h9) rfl dX12_join_22 ?_
        refine lv_bipush (v := 9) hx hb dX12_join_25 (by decide) ?_
        refine lv_iload_n hx hb dX12_join_27 rfl (lv_at hl 1 rfl) ?_
        refine lv_imul hx hb dX12_join_28 ?_
        refine lv_topi (fun y1 hy1 => ?_)
        obtain rfl : (nI (9 * vn)) = y1 := (hy1.trans (pk_mul 9 vn)).symm
        refine lv_iload hx hb dX12_join_29 (lv_at hl 5 rfl) ?_
        refine lv_iadd hx hb dX12_join_31 ?_
        refine lv_topi (fun y2 hy2 => ?_)
        obtain rfl : (nI ((9 * vn) + k5)) = y2 := (hy2.trans (nI_add (9 * vn) k5)).symm
        refine va_iald (cA := k 49) (n := 900) (f := f49) hx hb hK hP 50 49 (WR_get 49 (by decide)) (TR_get 49 (by decide)) (vp_in_nI (show ((9 * vn) + k5) < 900 by omega) (by omega)) dX12_join_32 ?_
        refine lv_topi (fun y3 hy3 => ?_)
        obtain rfl : (f49 ((9 * vn) + k5)) = y3 := (hy3.trans (by rw [nI_clamp (by omega)])).symm
        refine lv_i2l hx hb dX12_join_33 rfl ?_
        refine lv_aload_n hx hb dX12_join_34 rfl (lv_at hl 0 rfl) ?_
        refine va_get (D := (dC, dI)) (ci := 12) (v := .ref (a 50)) (C := RX12) (T := TX12) (N := 163) (fs := fM (vS a (fT (fT vi 21 s3) 22 p3) vj)) hx hb hts iwsRX12_join_in12 hown hK hP 0 rfl rfl 79 (by decide) (hts (.fieldLink RX12 173 "OptimaWorksModel" "under" "[I") (by decide +kernel)) (fun _ h9 => h9) rfl dX12_join_35 ?_
        refine lv_bipush (v := 9) hx hb dX12_join_38 (by decide) ?_
        refine lv_iload_n hx hb dX12_join_40 rfl (lv_at hl 2 rfl) ?_
        refine lv_imul hx hb dX12_join_41 ?_
        refine lv_topi (fun y4 hy4 => ?_)
        obtain rfl : (nI (9 * wn)) = y4 := (hy4.trans (pk_mul 9 wn)).symm
        refine lv_iload hx hb dX12_join_42 (lv_at hl 5 rfl) ?_
        refine lv_iadd hx hb dX12_join_44 ?_
        refine lv_topi (fun y5 hy5 => ?_)
        obtain rfl : (nI ((9 * wn) + k5)) = y5 := (hy5.trans (nI_add (9 * wn) k5)).symm
        refine va_iald (cA := k 50) (n := 900) (f := f50) hx hb hK hP 51 50 (WR_get 50 (by decide)) (TR_get 50 (by decide)) (vp_in_nI (show ((9 * wn) + k5) < 900 by omega) (by omega)) dX12_join_45 ?_
        refine lv_topi (fun y6 hy6 => ?_)
        obtain rfl : (f50 ((9 * wn) + k5)) = y6 := (hy6.trans (by rw [nI_clamp (by omega)])).symm
        refine lv_i2l hx hb dX12_join_46 rfl ?_
        refine lv_lmul hx hb dX12_join_47 ?_
        refine lv_iload_n hx hb dX12_join_48 rfl (lv_at hl 3 rfl) ?_
        refine lv_i2l hx hb dX12_join_49 rfl ?_
        refine lv_aload_n hx hb dX12_join_50 rfl (lv_at hl 0 rfl) ?_
        refine va_get (D := (dC, dI)) (ci := 12) (v := .ref (a 49)) (C := RX12) (T := TX12) (N := 163) (fs := fM (vS a (fT (fT vi 21 s3) 22 p3) vj)) hx hb hts iwsRX12_join_in12 hown hK hP 0 rfl rfl 78 (by decide) (hts (.fieldLink RX12 170 "OptimaWorksModel" "top" "[I") (by decide +kernel)) (fun _ h9 => h9) rfl dX12_join_51 ?_
        refine lv_bipush (v := 9) hx hb dX12_join_54 (by decide) ?_
        refine lv_iload_n hx hb dX12_join_56 rfl (lv_at hl 2 rfl) ?_
        refine lv_imul hx hb dX12_join_57 ?_
        refine lv_topi (fun y7 hy7 => ?_)
        obtain rfl : (nI (9 * wn)) = y7 := (hy7.trans (pk_mul 9 wn)).symm
        refine lv_iload hx hb dX12_join_58 (lv_at hl 5 rfl) ?_
        refine lv_iadd hx hb dX12_join_60 ?_
        refine lv_topi (fun y8 hy8 => ?_)
        obtain rfl : (nI ((9 * wn) + k5)) = y8 := (hy8.trans (nI_add (9 * wn) k5)).symm
        refine va_iald (cA := k 49) (n := 900) (f := f49) hx hb hK hP 50 49 (WR_get 49 (by decide)) (TR_get 49 (by decide)) (vp_in_nI (show ((9 * wn) + k5) < 900 by omega) (by omega)) dX12_join_61 ?_
        refine lv_topi (fun y9 hy9 => ?_)
        obtain rfl : (f49 ((9 * wn) + k5)) = y9 := (hy9.trans (by rw [nI_clamp (by omega)])).symm
        refine lv_i2l hx hb dX12_join_62 rfl ?_
        refine lv_lmul hx hb dX12_join_63 ?_
        refine lv_aload_n hx hb dX12_join_64 rfl (lv_at hl 0 rfl) ?_
        refine va_get (D := (dC, dI)) (ci := 12) (v := .ref (a 50)) (C := RX12) (T := TX12) (N := 163) (fs := fM (vS a (fT (fT vi 21 s3) 22 p3) vj)) hx hb hts iwsRX12_join_in12 hown hK hP 0 rfl rfl 79 (by decide) (hts (.fieldLink RX12 173 "OptimaWorksModel" "under" "[I") (by decide +kernel)) (fun _ h9 => h9) rfl dX12_join_65 ?_
        refine lv_bipush (v := 9) hx hb dX12_join_68 (by decide) ?_
        refine lv_iload_n hx hb dX12_join_70 rfl (lv_at hl 1 rfl) ?_
        refine lv_imul hx hb dX12_join_71 ?_
        refine lv_topi (fun y10 hy10 => ?_)
        obtain rfl : (nI (9 * vn)) = y10 := (hy10.trans (pk_mul 9 vn)).symm
        refine lv_iload hx hb dX12_join_72 (lv_at hl 5 rfl) ?_
        refine lv_iadd hx hb dX12_join_74 ?_
        refine lv_topi (fun y11 hy11 => ?_)
        obtain rfl : (nI ((9 * vn) + k5)) = y11 := (hy11.trans (nI_add (9 * vn) k5)).symm
        refine va_iald (cA := k 50) (n := 900) (f := f50) hx hb hK hP 51 50 (WR_get 50 (by decide)) (TR_get 50 (by decide)) (vp_in_nI (show ((9 * vn) + k5) < 900 by omega) (by omega)) dX12_join_75 ?_
        refine lv_topi (fun y12 hy12 => ?_)
        obtain rfl : (f50 ((9 * vn) + k5)) = y12 := (hy12.trans (by rw [nI_clamp (by omega)])).symm
        refine lv_i2l hx hb dX12_join_76 rfl ?_
        refine lv_lmul hx hb dX12_join_77 ?_
        refine lv_ladd hx hb dX12_join_78 ?_
        obtain ⟨n9_, hn9⟩ : ∃ n9_, n9_ = (((((f49 ((9 * vn) + k5))).toInt64 * ((f50 ((9 * wn) + k5))).toInt64) + (((hw).toInt64 * ((f49 ((9 * wn) + k5))).toInt64) * ((f50 ((9 * vn) + k5))).toInt64)) : Int64) := ⟨_, rfl⟩
        have en9 : n9_.toInt = (f49 (9 * vn + k5)).toInt * (f50 (9 * wn + k5)).toInt + hI * (f49 (9 * wn + k5)).toInt * (f50 (9 * vn + k5)).toInt := by rw [hn9, addJ (by omega) (by omega), m1, m3.1]
        refine lv_topl (fun y13 hy13 => ?_)
        obtain rfl : n9_ = y13 := (hy13.trans (hn9.symm)).symm
        refine lv_aload_n hx hb dX12_join_79 rfl (lv_at hl 0 rfl) ?_
        refine va_get (D := (dC, dI)) (ci := 12) (v := .ref (a 50)) (C := RX12) (T := TX12) (N := 163) (fs := fM (vS a (fT (fT vi 21 s3) 22 p3) vj)) hx hb hts iwsRX12_join_in12 hown hK hP 0 rfl rfl 79 (by decide) (hts (.fieldLink RX12 173 "OptimaWorksModel" "under" "[I") (by decide +kernel)) (fun _ h9 => h9) rfl dX12_join_80 ?_
        refine lv_bipush (v := 9) hx hb dX12_join_83 (by decide) ?_
        refine lv_iload_n hx hb dX12_join_85 rfl (lv_at hl 1 rfl) ?_
        refine lv_imul hx hb dX12_join_86 ?_
        refine lv_topi (fun y14 hy14 => ?_)
        obtain rfl : (nI (9 * vn)) = y14 := (hy14.trans (pk_mul 9 vn)).symm
        refine lv_iload hx hb dX12_join_87 (lv_at hl 5 rfl) ?_
        refine lv_iadd hx hb dX12_join_89 ?_
        refine lv_topi (fun y15 hy15 => ?_)
        obtain rfl : (nI ((9 * vn) + k5)) = y15 := (hy15.trans (nI_add (9 * vn) k5)).symm
        refine va_iald (cA := k 50) (n := 900) (f := f50) hx hb hK hP 51 50 (WR_get 50 (by decide)) (TR_get 50 (by decide)) (vp_in_nI (show ((9 * vn) + k5) < 900 by omega) (by omega)) dX12_join_90 ?_
        refine lv_topi (fun y16 hy16 => ?_)
        obtain rfl : (f50 ((9 * vn) + k5)) = y16 := (hy16.trans (by rw [nI_clamp (by omega)])).symm
        refine lv_i2l hx hb dX12_join_91 rfl ?_
        refine lv_aload_n hx hb dX12_join_92 rfl (lv_at hl 0 rfl) ?_
        refine va_get (D := (dC, dI)) (ci := 12) (v := .ref (a 50)) (C := RX12) (T := TX12) (N := 163) (fs := fM (vS a (fT (fT vi 21 s3) 22 p3) vj)) hx hb hts iwsRX12_join_in12 hown hK hP 0 rfl rfl 79 (by decide) (hts (.fieldLink RX12 173 "OptimaWorksModel" "under" "[I") (by decide +kernel)) (fun _ h9 => h9) rfl dX12_join_93 ?_
        refine lv_bipush (v := 9) hx hb dX12_join_96 (by decide) ?_
        refine lv_iload_n hx hb dX12_join_98 rfl (lv_at hl 2 rfl) ?_
        refine lv_imul hx hb dX12_join_99 ?_
        refine lv_topi (fun y17 hy17 => ?_)
        obtain rfl : (nI (9 * wn)) = y17 := (hy17.trans (pk_mul 9 wn)).symm
        refine lv_iload hx hb dX12_join_100 (lv_at hl 5 rfl) ?_
        refine lv_iadd hx hb dX12_join_102 ?_
        refine lv_topi (fun y18 hy18 => ?_)
        obtain rfl : (nI ((9 * wn) + k5)) = y18 := (hy18.trans (nI_add (9 * wn) k5)).symm
        refine va_iald (cA := k 50) (n := 900) (f := f50) hx hb hK hP 51 50 (WR_get 50 (by decide)) (TR_get 50 (by decide)) (vp_in_nI (show ((9 * wn) + k5) < 900 by omega) (by omega)) dX12_join_103 ?_
        refine lv_topi (fun y19 hy19 => ?_)
        obtain rfl : (f50 ((9 * wn) + k5)) = y19 := (hy19.trans (by rw [nI_clamp (by omega)])).symm
        refine lv_i2l hx hb dX12_join_104 rfl ?_
        refine lv_lmul hx hb dX12_join_105 ?_
        obtain ⟨d9_, hd9⟩ : ∃ d9_, d9_ = ((((f50 ((9 * vn) + k5))).toInt64 * ((f50 ((9 * wn) + k5))).toInt64) : Int64) := ⟨_, rfl⟩
        have ed9 : d9_.toInt = (f50 (9 * vn + k5)).toInt * (f50 (9 * wn + k5)).toInt := by rw [hd9, m4]
        refine lv_topl (fun y20 hy20 => ?_)
        obtain rfl : d9_ = y20 := (hy20.trans (hd9.symm)).symm
        refine lv_iload hx hb dX12_join_106 (lv_at hl 4 rfl) ?_
        have hFc := allFree hD hS hA
        refine va_callv (va_runV (As := [.int (nI vn), .int (nI k5), .long n9_, .long d9_, .int pv]) (rest := []) ⟨hx, hb, hml, hown, hts⟩ (r_X12_put1 l dC dI a k h0 (fT (fT vi 21 s3) 22 p3) vj (fT (fT vF 49 f49) 50 f50) vG vn k5 n9_ d9_ pv (by first | with_reducible assumption | decide | omega | rfl | assumption) (by first | with_reducible assumption | decide | omega | rfl | assumption) (by omega) (by omega) (by omega) H.size) (cwV 5 hts gwsRX12_join_0 rfl rfl rfl hd_yX12_put1_RX12 (by decide +kernel)) (fz_pre (va_recv hK hP (ci := 12) (q0 := 0) rfl rfl) hP hK hD) rfl rfl hl.1 rfl (lv_room (Nat.le_of_ble_eq_true rfl)) dX12_join_108 (by decide +kernel)) hS (fun q _ h => hFc q h) hFc (fun u t9_ H locs ht hvm hw9 hB9 hz1 hk1 hS => ?_)
        revert u
        refine fz_p4 ?_
        intro s2108 p2108 f49108 f50108 hw9 hB9
        try dsimp only at hw9 hB9
        have hP : va_P (dC, dI) vwCl (WR a k h0 (fT (fT (fT (fT vi 21 s3) 22 p3) 21 s2108) 22 p2108) vj (fT (fT (fT (fT vF 49 f49) 50 f50) 49 f49108) 50 f50108) vG) H := fz_P ht hB9.1
        have hD : va_D A (WR a k h0 (fT (fT (fT (fT vi 21 s3) 22 p3) 21 s2108) 22 p2108) vj (fT (fT (fT (fT vF 49 f49) 50 f50) 49 f49108) 50 f50108) vG) := hB9.2.weaken (fun _ q _ h => hFc q.1 h)
        have e9 : fT (fT vi 21 s2108) 22 p2108 = fT (fT (fT (fT vi 21 s3) 22 p3) 21 s2108) 22 p2108 := ((congrArg (fun g9 => fT g9 22 p2108) ((fT_sw _ _ _ (Nat.ne_of_beq_eq_false rfl)).trans (congrArg (fun g9 => fT g9 22 p3) (fT_sm _ _ _ _)))).trans (fT_sm _ _ _ _)).symm
        rw [← e9] at hP hD
        clear e9
        have e9 : fT (fT vF 49 f49108) 50 f50108 = fT (fT (fT (fT vF 49 f49) 50 f50) 49 f49108) 50 f50108 := ((congrArg (fun g9 => fT g9 50 f50108) ((fT_sw _ _ _ (Nat.ne_of_beq_eq_false rfl)).trans (congrArg (fun g9 => fT g9 50 f50) (fT_sm _ _ _ _)))).trans (fT_sm _ _ _ _)).symm
        rw [← e9] at hP hD
        clear e9
        have hP : va_P (dC, dI) vwCl (WR a k h0 (fT (fT vi 21 s2108) 22 p2108) vj (fT (fT vF 49 f49108) 50 f50108) vG) H := hP
        have hD : va_D A (WR a k h0 (fT (fT vi 21 s2108) 22 p2108) vj (fT (fT vF 49 f49108) 50 f50108) vG) := hD
        have f108_0 := hw9
        try dsimp only at f108_0
        have f108_0 : (¬ (s2108).toInt ≤ 0 ∧ f49108 = f49 ∧ f50108 = f50) ∨ ((s2108).toInt ≤ 0 ∧ s2108 = s3 ∧ ∃ tv uv : Int32, ((tv).toInt ≤ 1000000 ∧ -1000000 ≤ (tv).toInt ∧ 1 ≤ (uv).toInt ∧ (uv).toInt ≤ 1000000) ∧ f49108 = upd f49 (nI (9 * vn + k5)).toNatClampNeg tv ∧ f50108 = upd f50 (nI (9 * vn + k5)).toNatClampNeg uv) := f108_0
        refine lv_iinc (v := (nI (k5 + 1))) hx hb dX12_join_111 hl (k := 5) rfl (nI_add k5 1) (by decide) rfl (fun ls (hl : lv_has ls _ ([(5, .int (nI (k5 + 1))), (0, .ref h0), (1, .int (nI vn)), (2, .int (nI wn)), (3, .int hw), (4, .int pv)])) => ?_)
        refine lv_goto (tgt := 3) hx hb dX12_join_114 (by decide) ?_
        have hl : lv_has _ _ ([(0, .ref h0), (1, .int (nI vn)), (2, .int (nI wn)), (3, .int hw), (4, .int pv), (5, .int (nI (k5 + 1)))]) := lv_sub hl [1, 2, 3, 4, 5, 0] rfl
        exact ih3 (k5 + 1) s2108 p2108 f49108 f50108 _ _ _ (by omega) (fun u hu h0 => by rcases f108_0 with ⟨h9, h8, h7⟩ | ⟨h9, h8, tv, uv, h7, h6, h5⟩; (rw [h8, h7]; exact hpr u hu h0); (rw [h6, h5]; exact (hpr u hu h0).put hvn hu (by omega) h7)) (fun q hq => by rcases f108_0 with ⟨h9, h8, h7⟩ | ⟨h9, h8, tv, uv, h7, h6, h5⟩; (rw [h8]; exact ho1 q hq); (rw [h6, upd_at (by omega), if_neg (by omega)]; exact ho1 q hq)) (fun q hq => by rcases f108_0 with ⟨h9, h8, h7⟩ | ⟨h9, h8, tv, uv, h7, h6, h5⟩; (rw [h7]; exact ho2 q hq); (rw [h5, upd_at (by omega), if_neg (by omega)]; exact ho2 q hq)) (by rcases f108_0 with ⟨h9, h8⟩ | ⟨h9, h8, h7⟩; (exact Or.inr (by omega)); (rw [h8]; exact hst)) (by omega) hP hD hS hl
end
section
theorem hd_yX12_hasVariables_RX12 : yX12_hasVariables.cls = RX12 ∧ yX12_hasVariables.cls ≠ "java/lang/invoke/MethodHandle" ∧ yX12_hasVariables.cls ≠ "java/lang/invoke/VarHandle" ∧ (parseMethodDescriptor yX12_hasVariables.desc).map (fun d => d.parameters.length) = some 1 := by decide +kernel
theorem dX12_scale_0 : decode cX12_scale 0 = .ok (.iload_n 3, 1) := dk_29 (by decide +kernel)
theorem dX12_scale_1 : decode cX12_scale 1 = .ok (.ifCond .eq 14, 3) := dk_153 (by decide +kernel)
theorem dX12_scale_4 : decode cX12_scale 4 = .ok (.aload_n 0, 1) := dk_42 (by decide +kernel)
theorem dX12_scale_5 : decode cX12_scale 5 = .ok (.iload_n 2, 1) := dk_28 (by decide +kernel)
theorem dX12_scale_6 : decode cX12_scale 6 = .ok (.invokevirtual 638, 3) := dk_182 (by decide +kernel)
theorem dX12_scale_9 : decode cX12_scale 9 = .ok (.ifCond .eq 32, 3) := dk_153 (by decide +kernel)
theorem dX12_scale_12 : decode cX12_scale 12 = .ok (.goto 19, 3) := dk_167 (by decide +kernel)
theorem dX12_scale_15 : decode cX12_scale 15 = .ok (.aload_n 0, 1) := dk_42 (by decide +kernel)
theorem dX12_scale_16 : decode cX12_scale 16 = .ok (.iload_n 1, 1) := dk_27 (by decide +kernel)
theorem dX12_scale_17 : decode cX12_scale 17 = .ok (.invokevirtual 638, 3) := dk_182 (by decide +kernel)
theorem dX12_scale_20 : decode cX12_scale 20 = .ok (.ifCond .eq 21, 3) := dk_153 (by decide +kernel)
theorem dX12_scale_23 : decode cX12_scale 23 = .ok (.aload_n 0, 1) := dk_42 (by decide +kernel)
theorem dX12_scale_24 : decode cX12_scale 24 = .ok (.iload_n 2, 1) := dk_28 (by decide +kernel)
theorem dX12_scale_25 : decode cX12_scale 25 = .ok (.invokevirtual 638, 3) := dk_182 (by decide +kernel)
theorem dX12_scale_28 : decode cX12_scale 28 = .ok (.ifCond .eq 13, 3) := dk_153 (by decide +kernel)
theorem dX12_scale_31 : decode cX12_scale 31 = .ok (.aload_n 0, 1) := dk_42 (by decide +kernel)
theorem dX12_scale_32 : decode cX12_scale 32 = .ok (.iconst 5, 1) := dk_8 (by decide +kernel)
theorem dX12_scale_33 : decode cX12_scale 33 = .ok (.iload 4, 2) := dk_21 (by decide +kernel)
theorem dX12_scale_35 : decode cX12_scale 35 = .ok (.invokevirtual 518, 3) := dk_182 (by decide +kernel)
theorem dX12_scale_38 : decode cX12_scale 38 = .ok (.goto 27, 3) := dk_167 (by decide +kernel)
theorem dX12_scale_41 : decode cX12_scale 41 = .ok (.iload_n 3, 1) := dk_29 (by decide +kernel)
theorem dX12_scale_42 : decode cX12_scale 42 = .ok (.ifCond .eq 23, 3) := dk_153 (by decide +kernel)
theorem dX12_scale_45 : decode cX12_scale 45 = .ok (.aload_n 0, 1) := dk_42 (by decide +kernel)
theorem dX12_scale_46 : decode cX12_scale 46 = .ok (.getfield 170, 3) := dk_180 (by decide +kernel)
theorem dX12_scale_49 : decode cX12_scale 49 = .ok (.bipush 9, 2) := dk_16 (by decide +kernel)
theorem dX12_scale_51 : decode cX12_scale 51 = .ok (.iload_n 2, 1) := dk_28 (by decide +kernel)
theorem dX12_scale_52 : decode cX12_scale 52 = .ok (.imul, 1) := dk_104 (by decide +kernel)
theorem dX12_scale_53 : decode cX12_scale 53 = .ok (.iaload, 1) := dk_46 (by decide +kernel)
theorem dX12_scale_54 : decode cX12_scale 54 = .ok (.ifCond .ne 11, 3) := dk_154 (by decide +kernel)
theorem dX12_scale_57 : decode cX12_scale 57 = .ok (.aload_n 0, 1) := dk_42 (by decide +kernel)
theorem dX12_scale_58 : decode cX12_scale 58 = .ok (.bipush 6, 2) := dk_16 (by decide +kernel)
theorem dX12_scale_60 : decode cX12_scale 60 = .ok (.iload 4, 2) := dk_21 (by decide +kernel)
theorem dX12_scale_62 : decode cX12_scale 62 = .ok (.invokevirtual 518, 3) := dk_182 (by decide +kernel)
theorem dX12_scale_65 : decode cX12_scale 65 = .ok (.aload_n 0, 1) := dk_42 (by decide +kernel)
theorem dX12_scale_66 : decode cX12_scale 66 = .ok (.getfield 515, 3) := dk_180 (by decide +kernel)
theorem dX12_scale_69 : decode cX12_scale 69 = .ok (.ifCond .le 4, 3) := dk_158 (by decide +kernel)
theorem dX12_scale_72 : decode cX12_scale 72 = .ok (.return_, 1) := dk_177 (by decide +kernel)
theorem dX12_scale_73 : decode cX12_scale 73 = .ok (.aload_n 0, 1) := dk_42 (by decide +kernel)
theorem dX12_scale_74 : decode cX12_scale 74 = .ok (.iload_n 2, 1) := dk_28 (by decide +kernel)
theorem dX12_scale_75 : decode cX12_scale 75 = .ok (.invokevirtual 638, 3) := dk_182 (by decide +kernel)
theorem dX12_scale_78 : decode cX12_scale 78 = .ok (.istore 5, 2) := dk_54 (by decide +kernel)
theorem dX12_scale_80 : decode cX12_scale 80 = .ok (.iload 5, 2) := dk_21 (by decide +kernel)
theorem dX12_scale_82 : decode cX12_scale 82 = .ok (.ifCond .eq 7, 3) := dk_153 (by decide +kernel)
theorem dX12_scale_85 : decode cX12_scale 85 = .ok (.iload_n 2, 1) := dk_28 (by decide +kernel)
theorem dX12_scale_86 : decode cX12_scale 86 = .ok (.goto 4, 3) := dk_167 (by decide +kernel)
theorem dX12_scale_89 : decode cX12_scale 89 = .ok (.iload_n 1, 1) := dk_27 (by decide +kernel)
theorem dX12_scale_90 : decode cX12_scale 90 = .ok (.istore 6, 2) := dk_54 (by decide +kernel)
theorem dX12_scale_92 : decode cX12_scale 92 = .ok (.iload 5, 2) := dk_21 (by decide +kernel)
theorem dX12_scale_94 : decode cX12_scale 94 = .ok (.ifCond .eq 7, 3) := dk_153 (by decide +kernel)
theorem dX12_scale_97 : decode cX12_scale 97 = .ok (.iload_n 1, 1) := dk_27 (by decide +kernel)
theorem dX12_scale_98 : decode cX12_scale 98 = .ok (.goto 4, 3) := dk_167 (by decide +kernel)
theorem dX12_scale_101 : decode cX12_scale 101 = .ok (.iload_n 2, 1) := dk_28 (by decide +kernel)
theorem dX12_scale_102 : decode cX12_scale 102 = .ok (.istore 7, 2) := dk_54 (by decide +kernel)
theorem dX12_scale_104 : decode cX12_scale 104 = .ok (.iload_n 3, 1) := dk_29 (by decide +kernel)
theorem dX12_scale_105 : decode cX12_scale 105 = .ok (.ifCond .eq 17, 3) := dk_153 (by decide +kernel)
theorem dX12_scale_108 : decode cX12_scale 108 = .ok (.aload_n 0, 1) := dk_42 (by decide +kernel)
theorem dX12_scale_109 : decode cX12_scale 109 = .ok (.getfield 173, 3) := dk_180 (by decide +kernel)
theorem dX12_scale_112 : decode cX12_scale 112 = .ok (.bipush 9, 2) := dk_16 (by decide +kernel)
theorem dX12_scale_114 : decode cX12_scale 114 = .ok (.iload 7, 2) := dk_21 (by decide +kernel)
theorem dX12_scale_116 : decode cX12_scale 116 = .ok (.imul, 1) := dk_104 (by decide +kernel)
theorem dX12_scale_117 : decode cX12_scale 117 = .ok (.iaload, 1) := dk_46 (by decide +kernel)
theorem dX12_scale_118 : decode cX12_scale 118 = .ok (.i2l, 1) := dk_133 (by decide +kernel)
theorem dX12_scale_119 : decode cX12_scale 119 = .ok (.goto 14, 3) := dk_167 (by decide +kernel)
theorem dX12_scale_122 : decode cX12_scale 122 = .ok (.aload_n 0, 1) := dk_42 (by decide +kernel)
theorem dX12_scale_123 : decode cX12_scale 123 = .ok (.getfield 170, 3) := dk_180 (by decide +kernel)
theorem dX12_scale_126 : decode cX12_scale 126 = .ok (.bipush 9, 2) := dk_16 (by decide +kernel)
theorem dX12_scale_128 : decode cX12_scale 128 = .ok (.iload 7, 2) := dk_21 (by decide +kernel)
theorem dX12_scale_130 : decode cX12_scale 130 = .ok (.imul, 1) := dk_104 (by decide +kernel)
theorem dX12_scale_131 : decode cX12_scale 131 = .ok (.iaload, 1) := dk_46 (by decide +kernel)
theorem dX12_scale_132 : decode cX12_scale 132 = .ok (.i2l, 1) := dk_133 (by decide +kernel)
theorem dX12_scale_133 : decode cX12_scale 133 = .ok (.lstore 8, 2) := dk_55 (by decide +kernel)
theorem dX12_scale_135 : decode cX12_scale 135 = .ok (.iload_n 3, 1) := dk_29 (by decide +kernel)
theorem dX12_scale_136 : decode cX12_scale 136 = .ok (.ifCond .eq 17, 3) := dk_153 (by decide +kernel)
theorem dX12_scale_139 : decode cX12_scale 139 = .ok (.aload_n 0, 1) := dk_42 (by decide +kernel)
theorem dX12_scale_140 : decode cX12_scale 140 = .ok (.getfield 170, 3) := dk_180 (by decide +kernel)
theorem dX12_scale_143 : decode cX12_scale 143 = .ok (.bipush 9, 2) := dk_16 (by decide +kernel)
theorem dX12_scale_145 : decode cX12_scale 145 = .ok (.iload 7, 2) := dk_21 (by decide +kernel)
theorem dX12_scale_147 : decode cX12_scale 147 = .ok (.imul, 1) := dk_104 (by decide +kernel)
theorem dX12_scale_148 : decode cX12_scale 148 = .ok (.iaload, 1) := dk_46 (by decide +kernel)
theorem dX12_scale_149 : decode cX12_scale 149 = .ok (.i2l, 1) := dk_133 (by decide +kernel)
theorem dX12_scale_150 : decode cX12_scale 150 = .ok (.goto 14, 3) := dk_167 (by decide +kernel)
theorem dX12_scale_153 : decode cX12_scale 153 = .ok (.aload_n 0, 1) := dk_42 (by decide +kernel)
theorem dX12_scale_154 : decode cX12_scale 154 = .ok (.getfield 173, 3) := dk_180 (by decide +kernel)
theorem dX12_scale_157 : decode cX12_scale 157 = .ok (.bipush 9, 2) := dk_16 (by decide +kernel)
theorem dX12_scale_159 : decode cX12_scale 159 = .ok (.iload 7, 2) := dk_21 (by decide +kernel)
theorem dX12_scale_161 : decode cX12_scale 161 = .ok (.imul, 1) := dk_104 (by decide +kernel)
theorem dX12_scale_162 : decode cX12_scale 162 = .ok (.iaload, 1) := dk_46 (by decide +kernel)
theorem dX12_scale_163 : decode cX12_scale 163 = .ok (.i2l, 1) := dk_133 (by decide +kernel)
theorem dX12_scale_164 : decode cX12_scale 164 = .ok (.lstore 10, 2) := dk_55 (by decide +kernel)
theorem dX12_scale_166 : decode cX12_scale 166 = .ok (.iconst 0, 1) := dk_3 (by decide +kernel)
theorem dX12_scale_167 : decode cX12_scale 167 = .ok (.istore 12, 2) := dk_54 (by decide +kernel)
theorem dX12_scale_169 : decode cX12_scale 169 = .ok (.iload 12, 2) := dk_21 (by decide +kernel)
theorem dX12_scale_171 : decode cX12_scale 171 = .ok (.bipush 9, 2) := dk_16 (by decide +kernel)
theorem dX12_scale_173 : decode cX12_scale 173 = .ok (.if_icmp .ge 59, 3) := dk_162 (by decide +kernel)
theorem dX12_scale_176 : decode cX12_scale 176 = .ok (.aload_n 0, 1) := dk_42 (by decide +kernel)
theorem dX12_scale_177 : decode cX12_scale 177 = .ok (.getfield 515, 3) := dk_180 (by decide +kernel)
theorem dX12_scale_180 : decode cX12_scale 180 = .ok (.ifCond .ne 52, 3) := dk_154 (by decide +kernel)
theorem dX12_scale_183 : decode cX12_scale 183 = .ok (.aload_n 0, 1) := dk_42 (by decide +kernel)
theorem dX12_scale_184 : decode cX12_scale 184 = .ok (.iload_n 1, 1) := dk_27 (by decide +kernel)
theorem dX12_scale_185 : decode cX12_scale 185 = .ok (.iload 12, 2) := dk_21 (by decide +kernel)
theorem dX12_scale_187 : decode cX12_scale 187 = .ok (.lload 8, 2) := dk_22 (by decide +kernel)
theorem dX12_scale_189 : decode cX12_scale 189 = .ok (.aload_n 0, 1) := dk_42 (by decide +kernel)
theorem dX12_scale_190 : decode cX12_scale 190 = .ok (.getfield 170, 3) := dk_180 (by decide +kernel)
theorem dX12_scale_193 : decode cX12_scale 193 = .ok (.bipush 9, 2) := dk_16 (by decide +kernel)
theorem dX12_scale_195 : decode cX12_scale 195 = .ok (.iload 6, 2) := dk_21 (by decide +kernel)
theorem dX12_scale_197 : decode cX12_scale 197 = .ok (.imul, 1) := dk_104 (by decide +kernel)
theorem dX12_scale_198 : decode cX12_scale 198 = .ok (.iload 12, 2) := dk_21 (by decide +kernel)
theorem dX12_scale_200 : decode cX12_scale 200 = .ok (.iadd, 1) := dk_96 (by decide +kernel)
theorem dX12_scale_201 : decode cX12_scale 201 = .ok (.iaload, 1) := dk_46 (by decide +kernel)
theorem dX12_scale_202 : decode cX12_scale 202 = .ok (.i2l, 1) := dk_133 (by decide +kernel)
theorem dX12_scale_203 : decode cX12_scale 203 = .ok (.lmul, 1) := dk_105 (by decide +kernel)
theorem dX12_scale_204 : decode cX12_scale 204 = .ok (.lload 10, 2) := dk_22 (by decide +kernel)
theorem dX12_scale_206 : decode cX12_scale 206 = .ok (.aload_n 0, 1) := dk_42 (by decide +kernel)
theorem dX12_scale_207 : decode cX12_scale 207 = .ok (.getfield 173, 3) := dk_180 (by decide +kernel)
theorem dX12_scale_210 : decode cX12_scale 210 = .ok (.bipush 9, 2) := dk_16 (by decide +kernel)
theorem dX12_scale_212 : decode cX12_scale 212 = .ok (.iload 6, 2) := dk_21 (by decide +kernel)
theorem dX12_scale_214 : decode cX12_scale 214 = .ok (.imul, 1) := dk_104 (by decide +kernel)
theorem dX12_scale_215 : decode cX12_scale 215 = .ok (.iload 12, 2) := dk_21 (by decide +kernel)
theorem dX12_scale_217 : decode cX12_scale 217 = .ok (.iadd, 1) := dk_96 (by decide +kernel)
theorem dX12_scale_218 : decode cX12_scale 218 = .ok (.iaload, 1) := dk_46 (by decide +kernel)
theorem dX12_scale_219 : decode cX12_scale 219 = .ok (.i2l, 1) := dk_133 (by decide +kernel)
theorem dX12_scale_220 : decode cX12_scale 220 = .ok (.lmul, 1) := dk_105 (by decide +kernel)
theorem dX12_scale_221 : decode cX12_scale 221 = .ok (.iload 4, 2) := dk_21 (by decide +kernel)
theorem dX12_scale_223 : decode cX12_scale 223 = .ok (.invokevirtual 634, 3) := dk_182 (by decide +kernel)
theorem dX12_scale_226 : decode cX12_scale 226 = .ok (.iinc 12 1, 3) := dk_132 (by decide +kernel)
theorem dX12_scale_229 : decode cX12_scale 229 = .ok (.goto (-60), 3) := dk_167 (by decide +kernel)
theorem dX12_scale_232 : decode cX12_scale 232 = .ok (.return_, 1) := dk_177 (by decide +kernel)
def wsRX12_scale : List Cond := .code yX12_scale cX12_scale 13 none :: ([.fieldLink RX12 170 "OptimaWorksModel" "top" "[I", .fieldLink RX12 515 "OptimaWorksModel" "stop" "I", .fieldLink RX12 173 "OptimaWorksModel" "under" "[I"] ++ wsX120 ++ (wsV RX12 638 RX12 yX12_hasVariables wsRX12_hasVariables) ++ (wsV RX12 518 RX12 yX12_faultAt wsRX12_faultAt) ++ (wsV RX12 634 RX12 yX12_put1 wsRX12_put1))
theorem iwsRX12_scale_in12 : ∀ w ∈ wsX120, w ∈ wsRX12_scale := fun _ h => List.mem_cons_of_mem _ (List.mem_append_left _ (List.mem_append_left _ (List.mem_append_left _ (List.mem_append_right _ h))))
theorem gwsRX12_scale_0 : GoodIn wsRX12_scale (wsV RX12 638 RX12 yX12_hasVariables wsRX12_hasVariables) := goodIn_sub (fun _ h => List.mem_cons_of_mem _ (List.mem_append_left _ (List.mem_append_left _ (List.mem_append_right _ h)))) (gdV (by decide +kernel) gdwsRX12_hasVariables)
theorem gwsRX12_scale_1 : GoodIn wsRX12_scale (wsV RX12 518 RX12 yX12_faultAt wsRX12_faultAt) := goodIn_sub (fun _ h => List.mem_cons_of_mem _ (List.mem_append_left _ (List.mem_append_right _ h))) (gdV (by decide +kernel) gdwsRX12_faultAt)
theorem gwsRX12_scale_2 : GoodIn wsRX12_scale (wsV RX12 634 RX12 yX12_put1 wsRX12_put1) := goodIn_sub (fun _ h => List.mem_cons_of_mem _ (List.mem_append_right _ h)) (gdV (by decide +kernel) gdwsRX12_put1)
theorem gdwsRX12_scale : wsRX12_scale.all goodWord = true := gdC rfl (gdA (gdA (gdA (gdA (by decide +kernel : ([.fieldLink RX12 170 "OptimaWorksModel" "top" "[I", .fieldLink RX12 515 "OptimaWorksModel" "stop" "I", .fieldLink RX12 173 "OptimaWorksModel" "under" "[I"] : List Cond).all goodWord = true) gdwsX120) (gdV (by decide +kernel) gdwsRX12_hasVariables)) (gdV (by decide +kernel) gdwsRX12_faultAt)) (gdV (by decide +kernel) gdwsRX12_put1))
set_option maxHeartbeats 4000000 in
set_option maxRecDepth 100000 in
/-- scale(v, w, by, p) -/
theorem r_X12_scale (l : Launch) (dC : Nat → ClassId) (dI : Nat → Nat → Nat) (a : Nat → Nat) (k : Nat → ClassId) (h0 : Nat) (vi : Nat → Int32) (vj : Nat → Int64) (vF : Nat → Nat → Int32) (vG : Nat → Nat → Int64) (vn : Nat) (wn : Nat) (bY : Int32) (pv : Int32) (hvn : vn < 100) (hwn : wn < 100) (hrv : RowU (vF 49) (vF 50) vn) (hrw : RowU (vF 49) (vF 50) wn) (sz : Nat) : Met l yX12_scale wsRX12_scale ({ frames := 2, cells := 0, slots := 0, locals := 62 }) (va_Pc [.ref h0, .int (nI vn), .int (nI wn), .int bY, .int pv] (fun U => U.heap.size = sz ∧ va_P (dC, dI) vwCl (WR a k h0 vi vj vF vG) U.heap ∧ va_K (dC, dI) vwCl (tX12 k) U ∧ va_D (fun _ => True) (WR a k h0 vi vj vF vG))) (va_Qv (fun (u : (Int32) × (Int32) × (Nat → Int32) × (Nat → Int32)) => (∀ v9, v9 < 100 → RowU (vF 49) (vF 50) v9 → RowU (u.2.2.1) (u.2.2.2) v9) ∧ (∀ q, (q < 9 * vn ∨ 9 * vn + 9 ≤ q) → (u.2.2.1) q = vF 49 q) ∧ (∀ q, (q < 9 * vn ∨ 9 * vn + 9 ≤ q) → (u.2.2.2) q = vF 50 q) ∧ ((u.1) = vi 21 ∨ 0 < ((u.1)).toInt)) (fun (u : (Int32) × (Int32) × (Nat → Int32) × (Nat → Int32)) t => va_P (dC, dI) vwCl (WR a k h0 (fT (fT vi 21 (u.1)) 22 (u.2.1)) vj (fT (fT vF 49 (u.2.2.1)) 50 (u.2.2.2)) vG) t.heap ∧ va_D (va_A (WR a k h0 vi vj vF vG) sz) (WR a k h0 (fT (fT vi 21 (u.1)) 22 (u.2.1)) vj (fT (fT vF 49 (u.2.2.1)) 50 (u.2.2.2)) vG)) (va_A (WR a k h0 vi vj vF vG) sz)) 0 0 (va_A (WR a k h0 vi vj vF vG) sz) := by
  refine Met.ofW (cc := cX12_scale) (maxL := 13) (ret := none) (by decide) rfl ?_
  intro p e s m args below meth c s₁ B hml hv
  obtain ⟨rfl, hsz, hP, hK, hD0⟩ := hv
  have hx := B.exec
  have hb := B.bytes
  have hr := B.returns
  have hts := atoms_spec (ws := wsRX12_scale) B.pre
  have hown : s.vm.findClass RX12 = some m.cls := findClass_of_methodNamed B.named
  have hlocks := B.notSynchronized
  subst hsz
  have hD := hD0.self (sz := s.heap.size)
  generalize hAe : va_A (WR a k h0 vi vj vF vG) s.heap.size = A at hD ⊢
  have hA : ∀ q : Nat, s.heap.size ≤ q → A q := fun q h => by rw [← hAe]; exact Or.inr h
  have hS : va_S A s.heap s.heap [] := va_S.rf
  have hl := lv_entry ([.ref h0, .int (nI vn), .int (nI wn), .int bY, .int pv]) (n := 13) (Nat.le_of_ble_eq_true rfl)
  rw [lg_entry_eq]
  generalize (lg_sl ([.ref h0, .int (nI vn), .int (nI wn), .int bY, .int pv]) ++ List.replicate (13 - (lg_sl ([.ref h0, .int (nI vn), .int (nI wn), .int bY, .int pv])).length) Slot.unset).toArray = ls at hl ⊢
  have hl : lv_has ls 13 [(0, .ref h0), (1, .int (nI vn)), (2, .int (nI wn)), (3, .int bY), (4, .int pv)] := hl
  refine lv_iload_n hx hb dX12_scale_0 rfl (lv_at hl 3 rfl) ?_
  refine W.cut (pc := 65) (fun H locs ls stk => ∃ (s3 : Int32) (p3 : Int32), (¬ (s3).toInt ≤ 0 ∨ (s3 = vi 21 ∧ (bY = 0 ∨ ((∀ q, 1 ≤ q → q < 9 → vF 49 (9 * wn + q) = 0) ∧ vF 49 (9 * wn) ≠ 0)))) ∧  stk = [] ∧ va_P (dC, dI) vwCl (WR a k h0 (fT (fT vi 21 s3) 22 p3) vj vF vG) H ∧ va_D A (WR a k h0 (fT (fT vi 21 s3) 22 p3) vj vF vG) ∧ va_S A s.heap H locs ∧ lv_has ls 13 [(0, .ref h0), (1, .int (nI vn)), (2, .int (nI wn)), (3, .int bY), (4, .int pv)]) (fun join1 => ?_) ?_
  · refine lv_if_eq (tgt := 15) hx hb dX12_scale_1 (by decide) (fun c_1 => ?_) (fun c_1 => ?_)
    · have t_1 : (bY).toInt = 0 := toI_eq c_1 rfl (by decide)
      refine lv_aload_n hx hb dX12_scale_15 rfl (lv_at hl 0 rfl) ?_
      refine lv_iload_n hx hb dX12_scale_16 rfl (lv_at hl 1 rfl) ?_
      have hFc := allFree hD hS hA
      refine va_calli (va_runV (As := [.int (nI vn)]) (rest := []) ⟨hx, hb, hml, hown, hts⟩ (r_X12_hasVariables l dC dI a k h0 vi vj vF vG vn (by first | with_reducible assumption | decide | omega | rfl | assumption) s.heap.size) (cwV 1 hts gwsRX12_scale_0 rfl rfl rfl hd_yX12_hasVariables_RX12 (by decide +kernel)) (fz_pre (va_recv hK hP (ci := 12) (q0 := 0) rfl rfl) hP hK hD) rfl rfl hl.1 rfl (lv_room (Nat.le_of_ble_eq_true rfl)) dX12_scale_17 (by decide +kernel)) hS (fun q _ h => hFc q h) hFc (fun r17 u t9_ H locs ht hvm hw9 hB9 hz1 hk1 hS => ?_)
      have hP : va_P (dC, dI) vwCl (WR a k h0 vi vj vF vG) H := fz_P ht hB9.1
      have hD : va_D A (WR a k h0 vi vj vF vG) := hB9.2.weaken (fun _ q _ h => hFc q.1 h)
      have f17_0 := hw9
      try dsimp only at f17_0
      have f17_0 : ((r17) = 0 ∧ ∀ q, 1 ≤ q → q < 9 → (vF 49) (9 * vn + q) = 0) ∨ ((r17) = 1 ∧ ∃ q, 1 ≤ q ∧ q < 9 ∧ (vF 49) (9 * vn + q) ≠ 0) := f17_0
      refine lv_if_eq (tgt := 41) hx hb dX12_scale_20 (by decide) (fun c_20 => ?_) (fun c_20 => ?_)
      · have t_20 : (r17).toInt = 0 := toI_eq c_20 rfl (by decide)
        refine lv_iload_n hx hb dX12_scale_41 rfl (lv_at hl 3 rfl) ?_
        refine lv_if_eq (tgt := 65) hx hb dX12_scale_42 (by decide) (fun c_42 => ?_) (fun c9 => False.elim (by have t9 : ¬ (bY).toInt = 0 := toI_neq c9 rfl (by decide); omega))
        have t_42 : (bY).toInt = 0 := toI_eq c_42 rfl (by decide)
        have e9 : fT (fT vi 21 (vi 21)) 22 (vi 22) = vi := by funext q9; by_cases h9_21 : q9 = 21; (subst h9_21; exact ((fT_ne _ _ (Nat.ne_of_beq_eq_false rfl)).trans (fT_eq _ _ _)).trans (Eq.trans (by first | with_reducible rfl | with_reducible assumption | (symm; with_reducible assumption) | rfl | assumption | (symm; assumption) | (subst_vars; rfl)) (Eq.refl _).symm)); by_cases h9_22 : q9 = 22; (subst h9_22; exact (fT_eq _ _ _).trans (Eq.trans (by first | with_reducible rfl | with_reducible assumption | (symm; with_reducible assumption) | rfl | assumption | (symm; assumption) | (subst_vars; rfl)) (Eq.refl _).symm)); exact ((fT_ne _ _ h9_22).trans (fT_ne _ _ h9_21)).trans (Eq.refl _).symm
        have hP : va_P (dC, dI) vwCl (WR a k h0 (fT (fT vi 21 (vi 21)) 22 (vi 22)) vj vF vG) H := by rw [e9]; exact hP
        have hD : va_D A (WR a k h0 (fT (fT vi 21 (vi 21)) 22 (vi 22)) vj vF vG) := by rw [e9]; exact hD
        clear e9
        have hl : lv_has _ _ ([(0, .ref h0), (1, .int (nI vn)), (2, .int (nI wn)), (3, .int bY), (4, .int pv)]) := lv_sub hl [0, 1, 2, 3, 4] rfl
        exact join1 _ _ _ _ ⟨(vi 21), (vi 22), Or.inr ⟨rfl, Or.inl c_1⟩, rfl, hP, hD, hS, hl⟩
      · have t_20 : ¬ (r17).toInt = 0 := toI_neq c_20 rfl (by decide)
        refine lv_aload_n hx hb dX12_scale_23 rfl (lv_at hl 0 rfl) ?_
        refine lv_iload_n hx hb dX12_scale_24 rfl (lv_at hl 2 rfl) ?_
        have hFc := allFree hD hS hA
        refine va_calli (va_runV (As := [.int (nI wn)]) (rest := []) ⟨hx, hb, hml, hown, hts⟩ (r_X12_hasVariables l dC dI a k h0 vi vj vF vG wn (by first | with_reducible assumption | decide | omega | rfl | assumption) H.size) (cwV 1 hts gwsRX12_scale_0 rfl rfl rfl hd_yX12_hasVariables_RX12 (by decide +kernel)) (fz_pre (va_recv hK hP (ci := 12) (q0 := 0) rfl rfl) hP hK hD) rfl rfl hl.1 rfl (lv_room (Nat.le_of_ble_eq_true rfl)) dX12_scale_25 (by decide +kernel)) hS (fun q _ h => hFc q h) hFc (fun r25 u t9_ H locs ht hvm hw9 hB9 hz1 hk1 hS => ?_)
        have hP : va_P (dC, dI) vwCl (WR a k h0 vi vj vF vG) H := fz_P ht hB9.1
        have hD : va_D A (WR a k h0 vi vj vF vG) := hB9.2.weaken (fun _ q _ h => hFc q.1 h)
        have f25_0 := hw9
        try dsimp only at f25_0
        have f25_0 : ((r25) = 0 ∧ ∀ q, 1 ≤ q → q < 9 → (vF 49) (9 * wn + q) = 0) ∨ ((r25) = 1 ∧ ∃ q, 1 ≤ q ∧ q < 9 ∧ (vF 49) (9 * wn + q) ≠ 0) := f25_0
        refine lv_if_eq (tgt := 41) hx hb dX12_scale_28 (by decide) (fun c_28 => ?_) (fun c_28 => ?_)
        · have t_28 : (r25).toInt = 0 := toI_eq c_28 rfl (by decide)
          refine lv_iload_n hx hb dX12_scale_41 rfl (lv_at hl 3 rfl) ?_
          refine lv_if_eq (tgt := 65) hx hb dX12_scale_42 (by decide) (fun c_42 => ?_) (fun c9 => False.elim (by have t9 : ¬ (bY).toInt = 0 := toI_neq c9 rfl (by decide); omega))
          have t_42 : (bY).toInt = 0 := toI_eq c_42 rfl (by decide)
          have e9 : fT (fT vi 21 (vi 21)) 22 (vi 22) = vi := by funext q9; by_cases h9_21 : q9 = 21; (subst h9_21; exact ((fT_ne _ _ (Nat.ne_of_beq_eq_false rfl)).trans (fT_eq _ _ _)).trans (Eq.trans (by first | with_reducible rfl | with_reducible assumption | (symm; with_reducible assumption) | rfl | assumption | (symm; assumption) | (subst_vars; rfl)) (Eq.refl _).symm)); by_cases h9_22 : q9 = 22; (subst h9_22; exact (fT_eq _ _ _).trans (Eq.trans (by first | with_reducible rfl | with_reducible assumption | (symm; with_reducible assumption) | rfl | assumption | (symm; assumption) | (subst_vars; rfl)) (Eq.refl _).symm)); exact ((fT_ne _ _ h9_22).trans (fT_ne _ _ h9_21)).trans (Eq.refl _).symm
          have hP : va_P (dC, dI) vwCl (WR a k h0 (fT (fT vi 21 (vi 21)) 22 (vi 22)) vj vF vG) H := by rw [e9]; exact hP
          have hD : va_D A (WR a k h0 (fT (fT vi 21 (vi 21)) 22 (vi 22)) vj vF vG) := by rw [e9]; exact hD
          clear e9
          have hl : lv_has _ _ ([(0, .ref h0), (1, .int (nI vn)), (2, .int (nI wn)), (3, .int bY), (4, .int pv)]) := lv_sub hl [0, 1, 2, 3, 4] rfl
          exact join1 _ _ _ _ ⟨(vi 21), (vi 22), Or.inr ⟨rfl, Or.inl c_1⟩, rfl, hP, hD, hS, hl⟩
        · have t_28 : ¬ (r25).toInt = 0 := toI_neq c_28 rfl (by decide)
          refine lv_aload_n hx hb dX12_scale_31 rfl (lv_at hl 0 rfl) ?_
          refine lv_iconst (v := 5) hx hb dX12_scale_32 (by decide) ?_
          refine lv_iload hx hb dX12_scale_33 (lv_at hl 4 rfl) ?_
          have hFc := allFree hD hS hA
          refine va_callv (va_runV (As := [.int 5, .int pv]) (rest := []) ⟨hx, hb, hml, hown, hts⟩ (r_X12_faultAt l dC dI a k h0 vi vj vF vG 5 pv (by first | with_reducible assumption | decide | omega | rfl | assumption) H.size) (cwV 2 hts gwsRX12_scale_1 rfl rfl rfl hd_yX12_faultAt_RX12 (by decide +kernel)) (fz_pre (va_recv hK hP (ci := 12) (q0 := 0) rfl rfl) hP hK hD) rfl rfl hl.1 rfl (lv_room (Nat.le_of_ble_eq_true rfl)) dX12_scale_35 (by decide +kernel)) hS (fun q _ h => hFc q h) hFc (fun u t9_ H locs ht hvm hw9 hB9 hz1 hk1 hS => ?_)
          revert u
          refine fz_p2 ?_
          intro s235 p235 hw9 hB9
          try dsimp only at hw9 hB9
          have hP : va_P (dC, dI) vwCl (WR a k h0 (fT (fT vi 21 s235) 22 p235) vj vF vG) H := fz_P ht hB9.1
          have hD : va_D A (WR a k h0 (fT (fT vi 21 s235) 22 p235) vj vF vG) := hB9.2.weaken (fun _ q _ h => hFc q.1 h)
          revert hw9
          refine fz_a2 ?_
          intro f35_0 f35_1
          have f35_0 : (0 < (vi 21).toInt ∧ s235 = (vi 21) ∧ p235 = (vi 22)) ∨ (¬ 0 < (vi 21).toInt ∧ s235 = 5 ∧ p235 = pv) := f35_0
          refine lv_goto (tgt := 65) hx hb dX12_scale_38 (by decide) ?_
          have hl : lv_has _ _ ([(0, .ref h0), (1, .int (nI vn)), (2, .int (nI wn)), (3, .int bY), (4, .int pv)]) := lv_sub hl [0, 1, 2, 3, 4] rfl
          exact join1 _ _ _ _ ⟨s235, p235, Or.inl (by rcases f35_0 with h9 | h9; (rw [h9.2.1]; omega); (rw [h9.2.1]; decide)), rfl, hP, hD, hS, hl⟩
    · have t_1 : ¬ (bY).toInt = 0 := toI_neq c_1 rfl (by decide)
      refine lv_aload_n hx hb dX12_scale_4 rfl (lv_at hl 0 rfl) ?_
      refine lv_iload_n hx hb dX12_scale_5 rfl (lv_at hl 2 rfl) ?_
      have hFc := allFree hD hS hA
      refine va_calli (va_runV (As := [.int (nI wn)]) (rest := []) ⟨hx, hb, hml, hown, hts⟩ (r_X12_hasVariables l dC dI a k h0 vi vj vF vG wn (by first | with_reducible assumption | decide | omega | rfl | assumption) s.heap.size) (cwV 1 hts gwsRX12_scale_0 rfl rfl rfl hd_yX12_hasVariables_RX12 (by decide +kernel)) (fz_pre (va_recv hK hP (ci := 12) (q0 := 0) rfl rfl) hP hK hD) rfl rfl hl.1 rfl (lv_room (Nat.le_of_ble_eq_true rfl)) dX12_scale_6 (by decide +kernel)) hS (fun q _ h => hFc q h) hFc (fun r6 u t9_ H locs ht hvm hw9 hB9 hz1 hk1 hS => ?_)
      have hP : va_P (dC, dI) vwCl (WR a k h0 vi vj vF vG) H := fz_P ht hB9.1
      have hD : va_D A (WR a k h0 vi vj vF vG) := hB9.2.weaken (fun _ q _ h => hFc q.1 h)
      have f6_0 := hw9
      try dsimp only at f6_0
      have f6_0 : ((r6) = 0 ∧ ∀ q, 1 ≤ q → q < 9 → (vF 49) (9 * wn + q) = 0) ∨ ((r6) = 1 ∧ ∃ q, 1 ≤ q ∧ q < 9 ∧ (vF 49) (9 * wn + q) ≠ 0) := f6_0
      refine lv_if_eq (tgt := 41) hx hb dX12_scale_9 (by decide) (fun c_9 => ?_) (fun c_9 => ?_)
      · have t_9 : (r6).toInt = 0 := toI_eq c_9 rfl (by decide)
        refine lv_iload_n hx hb dX12_scale_41 rfl (lv_at hl 3 rfl) ?_
        refine lv_if_eq (tgt := 65) hx hb dX12_scale_42 (by decide) (fun c9 => False.elim (by have t9 : (bY).toInt = 0 := toI_eq c9 rfl (by decide); omega)) (fun c_42 => ?_)
        have t_42 : ¬ (bY).toInt = 0 := toI_neq c_42 rfl (by decide)
        refine lv_aload_n hx hb dX12_scale_45 rfl (lv_at hl 0 rfl) ?_
        refine va_get (D := (dC, dI)) (ci := 12) (v := .ref (a 49)) (C := RX12) (T := TX12) (N := 163) (fs := fM (vS a vi vj)) hx hb hts iwsRX12_scale_in12 hown hK hP 0 rfl rfl 78 (by decide) (hts (.fieldLink RX12 170 "OptimaWorksModel" "top" "[I") (by decide +kernel)) (fun _ h9 => h9) rfl dX12_scale_46 ?_
        refine lv_bipush (v := 9) hx hb dX12_scale_49 (by decide) ?_
        refine lv_iload_n hx hb dX12_scale_51 rfl (lv_at hl 2 rfl) ?_
        refine lv_imul hx hb dX12_scale_52 ?_
        refine lv_topi (fun y1 hy1 => ?_)
        obtain rfl : (nI (9 * wn)) = y1 := (hy1.trans (pk_mul 9 wn)).symm
        refine va_iald (cA := k 49) (n := 900) (f := (vF 49)) hx hb hK hP 50 49 (WR_get 49 (by decide)) (TR_get 49 (by decide)) (vp_in_nI (show (9 * wn) < 900 by omega) (by omega)) dX12_scale_53 ?_
        refine lv_topi (fun y2 hy2 => ?_)
        obtain rfl : ((vF 49) (9 * wn)) = y2 := (hy2.trans (by rw [nI_clamp (by omega)])).symm
        refine lv_if_ne (tgt := 65) hx hb dX12_scale_54 (by decide) (fun c_54 => ?_) (fun c_54 => ?_)
        · have t_54 : (((vF 49) (9 * wn))).toInt ≠ 0 := toI_ne c_54 rfl (by decide)
          have e9 : fT (fT vi 21 (vi 21)) 22 (vi 22) = vi := by funext q9; by_cases h9_21 : q9 = 21; (subst h9_21; exact ((fT_ne _ _ (Nat.ne_of_beq_eq_false rfl)).trans (fT_eq _ _ _)).trans (Eq.trans (by first | with_reducible rfl | with_reducible assumption | (symm; with_reducible assumption) | rfl | assumption | (symm; assumption) | (subst_vars; rfl)) (Eq.refl _).symm)); by_cases h9_22 : q9 = 22; (subst h9_22; exact (fT_eq _ _ _).trans (Eq.trans (by first | with_reducible rfl | with_reducible assumption | (symm; with_reducible assumption) | rfl | assumption | (symm; assumption) | (subst_vars; rfl)) (Eq.refl _).symm)); exact ((fT_ne _ _ h9_22).trans (fT_ne _ _ h9_21)).trans (Eq.refl _).symm
          have hP : va_P (dC, dI) vwCl (WR a k h0 (fT (fT vi 21 (vi 21)) 22 (vi 22)) vj vF vG) H := by rw [e9]; exact hP
          have hD : va_D A (WR a k h0 (fT (fT vi 21 (vi 21)) 22 (vi 22)) vj vF vG) := by rw [e9]; exact hD
          clear e9
          have hl : lv_has _ _ ([(0, .ref h0), (1, .int (nI vn)), (2, .int (nI wn)), (3, .int bY), (4, .int pv)]) := lv_sub hl [0, 1, 2, 3, 4] rfl
          exact join1 _ _ _ _ ⟨(vi 21), (vi 22), Or.inr ⟨rfl, Or.inr ⟨(f6_0.resolve_right (fun h => by (have h9 := h.1); rw [h9] at c_9; exact absurd c_9 (by decide))).2, c_54⟩⟩, rfl, hP, hD, hS, hl⟩
        · have t_54 : (((vF 49) (9 * wn))).toInt = 0 := toI_nne c_54 rfl (by decide)
          refine lv_aload_n hx hb dX12_scale_57 rfl (lv_at hl 0 rfl) ?_
          refine lv_bipush (v := 6) hx hb dX12_scale_58 (by decide) ?_
          refine lv_iload hx hb dX12_scale_60 (lv_at hl 4 rfl) ?_
          have hFc := allFree hD hS hA
          refine va_callv (va_runV (As := [.int 6, .int pv]) (rest := []) ⟨hx, hb, hml, hown, hts⟩ (r_X12_faultAt l dC dI a k h0 vi vj vF vG 6 pv (by first | with_reducible assumption | decide | omega | rfl | assumption) H.size) (cwV 2 hts gwsRX12_scale_1 rfl rfl rfl hd_yX12_faultAt_RX12 (by decide +kernel)) (fz_pre (va_recv hK hP (ci := 12) (q0 := 0) rfl rfl) hP hK hD) rfl rfl hl.1 rfl (lv_room (Nat.le_of_ble_eq_true rfl)) dX12_scale_62 (by decide +kernel)) hS (fun q _ h => hFc q h) hFc (fun u t9_ H locs ht hvm hw9 hB9 hz1 hk1 hS => ?_)
          revert u
          refine fz_p2 ?_
          intro s262 p262 hw9 hB9
          try dsimp only at hw9 hB9
          have hP : va_P (dC, dI) vwCl (WR a k h0 (fT (fT vi 21 s262) 22 p262) vj vF vG) H := fz_P ht hB9.1
          have hD : va_D A (WR a k h0 (fT (fT vi 21 s262) 22 p262) vj vF vG) := hB9.2.weaken (fun _ q _ h => hFc q.1 h)
          revert hw9
          refine fz_a2 ?_
          intro f62_0 f62_1
          have f62_0 : (0 < (vi 21).toInt ∧ s262 = (vi 21) ∧ p262 = (vi 22)) ∨ (¬ 0 < (vi 21).toInt ∧ s262 = 6 ∧ p262 = pv) := f62_0
          have hl : lv_has _ _ ([(0, .ref h0), (1, .int (nI vn)), (2, .int (nI wn)), (3, .int bY), (4, .int pv)]) := lv_sub hl [0, 1, 2, 3, 4] rfl
          exact join1 _ _ _ _ ⟨s262, p262, Or.inl (by rcases f62_0 with h9 | h9; (rw [h9.2.1]; omega); (rw [h9.2.1]; decide)), rfl, hP, hD, hS, hl⟩
      · have t_9 : ¬ (r6).toInt = 0 := toI_neq c_9 rfl (by decide)
        refine lv_goto (tgt := 31) hx hb dX12_scale_12 (by decide) ?_
        refine lv_aload_n hx hb dX12_scale_31 rfl (lv_at hl 0 rfl) ?_
        refine lv_iconst (v := 5) hx hb dX12_scale_32 (by decide) ?_
        refine lv_iload hx hb dX12_scale_33 (lv_at hl 4 rfl) ?_
        have hFc := allFree hD hS hA
        refine va_callv (va_runV (As := [.int 5, .int pv]) (rest := []) ⟨hx, hb, hml, hown, hts⟩ (r_X12_faultAt l dC dI a k h0 vi vj vF vG 5 pv (by first | with_reducible assumption | decide | omega | rfl | assumption) H.size) (cwV 2 hts gwsRX12_scale_1 rfl rfl rfl hd_yX12_faultAt_RX12 (by decide +kernel)) (fz_pre (va_recv hK hP (ci := 12) (q0 := 0) rfl rfl) hP hK hD) rfl rfl hl.1 rfl (lv_room (Nat.le_of_ble_eq_true rfl)) dX12_scale_35 (by decide +kernel)) hS (fun q _ h => hFc q h) hFc (fun u t9_ H locs ht hvm hw9 hB9 hz1 hk1 hS => ?_)
        revert u
        refine fz_p2 ?_
        intro s235_1 p235_1 hw9 hB9
        try dsimp only at hw9 hB9
        have hP : va_P (dC, dI) vwCl (WR a k h0 (fT (fT vi 21 s235_1) 22 p235_1) vj vF vG) H := fz_P ht hB9.1
        have hD : va_D A (WR a k h0 (fT (fT vi 21 s235_1) 22 p235_1) vj vF vG) := hB9.2.weaken (fun _ q _ h => hFc q.1 h)
        revert hw9
        refine fz_a2 ?_
        intro f35_1_0 f35_1_1
        have f35_1_0 : (0 < (vi 21).toInt ∧ s235_1 = (vi 21) ∧ p235_1 = (vi 22)) ∨ (¬ 0 < (vi 21).toInt ∧ s235_1 = 5 ∧ p235_1 = pv) := f35_1_0
        refine lv_goto (tgt := 65) hx hb dX12_scale_38 (by decide) ?_
        have hl : lv_has _ _ ([(0, .ref h0), (1, .int (nI vn)), (2, .int (nI wn)), (3, .int bY), (4, .int pv)]) := lv_sub hl [0, 1, 2, 3, 4] rfl
        exact join1 _ _ _ _ ⟨s235_1, p235_1, Or.inl (by rcases f35_1_0 with h9 | h9; (rw [h9.2.1]; omega); (rw [h9.2.1]; decide)), rfl, hP, hD, hS, hl⟩
  · rintro H locs ls stk ⟨s3, p3, hs3, rfl, hP, hD, hS, hl⟩
    refine lv_aload_n hx hb dX12_scale_65 rfl (lv_at hl 0 rfl) ?_
    refine va_get (D := (dC, dI)) (ci := 12) (v := .int s3) (C := RX12) (T := TX12) (N := 163) (fs := fM (vS a (fT (fT vi 21 s3) 22 p3) vj)) hx hb hts iwsRX12_scale_in12 hown hK hP 0 rfl rfl 21 (by decide) (hts (.fieldLink RX12 515 "OptimaWorksModel" "stop" "I") (by decide +kernel)) (fun _ h9 => h9) rfl dX12_scale_66 ?_
    refine lv_if_le (tgt := 73) hx hb dX12_scale_69 (by decide) (fun c_69 => ?_) (fun c_69 => ?_)
    · have t_69 : (s3).toInt ≤ 0 := toI_le c_69 rfl (by decide)
      have h39 := hs3.resolve_left (fun h => h (by omega))
      refine lv_aload_n hx hb dX12_scale_73 rfl (lv_at hl 0 rfl) ?_
      refine lv_iload_n hx hb dX12_scale_74 rfl (lv_at hl 2 rfl) ?_
      have hFc := allFree hD hS hA
      refine va_calli (va_runV (As := [.int (nI wn)]) (rest := []) ⟨hx, hb, hml, hown, hts⟩ (r_X12_hasVariables l dC dI a k h0 (fT (fT vi 21 s3) 22 p3) vj vF vG wn (by first | with_reducible assumption | decide | omega | rfl | assumption) H.size) (cwV 1 hts gwsRX12_scale_0 rfl rfl rfl hd_yX12_hasVariables_RX12 (by decide +kernel)) (fz_pre (va_recv hK hP (ci := 12) (q0 := 0) rfl rfl) hP hK hD) rfl rfl hl.1 rfl (lv_room (Nat.le_of_ble_eq_true rfl)) dX12_scale_75 (by decide +kernel)) hS (fun q _ h => hFc q h) hFc (fun r75 u t9_ H locs ht hvm hw9 hB9 hz1 hk1 hS => ?_)
      have hP : va_P (dC, dI) vwCl (WR a k h0 (fT (fT vi 21 s3) 22 p3) vj vF vG) H := fz_P ht hB9.1
      have hD : va_D A (WR a k h0 (fT (fT vi 21 s3) 22 p3) vj vF vG) := hB9.2.weaken (fun _ q _ h => hFc q.1 h)
      have f75_0 := hw9
      try dsimp only at f75_0
      have f75_0 : ((r75) = 0 ∧ ∀ q, 1 ≤ q → q < 9 → (vF 49) (9 * wn + q) = 0) ∨ ((r75) = 1 ∧ ∃ q, 1 ≤ q ∧ q < 9 ∧ (vF 49) (9 * wn + q) ≠ 0) := f75_0
      refine lv_istore hx hb dX12_scale_78 hl (by decide) rfl (fun ls (hl : lv_has ls _ ([(5, .int r75), (0, .ref h0), (1, .int (nI vn)), (2, .int (nI wn)), (3, .int bY), (4, .int pv)])) => ?_)
      refine lv_iload hx hb dX12_scale_80 (lv_at hl 0 rfl) ?_
      refine W.cut (pc := 104) (fun H locs ls stk => ∃ (ax : Nat) (bx : Nat), ((ax = wn ∧ bx = vn ∧ ¬ r75 = 0) ∨ (ax = vn ∧ bx = wn ∧ r75 = 0)) ∧  stk = [] ∧ va_P (dC, dI) vwCl (WR a k h0 (fT (fT vi 21 s3) 22 p3) vj vF vG) H ∧ va_D A (WR a k h0 (fT (fT vi 21 s3) 22 p3) vj vF vG) ∧ va_S A s.heap H locs ∧ lv_has ls 13 [(0, .ref h0), (1, .int (nI vn)), (2, .int (nI wn)), (3, .int bY), (4, .int pv), (6, .int (nI ax)), (7, .int (nI bx))]) (fun join2 => ?_) ?_
      · refine lv_if_eq (tgt := 89) hx hb dX12_scale_82 (by decide) (fun c_82 => ?_) (fun c_82 => ?_)
        · have t_82 : (r75).toInt = 0 := toI_eq c_82 rfl (by decide)
          refine lv_iload_n hx hb dX12_scale_89 rfl (lv_at hl 2 rfl) ?_
          refine lv_istore hx hb dX12_scale_90 hl (by decide) rfl (fun ls (hl : lv_has ls _ ([(6, .int (nI vn)), (5, .int r75), (0, .ref h0), (1, .int (nI vn)), (2, .int (nI wn)), (3, .int bY), (4, .int pv)])) => ?_)
          refine lv_iload hx hb dX12_scale_92 (lv_at hl 1 rfl) ?_
          refine lv_if_eq (tgt := 101) hx hb dX12_scale_94 (by decide) (fun c_94 => ?_) (fun c9 => False.elim (by have t9 : ¬ (r75).toInt = 0 := toI_neq c9 rfl (by decide); omega))
          have t_94 : (r75).toInt = 0 := toI_eq c_94 rfl (by decide)
          refine lv_iload_n hx hb dX12_scale_101 rfl (lv_at hl 4 rfl) ?_
          refine lv_istore hx hb dX12_scale_102 hl (by decide) rfl (fun ls (hl : lv_has ls _ ([(7, .int (nI wn)), (6, .int (nI vn)), (5, .int r75), (0, .ref h0), (1, .int (nI vn)), (2, .int (nI wn)), (3, .int bY), (4, .int pv)])) => ?_)
          have hl : lv_has _ _ ([(0, .ref h0), (1, .int (nI vn)), (2, .int (nI wn)), (3, .int bY), (4, .int pv), (6, .int (nI vn)), (7, .int (nI wn))]) := lv_sub hl [3, 4, 5, 6, 7, 1, 0] rfl
          exact join2 _ _ _ _ ⟨vn, wn, Or.inr ⟨rfl, rfl, c_82⟩, rfl, hP, hD, hS, hl⟩
        · have t_82 : ¬ (r75).toInt = 0 := toI_neq c_82 rfl (by decide)
          refine lv_iload_n hx hb dX12_scale_85 rfl (lv_at hl 3 rfl) ?_
          refine lv_goto (tgt := 90) hx hb dX12_scale_86 (by decide) ?_
          refine lv_istore hx hb dX12_scale_90 hl (by decide) rfl (fun ls (hl : lv_has ls _ ([(6, .int (nI wn)), (5, .int r75), (0, .ref h0), (1, .int (nI vn)), (2, .int (nI wn)), (3, .int bY), (4, .int pv)])) => ?_)
          refine lv_iload hx hb dX12_scale_92 (lv_at hl 1 rfl) ?_
          refine lv_if_eq (tgt := 101) hx hb dX12_scale_94 (by decide) (fun c9 => False.elim (by have t9 : (r75).toInt = 0 := toI_eq c9 rfl (by decide); omega)) (fun c_94 => ?_)
          have t_94 : ¬ (r75).toInt = 0 := toI_neq c_94 rfl (by decide)
          refine lv_iload_n hx hb dX12_scale_97 rfl (lv_at hl 3 rfl) ?_
          refine lv_goto (tgt := 102) hx hb dX12_scale_98 (by decide) ?_
          refine lv_istore hx hb dX12_scale_102 hl (by decide) rfl (fun ls (hl : lv_has ls _ ([(7, .int (nI vn)), (6, .int (nI wn)), (5, .int r75), (0, .ref h0), (1, .int (nI vn)), (2, .int (nI wn)), (3, .int bY), (4, .int pv)])) => ?_)
          have hl : lv_has _ _ ([(0, .ref h0), (1, .int (nI vn)), (2, .int (nI wn)), (3, .int bY), (4, .int pv), (6, .int (nI wn)), (7, .int (nI vn))]) := lv_sub hl [3, 4, 5, 6, 7, 1, 0] rfl
          exact join2 _ _ _ _ ⟨wn, vn, Or.inl ⟨rfl, rfl, c_82⟩, rfl, hP, hD, hS, hl⟩
      · rintro H locs ls stk ⟨ax, bx, hjx, rfl, hP, hD, hS, hl⟩
        refine lv_iload_n hx hb dX12_scale_104 rfl (lv_at hl 3 rfl) ?_
        refine W.cut (pc := 135) (fun H locs ls stk => ∃ (nl : Int64), (-2000000 ≤ (nl).toInt ∧ (nl).toInt ≤ 2000000) ∧  stk = [] ∧ va_P (dC, dI) vwCl (WR a k h0 (fT (fT vi 21 s3) 22 p3) vj vF vG) H ∧ va_D A (WR a k h0 (fT (fT vi 21 s3) 22 p3) vj vF vG) ∧ va_S A s.heap H locs ∧ lv_has ls 13 [(0, .ref h0), (1, .int (nI vn)), (2, .int (nI wn)), (3, .int bY), (4, .int pv), (6, .int (nI ax)), (7, .int (nI bx)), (8, .long nl)]) (fun join3 => ?_) ?_
        · refine lv_if_eq (tgt := 122) hx hb dX12_scale_105 (by decide) (fun c_105 => ?_) (fun c_105 => ?_)
          · have t_105 : (bY).toInt = 0 := toI_eq c_105 rfl (by decide)
            refine lv_aload_n hx hb dX12_scale_122 rfl (lv_at hl 0 rfl) ?_
            refine va_get (D := (dC, dI)) (ci := 12) (v := .ref (a 49)) (C := RX12) (T := TX12) (N := 163) (fs := fM (vS a (fT (fT vi 21 s3) 22 p3) vj)) hx hb hts iwsRX12_scale_in12 hown hK hP 0 rfl rfl 78 (by decide) (hts (.fieldLink RX12 170 "OptimaWorksModel" "top" "[I") (by decide +kernel)) (fun _ h9 => h9) rfl dX12_scale_123 ?_
            refine lv_bipush (v := 9) hx hb dX12_scale_126 (by decide) ?_
            refine lv_iload hx hb dX12_scale_128 (lv_at hl 6 rfl) ?_
            refine lv_imul hx hb dX12_scale_130 ?_
            refine lv_topi (fun y3 hy3 => ?_)
            obtain rfl : (nI (9 * bx)) = y3 := (hy3.trans (pk_mul 9 bx)).symm
            refine va_iald (cA := k 49) (n := 900) (f := (vF 49)) hx hb hK hP 50 49 (WR_get 49 (by decide)) (TR_get 49 (by decide)) (vp_in_nI (show (9 * bx) < 900 by omega) (by omega)) dX12_scale_131 ?_
            refine lv_topi (fun y4 hy4 => ?_)
            obtain rfl : ((vF 49) (9 * bx)) = y4 := (hy4.trans (by rw [nI_clamp (by omega)])).symm
            refine lv_i2l hx hb dX12_scale_132 rfl ?_
            refine lv_lstore hx hb dX12_scale_133 hl (by decide) rfl (fun ls (hl : lv_has ls _ ([(8, .long (((vF 49) (9 * bx))).toInt64), (0, .ref h0), (1, .int (nI vn)), (2, .int (nI wn)), (3, .int bY), (4, .int pv), (6, .int (nI ax)), (7, .int (nI bx))])) => ?_)
            have hl : lv_has _ _ ([(0, .ref h0), (1, .int (nI vn)), (2, .int (nI wn)), (3, .int bY), (4, .int pv), (6, .int (nI ax)), (7, .int (nI bx)), (8, .long ((((vF 49) (9 * bx))).toInt64))]) := lv_sub hl [1, 2, 3, 4, 5, 6, 7, 0] rfl
            exact join3 _ _ _ _ ⟨(((vF 49) (9 * bx))).toInt64, by (have q1 := hrv 0 (by omega)); (have q2 := hrw 0 (by omega)); rw [i64T]; rcases hjx with h9 | h9 <;> rw [h9.2.1] <;> (simp only [Nat.add_zero] at q1 q2) <;> omega, rfl, hP, hD, hS, hl⟩
          · have t_105 : ¬ (bY).toInt = 0 := toI_neq c_105 rfl (by decide)
            refine lv_aload_n hx hb dX12_scale_108 rfl (lv_at hl 0 rfl) ?_
            refine va_get (D := (dC, dI)) (ci := 12) (v := .ref (a 50)) (C := RX12) (T := TX12) (N := 163) (fs := fM (vS a (fT (fT vi 21 s3) 22 p3) vj)) hx hb hts iwsRX12_scale_in12 hown hK hP 0 rfl rfl 79 (by decide) (hts (.fieldLink RX12 173 "OptimaWorksModel" "under" "[I") (by decide +kernel)) (fun _ h9 => h9) rfl dX12_scale_109 ?_
            refine lv_bipush (v := 9) hx hb dX12_scale_112 (by decide) ?_
            refine lv_iload hx hb dX12_scale_114 (lv_at hl 6 rfl) ?_
            refine lv_imul hx hb dX12_scale_116 ?_
            refine lv_topi (fun y5 hy5 => ?_)
            obtain rfl : (nI (9 * bx)) = y5 := (hy5.trans (pk_mul 9 bx)).symm
            refine va_iald (cA := k 50) (n := 900) (f := (vF 50)) hx hb hK hP 51 50 (WR_get 50 (by decide)) (TR_get 50 (by decide)) (vp_in_nI (show (9 * bx) < 900 by omega) (by omega)) dX12_scale_117 ?_
            refine lv_topi (fun y6 hy6 => ?_)
            obtain rfl : ((vF 50) (9 * bx)) = y6 := (hy6.trans (by rw [nI_clamp (by omega)])).symm
            refine lv_i2l hx hb dX12_scale_118 rfl ?_
            refine lv_goto (tgt := 133) hx hb dX12_scale_119 (by decide) ?_
            refine lv_lstore hx hb dX12_scale_133 hl (by decide) rfl (fun ls (hl : lv_has ls _ ([(8, .long (((vF 50) (9 * bx))).toInt64), (0, .ref h0), (1, .int (nI vn)), (2, .int (nI wn)), (3, .int bY), (4, .int pv), (6, .int (nI ax)), (7, .int (nI bx))])) => ?_)
            have hl : lv_has _ _ ([(0, .ref h0), (1, .int (nI vn)), (2, .int (nI wn)), (3, .int bY), (4, .int pv), (6, .int (nI ax)), (7, .int (nI bx)), (8, .long ((((vF 50) (9 * bx))).toInt64))]) := lv_sub hl [1, 2, 3, 4, 5, 6, 7, 0] rfl
            exact join3 _ _ _ _ ⟨(((vF 50) (9 * bx))).toInt64, by (have q1 := hrv 0 (by omega)); (have q2 := hrw 0 (by omega)); rw [i64T]; rcases hjx with h9 | h9 <;> rw [h9.2.1] <;> (simp only [Nat.add_zero] at q1 q2) <;> omega, rfl, hP, hD, hS, hl⟩
        · rintro H locs ls stk ⟨nl, hnl, rfl, hP, hD, hS, hl⟩
          refine lv_iload_n hx hb dX12_scale_135 rfl (lv_at hl 3 rfl) ?_
          refine W.cut (pc := 166) (fun H locs ls stk => ∃ (dl : Int64), ((-2000000 ≤ (dl).toInt ∧ (dl).toInt ≤ 2000000) ∧ dl.toInt ≠ 0) ∧  stk = [] ∧ va_P (dC, dI) vwCl (WR a k h0 (fT (fT vi 21 s3) 22 p3) vj vF vG) H ∧ va_D A (WR a k h0 (fT (fT vi 21 s3) 22 p3) vj vF vG) ∧ va_S A s.heap H locs ∧ lv_has ls 13 [(0, .ref h0), (1, .int (nI vn)), (2, .int (nI wn)), (3, .int bY), (4, .int pv), (6, .int (nI ax)), (8, .long nl), (10, .long dl)]) (fun join4 => ?_) ?_
          · refine lv_if_eq (tgt := 153) hx hb dX12_scale_136 (by decide) (fun c_136 => ?_) (fun c_136 => ?_)
            · have t_136 : (bY).toInt = 0 := toI_eq c_136 rfl (by decide)
              refine lv_aload_n hx hb dX12_scale_153 rfl (lv_at hl 0 rfl) ?_
              refine va_get (D := (dC, dI)) (ci := 12) (v := .ref (a 50)) (C := RX12) (T := TX12) (N := 163) (fs := fM (vS a (fT (fT vi 21 s3) 22 p3) vj)) hx hb hts iwsRX12_scale_in12 hown hK hP 0 rfl rfl 79 (by decide) (hts (.fieldLink RX12 173 "OptimaWorksModel" "under" "[I") (by decide +kernel)) (fun _ h9 => h9) rfl dX12_scale_154 ?_
              refine lv_bipush (v := 9) hx hb dX12_scale_157 (by decide) ?_
              refine lv_iload hx hb dX12_scale_159 (lv_at hl 6 rfl) ?_
              refine lv_imul hx hb dX12_scale_161 ?_
              refine lv_topi (fun y7 hy7 => ?_)
              obtain rfl : (nI (9 * bx)) = y7 := (hy7.trans (pk_mul 9 bx)).symm
              refine va_iald (cA := k 50) (n := 900) (f := (vF 50)) hx hb hK hP 51 50 (WR_get 50 (by decide)) (TR_get 50 (by decide)) (vp_in_nI (show (9 * bx) < 900 by omega) (by omega)) dX12_scale_162 ?_
              refine lv_topi (fun y8 hy8 => ?_)
              obtain rfl : ((vF 50) (9 * bx)) = y8 := (hy8.trans (by rw [nI_clamp (by omega)])).symm
              refine lv_i2l hx hb dX12_scale_163 rfl ?_
              refine lv_lstore hx hb dX12_scale_164 hl (by decide) rfl (fun ls (hl : lv_has ls _ ([(10, .long (((vF 50) (9 * bx))).toInt64), (0, .ref h0), (1, .int (nI vn)), (2, .int (nI wn)), (3, .int bY), (4, .int pv), (6, .int (nI ax)), (7, .int (nI bx)), (8, .long nl)])) => ?_)
              have hl : lv_has _ _ ([(0, .ref h0), (1, .int (nI vn)), (2, .int (nI wn)), (3, .int bY), (4, .int pv), (6, .int (nI ax)), (8, .long nl), (10, .long ((((vF 50) (9 * bx))).toInt64))]) := lv_sub hl [1, 2, 3, 4, 5, 6, 8, 0] rfl
              exact join4 _ _ _ _ ⟨(((vF 50) (9 * bx))).toInt64, by (have q1 := hrv 0 (by omega)); (have q2 := hrw 0 (by omega)); rw [i64T]; rcases hjx with h9 | h9 <;> rw [h9.2.1] <;> (simp only [Nat.add_zero] at q1 q2) <;> omega, rfl, hP, hD, hS, hl⟩
            · have t_136 : ¬ (bY).toInt = 0 := toI_neq c_136 rfl (by decide)
              refine lv_aload_n hx hb dX12_scale_139 rfl (lv_at hl 0 rfl) ?_
              refine va_get (D := (dC, dI)) (ci := 12) (v := .ref (a 49)) (C := RX12) (T := TX12) (N := 163) (fs := fM (vS a (fT (fT vi 21 s3) 22 p3) vj)) hx hb hts iwsRX12_scale_in12 hown hK hP 0 rfl rfl 78 (by decide) (hts (.fieldLink RX12 170 "OptimaWorksModel" "top" "[I") (by decide +kernel)) (fun _ h9 => h9) rfl dX12_scale_140 ?_
              refine lv_bipush (v := 9) hx hb dX12_scale_143 (by decide) ?_
              refine lv_iload hx hb dX12_scale_145 (lv_at hl 6 rfl) ?_
              refine lv_imul hx hb dX12_scale_147 ?_
              refine lv_topi (fun y9 hy9 => ?_)
              obtain rfl : (nI (9 * bx)) = y9 := (hy9.trans (pk_mul 9 bx)).symm
              refine va_iald (cA := k 49) (n := 900) (f := (vF 49)) hx hb hK hP 50 49 (WR_get 49 (by decide)) (TR_get 49 (by decide)) (vp_in_nI (show (9 * bx) < 900 by omega) (by omega)) dX12_scale_148 ?_
              refine lv_topi (fun y10 hy10 => ?_)
              obtain rfl : ((vF 49) (9 * bx)) = y10 := (hy10.trans (by rw [nI_clamp (by omega)])).symm
              refine lv_i2l hx hb dX12_scale_149 rfl ?_
              refine lv_goto (tgt := 164) hx hb dX12_scale_150 (by decide) ?_
              refine lv_lstore hx hb dX12_scale_164 hl (by decide) rfl (fun ls (hl : lv_has ls _ ([(10, .long (((vF 49) (9 * bx))).toInt64), (0, .ref h0), (1, .int (nI vn)), (2, .int (nI wn)), (3, .int bY), (4, .int pv), (6, .int (nI ax)), (7, .int (nI bx)), (8, .long nl)])) => ?_)
              have hl : lv_has _ _ ([(0, .ref h0), (1, .int (nI vn)), (2, .int (nI wn)), (3, .int bY), (4, .int pv), (6, .int (nI ax)), (8, .long nl), (10, .long ((((vF 49) (9 * bx))).toInt64))]) := lv_sub hl [1, 2, 3, 4, 5, 6, 8, 0] rfl
              exact join4 _ _ _ _ ⟨(((vF 49) (9 * bx))).toInt64, by (have q2 := hrw 0 (by omega)); (have hb9 : bx = wn := by rcases hjx with h9 | h9; (exfalso; obtain ⟨h8, h7⟩ := (h39.2.resolve_left (fun h => c_136 h)); rcases f75_0 with h6 | ⟨h6, q5, h5, h4, h3⟩; (exact h9.2.2 h6.1); (exact h3 (h8 q5 h5 h4))); exact h9.2.1); rw [i64T, hb9]; (simp only [Nat.add_zero] at q2); (have hn9 : (vF 49 (9 * wn)).toInt ≠ 0 := fun h => (h39.2.resolve_left (fun h => c_136 h)).2 (Int32.toInt_inj.mp (by rw [h]; decide))); omega, rfl, hP, hD, hS, hl⟩
          · rintro H locs ls stk ⟨dl, hdl, rfl, hP, hD, hS, hl⟩
            refine lv_iconst (v := 0) hx hb dX12_scale_166 (by decide) ?_
            refine lv_istore hx hb dX12_scale_167 hl (by decide) rfl (fun ls (hl : lv_has ls _ ([(12, .int 0), (0, .ref h0), (1, .int (nI vn)), (2, .int (nI wn)), (3, .int bY), (4, .int pv), (6, .int (nI ax)), (8, .long nl), (10, .long dl)])) => ?_)
            have e9 : fT (fT vF 49 (vF 49)) 50 (vF 50) = vF := by funext q9; by_cases h9_49 : q9 = 49; (subst h9_49; exact ((fT_ne _ _ (Nat.ne_of_beq_eq_false rfl)).trans (fT_eq _ _ _)).trans (Eq.trans (by first | with_reducible rfl | with_reducible assumption | (symm; with_reducible assumption) | rfl | assumption | (symm; assumption) | (subst_vars; rfl)) (Eq.refl _).symm)); by_cases h9_50 : q9 = 50; (subst h9_50; exact (fT_eq _ _ _).trans (Eq.trans (by first | with_reducible rfl | with_reducible assumption | (symm; with_reducible assumption) | rfl | assumption | (symm; assumption) | (subst_vars; rfl)) (Eq.refl _).symm)); exact ((fT_ne _ _ h9_50).trans (fT_ne _ _ h9_49)).trans (Eq.refl _).symm
            have hP : va_P (dC, dI) vwCl (WR a k h0 (fT (fT vi 21 s3) 22 p3) vj (fT (fT vF 49 (vF 49)) 50 (vF 50)) vG) H := by rw [e9]; exact hP
            have hD : va_D A (WR a k h0 (fT (fT vi 21 s3) 22 p3) vj (fT (fT vF 49 (vF 49)) 50 (vF 50)) vG) := by rw [e9]; exact hD
            clear e9
            have hl : lv_has _ _ ([(0, .ref h0), (1, .int (nI vn)), (2, .int (nI wn)), (4, .int pv), (6, .int (nI ax)), (8, .long nl), (10, .long dl), (12, .int (nI 0))]) := lv_sub hl [1, 2, 3, 5, 6, 7, 8, 0] rfl
            refine (fun (loop : ∀ (n9 : Nat) (k5 : Nat) (s4 : Int32) (p4 : Int32) (f49 : Nat → Int32) (f50 : Nat → Int32) (H : Heap) (locs : List Loc) (ls : Array Slot), (k5 ≤ 9) → (∀ v9, v9 < 100 → RowU (vF 49) (vF 50) v9 → RowU f49 f50 v9) → (∀ q, (q < 9 * vn ∨ 9 * vn + 9 ≤ q) → f49 q = vF 49 q) → (∀ q, (q < 9 * vn ∨ 9 * vn + 9 ≤ q) → f50 q = vF 50 q) → (s4 = vi 21 ∨ 0 < (s4).toInt) →  (9 < k5 + n9) → va_P (dC, dI) vwCl (WR a k h0 (fT (fT vi 21 s4) 22 p4) vj (fT (fT vF 49 f49) 50 f50) vG) H → va_D A (WR a k h0 (fT (fT vi 21 s4) 22 p4) vj (fT (fT vF 49 f49) 50 f50) vG) → va_S A s.heap H locs → lv_has ls 13 [(0, .ref h0), (1, .int (nI vn)), (2, .int (nI wn)), (4, .int pv), (6, .int (nI ax)), (8, .long nl), (10, .long dl), (12, .int (nI k5))] → W p l e _ s m _ below meth c H locs 0 0 _ (F0 m 169 ls [])) => loop (10) 0 s3 p3 (vF 49) (vF 50) _ _ _ (by omega) (fun u _ h => h) (fun q _ => rfl) (fun q _ => rfl) (Or.inl h39.1) (by omega) hP hD hS hl) ?_
            intro n9
            induction n9 with
            | zero => intro k5 s4 p4 f49 f50 H locs ls hk5 hpr ho1 ho2 hst hf9; exact False.elim (by omega)
            | succ n9 ih169 =>
              intro k5 s4 p4 f49 f50 H locs ls hk5 hpr ho1 ho2 hst hf169 hP hD hS hl
              refine lv_iload hx hb dX12_scale_169 (lv_at hl 7 rfl) ?_
              refine lv_bipush (v := 9) hx hb dX12_scale_171 (by decide) ?_
              refine lv_icmp_ge (tgt := 232) hx hb dX12_scale_173 (by decide) (fun c_173 => ?_) (fun c_173 => ?_)
              · have t_173 : ((k5 : Nat) : Int) ≥ 9 := toI_ge c_173 (nI_toInt (by omega)) (by decide)
                refine W.widen (k := 0) (n := 0) (by decide +kernel) (by decide +kernel) ?_
                exact W.vret hx hb hr (fun t9_ ht hW => ⟨⟨(s4, p4, f49, f50), rfl, by (try dsimp only); exact ⟨hpr, ho1, ho2, hst⟩, by rw [ht]; exact hP, hD⟩, hS.F ht⟩) hS.2.2 dX12_scale_232
              · have t_173 : ¬ ((k5 : Nat) : Int) ≥ 9 := toI_nge c_173 (nI_toInt (by omega)) (by decide)
                refine lv_aload_n hx hb dX12_scale_176 rfl (lv_at hl 0 rfl) ?_
                refine va_get (D := (dC, dI)) (ci := 12) (v := .int s4) (C := RX12) (T := TX12) (N := 163) (fs := fM (vS a (fT (fT vi 21 s4) 22 p4) vj)) hx hb hts iwsRX12_scale_in12 hown hK hP 0 rfl rfl 21 (by decide) (hts (.fieldLink RX12 515 "OptimaWorksModel" "stop" "I") (by decide +kernel)) (fun _ h9 => h9) rfl dX12_scale_177 ?_
                refine lv_if_ne (tgt := 232) hx hb dX12_scale_180 (by decide) (fun c_180 => ?_) (fun c_180 => ?_)
                · have t_180 : (s4).toInt ≠ 0 := toI_ne c_180 rfl (by decide)
                  refine W.widen (k := 0) (n := 0) (by decide +kernel) (by decide +kernel) ?_
                  exact W.vret hx hb hr (fun t9_ ht hW => ⟨⟨(s4, p4, f49, f50), rfl, by (try dsimp only); exact ⟨hpr, ho1, ho2, hst⟩, by rw [ht]; exact hP, hD⟩, hS.F ht⟩) hS.2.2 dX12_scale_232
                · have t_180 : (s4).toInt = 0 := toI_nne c_180 rfl (by decide)
                  have hax : ax < 100 := by omega
                  have hra : RowU (vF 49) (vF 50) ax := by rcases hjx with h9 | h9; (rw [h9.1]; exact hrw); (rw [h9.1]; exact hrv)
                  have r1 := hpr ax hax hra k5 (by omega)
                  have m1 := mulQ (x := nl) (y := (f49 (9 * ax + k5)).toInt64) (by omega) (by rw [i64T]; omega)
                  have m2 := mulQ (x := dl) (y := (f50 (9 * ax + k5)).toInt64) (by omega) (by rw [i64T]; omega)
                  rw [i64T] at m1 m2
                  have hne : dl.toInt * (f50 (9 * ax + k5)).toInt ≠ 0 := Int.mul_ne_zero (by omega) (by omega)
                  refine lv_aload_n hx hb dX12_scale_183 rfl (lv_at hl 0 rfl) ?_
                  refine lv_iload_n hx hb dX12_scale_184 rfl (lv_at hl 1 rfl) ?_
                  refine lv_iload hx hb dX12_scale_185 (lv_at hl 7 rfl) ?_
                  refine lv_lload hx hb dX12_scale_187 (lv_at hl 5 rfl) ?_
                  refine lv_aload_n hx hb dX12_scale_189 rfl (lv_at hl 0 rfl) ?_
                  refine va_get (D := (dC, dI)) (ci := 12) (v := .ref (a 49)) (C := RX12) (T := TX12) (N := 163) (fs := fM (vS a (fT (fT vi 21 s4) 22 p4) vj)) hx hb hts iwsRX12_scale_in12 hown hK hP 0 rfl rfl 78 (by decide) (hts (.fieldLink RX12 170 "OptimaWorksModel" "top" "[I") (by decide +kernel)) (fun _ h9 => h9) rfl dX12_scale_190 ?_
                  refine lv_bipush (v := 9) hx hb dX12_scale_193 (by decide) ?_
                  refine lv_iload hx hb dX12_scale_195 (lv_at hl 4 rfl) ?_
                  refine lv_imul hx hb dX12_scale_197 ?_
                  refine lv_topi (fun y11 hy11 => ?_)
                  obtain rfl : (nI (9 * ax)) = y11 := (hy11.trans (pk_mul 9 ax)).symm
                  refine lv_iload hx hb dX12_scale_198 (lv_at hl 7 rfl) ?_
                  refine lv_iadd hx hb dX12_scale_200 ?_
                  refine lv_topi (fun y12 hy12 => ?_)
                  obtain rfl : (nI ((9 * ax) + k5)) = y12 := (hy12.trans (nI_add (9 * ax) k5)).symm
                  refine va_iald (cA := k 49) (n := 900) (f := f49) hx hb hK hP 50 49 (WR_get 49 (by decide)) (TR_get 49 (by decide)) (vp_in_nI (show ((9 * ax) + k5) < 900 by omega) (by omega)) dX12_scale_201 ?_
                  refine lv_topi (fun y13 hy13 => ?_)
                  obtain rfl : (f49 ((9 * ax) + k5)) = y13 := (hy13.trans (by rw [nI_clamp (by omega)])).symm
                  refine lv_i2l hx hb dX12_scale_202 rfl ?_
                  refine lv_lmul hx hb dX12_scale_203 ?_
                  refine lv_lload hx hb dX12_scale_204 (lv_at hl 6 rfl) ?_
                  refine lv_aload_n hx hb dX12_scale_206 rfl (lv_at hl 0 rfl) ?_
                  refine va_get (D := (dC, dI)) (ci := 12) (v := .ref (a 50)) (C := RX12) (T := TX12) (N := 163) (fs := fM (vS a (fT (fT vi 21 s4) 22 p4) vj)) hx hb hts iwsRX12_scale_in12 hown hK hP 0 rfl rfl 79 (by decide) (hts (.fieldLink RX12 173 "OptimaWorksModel" "under" "[I") (by decide +kernel)) (fun _ h9 => h9) rfl dX12_scale_207 ?_
                  refine lv_bipush (v := 9) hx hb dX12_scale_210 (by decide) ?_
                  refine lv_iload hx hb dX12_scale_212 (lv_at hl 4 rfl) ?_
                  refine lv_imul hx hb dX12_scale_214 ?_
                  refine lv_topi (fun y14 hy14 => ?_)
                  obtain rfl : (nI (9 * ax)) = y14 := (hy14.trans (pk_mul 9 ax)).symm
                  refine lv_iload hx hb dX12_scale_215 (lv_at hl 7 rfl) ?_
                  refine lv_iadd hx hb dX12_scale_217 ?_
                  refine lv_topi (fun y15 hy15 => ?_)
                  obtain rfl : (nI ((9 * ax) + k5)) = y15 := (hy15.trans (nI_add (9 * ax) k5)).symm
                  refine va_iald (cA := k 50) (n := 900) (f := f50) hx hb hK hP 51 50 (WR_get 50 (by decide)) (TR_get 50 (by decide)) (vp_in_nI (show ((9 * ax) + k5) < 900 by omega) (by omega)) dX12_scale_218 ?_
                  refine lv_topi (fun y16 hy16 => ?_)
                  obtain rfl : (f50 ((9 * ax) + k5)) = y16 := (hy16.trans (by rw [nI_clamp (by omega)])).symm
                  refine lv_i2l hx hb dX12_scale_219 rfl ?_
                  refine lv_lmul hx hb dX12_scale_220 ?_
                  refine lv_iload hx hb dX12_scale_221 (lv_at hl 3 rfl) ?_
                  have hFc := allFree hD hS hA
                  refine va_callv (va_runV (As := [.int (nI vn), .int (nI k5), .long (nl * ((f49 ((9 * ax) + k5))).toInt64), .long (dl * ((f50 ((9 * ax) + k5))).toInt64), .int pv]) (rest := []) ⟨hx, hb, hml, hown, hts⟩ (r_X12_put1 l dC dI a k h0 (fT (fT vi 21 s4) 22 p4) vj (fT (fT vF 49 f49) 50 f50) vG vn k5 (nl * ((f49 ((9 * ax) + k5))).toInt64) (dl * ((f50 ((9 * ax) + k5))).toInt64) pv (by first | with_reducible assumption | decide | omega | rfl | assumption) (by first | with_reducible assumption | decide | omega | rfl | assumption) (by rw [m1.1]; omega) (by rw [m2.1]; omega) (by rw [m2.1]; exact hne) H.size) (cwV 5 hts gwsRX12_scale_2 rfl rfl rfl hd_yX12_put1_RX12 (by decide +kernel)) (fz_pre (va_recv hK hP (ci := 12) (q0 := 0) rfl rfl) hP hK hD) rfl rfl hl.1 rfl (lv_room (Nat.le_of_ble_eq_true rfl)) dX12_scale_223 (by decide +kernel)) hS (fun q _ h => hFc q h) hFc (fun u t9_ H locs ht hvm hw9 hB9 hz1 hk1 hS => ?_)
                  revert u
                  refine fz_p4 ?_
                  intro s2223 p2223 f49223 f50223 hw9 hB9
                  try dsimp only at hw9 hB9
                  have hP : va_P (dC, dI) vwCl (WR a k h0 (fT (fT (fT (fT vi 21 s4) 22 p4) 21 s2223) 22 p2223) vj (fT (fT (fT (fT vF 49 f49) 50 f50) 49 f49223) 50 f50223) vG) H := fz_P ht hB9.1
                  have hD : va_D A (WR a k h0 (fT (fT (fT (fT vi 21 s4) 22 p4) 21 s2223) 22 p2223) vj (fT (fT (fT (fT vF 49 f49) 50 f50) 49 f49223) 50 f50223) vG) := hB9.2.weaken (fun _ q _ h => hFc q.1 h)
                  have e9 : fT (fT vi 21 s2223) 22 p2223 = fT (fT (fT (fT vi 21 s4) 22 p4) 21 s2223) 22 p2223 := ((congrArg (fun g9 => fT g9 22 p2223) ((fT_sw _ _ _ (Nat.ne_of_beq_eq_false rfl)).trans (congrArg (fun g9 => fT g9 22 p4) (fT_sm _ _ _ _)))).trans (fT_sm _ _ _ _)).symm
                  rw [← e9] at hP hD
                  clear e9
                  have e9 : fT (fT vF 49 f49223) 50 f50223 = fT (fT (fT (fT vF 49 f49) 50 f50) 49 f49223) 50 f50223 := ((congrArg (fun g9 => fT g9 50 f50223) ((fT_sw _ _ _ (Nat.ne_of_beq_eq_false rfl)).trans (congrArg (fun g9 => fT g9 50 f50) (fT_sm _ _ _ _)))).trans (fT_sm _ _ _ _)).symm
                  rw [← e9] at hP hD
                  clear e9
                  have hP : va_P (dC, dI) vwCl (WR a k h0 (fT (fT vi 21 s2223) 22 p2223) vj (fT (fT vF 49 f49223) 50 f50223) vG) H := hP
                  have hD : va_D A (WR a k h0 (fT (fT vi 21 s2223) 22 p2223) vj (fT (fT vF 49 f49223) 50 f50223) vG) := hD
                  have f223_0 := hw9
                  try dsimp only at f223_0
                  have f223_0 : (¬ (s2223).toInt ≤ 0 ∧ f49223 = f49 ∧ f50223 = f50) ∨ ((s2223).toInt ≤ 0 ∧ s2223 = s4 ∧ ∃ tv uv : Int32, ((tv).toInt ≤ 1000000 ∧ -1000000 ≤ (tv).toInt ∧ 1 ≤ (uv).toInt ∧ (uv).toInt ≤ 1000000) ∧ f49223 = upd f49 (nI (9 * vn + k5)).toNatClampNeg tv ∧ f50223 = upd f50 (nI (9 * vn + k5)).toNatClampNeg uv) := f223_0
                  refine lv_iinc (v := (nI (k5 + 1))) hx hb dX12_scale_226 hl (k := 7) rfl (nI_add k5 1) (by decide) rfl (fun ls (hl : lv_has ls _ ([(12, .int (nI (k5 + 1))), (0, .ref h0), (1, .int (nI vn)), (2, .int (nI wn)), (4, .int pv), (6, .int (nI ax)), (8, .long nl), (10, .long dl)])) => ?_)
                  refine lv_goto (tgt := 169) hx hb dX12_scale_229 (by decide) ?_
                  have hl : lv_has _ _ ([(0, .ref h0), (1, .int (nI vn)), (2, .int (nI wn)), (4, .int pv), (6, .int (nI ax)), (8, .long nl), (10, .long dl), (12, .int (nI (k5 + 1)))]) := lv_sub hl [1, 2, 3, 4, 5, 6, 7, 0] rfl
                  exact ih169 (k5 + 1) s2223 p2223 f49223 f50223 _ _ _ (by omega) (fun u hu h0 => by rcases f223_0 with ⟨h9, h8, h7⟩ | ⟨h9, h8, tv, uv, h7, h6, h5⟩; (rw [h8, h7]; exact hpr u hu h0); (rw [h6, h5]; exact (hpr u hu h0).put hvn hu (by omega) h7)) (fun q hq => by rcases f223_0 with ⟨h9, h8, h7⟩ | ⟨h9, h8, tv, uv, h7, h6, h5⟩; (rw [h8]; exact ho1 q hq); (rw [h6, upd_at (by omega), if_neg (by omega)]; exact ho1 q hq)) (fun q hq => by rcases f223_0 with ⟨h9, h8, h7⟩ | ⟨h9, h8, tv, uv, h7, h6, h5⟩; (rw [h7]; exact ho2 q hq); (rw [h5, upd_at (by omega), if_neg (by omega)]; exact ho2 q hq)) (by rcases f223_0 with ⟨h9, h8⟩ | ⟨h9, h8, h7⟩; (exact Or.inr (by omega)); (rw [h8]; exact hst)) (by omega) hP hD hS hl
    · have t_69 : ¬ (s3).toInt ≤ 0 := toI_nle c_69 rfl (by decide)
      refine W.widen (k := 0) (n := 0) (by decide +kernel) (by decide +kernel) ?_
      have e9 : fT (fT vF 49 (vF 49)) 50 (vF 50) = vF := (fT_id _ _ (fT_ne _ _ (Nat.ne_of_beq_eq_false rfl))).trans (fT_id _ _ (rfl))
      have hP : va_P (dC, dI) vwCl (WR a k h0 (fT (fT vi 21 s3) 22 p3) vj (fT (fT vF 49 (vF 49)) 50 (vF 50)) vG) H := by rw [e9]; exact hP
      have hD : va_D A (WR a k h0 (fT (fT vi 21 s3) 22 p3) vj (fT (fT vF 49 (vF 49)) 50 (vF 50)) vG) := by rw [e9]; exact hD
      clear e9
      exact W.vret hx hb hr (fun t9_ ht hW => ⟨⟨(s3, p3, (vF 49), (vF 50)), rfl, by (try dsimp only); exact ⟨fun u _ h => h, fun q _ => rfl, fun q _ => rfl, Or.inr (by omega)⟩, by rw [ht]; exact hP, hD⟩, hS.F ht⟩) hS.2.2 dX12_scale_72
end
section
theorem row_lt {C a b : Nat} (h : a ≤ b) : a * (C + 1) ≤ b * (C + 1) := Nat.mul_le_mul_right _ h
theorem GldG.more {C R T : Nat} {m m2 : Nat → Int} (h : GldG C R T m) (hRT : R < T) (e : ∀ p, 30 ≤ p → p < 30 + T * (C + 1) → m2 p = m p) (hr : ∀ j, j ≤ C → (m2 (30 + T * (C + 1) + j)).natAbs < 2 ^ 74) : GldG C R (T + 1) m2 := by
  have h2 := h.frame hRT e
  refine ⟨h2.1, fun i h1 h3 j hj => ?_⟩
  by_cases e9 : i = T
  · subst e9; exact hr j hj
  · exact h2.2 i h1 (by omega) j hj
theorem VaO.first {f56 f57 f58 g : Nat → Int32} {vn : Nat} (h : ∀ k, k < vn → (f56 k).toInt ≤ (f57 k).toInt) (h3 : ∀ q, q < vn → g q = f56 q) : VaO f56 f57 f58 g vn := fun q hq => by
  rw [h3 q hq]; exact ⟨h q hq, fun _ => rfl, Int.le_refl _, h q hq⟩
def WmO (f59 : Nat → Int32) (mr : Nat) : Prop := ∀ r, r < mr → ∃ w : Nat, f59 r = nI w ∧ 1 ≤ w ∧ w ≤ 3
theorem ChO.first {f59 g : Nat → Int32} {mr : Nat} (h : WmO f59 mr) (h3 : ∀ q, q < mr → g q = 0) : ChO f59 g mr := fun q hq => by
  obtain ⟨w, h1, h2, h4⟩ := h q hq
  exact ⟨w, 0, h1, h2, h4, (h3 q hq).trans nI_0.symm, by omega⟩
theorem MdlB.val {F : Nat → Nat → Int32} {gq : Nat} (h : MdlB F gq) {f : Nat → Int32} (hf : ∀ k, k < 9 → -999 ≤ (f k).toInt ∧ (f k).toInt ≤ 999) : MdlB (fT F 70 f) gq :=
  ⟨h.1, h.2.1, h.2.2.1, h.2.2.2.1, h.2.2.2.2.1, h.2.2.2.2.2.1, hf⟩
/-- values within their bounds stay within 999 -/
theorem VaO.box {F : Nat → Nat → Int32} {gq vn : Nat} {f58 f : Nat → Int32} (hM : MdlB F gq) (h : VaO (F 56) (F 57) f58 f vn) (h2 : ∀ q, vn ≤ q → f q = F 70 q) : ∀ k, k < 9 → -999 ≤ (f k).toInt ∧ (f k).toInt ≤ 999 := fun k hk => by
  by_cases e : k < vn
  · obtain ⟨h3, _, h4, h5⟩ := h k e
    have h6 := hM.1 k hk
    have h7 := hM.2.1 k hk
    omega
  · rw [h2 k (by omega)]; exact hM.2.2.2.2.2.2 k hk
theorem AnsB.taken {m m2 : Nat → Int} (h : AnsB m 1020) (e : ∀ k, k < 16 → m2 (1000 + k) = m (1020 + k)) : AnsB m2 1000 :=
  ⟨fun k hk => by rw [e k (by omega)]; exact h.1 k hk, fun g hg => by rw [show 1000 + 10 + g = 1000 + (10 + g) by omega, show 1000 + 13 + g = 1000 + (13 + g) by omega, e _ (by omega), e _ (by omega)]; exact ⟨by have := (h.2 g hg).1; rw [show 1020 + (10 + g) = 1020 + 10 + g by omega]; exact this, by have := (h.2 g hg).2; rw [show 1020 + (13 + g) = 1020 + 13 + g by omega]; exact this⟩⟩
/-- the answer's divisors are above nought -/
def AnsP (m : Nat → Int) (b gq : Nat) : Prop := 0 < m (b + 8) ∧ ∀ g, g < gq → 0 < m (b + 13 + g)
theorem AnsP.frame {m m2 : Nat → Int} {b gq : Nat} (h : AnsP m b gq) (hg : gq ≤ 3) (e : ∀ p, b ≤ p → p < b + 16 → m2 p = m p) : AnsP m2 b gq :=
  ⟨by rw [e _ (by omega) (by omega)]; exact h.1, fun g hg2 => by rw [e _ (by omega) (by omega)]; exact h.2 g hg2⟩
theorem AnsP.taken {m m2 : Nat → Int} {gq : Nat} (h : 0 < m 1028 ∧ ∀ g, g < gq → 0 < m (1033 + g)) (hg : gq ≤ 3) (e : ∀ k, k < 16 → m2 (1000 + k) = m (1020 + k)) : AnsP m2 1000 gq :=
  ⟨by rw [e 8 (by omega)]; exact h.1, fun g hg2 => by rw [show 1000 + 13 + g = 1000 + (13 + g) by omega, e _ (by omega), show 1020 + (13 + g) = 1033 + g by omega]; exact h.2 g hg2⟩
end

theorem dX12_scale_0 : decode cX12_scale 0 = .ok (.iload_n 3, 1) := dk_29 (by decide +kernel)
theorem dX12_scale_1 : decode cX12_scale 1 = .ok (.ifCond .eq 14, 3) := dk_153 (by decide +kernel)
theorem dX12_scale_4 : decode cX12_scale 4 = .ok (.aload_n 0, 1) := dk_42 (by decide +kernel)
theorem dX12_scale_5 : decode cX12_scale 5 = .ok (.iload_n 2, 1) := dk_28 (by decide +kernel)
theorem dX12_scale_6 : decode cX12_scale 6 = .ok (.invokevirtual 638, 3) := dk_182 (by decide +kernel)
theorem dX12_scale_9 : decode cX12_scale 9 = .ok (.ifCond .eq 32, 3) := dk_153 (by decide +kernel)
theorem dX12_scale_12 : decode cX12_scale 12 = .ok (.goto 19, 3) := dk_167 (by decide +kernel)
theorem dX12_scale_15 : decode cX12_scale 15 = .ok (.aload_n 0, 1) := dk_42 (by decide +kernel)
theorem dX12_scale_16 : decode cX12_scale 16 = .ok (.iload_n 1, 1) := dk_27 (by decide +kernel)
theorem dX12_scale_17 : decode cX12_scale 17 = .ok (.invokevirtual 638, 3) := dk_182 (by decide +kernel)
theorem dX12_scale_20 : decode cX12_scale 20 = .ok (.ifCond .eq 21, 3) := dk_153 (by decide +kernel)
theorem dX12_scale_23 : decode cX12_scale 23 = .ok (.aload_n 0, 1) := dk_42 (by decide +kernel)
theorem dX12_scale_24 : decode cX12_scale 24 = .ok (.iload_n 2, 1) := dk_28 (by decide +kernel)
theorem dX12_scale_25 : decode cX12_scale 25 = .ok (.invokevirtual 638, 3) := dk_182 (by decide +kernel)
theorem dX12_scale_28 : decode cX12_scale 28 = .ok (.ifCond .eq 13, 3) := dk_153 (by decide +kernel)
theorem dX12_scale_31 : decode cX12_scale 31 = .ok (.aload_n 0, 1) := dk_42 (by decide +kernel)
theorem dX12_scale_32 : decode cX12_scale 32 = .ok (.iconst 5, 1) := dk_8 (by decide +kernel)
theorem dX12_scale_33 : decode cX12_scale 33 = .ok (.iload 4, 2) := dk_21 (by decide +kernel)
theorem dX12_scale_35 : decode cX12_scale 35 = .ok (.invokevirtual 518, 3) := dk_182 (by decide +kernel)
theorem dX12_scale_38 : decode cX12_scale 38 = .ok (.goto 27, 3) := dk_167 (by decide +kernel)
theorem dX12_scale_41 : decode cX12_scale 41 = .ok (.iload_n 3, 1) := dk_29 (by decide +kernel)
theorem dX12_scale_42 : decode cX12_scale 42 = .ok (.ifCond .eq 23, 3) := dk_153 (by decide +kernel)
theorem dX12_scale_45 : decode cX12_scale 45 = .ok (.aload_n 0, 1) := dk_42 (by decide +kernel)
theorem dX12_scale_46 : decode cX12_scale 46 = .ok (.getfield 170, 3) := dk_180 (by decide +kernel)
theorem dX12_scale_49 : decode cX12_scale 49 = .ok (.bipush 9, 2) := dk_16 (by decide +kernel)
theorem dX12_scale_51 : decode cX12_scale 51 = .ok (.iload_n 2, 1) := dk_28 (by decide +kernel)
theorem dX12_scale_52 : decode cX12_scale 52 = .ok (.imul, 1) := dk_104 (by decide +kernel)
theorem dX12_scale_53 : decode cX12_scale 53 = .ok (.iaload, 1) := dk_46 (by decide +kernel)
theorem dX12_scale_54 : decode cX12_scale 54 = .ok (.ifCond .ne 11, 3) := dk_154 (by decide +kernel)
theorem dX12_scale_57 : decode cX12_scale 57 = .ok (.aload_n 0, 1) := dk_42 (by decide +kernel)
theorem dX12_scale_58 : decode cX12_scale 58 = .ok (.bipush 6, 2) := dk_16 (by decide +kernel)
theorem dX12_scale_60 : decode cX12_scale 60 = .ok (.iload 4, 2) := dk_21 (by decide +kernel)
theorem dX12_scale_62 : decode cX12_scale 62 = .ok (.invokevirtual 518, 3) := dk_182 (by decide +kernel)
theorem dX12_scale_65 : decode cX12_scale 65 = .ok (.aload_n 0, 1) := dk_42 (by decide +kernel)
theorem dX12_scale_66 : decode cX12_scale 66 = .ok (.getfield 515, 3) := dk_180 (by decide +kernel)
theorem dX12_scale_69 : decode cX12_scale 69 = .ok (.ifCond .le 4, 3) := dk_158 (by decide +kernel)
theorem dX12_scale_72 : decode cX12_scale 72 = .ok (.return_, 1) := dk_177 (by decide +kernel)
theorem dX12_scale_73 : decode cX12_scale 73 = .ok (.aload_n 0, 1) := dk_42 (by decide +kernel)
theorem dX12_scale_74 : decode cX12_scale 74 = .ok (.iload_n 2, 1) := dk_28 (by decide +kernel)
theorem dX12_scale_75 : decode cX12_scale 75 = .ok (.invokevirtual 638, 3) := dk_182 (by decide +kernel)
theorem dX12_scale_78 : decode cX12_scale 78 = .ok (.istore 5, 2) := dk_54 (by decide +kernel)
theorem dX12_scale_80 : decode cX12_scale 80 = .ok (.iload 5, 2) := dk_21 (by decide +kernel)
theorem dX12_scale_82 : decode cX12_scale 82 = .ok (.ifCond .eq 7, 3) := dk_153 (by decide +kernel)
theorem dX12_scale_85 : decode cX12_scale 85 = .ok (.iload_n 2, 1) := dk_28 (by decide +kernel)
theorem dX12_scale_86 : decode cX12_scale 86 = .ok (.goto 4, 3) := dk_167 (by decide +kernel)
theorem dX12_scale_89 : decode cX12_scale 89 = .ok (.iload_n 1, 1) := dk_27 (by decide +kernel)
theorem dX12_scale_90 : decode cX12_scale 90 = .ok (.istore 6, 2) := dk_54 (by decide +kernel)
theorem dX12_scale_92 : decode cX12_scale 92 = .ok (.iload 5, 2) := dk_21 (by decide +kernel)
theorem dX12_scale_94 : decode cX12_scale 94 = .ok (.ifCond .eq 7, 3) := dk_153 (by decide +kernel)
theorem dX12_scale_97 : decode cX12_scale 97 = .ok (.iload_n 1, 1) := dk_27 (by decide +kernel)
theorem dX12_scale_98 : decode cX12_scale 98 = .ok (.goto 4, 3) := dk_167 (by decide +kernel)
theorem dX12_scale_101 : decode cX12_scale 101 = .ok (.iload_n 2, 1) := dk_28 (by decide +kernel)
theorem dX12_scale_102 : decode cX12_scale 102 = .ok (.istore 7, 2) := dk_54 (by decide +kernel)
theorem dX12_scale_104 : decode cX12_scale 104 = .ok (.iload_n 3, 1) := dk_29 (by decide +kernel)
theorem dX12_scale_105 : decode cX12_scale 105 = .ok (.ifCond .eq 17, 3) := dk_153 (by decide +kernel)
theorem dX12_scale_108 : decode cX12_scale 108 = .ok (.aload_n 0, 1) := dk_42 (by decide +kernel)
theorem dX12_scale_109 : decode cX12_scale 109 = .ok (.getfield 173, 3) := dk_180 (by decide +kernel)
theorem dX12_scale_112 : decode cX12_scale 112 = .ok (.bipush 9, 2) := dk_16 (by decide +kernel)
theorem dX12_scale_114 : decode cX12_scale 114 = .ok (.iload 7, 2) := dk_21 (by decide +kernel)
theorem dX12_scale_116 : decode cX12_scale 116 = .ok (.imul, 1) := dk_104 (by decide +kernel)
theorem dX12_scale_117 : decode cX12_scale 117 = .ok (.iaload, 1) := dk_46 (by decide +kernel)
theorem dX12_scale_118 : decode cX12_scale 118 = .ok (.i2l, 1) := dk_133 (by decide +kernel)
theorem dX12_scale_119 : decode cX12_scale 119 = .ok (.goto 14, 3) := dk_167 (by decide +kernel)
theorem dX12_scale_122 : decode cX12_scale 122 = .ok (.aload_n 0, 1) := dk_42 (by decide +kernel)
theorem dX12_scale_123 : decode cX12_scale 123 = .ok (.getfield 170, 3) := dk_180 (by decide +kernel)
theorem dX12_scale_126 : decode cX12_scale 126 = .ok (.bipush 9, 2) := dk_16 (by decide +kernel)
theorem dX12_scale_128 : decode cX12_scale 128 = .ok (.iload 7, 2) := dk_21 (by decide +kernel)
theorem dX12_scale_130 : decode cX12_scale 130 = .ok (.imul, 1) := dk_104 (by decide +kernel)
theorem dX12_scale_131 : decode cX12_scale 131 = .ok (.iaload, 1) := dk_46 (by decide +kernel)
theorem dX12_scale_132 : decode cX12_scale 132 = .ok (.i2l, 1) := dk_133 (by decide +kernel)
theorem dX12_scale_133 : decode cX12_scale 133 = .ok (.lstore 8, 2) := dk_55 (by decide +kernel)
theorem dX12_scale_135 : decode cX12_scale 135 = .ok (.iload_n 3, 1) := dk_29 (by decide +kernel)
theorem dX12_scale_136 : decode cX12_scale 136 = .ok (.ifCond .eq 17, 3) := dk_153 (by decide +kernel)
theorem dX12_scale_139 : decode cX12_scale 139 = .ok (.aload_n 0, 1) := dk_42 (by decide +kernel)
theorem dX12_scale_140 : decode cX12_scale 140 = .ok (.getfield 170, 3) := dk_180 (by decide +kernel)
theorem dX12_scale_143 : decode cX12_scale 143 = .ok (.bipush 9, 2) := dk_16 (by decide +kernel)
theorem dX12_scale_145 : decode cX12_scale 145 = .ok (.iload 7, 2) := dk_21 (by decide +kernel)
theorem dX12_scale_147 : decode cX12_scale 147 = .ok (.imul, 1) := dk_104 (by decide +kernel)
theorem dX12_scale_148 : decode cX12_scale 148 = .ok (.iaload, 1) := dk_46 (by decide +kernel)
theorem dX12_scale_149 : decode cX12_scale 149 = .ok (.i2l, 1) := dk_133 (by decide +kernel)
theorem dX12_scale_150 : decode cX12_scale 150 = .ok (.goto 14, 3) := dk_167 (by decide +kernel)
theorem dX12_scale_153 : decode cX12_scale 153 = .ok (.aload_n 0, 1) := dk_42 (by decide +kernel)
theorem dX12_scale_154 : decode cX12_scale 154 = .ok (.getfield 173, 3) := dk_180 (by decide +kernel)
theorem dX12_scale_157 : decode cX12_scale 157 = .ok (.bipush 9, 2) := dk_16 (by decide +kernel)
theorem dX12_scale_159 : decode cX12_scale 159 = .ok (.iload 7, 2) := dk_21 (by decide +kernel)
theorem dX12_scale_161 : decode cX12_scale 161 = .ok (.imul, 1) := dk_104 (by decide +kernel)
theorem dX12_scale_162 : decode cX12_scale 162 = .ok (.iaload, 1) := dk_46 (by decide +kernel)
theorem dX12_scale_163 : decode cX12_scale 163 = .ok (.i2l, 1) := dk_133 (by decide +kernel)
theorem dX12_scale_164 : decode cX12_scale 164 = .ok (.lstore 10, 2) := dk_55 (by decide +kernel)
theorem dX12_scale_166 : decode cX12_scale 166 = .ok (.iconst 0, 1) := dk_3 (by decide +kernel)
theorem dX12_scale_167 : decode cX12_scale 167 = .ok (.istore 12, 2) := dk_54 (by decide +kernel)
theorem dX12_scale_169 : decode cX12_scale 169 = .ok (.iload 12, 2) := dk_21 (by decide +kernel)
theorem dX12_scale_171 : decode cX12_scale 171 = .ok (.bipush 9, 2) := dk_16 (by decide +kernel)
theorem dX12_scale_173 : decode cX12_scale 173 = .ok (.if_icmp .ge 59, 3) := dk_162 (by decide +kernel)
theorem dX12_scale_176 : decode cX12_scale 176 = .ok (.aload_n 0, 1) := dk_42 (by decide +kernel)
theorem dX12_scale_177 : decode cX12_scale 177 = .ok (.getfield 515, 3) := dk_180 (by decide +kernel)
theorem dX12_scale_180 : decode cX12_scale 180 = .ok (.ifCond .ne 52, 3) := dk_154 (by decide +kernel)
theorem dX12_scale_183 : decode cX12_scale 183 = .ok (.aload_n 0, 1) := dk_42 (by decide +kernel)
theorem dX12_scale_184 : decode cX12_scale 184 = .ok (.iload_n 1, 1) := dk_27 (by decide +kernel)
theorem dX12_scale_185 : decode cX12_scale 185 = .ok (.iload 12, 2) := dk_21 (by decide +kernel)
theorem dX12_scale_187 : decode cX12_scale 187 = .ok (.lload 8, 2) := dk_22 (by decide +kernel)
theorem dX12_scale_189 : decode cX12_scale 189 = .ok (.aload_n 0, 1) := dk_42 (by decide +kernel)
theorem dX12_scale_190 : decode cX12_scale 190 = .ok (.getfield 170, 3) := dk_180 (by decide +kernel)
theorem dX12_scale_193 : decode cX12_scale 193 = .ok (.bipush 9, 2) := dk_16 (by decide +kernel)
theorem dX12_scale_195 : decode cX12_scale 195 = .ok (.iload 6, 2) := dk_21 (by decide +kernel)
theorem dX12_scale_197 : decode cX12_scale 197 = .ok (.imul, 1) := dk_104 (by decide +kernel)
theorem dX12_scale_198 : decode cX12_scale 198 = .ok (.iload 12, 2) := dk_21 (by decide +kernel)
theorem dX12_scale_200 : decode cX12_scale 200 = .ok (.iadd, 1) := dk_96 (by decide +kernel)
theorem dX12_scale_201 : decode cX12_scale 201 = .ok (.iaload, 1) := dk_46 (by decide +kernel)
theorem dX12_scale_202 : decode cX12_scale 202 = .ok (.i2l, 1) := dk_133 (by decide +kernel)
theorem dX12_scale_203 : decode cX12_scale 203 = .ok (.lmul, 1) := dk_105 (by decide +kernel)
theorem dX12_scale_204 : decode cX12_scale 204 = .ok (.lload 10, 2) := dk_22 (by decide +kernel)
theorem dX12_scale_206 : decode cX12_scale 206 = .ok (.aload_n 0, 1) := dk_42 (by decide +kernel)
theorem dX12_scale_207 : decode cX12_scale 207 = .ok (.getfield 173, 3) := dk_180 (by decide +kernel)
theorem dX12_scale_210 : decode cX12_scale 210 = .ok (.bipush 9, 2) := dk_16 (by decide +kernel)
theorem dX12_scale_212 : decode cX12_scale 212 = .ok (.iload 6, 2) := dk_21 (by decide +kernel)
theorem dX12_scale_214 : decode cX12_scale 214 = .ok (.imul, 1) := dk_104 (by decide +kernel)
theorem dX12_scale_215 : decode cX12_scale 215 = .ok (.iload 12, 2) := dk_21 (by decide +kernel)
theorem dX12_scale_217 : decode cX12_scale 217 = .ok (.iadd, 1) := dk_96 (by decide +kernel)
theorem dX12_scale_218 : decode cX12_scale 218 = .ok (.iaload, 1) := dk_46 (by decide +kernel)
theorem dX12_scale_219 : decode cX12_scale 219 = .ok (.i2l, 1) := dk_133 (by decide +kernel)
theorem dX12_scale_220 : decode cX12_scale 220 = .ok (.lmul, 1) := dk_105 (by decide +kernel)
theorem dX12_scale_221 : decode cX12_scale 221 = .ok (.iload 4, 2) := dk_21 (by decide +kernel)
theorem dX12_scale_223 : decode cX12_scale 223 = .ok (.invokevirtual 634, 3) := dk_182 (by decide +kernel)
theorem dX12_scale_226 : decode cX12_scale 226 = .ok (.iinc 12 1, 3) := dk_132 (by decide +kernel)
theorem dX12_scale_229 : decode cX12_scale 229 = .ok (.goto (-60), 3) := dk_167 (by decide +kernel)
theorem dX12_scale_232 : decode cX12_scale 232 = .ok (.return_, 1) := dk_177 (by decide +kernel)
def wsRX12_scale : List Cond := .code yX12_scale cX12_scale 13 none :: ([.fieldLink RX12 170 "OptimaWorksModel" "top" "[I", .fieldLink RX12 515 "OptimaWorksModel" "stop" "I", .fieldLink RX12 173 "OptimaWorksModel" "under" "[I"] ++ wsX120 ++ (wsV RX12 638 RX12 yX12_hasVariables wsRX12_hasVariables) ++ (wsV RX12 518 RX12 yX12_faultAt wsRX12_faultAt) ++ (wsV RX12 634 RX12 yX12_put1 wsRX12_put1))
theorem iwsRX12_scale_in12 : ∀ w ∈ wsX120, w ∈ wsRX12_scale := fun _ h => List.mem_cons_of_mem _ (List.mem_append_left _ (List.mem_append_left _ (List.mem_append_left _ (List.mem_append_right _ h))))
theorem gwsRX12_scale_0 : GoodIn wsRX12_scale (wsV RX12 638 RX12 yX12_hasVariables wsRX12_hasVariables) := goodIn_sub (fun _ h => List.mem_cons_of_mem _ (List.mem_append_left _ (List.mem_append_left _ (List.mem_append_right _ h)))) (gdV (by decide +kernel) gdwsRX12_hasVariables)
theorem gwsRX12_scale_1 : GoodIn wsRX12_scale (wsV RX12 518 RX12 yX12_faultAt wsRX12_faultAt) := goodIn_sub (fun _ h => List.mem_cons_of_mem _ (List.mem_append_left _ (List.mem_append_right _ h))) (gdV (by decide +kernel) gdwsRX12_faultAt)
theorem gwsRX12_scale_2 : GoodIn wsRX12_scale (wsV RX12 634 RX12 yX12_put1 wsRX12_put1) := goodIn_sub (fun _ h => List.mem_cons_of_mem _ (List.mem_append_right _ h)) (gdV (by decide +kernel) gdwsRX12_put1)
theorem gdwsRX12_scale : wsRX12_scale.all goodWord = true := gdC rfl (gdA (gdA (gdA (gdA (by decide +kernel : ([.fieldLink RX12 170 "OptimaWorksModel" "top" "[I", .fieldLink RX12 515 "OptimaWorksModel" "stop" "I", .fieldLink RX12 173 "OptimaWorksModel" "under" "[I"] : List Cond).all goodWord = true) gdwsX120) (gdV (by decide +kernel) gdwsRX12_hasVariables)) (gdV (by decide +kernel) gdwsRX12_faultAt)) (gdV (by decide +kernel) gdwsRX12_put1))
set_option maxHeartbeats 4000000 in
set_option maxRecDepth 100000 in
/-- scale(v, w, by, p) -/
theorem r_X12_scale (l : Launch) (dC : Nat → ClassId) (dI : Nat → Nat → Nat) (a : Nat → Nat) (k : Nat → ClassId) (h0 : Nat) (vi : Nat → Int32) (vj : Nat → Int64) (vF : Nat → Nat → Int32) (vG : Nat → Nat → Int64) (vn : Nat) (wn : Nat) (bY : Int32) (pv : Int32) (hvn : vn < 100) (hwn : wn < 100) (hrv : RowU (vF 49) (vF 50) vn) (hrw : RowU (vF 49) (vF 50) wn) (sz : Nat) : Met l yX12_scale wsRX12_scale ({ frames := 2, cells := 0, slots := 0, locals := 62 }) (va_Pc [.ref h0, .int (nI vn), .int (nI wn), .int bY, .int pv] (fun U => U.heap.size = sz ∧ va_P (dC, dI) vwCl (WR a k h0 vi vj vF vG) U.heap ∧ va_K (dC, dI) vwCl (tX12 k) U ∧ va_D (fun _ => True) (WR a k h0 vi vj vF vG))) (va_Qv (fun (u : (Int32) × (Int32) × (Nat → Int32) × (Nat → Int32)) => (∀ v9, v9 < 100 → RowU (vF 49) (vF 50) v9 → RowU (u.2.2.1) (u.2.2.2) v9) ∧ (∀ q, (q < 9 * vn ∨ 9 * vn + 9 ≤ q) → (u.2.2.1) q = vF 49 q) ∧ (∀ q, (q < 9 * vn ∨ 9 * vn + 9 ≤ q) → (u.2.2.2) q = vF 50 q) ∧ ((u.1) = vi 21 ∨ 0 < ((u.1)).toInt)) (fun (u : (Int32) × (Int32) × (Nat → Int32) × (Nat → Int32)) t => va_P (dC, dI) vwCl (WR a k h0 (fT (fT vi 21 (u.1)) 22 (u.2.1)) vj (fT (fT vF 49 (u.2.2.1)) 50 (u.2.2.2)) vG) t.heap ∧ va_D (va_A (WR a k h0 vi vj vF vG) sz) (WR a k h0 (fT (fT vi 21 (u.1)) 22 (u.2.1)) vj (fT (fT vF 49 (u.2.2.1)) 50 (u.2.2.2)) vG)) (va_A (WR a k h0 vi vj vF vG) sz)) 0 0 (va_A (WR a k h0 vi vj vF vG) sz) := by
  refine Met.ofW (cc := cX12_scale) (maxL := 13) (ret := none) (by decide) rfl ?_
  intro p e s m args below meth c s₁ B hml hv
  obtain ⟨rfl, hsz, hP, hK, hD0⟩ := hv
  have hx := B.exec
  have hb := B.bytes
  have hr := B.returns
  have hts := atoms_spec (ws := wsRX12_scale) B.pre
  have hown : s.vm.findClass RX12 = some m.cls := findClass_of_methodNamed B.named
  have hlocks := B.notSynchronized
  subst hsz
  have hD := hD0.self (sz := s.heap.size)
  generalize hAe : va_A (WR a k h0 vi vj vF vG) s.heap.size = A at hD ⊢
  have hA : ∀ q : Nat, s.heap.size ≤ q → A q := fun q h => by rw [← hAe]; exact Or.inr h
  have hS : va_S A s.heap s.heap [] := va_S.rf
  have hl := lv_entry ([.ref h0, .int (nI vn), .int (nI wn), .int bY, .int pv]) (n := 13) (Nat.le_of_ble_eq_true rfl)
  rw [lg_entry_eq]
  generalize (lg_sl ([.ref h0, .int (nI vn), .int (nI wn), .int bY, .int pv]) ++ List.replicate (13 - (lg_sl ([.ref h0, .int (nI vn), .int (nI wn), .int bY, .int pv])).length) Slot.unset).toArray = ls at hl ⊢
  have hl : lv_has ls 13 [(0, .ref h0), (1, .int (nI vn)), (2, .int (nI wn)), (3, .int bY), (4, .int pv)] := hl
  refine lv_iload_n hx hb dX12_scale_0 rfl (lv_at hl 3 rfl) ?_
  refine W.cut (pc := 65) (fun H locs ls stk => ∃ (s3 : Int32) (p3 : Int32), (¬ (s3).toInt ≤ 0 ∨ (s3 = vi 21 ∧ (bY = 0 ∨ ((∀ q, 1 ≤ q → q < 9 → vF 49 (9 * wn + q) = 0) ∧ vF 49 (9 * wn) ≠ 0)))) ∧  stk = [] ∧ va_P (dC, dI) vwCl (WR a k h0 (fT (fT vi 21 s3) 22 p3) vj vF vG) H ∧ va_D A (WR a k h0 (fT (fT vi 21 s3) 22 p3) vj vF vG) ∧ va_S A s.heap H locs ∧ lv_has ls 13 [(0, .ref h0), (1, .int (nI vn)), (2, .int (nI wn)), (3, .int bY), (4, .int pv)]) (fun join1 => ?_) ?_
  · refine lv_if_eq (tgt := 15) hx hb dX12_scale_1 (by decide) (fun c_1 => ?_) (fun c_1 => ?_)
    · have t_1 : (bY).toInt = 0 := toI_eq c_1 rfl (by decide)
      refine lv_aload_n hx hb dX12_scale_15 rfl (lv_at hl 0 rfl) ?_
      refine lv_iload_n hx hb dX12_scale_16 rfl (lv_at hl 1 rfl) ?_
      have hFc := allFree hD hS hA
      refine va_calli (va_runV (As := [.int (nI vn)]) (rest := []) ⟨hx, hb, hml, hown, hts⟩ (r_X12_hasVariables l dC dI a k h0 vi vj vF vG vn (by first | assumption | decide | omega | rfl) s.heap.size) (cwV 1 hts gwsRX12_scale_0 rfl rfl rfl (by decide +kernel) ⟨by decide +kernel, by decide +kernel⟩) ⟨fun a U g mk q => by obtain ⟨q0, q1, qP, qK, qD⟩ := q; exact ⟨q0, q1, qP, va_K.moved (u := U) (U := U.calling g mk a) (Vm.Alike.refl U.vm) qK, qD⟩, va_recv hK hP (ci := 12) (q0 := 0) rfl rfl, fun U hU9 hW => ⟨rfl, by rw [hU9], by rw [hU9]; exact hP, va_K.moved hW.alike hK, hD.weaken (fun _ _ _ _ => trivial)⟩⟩ rfl rfl hl.1 rfl (lv_room (Nat.le_of_ble_eq_true rfl)) dX12_scale_17 ⟨by decide +kernel, by decide +kernel⟩) hS (fun q _ h => hFc q h) hFc (fun r17 u t9_ H1 locs ht hvm hw9 hB9 hz1 hk1 hS => ?_)
      obtain ⟨hP1, hD1⟩ := hB9
      rw [ht] at hP1
      have hP := hP1
      have hD := hD1.weaken (fun _ q _ h => hFc q.1 h)
      generalize H1 = H at hP hS ⊢
      have hP : va_P (dC, dI) vwCl (WR a k h0 vi vj vF vG) H := hP
      have hD : va_D A (WR a k h0 vi vj vF vG) := hD
      have f17_0 := hw9
      try dsimp only at f17_0
      have f17_0 : ((r17) = 0 ∧ ∀ q, 1 ≤ q → q < 9 → (vF 49) (9 * vn + q) = 0) ∨ ((r17) = 1 ∧ ∃ q, 1 ≤ q ∧ q < 9 ∧ (vF 49) (9 * vn + q) ≠ 0) := f17_0
      refine lv_if_eq (tgt := 41) hx hb dX12_scale_20 (by decide) (fun c_20 => ?_) (fun c_20 => ?_)
      · have t_20 : (r17).toInt = 0 := toI_eq c_20 rfl (by decide)
        refine lv_iload_n hx hb dX12_scale_41 rfl (lv_at hl 3 rfl) ?_
        refine lv_if_eq (tgt := 65) hx hb dX12_scale_42 (by decide) (fun c_42 => ?_) (fun c9 => False.elim (by have t9 : ¬ (bY).toInt = 0 := toI_neq c9 rfl (by decide); omega))
        have t_42 : (bY).toInt = 0 := toI_eq c_42 rfl (by decide)
        have e9 : fT (fT vi 21 (vi 21)) 22 (vi 22) = vi := by funext q9; by_cases h9_21 : q9 = 21; (subst h9_21; exact ((fT_ne _ _ (Nat.ne_of_beq_eq_false rfl)).trans (fT_eq _ _ _)).trans (Eq.trans (by first | rfl | assumption | (symm; assumption) | (subst_vars; rfl)) (Eq.refl _).symm)); by_cases h9_22 : q9 = 22; (subst h9_22; exact (fT_eq _ _ _).trans (Eq.trans (by first | rfl | assumption | (symm; assumption) | (subst_vars; rfl)) (Eq.refl _).symm)); exact ((fT_ne _ _ h9_22).trans (fT_ne _ _ h9_21)).trans (Eq.refl _).symm
        have hP : va_P (dC, dI) vwCl (WR a k h0 (fT (fT vi 21 (vi 21)) 22 (vi 22)) vj vF vG) H := by rw [e9]; exact hP
        have hD : va_D A (WR a k h0 (fT (fT vi 21 (vi 21)) 22 (vi 22)) vj vF vG) := by rw [e9]; exact hD
        clear e9
        have hl : lv_has _ _ ([(0, .ref h0), (1, .int (nI vn)), (2, .int (nI wn)), (3, .int bY), (4, .int pv)]) := lv_sub hl [0, 1, 2, 3, 4] rfl
        exact join1 _ _ _ _ ⟨(vi 21), (vi 22), Or.inr ⟨rfl, Or.inl c_1⟩, rfl, hP, hD, hS, hl⟩
      · have t_20 : ¬ (r17).toInt = 0 := toI_neq c_20 rfl (by decide)
        refine lv_aload_n hx hb dX12_scale_23 rfl (lv_at hl 0 rfl) ?_
        refine lv_iload_n hx hb dX12_scale_24 rfl (lv_at hl 2 rfl) ?_
        have hFc := allFree hD hS hA
        refine va_calli (va_runV (As := [.int (nI wn)]) (rest := []) ⟨hx, hb, hml, hown, hts⟩ (r_X12_hasVariables l dC dI a k h0 vi vj vF vG wn (by first | assumption | decide | omega | rfl) H.size) (cwV 1 hts gwsRX12_scale_0 rfl rfl rfl (by decide +kernel) ⟨by decide +kernel, by decide +kernel⟩) ⟨fun a U g mk q => by obtain ⟨q0, q1, qP, qK, qD⟩ := q; exact ⟨q0, q1, qP, va_K.moved (u := U) (U := U.calling g mk a) (Vm.Alike.refl U.vm) qK, qD⟩, va_recv hK hP (ci := 12) (q0 := 0) rfl rfl, fun U hU9 hW => ⟨rfl, by rw [hU9], by rw [hU9]; exact hP, va_K.moved hW.alike hK, hD.weaken (fun _ _ _ _ => trivial)⟩⟩ rfl rfl hl.1 rfl (lv_room (Nat.le_of_ble_eq_true rfl)) dX12_scale_25 ⟨by decide +kernel, by decide +kernel⟩) hS (fun q _ h => hFc q h) hFc (fun r25 u t9_ H1 locs ht hvm hw9 hB9 hz1 hk1 hS => ?_)
        obtain ⟨hP1, hD1⟩ := hB9
        rw [ht] at hP1
        have hP := hP1
        have hD := hD1.weaken (fun _ q _ h => hFc q.1 h)
        generalize H1 = H at hP hS ⊢
        have hP : va_P (dC, dI) vwCl (WR a k h0 vi vj vF vG) H := hP
        have hD : va_D A (WR a k h0 vi vj vF vG) := hD
        have f25_0 := hw9
        try dsimp only at f25_0
        have f25_0 : ((r25) = 0 ∧ ∀ q, 1 ≤ q → q < 9 → (vF 49) (9 * wn + q) = 0) ∨ ((r25) = 1 ∧ ∃ q, 1 ≤ q ∧ q < 9 ∧ (vF 49) (9 * wn + q) ≠ 0) := f25_0
        refine lv_if_eq (tgt := 41) hx hb dX12_scale_28 (by decide) (fun c_28 => ?_) (fun c_28 => ?_)
        · have t_28 : (r25).toInt = 0 := toI_eq c_28 rfl (by decide)
          refine lv_iload_n hx hb dX12_scale_41 rfl (lv_at hl 3 rfl) ?_
          refine lv_if_eq (tgt := 65) hx hb dX12_scale_42 (by decide) (fun c_42 => ?_) (fun c9 => False.elim (by have t9 : ¬ (bY).toInt = 0 := toI_neq c9 rfl (by decide); omega))
          have t_42 : (bY).toInt = 0 := toI_eq c_42 rfl (by decide)
          have e9 : fT (fT vi 21 (vi 21)) 22 (vi 22) = vi := by funext q9; by_cases h9_21 : q9 = 21; (subst h9_21; exact ((fT_ne _ _ (Nat.ne_of_beq_eq_false rfl)).trans (fT_eq _ _ _)).trans (Eq.trans (by first | rfl | assumption | (symm; assumption) | (subst_vars; rfl)) (Eq.refl _).symm)); by_cases h9_22 : q9 = 22; (subst h9_22; exact (fT_eq _ _ _).trans (Eq.trans (by first | rfl | assumption | (symm; assumption) | (subst_vars; rfl)) (Eq.refl _).symm)); exact ((fT_ne _ _ h9_22).trans (fT_ne _ _ h9_21)).trans (Eq.refl _).symm
          have hP : va_P (dC, dI) vwCl (WR a k h0 (fT (fT vi 21 (vi 21)) 22 (vi 22)) vj vF vG) H := by rw [e9]; exact hP
          have hD : va_D A (WR a k h0 (fT (fT vi 21 (vi 21)) 22 (vi 22)) vj vF vG) := by rw [e9]; exact hD
          clear e9
          have hl : lv_has _ _ ([(0, .ref h0), (1, .int (nI vn)), (2, .int (nI wn)), (3, .int bY), (4, .int pv)]) := lv_sub hl [0, 1, 2, 3, 4] rfl
          exact join1 _ _ _ _ ⟨(vi 21), (vi 22), Or.inr ⟨rfl, Or.inl c_1⟩, rfl, hP, hD, hS, hl⟩
        · have t_28 : ¬ (r25).toInt = 0 := toI_neq c_28 rfl (by decide)
          refine lv_aload_n hx hb dX12_scale_31 rfl (lv_at hl 0 rfl) ?_
          refine lv_iconst (v := 5) hx hb dX12_scale_32 (by decide) ?_
          refine lv_iload hx hb dX12_scale_33 (lv_at hl 4 rfl) ?_
          have hFc := allFree hD hS hA
          refine va_callv (va_runV (As := [.int 5, .int pv]) (rest := []) ⟨hx, hb, hml, hown, hts⟩ (r_X12_faultAt l dC dI a k h0 vi vj vF vG 5 pv (by first | assumption | decide | omega | rfl) H.size) (cwV 2 hts gwsRX12_scale_1 rfl rfl rfl (by decide +kernel) ⟨by decide +kernel, by decide +kernel⟩) ⟨fun a U g mk q => by obtain ⟨q0, q1, qP, qK, qD⟩ := q; exact ⟨q0, q1, qP, va_K.moved (u := U) (U := U.calling g mk a) (Vm.Alike.refl U.vm) qK, qD⟩, va_recv hK hP (ci := 12) (q0 := 0) rfl rfl, fun U hU9 hW => ⟨rfl, by rw [hU9], by rw [hU9]; exact hP, va_K.moved hW.alike hK, hD.weaken (fun _ _ _ _ => trivial)⟩⟩ rfl rfl hl.1 rfl (lv_room (Nat.le_of_ble_eq_true rfl)) dX12_scale_35 ⟨by decide +kernel, by decide +kernel⟩) hS (fun q _ h => hFc q h) hFc (fun u t9_ H1 locs ht hvm hw9 hB9 hz1 hk1 hS => ?_)
          obtain ⟨s235, p235⟩ := u
          try dsimp only at hw9 hB9
          obtain ⟨hP1, hD1⟩ := hB9
          rw [ht] at hP1
          have hP := hP1
          have hD := hD1.weaken (fun _ q _ h => hFc q.1 h)
          generalize H1 = H at hP hS ⊢
          have hP : va_P (dC, dI) vwCl (WR a k h0 (fT (fT vi 21 s235) 22 p235) vj vF vG) H := hP
          have hD : va_D A (WR a k h0 (fT (fT vi 21 s235) 22 p235) vj vF vG) := hD
          obtain ⟨f35_0, f35_1⟩ := hw9
          have f35_0 : (0 < (vi 21).toInt ∧ s235 = (vi 21) ∧ p235 = (vi 22)) ∨ (¬ 0 < (vi 21).toInt ∧ s235 = 5 ∧ p235 = pv) := f35_0
          refine lv_goto (tgt := 65) hx hb dX12_scale_38 (by decide) ?_
          have hl : lv_has _ _ ([(0, .ref h0), (1, .int (nI vn)), (2, .int (nI wn)), (3, .int bY), (4, .int pv)]) := lv_sub hl [0, 1, 2, 3, 4] rfl
          exact join1 _ _ _ _ ⟨s235, p235, Or.inl (by rcases f35_0 with h9 | h9; (rw [h9.2.1]; omega); (rw [h9.2.1]; decide)), rfl, hP, hD, hS, hl⟩
    · have t_1 : ¬ (bY).toInt = 0 := toI_neq c_1 rfl (by decide)
      refine lv_aload_n hx hb dX12_scale_4 rfl (lv_at hl 0 rfl) ?_
      refine lv_iload_n hx hb dX12_scale_5 rfl (lv_at hl 2 rfl) ?_
      have hFc := allFree hD hS hA
      refine va_calli (va_runV (As := [.int (nI wn)]) (rest := []) ⟨hx, hb, hml, hown, hts⟩ (r_X12_hasVariables l dC dI a k h0 vi vj vF vG wn (by first | assumption | decide | omega | rfl) s.heap.size) (cwV 1 hts gwsRX12_scale_0 rfl rfl rfl (by decide +kernel) ⟨by decide +kernel, by decide +kernel⟩) ⟨fun a U g mk q => by obtain ⟨q0, q1, qP, qK, qD⟩ := q; exact ⟨q0, q1, qP, va_K.moved (u := U) (U := U.calling g mk a) (Vm.Alike.refl U.vm) qK, qD⟩, va_recv hK hP (ci := 12) (q0 := 0) rfl rfl, fun U hU9 hW => ⟨rfl, by rw [hU9], by rw [hU9]; exact hP, va_K.moved hW.alike hK, hD.weaken (fun _ _ _ _ => trivial)⟩⟩ rfl rfl hl.1 rfl (lv_room (Nat.le_of_ble_eq_true rfl)) dX12_scale_6 ⟨by decide +kernel, by decide +kernel⟩) hS (fun q _ h => hFc q h) hFc (fun r6 u t9_ H1 locs ht hvm hw9 hB9 hz1 hk1 hS => ?_)
      obtain ⟨hP1, hD1⟩ := hB9
      rw [ht] at hP1
      have hP := hP1
      have hD := hD1.weaken (fun _ q _ h => hFc q.1 h)
      generalize H1 = H at hP hS ⊢
      have hP : va_P (dC, dI) vwCl (WR a k h0 vi vj vF vG) H := hP
      have hD : va_D A (WR a k h0 vi vj vF vG) := hD
      have f6_0 := hw9
      try dsimp only at f6_0
      have f6_0 : ((r6) = 0 ∧ ∀ q, 1 ≤ q → q < 9 → (vF 49) (9 * wn + q) = 0) ∨ ((r6) = 1 ∧ ∃ q, 1 ≤ q ∧ q < 9 ∧ (vF 49) (9 * wn + q) ≠ 0) := f6_0
      refine lv_if_eq (tgt := 41) hx hb dX12_scale_9 (by decide) (fun c_9 => ?_) (fun c_9 => ?_)
      · have t_9 : (r6).toInt = 0 := toI_eq c_9 rfl (by decide)
        refine lv_iload_n hx hb dX12_scale_41 rfl (lv_at hl 3 rfl) ?_
        refine lv_if_eq (tgt := 65) hx hb dX12_scale_42 (by decide) (fun c9 => False.elim (by have t9 : (bY).toInt = 0 := toI_eq c9 rfl (by decide); omega)) (fun c_42 => ?_)
        have t_42 : ¬ (bY).toInt = 0 := toI_neq c_42 rfl (by decide)
        refine lv_aload_n hx hb dX12_scale_45 rfl (lv_at hl 0 rfl) ?_
        refine va_get (D := (dC, dI)) (ci := 12) (v := .ref (a 49)) (C := RX12) (T := TX12) (N := 163) (fs := fM (vS a vi vj)) hx hb hts iwsRX12_scale_in12 hown hK hP 0 rfl rfl 78 (by decide) (hts (.fieldLink RX12 170 "OptimaWorksModel" "top" "[I") (by decide +kernel)) (fun _ h9 => h9) rfl dX12_scale_46 ?_
        refine lv_bipush (v := 9) hx hb dX12_scale_49 (by decide) ?_
        refine lv_iload_n hx hb dX12_scale_51 rfl (lv_at hl 2 rfl) ?_
        refine lv_imul hx hb dX12_scale_52 ?_
        refine lv_topi (fun y1 hy1 => ?_)
        obtain rfl : (nI (9 * wn)) = y1 := (hy1.trans (pk_mul 9 wn)).symm
        refine va_iald (cA := k 49) (n := 900) (f := (vF 49)) hx hb hK hP 50 49 (WR_get 49 (by decide)) (TR_get 49 (by decide)) (vp_in_nI (show (9 * wn) < 900 by omega) (by omega)) dX12_scale_53 ?_
        refine lv_topi (fun y2 hy2 => ?_)
        obtain rfl : ((vF 49) (9 * wn)) = y2 := (hy2.trans (by rw [nI_clamp (by omega)])).symm
        refine lv_if_ne (tgt := 65) hx hb dX12_scale_54 (by decide) (fun c_54 => ?_) (fun c_54 => ?_)
        · have t_54 : (((vF 49) (9 * wn))).toInt ≠ 0 := toI_ne c_54 rfl (by decide)
          have e9 : fT (fT vi 21 (vi 21)) 22 (vi 22) = vi := by funext q9; by_cases h9_21 : q9 = 21; (subst h9_21; exact ((fT_ne _ _ (Nat.ne_of_beq_eq_false rfl)).trans (fT_eq _ _ _)).trans (Eq.trans (by first | rfl | assumption | (symm; assumption) | (subst_vars; rfl)) (Eq.refl _).symm)); by_cases h9_22 : q9 = 22; (subst h9_22; exact (fT_eq _ _ _).trans (Eq.trans (by first | rfl | assumption | (symm; assumption) | (subst_vars; rfl)) (Eq.refl _).symm)); exact ((fT_ne _ _ h9_22).trans (fT_ne _ _ h9_21)).trans (Eq.refl _).symm
          have hP : va_P (dC, dI) vwCl (WR a k h0 (fT (fT vi 21 (vi 21)) 22 (vi 22)) vj vF vG) H := by rw [e9]; exact hP
          have hD : va_D A (WR a k h0 (fT (fT vi 21 (vi 21)) 22 (vi 22)) vj vF vG) := by rw [e9]; exact hD
          clear e9
          have hl : lv_has _ _ ([(0, .ref h0), (1, .int (nI vn)), (2, .int (nI wn)), (3, .int bY), (4, .int pv)]) := lv_sub hl [0, 1, 2, 3, 4] rfl
          exact join1 _ _ _ _ ⟨(vi 21), (vi 22), Or.inr ⟨rfl, Or.inr ⟨(f6_0.resolve_right (fun h => by (have h9 := h.1); rw [h9] at c_9; exact absurd c_9 (by decide))).2, c_54⟩⟩, rfl, hP, hD, hS, hl⟩
        · have t_54 : (((vF 49) (9 * wn))).toInt = 0 := toI_nne c_54 rfl (by decide)
          refine lv_aload_n hx hb dX12_scale_57 rfl (lv_at hl 0 rfl) ?_
          refine lv_bipush (v := 6) hx hb dX12_scale_58 (by decide) ?_
          refine lv_iload hx hb dX12_scale_60 (lv_at hl 4 rfl) ?_
          have hFc := allFree hD hS hA
          refine va_callv (va_runV (As := [.int 6, .int pv]) (rest := []) ⟨hx, hb, hml, hown, hts⟩ (r_X12_faultAt l dC dI a k h0 vi vj vF vG 6 pv (by first | assumption | decide | omega | rfl) H.size) (cwV 2 hts gwsRX12_scale_1 rfl rfl rfl (by decide +kernel) ⟨by decide +kernel, by decide +kernel⟩) ⟨fun a U g mk q => by obtain ⟨q0, q1, qP, qK, qD⟩ := q; exact ⟨q0, q1, qP, va_K.moved (u := U) (U := U.calling g mk a) (Vm.Alike.refl U.vm) qK, qD⟩, va_recv hK hP (ci := 12) (q0 := 0) rfl rfl, fun U hU9 hW => ⟨rfl, by rw [hU9], by rw [hU9]; exact hP, va_K.moved hW.alike hK, hD.weaken (fun _ _ _ _ => trivial)⟩⟩ rfl rfl hl.1 rfl (lv_room (Nat.le_of_ble_eq_true rfl)) dX12_scale_62 ⟨by decide +kernel, by decide +kernel⟩) hS (fun q _ h => hFc q h) hFc (fun u t9_ H1 locs ht hvm hw9 hB9 hz1 hk1 hS => ?_)
          obtain ⟨s262, p262⟩ := u
          try dsimp only at hw9 hB9
          obtain ⟨hP1, hD1⟩ := hB9
          rw [ht] at hP1
          have hP := hP1
          have hD := hD1.weaken (fun _ q _ h => hFc q.1 h)
          generalize H1 = H at hP hS ⊢
          have hP : va_P (dC, dI) vwCl (WR a k h0 (fT (fT vi 21 s262) 22 p262) vj vF vG) H := hP
          have hD : va_D A (WR a k h0 (fT (fT vi 21 s262) 22 p262) vj vF vG) := hD
          obtain ⟨f62_0, f62_1⟩ := hw9
          have f62_0 : (0 < (vi 21).toInt ∧ s262 = (vi 21) ∧ p262 = (vi 22)) ∨ (¬ 0 < (vi 21).toInt ∧ s262 = 6 ∧ p262 = pv) := f62_0
          have hl : lv_has _ _ ([(0, .ref h0), (1, .int (nI vn)), (2, .int (nI wn)), (3, .int bY), (4, .int pv)]) := lv_sub hl [0, 1, 2, 3, 4] rfl
          exact join1 _ _ _ _ ⟨s262, p262, Or.inl (by rcases f62_0 with h9 | h9; (rw [h9.2.1]; omega); (rw [h9.2.1]; decide)), rfl, hP, hD, hS, hl⟩
      · have t_9 : ¬ (r6).toInt = 0 := toI_neq c_9 rfl (by decide)
        refine lv_goto (tgt := 31) hx hb dX12_scale_12 (by decide) ?_
        refine lv_aload_n hx hb dX12_scale_31 rfl (lv_at hl 0 rfl) ?_
        refine lv_iconst (v := 5) hx hb dX12_scale_32 (by decide) ?_
        refine lv_iload hx hb dX12_scale_33 (lv_at hl 4 rfl) ?_
        have hFc := allFree hD hS hA
        refine va_callv (va_runV (As := [.int 5, .int pv]) (rest := []) ⟨hx, hb, hml, hown, hts⟩ (r_X12_faultAt l dC dI a k h0 vi vj vF vG 5 pv (by first | assumption | decide | omega | rfl) H.size) (cwV 2 hts gwsRX12_scale_1 rfl rfl rfl (by decide +kernel) ⟨by decide +kernel, by decide +kernel⟩) ⟨fun a U g mk q => by obtain ⟨q0, q1, qP, qK, qD⟩ := q; exact ⟨q0, q1, qP, va_K.moved (u := U) (U := U.calling g mk a) (Vm.Alike.refl U.vm) qK, qD⟩, va_recv hK hP (ci := 12) (q0 := 0) rfl rfl, fun U hU9 hW => ⟨rfl, by rw [hU9], by rw [hU9]; exact hP, va_K.moved hW.alike hK, hD.weaken (fun _ _ _ _ => trivial)⟩⟩ rfl rfl hl.1 rfl (lv_room (Nat.le_of_ble_eq_true rfl)) dX12_scale_35 ⟨by decide +kernel, by decide +kernel⟩) hS (fun q _ h => hFc q h) hFc (fun u t9_ H1 locs ht hvm hw9 hB9 hz1 hk1 hS => ?_)
        obtain ⟨s235_1, p235_1⟩ := u
        try dsimp only at hw9 hB9
        obtain ⟨hP1, hD1⟩ := hB9
        rw [ht] at hP1
        have hP := hP1
        have hD := hD1.weaken (fun _ q _ h => hFc q.1 h)
        generalize H1 = H at hP hS ⊢
        have hP : va_P (dC, dI) vwCl (WR a k h0 (fT (fT vi 21 s235_1) 22 p235_1) vj vF vG) H := hP
        have hD : va_D A (WR a k h0 (fT (fT vi 21 s235_1) 22 p235_1) vj vF vG) := hD
        obtain ⟨f35_1_0, f35_1_1⟩ := hw9
        have f35_1_0 : (0 < (vi 21).toInt ∧ s235_1 = (vi 21) ∧ p235_1 = (vi 22)) ∨ (¬ 0 < (vi 21).toInt ∧ s235_1 = 5 ∧ p235_1 = pv) := f35_1_0
        refine lv_goto (tgt := 65) hx hb dX12_scale_38 (by decide) ?_
        have hl : lv_has _ _ ([(0, .ref h0), (1, .int (nI vn)), (2, .int (nI wn)), (3, .int bY), (4, .int pv)]) := lv_sub hl [0, 1, 2, 3, 4] rfl
        exact join1 _ _ _ _ ⟨s235_1, p235_1, Or.inl (by rcases f35_1_0 with h9 | h9; (rw [h9.2.1]; omega); (rw [h9.2.1]; decide)), rfl, hP, hD, hS, hl⟩
  · rintro H locs ls stk ⟨s3, p3, hs3, rfl, hP, hD, hS, hl⟩
    refine lv_aload_n hx hb dX12_scale_65 rfl (lv_at hl 0 rfl) ?_
    refine va_get (D := (dC, dI)) (ci := 12) (v := .int s3) (C := RX12) (T := TX12) (N := 163) (fs := fM (vS a (fT (fT vi 21 s3) 22 p3) vj)) hx hb hts iwsRX12_scale_in12 hown hK hP 0 rfl rfl 21 (by decide) (hts (.fieldLink RX12 515 "OptimaWorksModel" "stop" "I") (by decide +kernel)) (fun _ h9 => h9) rfl dX12_scale_66 ?_
    refine lv_if_le (tgt := 73) hx hb dX12_scale_69 (by decide) (fun c_69 => ?_) (fun c_69 => ?_)
    · have t_69 : (s3).toInt ≤ 0 := toI_le c_69 rfl (by decide)
      have h39 := hs3.resolve_left (fun h => h (by omega))
      refine lv_aload_n hx hb dX12_scale_73 rfl (lv_at hl 0 rfl) ?_
      refine lv_iload_n hx hb dX12_scale_74 rfl (lv_at hl 2 rfl) ?_
      have hFc := allFree hD hS hA
      refine va_calli (va_runV (As := [.int (nI wn)]) (rest := []) ⟨hx, hb, hml, hown, hts⟩ (r_X12_hasVariables l dC dI a k h0 (fT (fT vi 21 s3) 22 p3) vj vF vG wn (by first | assumption | decide | omega | rfl) H.size) (cwV 1 hts gwsRX12_scale_0 rfl rfl rfl (by decide +kernel) ⟨by decide +kernel, by decide +kernel⟩) ⟨fun a U g mk q => by obtain ⟨q0, q1, qP, qK, qD⟩ := q; exact ⟨q0, q1, qP, va_K.moved (u := U) (U := U.calling g mk a) (Vm.Alike.refl U.vm) qK, qD⟩, va_recv hK hP (ci := 12) (q0 := 0) rfl rfl, fun U hU9 hW => ⟨rfl, by rw [hU9], by rw [hU9]; exact hP, va_K.moved hW.alike hK, hD.weaken (fun _ _ _ _ => trivial)⟩⟩ rfl rfl hl.1 rfl (lv_room (Nat.le_of_ble_eq_true rfl)) dX12_scale_75 ⟨by decide +kernel, by decide +kernel⟩) hS (fun q _ h => hFc q h) hFc (fun r75 u t9_ H1 locs ht hvm hw9 hB9 hz1 hk1 hS => ?_)
      obtain ⟨hP1, hD1⟩ := hB9
      rw [ht] at hP1
      have hP := hP1
      have hD := hD1.weaken (fun _ q _ h => hFc q.1 h)
      generalize H1 = H at hP hS ⊢
      have hP : va_P (dC, dI) vwCl (WR a k h0 (fT (fT vi 21 s3) 22 p3) vj vF vG) H := hP
      have hD : va_D A (WR a k h0 (fT (fT vi 21 s3) 22 p3) vj vF vG) := hD
      have f75_0 := hw9
      try dsimp only at f75_0
      have f75_0 : ((r75) = 0 ∧ ∀ q, 1 ≤ q → q < 9 → (vF 49) (9 * wn + q) = 0) ∨ ((r75) = 1 ∧ ∃ q, 1 ≤ q ∧ q < 9 ∧ (vF 49) (9 * wn + q) ≠ 0) := f75_0
      refine lv_istore hx hb dX12_scale_78 hl (by decide) rfl (fun ls (hl : lv_has ls _ ([(5, .int r75), (0, .ref h0), (1, .int (nI vn)), (2, .int (nI wn)), (3, .int bY), (4, .int pv)])) => ?_)
      refine lv_iload hx hb dX12_scale_80 (lv_at hl 0 rfl) ?_
      refine W.cut (pc := 104) (fun H locs ls stk => ∃ (ax : Nat) (bx : Nat), ((ax = wn ∧ bx = vn ∧ ¬ r75 = 0) ∨ (ax = vn ∧ bx = wn ∧ r75 = 0)) ∧  stk = [] ∧ va_P (dC, dI) vwCl (WR a k h0 (fT (fT vi 21 s3) 22 p3) vj vF vG) H ∧ va_D A (WR a k h0 (fT (fT vi 21 s3) 22 p3) vj vF vG) ∧ va_S A s.heap H locs ∧ lv_has ls 13 [(0, .ref h0), (1, .int (nI vn)), (2, .int (nI wn)), (3, .int bY), (4, .int pv), (6, .int (nI ax)), (7, .int (nI bx))]) (fun join2 => ?_) ?_
      · refine lv_if_eq (tgt := 89) hx hb dX12_scale_82 (by decide) (fun c_82 => ?_) (fun c_82 => ?_)
        · have t_82 : (r75).toInt = 0 := toI_eq c_82 rfl (by decide)
          refine lv_iload_n hx hb dX12_scale_89 rfl (lv_at hl 2 rfl) ?_
          refine lv_istore hx hb dX12_scale_90 hl (by decide) rfl (fun ls (hl : lv_has ls _ ([(6, .int (nI vn)), (5, .int r75), (0, .ref h0), (1, .int (nI vn)), (2, .int (nI wn)), (3, .int bY), (4, .int pv)])) => ?_)
          refine lv_iload hx hb dX12_scale_92 (lv_at hl 1 rfl) ?_
          refine lv_if_eq (tgt := 101) hx hb dX12_scale_94 (by decide) (fun c_94 => ?_) (fun c9 => False.elim (by have t9 : ¬ (r75).toInt = 0 := toI_neq c9 rfl (by decide); omega))
          have t_94 : (r75).toInt = 0 := toI_eq c_94 rfl (by decide)
          refine lv_iload_n hx hb dX12_scale_101 rfl (lv_at hl 4 rfl) ?_
          refine lv_istore hx hb dX12_scale_102 hl (by decide) rfl (fun ls (hl : lv_has ls _ ([(7, .int (nI wn)), (6, .int (nI vn)), (5, .int r75), (0, .ref h0), (1, .int (nI vn)), (2, .int (nI wn)), (3, .int bY), (4, .int pv)])) => ?_)
          have hl : lv_has _ _ ([(0, .ref h0), (1, .int (nI vn)), (2, .int (nI wn)), (3, .int bY), (4, .int pv), (6, .int (nI vn)), (7, .int (nI wn))]) := lv_sub hl [3, 4, 5, 6, 7, 1, 0] rfl
          exact join2 _ _ _ _ ⟨vn, wn, Or.inr ⟨rfl, rfl, c_82⟩, rfl, hP, hD, hS, hl⟩
        · have t_82 : ¬ (r75).toInt = 0 := toI_neq c_82 rfl (by decide)
          refine lv_iload_n hx hb dX12_scale_85 rfl (lv_at hl 3 rfl) ?_
          refine lv_goto (tgt := 90) hx hb dX12_scale_86 (by decide) ?_
          refine lv_istore hx hb dX12_scale_90 hl (by decide) rfl (fun ls (hl : lv_has ls _ ([(6, .int (nI wn)), (5, .int r75), (0, .ref h0), (1, .int (nI vn)), (2, .int (nI wn)), (3, .int bY), (4, .int pv)])) => ?_)
          refine lv_iload hx hb dX12_scale_92 (lv_at hl 1 rfl) ?_
          refine lv_if_eq (tgt := 101) hx hb dX12_scale_94 (by decide) (fun c9 => False.elim (by have t9 : (r75).toInt = 0 := toI_eq c9 rfl (by decide); omega)) (fun c_94 => ?_)
          have t_94 : ¬ (r75).toInt = 0 := toI_neq c_94 rfl (by decide)
          refine lv_iload_n hx hb dX12_scale_97 rfl (lv_at hl 3 rfl) ?_
          refine lv_goto (tgt := 102) hx hb dX12_scale_98 (by decide) ?_
          refine lv_istore hx hb dX12_scale_102 hl (by decide) rfl (fun ls (hl : lv_has ls _ ([(7, .int (nI vn)), (6, .int (nI wn)), (5, .int r75), (0, .ref h0), (1, .int (nI vn)), (2, .int (nI wn)), (3, .int bY), (4, .int pv)])) => ?_)
          have hl : lv_has _ _ ([(0, .ref h0), (1, .int (nI vn)), (2, .int (nI wn)), (3, .int bY), (4, .int pv), (6, .int (nI wn)), (7, .int (nI vn))]) := lv_sub hl [3, 4, 5, 6, 7, 1, 0] rfl
          exact join2 _ _ _ _ ⟨wn, vn, Or.inl ⟨rfl, rfl, c_82⟩, rfl, hP, hD, hS, hl⟩
      · rintro H locs ls stk ⟨ax, bx, hjx, rfl, hP, hD, hS, hl⟩
        refine lv_iload_n hx hb dX12_scale_104 rfl (lv_at hl 3 rfl) ?_
        refine W.cut (pc := 135) (fun H locs ls stk => ∃ (nl : Int64), (-2000000 ≤ (nl).toInt ∧ (nl).toInt ≤ 2000000) ∧  stk = [] ∧ va_P (dC, dI) vwCl (WR a k h0 (fT (fT vi 21 s3) 22 p3) vj vF vG) H ∧ va_D A (WR a k h0 (fT (fT vi 21 s3) 22 p3) vj vF vG) ∧ va_S A s.heap H locs ∧ lv_has ls 13 [(0, .ref h0), (1, .int (nI vn)), (2, .int (nI wn)), (3, .int bY), (4, .int pv), (6, .int (nI ax)), (7, .int (nI bx)), (8, .long nl)]) (fun join3 => ?_) ?_
        · refine lv_if_eq (tgt := 122) hx hb dX12_scale_105 (by decide) (fun c_105 => ?_) (fun c_105 => ?_)
          · have t_105 : (bY).toInt = 0 := toI_eq c_105 rfl (by decide)
            refine lv_aload_n hx hb dX12_scale_122 rfl (lv_at hl 0 rfl) ?_
            refine va_get (D := (dC, dI)) (ci := 12) (v := .ref (a 49)) (C := RX12) (T := TX12) (N := 163) (fs := fM (vS a (fT (fT vi 21 s3) 22 p3) vj)) hx hb hts iwsRX12_scale_in12 hown hK hP 0 rfl rfl 78 (by decide) (hts (.fieldLink RX12 170 "OptimaWorksModel" "top" "[I") (by decide +kernel)) (fun _ h9 => h9) rfl dX12_scale_123 ?_
            refine lv_bipush (v := 9) hx hb dX12_scale_126 (by decide) ?_
            refine lv_iload hx hb dX12_scale_128 (lv_at hl 6 rfl) ?_
            refine lv_imul hx hb dX12_scale_130 ?_
            refine lv_topi (fun y3 hy3 => ?_)
            obtain rfl : (nI (9 * bx)) = y3 := (hy3.trans (pk_mul 9 bx)).symm
            refine va_iald (cA := k 49) (n := 900) (f := (vF 49)) hx hb hK hP 50 49 (WR_get 49 (by decide)) (TR_get 49 (by decide)) (vp_in_nI (show (9 * bx) < 900 by omega) (by omega)) dX12_scale_131 ?_
            refine lv_topi (fun y4 hy4 => ?_)
            obtain rfl : ((vF 49) (9 * bx)) = y4 := (hy4.trans (by rw [nI_clamp (by omega)])).symm
            refine lv_i2l hx hb dX12_scale_132 rfl ?_
            refine lv_lstore hx hb dX12_scale_133 hl (by decide) rfl (fun ls (hl : lv_has ls _ ([(8, .long (((vF 49) (9 * bx))).toInt64), (0, .ref h0), (1, .int (nI vn)), (2, .int (nI wn)), (3, .int bY), (4, .int pv), (6, .int (nI ax)), (7, .int (nI bx))])) => ?_)
            have hl : lv_has _ _ ([(0, .ref h0), (1, .int (nI vn)), (2, .int (nI wn)), (3, .int bY), (4, .int pv), (6, .int (nI ax)), (7, .int (nI bx)), (8, .long ((((vF 49) (9 * bx))).toInt64))]) := lv_sub hl [1, 2, 3, 4, 5, 6, 7, 0] rfl
            exact join3 _ _ _ _ ⟨(((vF 49) (9 * bx))).toInt64, by (have q1 := hrv 0 (by omega)); (have q2 := hrw 0 (by omega)); rw [i64T]; rcases hjx with h9 | h9 <;> rw [h9.2.1] <;> (simp only [Nat.add_zero] at q1 q2) <;> omega, rfl, hP, hD, hS, hl⟩
          · have t_105 : ¬ (bY).toInt = 0 := toI_neq c_105 rfl (by decide)
            refine lv_aload_n hx hb dX12_scale_108 rfl (lv_at hl 0 rfl) ?_
            refine va_get (D := (dC, dI)) (ci := 12) (v := .ref (a 50)) (C := RX12) (T := TX12) (N := 163) (fs := fM (vS a (fT (fT vi 21 s3) 22 p3) vj)) hx hb hts iwsRX12_scale_in12 hown hK hP 0 rfl rfl 79 (by decide) (hts (.fieldLink RX12 173 "OptimaWorksModel" "under" "[I") (by decide +kernel)) (fun _ h9 => h9) rfl dX12_scale_109 ?_
            refine lv_bipush (v := 9) hx hb dX12_scale_112 (by decide) ?_
            refine lv_iload hx hb dX12_scale_114 (lv_at hl 6 rfl) ?_
            refine lv_imul hx hb dX12_scale_116 ?_
            refine lv_topi (fun y5 hy5 => ?_)
            obtain rfl : (nI (9 * bx)) = y5 := (hy5.trans (pk_mul 9 bx)).symm
            refine va_iald (cA := k 50) (n := 900) (f := (vF 50)) hx hb hK hP 51 50 (WR_get 50 (by decide)) (TR_get 50 (by decide)) (vp_in_nI (show (9 * bx) < 900 by omega) (by omega)) dX12_scale_117 ?_
            refine lv_topi (fun y6 hy6 => ?_)
            obtain rfl : ((vF 50) (9 * bx)) = y6 := (hy6.trans (by rw [nI_clamp (by omega)])).symm
            refine lv_i2l hx hb dX12_scale_118 rfl ?_
            refine lv_goto (tgt := 133) hx hb dX12_scale_119 (by decide) ?_
            refine lv_lstore hx hb dX12_scale_133 hl (by decide) rfl (fun ls (hl : lv_has ls _ ([(8, .long (((vF 50) (9 * bx))).toInt64), (0, .ref h0), (1, .int (nI vn)), (2, .int (nI wn)), (3, .int bY), (4, .int pv), (6, .int (nI ax)), (7, .int (nI bx))])) => ?_)
            have hl : lv_has _ _ ([(0, .ref h0), (1, .int (nI vn)), (2, .int (nI wn)), (3, .int bY), (4, .int pv), (6, .int (nI ax)), (7, .int (nI bx)), (8, .long ((((vF 50) (9 * bx))).toInt64))]) := lv_sub hl [1, 2, 3, 4, 5, 6, 7, 0] rfl
            exact join3 _ _ _ _ ⟨(((vF 50) (9 * bx))).toInt64, by (have q1 := hrv 0 (by omega)); (have q2 := hrw 0 (by omega)); rw [i64T]; rcases hjx with h9 | h9 <;> rw [h9.2.1] <;> (simp only [Nat.add_zero] at q1 q2) <;> omega, rfl, hP, hD, hS, hl⟩
        · rintro H locs ls stk ⟨nl, hnl, rfl, hP, hD, hS, hl⟩
          refine lv_iload_n hx hb dX12_scale_135 rfl (lv_at hl 3 rfl) ?_
          refine W.cut (pc := 166) (fun H locs ls stk => ∃ (dl : Int64), ((-2000000 ≤ (dl).toInt ∧ (dl).toInt ≤ 2000000) ∧ dl.toInt ≠ 0) ∧  stk = [] ∧ va_P (dC, dI) vwCl (WR a k h0 (fT (fT vi 21 s3) 22 p3) vj vF vG) H ∧ va_D A (WR a k h0 (fT (fT vi 21 s3) 22 p3) vj vF vG) ∧ va_S A s.heap H locs ∧ lv_has ls 13 [(0, .ref h0), (1, .int (nI vn)), (2, .int (nI wn)), (3, .int bY), (4, .int pv), (6, .int (nI ax)), (8, .long nl), (10, .long dl)]) (fun join4 => ?_) ?_
          · refine lv_if_eq (tgt := 153) hx hb dX12_scale_136 (by decide) (fun c_136 => ?_) (fun c_136 => ?_)
            · have t_136 : (bY).toInt = 0 := toI_eq c_136 rfl (by decide)
              refine lv_aload_n hx hb dX12_scale_153 rfl (lv_at hl 0 rfl) ?_
              refine va_get (D := (dC, dI)) (ci := 12) (v := .ref (a 50)) (C := RX12) (T := TX12) (N := 163) (fs := fM (vS a (fT (fT vi 21 s3) 22 p3) vj)) hx hb hts iwsRX12_scale_in12 hown hK hP 0 rfl rfl 79 (by decide) (hts (.fieldLink RX12 173 "OptimaWorksModel" "under" "[I") (by decide +kernel)) (fun _ h9 => h9) rfl dX12_scale_154 ?_
              refine lv_bipush (v := 9) hx hb dX12_scale_157 (by decide) ?_
              refine lv_iload hx hb dX12_scale_159 (lv_at hl 6 rfl) ?_
              refine lv_imul hx hb dX12_scale_161 ?_
              refine lv_topi (fun y7 hy7 => ?_)
              obtain rfl : (nI (9 * bx)) = y7 := (hy7.trans (pk_mul 9 bx)).symm
              refine va_iald (cA := k 50) (n := 900) (f := (vF 50)) hx hb hK hP 51 50 (WR_get 50 (by decide)) (TR_get 50 (by decide)) (vp_in_nI (show (9 * bx) < 900 by omega) (by omega)) dX12_scale_162 ?_
              refine lv_topi (fun y8 hy8 => ?_)
              obtain rfl : ((vF 50) (9 * bx)) = y8 := (hy8.trans (by rw [nI_clamp (by omega)])).symm
              refine lv_i2l hx hb dX12_scale_163 rfl ?_
              refine lv_lstore hx hb dX12_scale_164 hl (by decide) rfl (fun ls (hl : lv_has ls _ ([(10, .long (((vF 50) (9 * bx))).toInt64), (0, .ref h0), (1, .int (nI vn)), (2, .int (nI wn)), (3, .int bY), (4, .int pv), (6, .int (nI ax)), (7, .int (nI bx)), (8, .long nl)])) => ?_)
              have hl : lv_has _ _ ([(0, .ref h0), (1, .int (nI vn)), (2, .int (nI wn)), (3, .int bY), (4, .int pv), (6, .int (nI ax)), (8, .long nl), (10, .long ((((vF 50) (9 * bx))).toInt64))]) := lv_sub hl [1, 2, 3, 4, 5, 6, 8, 0] rfl
              exact join4 _ _ _ _ ⟨(((vF 50) (9 * bx))).toInt64, by (have q1 := hrv 0 (by omega)); (have q2 := hrw 0 (by omega)); rw [i64T]; rcases hjx with h9 | h9 <;> rw [h9.2.1] <;> (simp only [Nat.add_zero] at q1 q2) <;> omega, rfl, hP, hD, hS, hl⟩
            · have t_136 : ¬ (bY).toInt = 0 := toI_neq c_136 rfl (by decide)
              refine lv_aload_n hx hb dX12_scale_139 rfl (lv_at hl 0 rfl) ?_
              refine va_get (D := (dC, dI)) (ci := 12) (v := .ref (a 49)) (C := RX12) (T := TX12) (N := 163) (fs := fM (vS a (fT (fT vi 21 s3) 22 p3) vj)) hx hb hts iwsRX12_scale_in12 hown hK hP 0 rfl rfl 78 (by decide) (hts (.fieldLink RX12 170 "OptimaWorksModel" "top" "[I") (by decide +kernel)) (fun _ h9 => h9) rfl dX12_scale_140 ?_
              refine lv_bipush (v := 9) hx hb dX12_scale_143 (by decide) ?_
              refine lv_iload hx hb dX12_scale_145 (lv_at hl 6 rfl) ?_
              refine lv_imul hx hb dX12_scale_147 ?_
              refine lv_topi (fun y9 hy9 => ?_)
              obtain rfl : (nI (9 * bx)) = y9 := (hy9.trans (pk_mul 9 bx)).symm
              refine va_iald (cA := k 49) (n := 900) (f := (vF 49)) hx hb hK hP 50 49 (WR_get 49 (by decide)) (TR_get 49 (by decide)) (vp_in_nI (show (9 * bx) < 900 by omega) (by omega)) dX12_scale_148 ?_
              refine lv_topi (fun y10 hy10 => ?_)
              obtain rfl : ((vF 49) (9 * bx)) = y10 := (hy10.trans (by rw [nI_clamp (by omega)])).symm
              refine lv_i2l hx hb dX12_scale_149 rfl ?_
              refine lv_goto (tgt := 164) hx hb dX12_scale_150 (by decide) ?_
              refine lv_lstore hx hb dX12_scale_164 hl (by decide) rfl (fun ls (hl : lv_has ls _ ([(10, .long (((vF 49) (9 * bx))).toInt64), (0, .ref h0), (1, .int (nI vn)), (2, .int (nI wn)), (3, .int bY), (4, .int pv), (6, .int (nI ax)), (7, .int (nI bx)), (8, .long nl)])) => ?_)
              have hl : lv_has _ _ ([(0, .ref h0), (1, .int (nI vn)), (2, .int (nI wn)), (3, .int bY), (4, .int pv), (6, .int (nI ax)), (8, .long nl), (10, .long ((((vF 49) (9 * bx))).toInt64))]) := lv_sub hl [1, 2, 3, 4, 5, 6, 8, 0] rfl
              exact join4 _ _ _ _ ⟨(((vF 49) (9 * bx))).toInt64, by (have q2 := hrw 0 (by omega)); (have hb9 : bx = wn := by rcases hjx with h9 | h9; (exfalso; obtain ⟨h8, h7⟩ := (h39.2.resolve_left (fun h => c_136 h)); rcases f75_0 with h6 | ⟨h6, q5, h5, h4, h3⟩; (exact h9.2.2 h6.1); (exact h3 (h8 q5 h5 h4))); exact h9.2.1); rw [i64T, hb9]; (simp only [Nat.add_zero] at q2); (have hn9 : (vF 49 (9 * wn)).toInt ≠ 0 := fun h => (h39.2.resolve_left (fun h => c_136 h)).2 (Int32.toInt_inj.mp (by rw [h]; decide))); omega, rfl, hP, hD, hS, hl⟩
          · rintro H locs ls stk ⟨dl, hdl, rfl, hP, hD, hS, hl⟩
            refine lv_iconst (v := 0) hx hb dX12_scale_166 (by decide) ?_
            refine lv_istore hx hb dX12_scale_167 hl (by decide) rfl (fun ls (hl : lv_has ls _ ([(12, .int 0), (0, .ref h0), (1, .int (nI vn)), (2, .int (nI wn)), (3, .int bY), (4, .int pv), (6, .int (nI ax)), (8, .long nl), (10, .long dl)])) => ?_)
            have e9 : fT (fT vF 49 (vF 49)) 50 (vF 50) = vF := by funext q9; by_cases h9_49 : q9 = 49; (subst h9_49; exact ((fT_ne _ _ (Nat.ne_of_beq_eq_false rfl)).trans (fT_eq _ _ _)).trans (Eq.trans (by first | rfl | assumption | (symm; assumption) | (subst_vars; rfl)) (Eq.refl _).symm)); by_cases h9_50 : q9 = 50; (subst h9_50; exact (fT_eq _ _ _).trans (Eq.trans (by first | rfl | assumption | (symm; assumption) | (subst_vars; rfl)) (Eq.refl _).symm)); exact ((fT_ne _ _ h9_50).trans (fT_ne _ _ h9_49)).trans (Eq.refl _).symm
            have hP : va_P (dC, dI) vwCl (WR a k h0 (fT (fT vi 21 s3) 22 p3) vj (fT (fT vF 49 (vF 49)) 50 (vF 50)) vG) H := by rw [e9]; exact hP
            have hD : va_D A (WR a k h0 (fT (fT vi 21 s3) 22 p3) vj (fT (fT vF 49 (vF 49)) 50 (vF 50)) vG) := by rw [e9]; exact hD
            clear e9
            have hl : lv_has _ _ ([(0, .ref h0), (1, .int (nI vn)), (2, .int (nI wn)), (4, .int pv), (6, .int (nI ax)), (8, .long nl), (10, .long dl), (12, .int (nI 0))]) := lv_sub hl [1, 2, 3, 5, 6, 7, 8, 0] rfl
            refine (fun (loop : ∀ (n9 : Nat) (k5 : Nat) (s4 : Int32) (p4 : Int32) (f49 : Nat → Int32) (f50 : Nat → Int32) (H : Heap) (locs : List Loc) (ls : Array Slot), (k5 ≤ 9) → (∀ v9, v9 < 100 → RowU (vF 49) (vF 50) v9 → RowU f49 f50 v9) → (∀ q, (q < 9 * vn ∨ 9 * vn + 9 ≤ q) → f49 q = vF 49 q) → (∀ q, (q < 9 * vn ∨ 9 * vn + 9 ≤ q) → f50 q = vF 50 q) → (s4 = vi 21 ∨ 0 < (s4).toInt) →  (9 < k5 + n9) → va_P (dC, dI) vwCl (WR a k h0 (fT (fT vi 21 s4) 22 p4) vj (fT (fT vF 49 f49) 50 f50) vG) H → va_D A (WR a k h0 (fT (fT vi 21 s4) 22 p4) vj (fT (fT vF 49 f49) 50 f50) vG) → va_S A s.heap H locs → lv_has ls 13 [(0, .ref h0), (1, .int (nI vn)), (2, .int (nI wn)), (4, .int pv), (6, .int (nI ax)), (8, .long nl), (10, .long dl), (12, .int (nI k5))] → W p l e _ s m _ below meth c H locs 0 0 _ (F0 m 169 ls [])) => loop (10) 0 s3 p3 (vF 49) (vF 50) _ _ _ (by omega) (fun u _ h => h) (fun q _ => rfl) (fun q _ => rfl) (Or.inl h39.1) (by omega) hP hD hS hl) ?_
            intro n9
            induction n9 with
            | zero => intro k5 s4 p4 f49 f50 H locs ls hk5 hpr ho1 ho2 hst hf9; exact False.elim (by omega)
            | succ n9 ih169 =>
              intro k5 s4 p4 f49 f50 H locs ls hk5 hpr ho1 ho2 hst hf169 hP hD hS hl
              refine lv_iload hx hb dX12_scale_169 (lv_at hl 7 rfl) ?_
              refine lv_bipush (v := 9) hx hb dX12_scale_171 (by decide) ?_
              refine lv_icmp_ge (tgt := 232) hx hb dX12_scale_173 (by decide) (fun c_173 => ?_) (fun c_173 => ?_)
              · have t_173 : ((k5 : Nat) : Int) ≥ 9 := toI_ge c_173 (nI_toInt (by omega)) (by decide)
                refine W.widen (k := 0) (n := 0) (by decide +kernel) (by decide +kernel) ?_
                exact W.vret hx hb hr (fun t9_ ht hW => ⟨⟨(s4, p4, f49, f50), rfl, by (try dsimp only); exact ⟨hpr, ho1, ho2, hst⟩, by rw [ht]; exact hP, hD⟩, hS.F ht⟩) hS.2.2 dX12_scale_232
              · have t_173 : ¬ ((k5 : Nat) : Int) ≥ 9 := toI_nge c_173 (nI_toInt (by omega)) (by decide)
                refine lv_aload_n hx hb dX12_scale_176 rfl (lv_at hl 0 rfl) ?_
                refine va_get (D := (dC, dI)) (ci := 12) (v := .int s4) (C := RX12) (T := TX12) (N := 163) (fs := fM (vS a (fT (fT vi 21 s4) 22 p4) vj)) hx hb hts iwsRX12_scale_in12 hown hK hP 0 rfl rfl 21 (by decide) (hts (.fieldLink RX12 515 "OptimaWorksModel" "stop" "I") (by decide +kernel)) (fun _ h9 => h9) rfl dX12_scale_177 ?_
                refine lv_if_ne (tgt := 232) hx hb dX12_scale_180 (by decide) (fun c_180 => ?_) (fun c_180 => ?_)
                · have t_180 : (s4).toInt ≠ 0 := toI_ne c_180 rfl (by decide)
                  refine W.widen (k := 0) (n := 0) (by decide +kernel) (by decide +kernel) ?_
                  exact W.vret hx hb hr (fun t9_ ht hW => ⟨⟨(s4, p4, f49, f50), rfl, by (try dsimp only); exact ⟨hpr, ho1, ho2, hst⟩, by rw [ht]; exact hP, hD⟩, hS.F ht⟩) hS.2.2 dX12_scale_232
                · have t_180 : (s4).toInt = 0 := toI_nne c_180 rfl (by decide)
                  have hax : ax < 100 := by omega
                  have hra : RowU (vF 49) (vF 50) ax := by rcases hjx with h9 | h9; (rw [h9.1]; exact hrw); (rw [h9.1]; exact hrv)
                  have r1 := hpr ax hax hra k5 (by omega)
                  have m1 := mulQ (x := nl) (y := (f49 (9 * ax + k5)).toInt64) (by omega) (by rw [i64T]; omega)
                  have m2 := mulQ (x := dl) (y := (f50 (9 * ax + k5)).toInt64) (by omega) (by rw [i64T]; omega)
                  rw [i64T] at m1 m2
                  have hne : dl.toInt * (f50 (9 * ax + k5)).toInt ≠ 0 := Int.mul_ne_zero (by omega) (by omega)
                  refine lv_aload_n hx hb dX12_scale_183 rfl (lv_at hl 0 rfl) ?_
                  refine lv_iload_n hx hb dX12_scale_184 rfl (lv_at hl 1 rfl) ?_
                  refine lv_iload hx hb dX12_scale_185 (lv_at hl 7 rfl) ?_
                  refine lv_lload hx hb dX12_scale_187 (lv_at hl 5 rfl) ?_
                  refine lv_aload_n hx hb dX12_scale_189 rfl (lv_at hl 0 rfl) ?_
                  refine va_get (D := (dC, dI)) (ci := 12) (v := .ref (a 49)) (C := RX12) (T := TX12) (N := 163) (fs := fM (vS a (fT (fT vi 21 s4) 22 p4) vj)) hx hb hts iwsRX12_scale_in12 hown hK hP 0 rfl rfl 78 (by decide) (hts (.fieldLink RX12 170 "OptimaWorksModel" "top" "[I") (by decide +kernel)) (fun _ h9 => h9) rfl dX12_scale_190 ?_
                  refine lv_bipush (v := 9) hx hb dX12_scale_193 (by decide) ?_
                  refine lv_iload hx hb dX12_scale_195 (lv_at hl 4 rfl) ?_
                  refine lv_imul hx hb dX12_scale_197 ?_
                  refine lv_topi (fun y11 hy11 => ?_)
                  obtain rfl : (nI (9 * ax)) = y11 := (hy11.trans (pk_mul 9 ax)).symm
                  refine lv_iload hx hb dX12_scale_198 (lv_at hl 7 rfl) ?_
                  refine lv_iadd hx hb dX12_scale_200 ?_
                  refine lv_topi (fun y12 hy12 => ?_)
                  obtain rfl : (nI ((9 * ax) + k5)) = y12 := (hy12.trans (nI_add (9 * ax) k5)).symm
                  refine va_iald (cA := k 49) (n := 900) (f := f49) hx hb hK hP 50 49 (WR_get 49 (by decide)) (TR_get 49 (by decide)) (vp_in_nI (show ((9 * ax) + k5) < 900 by omega) (by omega)) dX12_scale_201 ?_
                  refine lv_topi (fun y13 hy13 => ?_)
                  obtain rfl : (f49 ((9 * ax) + k5)) = y13 := (hy13.trans (by rw [nI_clamp (by omega)])).symm
                  refine lv_i2l hx hb dX12_scale_202 rfl ?_
                  refine lv_lmul hx hb dX12_scale_203 ?_
                  refine lv_lload hx hb dX12_scale_204 (lv_at hl 6 rfl) ?_
                  refine lv_aload_n hx hb dX12_scale_206 rfl (lv_at hl 0 rfl) ?_
                  refine va_get (D := (dC, dI)) (ci := 12) (v := .ref (a 50)) (C := RX12) (T := TX12) (N := 163) (fs := fM (vS a (fT (fT vi 21 s4) 22 p4) vj)) hx hb hts iwsRX12_scale_in12 hown hK hP 0 rfl rfl 79 (by decide) (hts (.fieldLink RX12 173 "OptimaWorksModel" "under" "[I") (by decide +kernel)) (fun _ h9 => h9) rfl dX12_scale_207 ?_
                  refine lv_bipush (v := 9) hx hb dX12_scale_210 (by decide) ?_
                  refine lv_iload hx hb dX12_scale_212 (lv_at hl 4 rfl) ?_
                  refine lv_imul hx hb dX12_scale_214 ?_
                  refine lv_topi (fun y14 hy14 => ?_)
                  obtain rfl : (nI (9 * ax)) = y14 := (hy14.trans (pk_mul 9 ax)).symm
                  refine lv_iload hx hb dX12_scale_215 (lv_at hl 7 rfl) ?_
                  refine lv_iadd hx hb dX12_scale_217 ?_
                  refine lv_topi (fun y15 hy15 => ?_)
                  obtain rfl : (nI ((9 * ax) + k5)) = y15 := (hy15.trans (nI_add (9 * ax) k5)).symm
                  refine va_iald (cA := k 50) (n := 900) (f := f50) hx hb hK hP 51 50 (WR_get 50 (by decide)) (TR_get 50 (by decide)) (vp_in_nI (show ((9 * ax) + k5) < 900 by omega) (by omega)) dX12_scale_218 ?_
                  refine lv_topi (fun y16 hy16 => ?_)
                  obtain rfl : (f50 ((9 * ax) + k5)) = y16 := (hy16.trans (by rw [nI_clamp (by omega)])).symm
                  refine lv_i2l hx hb dX12_scale_219 rfl ?_
                  refine lv_lmul hx hb dX12_scale_220 ?_
                  refine lv_iload hx hb dX12_scale_221 (lv_at hl 3 rfl) ?_
                  have hFc := allFree hD hS hA
                  refine va_callv (va_runV (As := [.int (nI vn), .int (nI k5), .long (nl * ((f49 ((9 * ax) + k5))).toInt64), .long (dl * ((f50 ((9 * ax) + k5))).toInt64), .int pv]) (rest := []) ⟨hx, hb, hml, hown, hts⟩ (r_X12_put1 l dC dI a k h0 (fT (fT vi 21 s4) 22 p4) vj (fT (fT vF 49 f49) 50 f50) vG vn k5 (nl * ((f49 ((9 * ax) + k5))).toInt64) (dl * ((f50 ((9 * ax) + k5))).toInt64) pv (by first | assumption | decide | omega | rfl) (by first | assumption | decide | omega | rfl) (by rw [m1.1]; omega) (by rw [m2.1]; omega) (by rw [m2.1]; exact hne) H.size) (cwV 5 hts gwsRX12_scale_2 rfl rfl rfl (by decide +kernel) ⟨by decide +kernel, by decide +kernel⟩) ⟨fun a U g mk q => by obtain ⟨q0, q1, qP, qK, qD⟩ := q; exact ⟨q0, q1, qP, va_K.moved (u := U) (U := U.calling g mk a) (Vm.Alike.refl U.vm) qK, qD⟩, va_recv hK hP (ci := 12) (q0 := 0) rfl rfl, fun U hU9 hW => ⟨rfl, by rw [hU9], by rw [hU9]; exact hP, va_K.moved hW.alike hK, hD.weaken (fun _ _ _ _ => trivial)⟩⟩ rfl rfl hl.1 rfl (lv_room (Nat.le_of_ble_eq_true rfl)) dX12_scale_223 ⟨by decide +kernel, by decide +kernel⟩) hS (fun q _ h => hFc q h) hFc (fun u t9_ H1 locs ht hvm hw9 hB9 hz1 hk1 hS => ?_)
                  obtain ⟨s2223, p2223, f49223, f50223⟩ := u
                  try dsimp only at hw9 hB9
                  obtain ⟨hP1, hD1⟩ := hB9
                  rw [ht] at hP1
                  have hP := hP1
                  have hD := hD1.weaken (fun _ q _ h => hFc q.1 h)
                  generalize H1 = H at hP hS ⊢
                  have hP : va_P (dC, dI) vwCl (WR a k h0 (fT (fT (fT (fT vi 21 s4) 22 p4) 21 s2223) 22 p2223) vj (fT (fT (fT (fT vF 49 f49) 50 f50) 49 f49223) 50 f50223) vG) H := hP
                  have hD : va_D A (WR a k h0 (fT (fT (fT (fT vi 21 s4) 22 p4) 21 s2223) 22 p2223) vj (fT (fT (fT (fT vF 49 f49) 50 f50) 49 f49223) 50 f50223) vG) := hD
                  have e9 : fT (fT vi 21 s2223) 22 p2223 = fT (fT (fT (fT vi 21 s4) 22 p4) 21 s2223) 22 p2223 := ((congrArg (fun g9 => fT g9 22 p2223) ((fT_sw _ _ _ (Nat.ne_of_beq_eq_false rfl)).trans (congrArg (fun g9 => fT g9 22 p4) (fT_sm _ _ _ _)))).trans (fT_sm _ _ _ _)).symm
                  rw [← e9] at hP hD
                  clear e9
                  have e9 : fT (fT vF 49 f49223) 50 f50223 = fT (fT (fT (fT vF 49 f49) 50 f50) 49 f49223) 50 f50223 := ((congrArg (fun g9 => fT g9 50 f50223) ((fT_sw _ _ _ (Nat.ne_of_beq_eq_false rfl)).trans (congrArg (fun g9 => fT g9 50 f50) (fT_sm _ _ _ _)))).trans (fT_sm _ _ _ _)).symm
                  rw [← e9] at hP hD
                  clear e9
                  have hP : va_P (dC, dI) vwCl (WR a k h0 (fT (fT vi 21 s2223) 22 p2223) vj (fT (fT vF 49 f49223) 50 f50223) vG) H := hP
                  have hD : va_D A (WR a k h0 (fT (fT vi 21 s2223) 22 p2223) vj (fT (fT vF 49 f49223) 50 f50223) vG) := hD
                  have f223_0 := hw9
                  try dsimp only at f223_0
                  have f223_0 : (¬ (s2223).toInt ≤ 0 ∧ f49223 = f49 ∧ f50223 = f50) ∨ ((s2223).toInt ≤ 0 ∧ s2223 = s4 ∧ ∃ tv uv : Int32, ((tv).toInt ≤ 1000000 ∧ -1000000 ≤ (tv).toInt ∧ 1 ≤ (uv).toInt ∧ (uv).toInt ≤ 1000000) ∧ f49223 = upd f49 (nI (9 * vn + k5)).toNatClampNeg tv ∧ f50223 = upd f50 (nI (9 * vn + k5)).toNatClampNeg uv) := f223_0
                  refine lv_iinc (v := (nI (k5 + 1))) hx hb dX12_scale_226 hl (k := 7) rfl (nI_add k5 1) (by decide) rfl (fun ls (hl : lv_has ls _ ([(12, .int (nI (k5 + 1))), (0, .ref h0), (1, .int (nI vn)), (2, .int (nI wn)), (4, .int pv), (6, .int (nI ax)), (8, .long nl), (10, .long dl)])) => ?_)
                  refine lv_goto (tgt := 169) hx hb dX12_scale_229 (by decide) ?_
                  have hl : lv_has _ _ ([(0, .ref h0), (1, .int (nI vn)), (2, .int (nI wn)), (4, .int pv), (6, .int (nI ax)), (8, .long nl), (10, .long dl), (12, .int (nI (k5 + 1)))]) := lv_sub hl [1, 2, 3, 4, 5, 6, 7, 0] rfl
                  exact ih169 (k5 + 1) s2223 p2223 f49223 f50223 _ _ _ (by omega) (fun u hu h0 => by rcases f223_0 with ⟨h9, h8, h7⟩ | ⟨h9, h8, tv, uv, h7, h6, h5⟩; (rw [h8, h7]; exact hpr u hu h0); (rw [h6, h5]; exact (hpr u hu h0).put hvn hu (by omega) h7)) (fun q hq => by rcases f223_0 with ⟨h9, h8, h7⟩ | ⟨h9, h8, tv, uv, h7, h6, h5⟩; (rw [h8]; exact ho1 q hq); (rw [h6, upd_at (by omega), if_neg (by omega)]; exact ho1 q hq)) (fun q hq => by rcases f223_0 with ⟨h9, h8, h7⟩ | ⟨h9, h8, tv, uv, h7, h6, h5⟩; (rw [h7]; exact ho2 q hq); (rw [h5, upd_at (by omega), if_neg (by omega)]; exact ho2 q hq)) (by rcases f223_0 with ⟨h9, h8⟩ | ⟨h9, h8, h7⟩; (exact Or.inr (by omega)); (rw [h8]; exact hst)) (by omega) hP hD hS hl
    · have t_69 : ¬ (s3).toInt ≤ 0 := toI_nle c_69 rfl (by decide)
      refine W.widen (k := 0) (n := 0) (by decide +kernel) (by decide +kernel) ?_
      have e9 : fT (fT vF 49 (vF 49)) 50 (vF 50) = vF := (fT_id _ _ (fT_ne _ _ (Nat.ne_of_beq_eq_false rfl))).trans (fT_id _ _ (rfl))
      have hP : va_P (dC, dI) vwCl (WR a k h0 (fT (fT vi 21 s3) 22 p3) vj (fT (fT vF 49 (vF 49)) 50 (vF 50)) vG) H := by rw [e9]; exact hP
      have hD : va_D A (WR a k h0 (fT (fT vi 21 s3) 22 p3) vj (fT (fT vF 49 (vF 49)) 50 (vF 50)) vG) := by rw [e9]; exact hD
      clear e9
      exact W.vret hx hb hr (fun t9_ ht hW => ⟨⟨(s3, p3, (vF 49), (vF 50)), rfl, by (try dsimp only); exact ⟨fun u _ h => h, fun q _ => rfl, fun q _ => rfl, Or.inr (by omega)⟩, by rw [ht]; exact hP, hD⟩, hS.F ht⟩) hS.2.2 dX12_scale_72

theorem dX12_push_0 : decode cX12_push 0 = .ok (.iload_n 3, 1) := dk_29 (by decide +kernel)
theorem dX12_push_1 : decode cX12_push 1 = .ok (.istore 4, 2) := dk_54 (by decide +kernel)
theorem dX12_push_3 : decode cX12_push 3 = .ok (.iload_n 2, 1) := dk_28 (by decide +kernel)
theorem dX12_push_4 : decode cX12_push 4 = .ok (.istore 5, 2) := dk_54 (by decide +kernel)
theorem dX12_push_6 : decode cX12_push 6 = .ok (.iload 5, 2) := dk_21 (by decide +kernel)
theorem dX12_push_8 : decode cX12_push 8 = .ok (.iload_n 1, 1) := dk_27 (by decide +kernel)
theorem dX12_push_9 : decode cX12_push 9 = .ok (.if_icmp .eq 122, 3) := dk_159 (by decide +kernel)
theorem dX12_push_12 : decode cX12_push 12 = .ok (.aload_n 0, 1) := dk_42 (by decide +kernel)
theorem dX12_push_13 : decode cX12_push 13 = .ok (.getfield 330, 3) := dk_180 (by decide +kernel)
theorem dX12_push_16 : decode cX12_push 16 = .ok (.iload 5, 2) := dk_21 (by decide +kernel)
theorem dX12_push_18 : decode cX12_push 18 = .ok (.iaload, 1) := dk_46 (by decide +kernel)
theorem dX12_push_19 : decode cX12_push 19 = .ok (.ifCond .le 15, 3) := dk_158 (by decide +kernel)
theorem dX12_push_22 : decode cX12_push 22 = .ok (.aload_n 0, 1) := dk_42 (by decide +kernel)
theorem dX12_push_23 : decode cX12_push 23 = .ok (.getfield 330, 3) := dk_180 (by decide +kernel)
theorem dX12_push_26 : decode cX12_push 26 = .ok (.iload 5, 2) := dk_21 (by decide +kernel)
theorem dX12_push_28 : decode cX12_push 28 = .ok (.iaload, 1) := dk_46 (by decide +kernel)
theorem dX12_push_29 : decode cX12_push 29 = .ok (.iconst 1, 1) := dk_4 (by decide +kernel)
theorem dX12_push_30 : decode cX12_push 30 = .ok (.isub, 1) := dk_100 (by decide +kernel)
theorem dX12_push_31 : decode cX12_push 31 = .ok (.goto 13, 3) := dk_167 (by decide +kernel)
theorem dX12_push_34 : decode cX12_push 34 = .ok (.aload_n 0, 1) := dk_42 (by decide +kernel)
theorem dX12_push_35 : decode cX12_push 35 = .ok (.getfield 330, 3) := dk_180 (by decide +kernel)
theorem dX12_push_38 : decode cX12_push 38 = .ok (.iload 5, 2) := dk_21 (by decide +kernel)
theorem dX12_push_40 : decode cX12_push 40 = .ok (.iaload, 1) := dk_46 (by decide +kernel)
theorem dX12_push_41 : decode cX12_push 41 = .ok (.ineg, 1) := dk_116 (by decide +kernel)
theorem dX12_push_42 : decode cX12_push 42 = .ok (.iconst 1, 1) := dk_4 (by decide +kernel)
theorem dX12_push_43 : decode cX12_push 43 = .ok (.isub, 1) := dk_100 (by decide +kernel)
theorem dX12_push_44 : decode cX12_push 44 = .ok (.istore 6, 2) := dk_54 (by decide +kernel)
theorem dX12_push_46 : decode cX12_push 46 = .ok (.aload_n 0, 1) := dk_42 (by decide +kernel)
theorem dX12_push_47 : decode cX12_push 47 = .ok (.getfield 330, 3) := dk_180 (by decide +kernel)
theorem dX12_push_50 : decode cX12_push 50 = .ok (.iload 5, 2) := dk_21 (by decide +kernel)
theorem dX12_push_52 : decode cX12_push 52 = .ok (.iaload, 1) := dk_46 (by decide +kernel)
theorem dX12_push_53 : decode cX12_push 53 = .ok (.ifCond .le 21, 3) := dk_158 (by decide +kernel)
theorem dX12_push_56 : decode cX12_push 56 = .ok (.aload_n 0, 1) := dk_42 (by decide +kernel)
theorem dX12_push_57 : decode cX12_push 57 = .ok (.getfield 318, 3) := dk_180 (by decide +kernel)
theorem dX12_push_60 : decode cX12_push 60 = .ok (.iload 6, 2) := dk_21 (by decide +kernel)
theorem dX12_push_62 : decode cX12_push 62 = .ok (.iaload, 1) := dk_46 (by decide +kernel)
theorem dX12_push_63 : decode cX12_push 63 = .ok (.aload_n 0, 1) := dk_42 (by decide +kernel)
theorem dX12_push_64 : decode cX12_push 64 = .ok (.getfield 324, 3) := dk_180 (by decide +kernel)
theorem dX12_push_67 : decode cX12_push 67 = .ok (.iload 6, 2) := dk_21 (by decide +kernel)
theorem dX12_push_69 : decode cX12_push 69 = .ok (.iaload, 1) := dk_46 (by decide +kernel)
theorem dX12_push_70 : decode cX12_push 70 = .ok (.isub, 1) := dk_100 (by decide +kernel)
theorem dX12_push_71 : decode cX12_push 71 = .ok (.goto 10, 3) := dk_167 (by decide +kernel)
theorem dX12_push_74 : decode cX12_push 74 = .ok (.aload_n 0, 1) := dk_42 (by decide +kernel)
theorem dX12_push_75 : decode cX12_push 75 = .ok (.getfield 324, 3) := dk_180 (by decide +kernel)
theorem dX12_push_78 : decode cX12_push 78 = .ok (.iload 6, 2) := dk_21 (by decide +kernel)
theorem dX12_push_80 : decode cX12_push 80 = .ok (.iaload, 1) := dk_46 (by decide +kernel)
theorem dX12_push_81 : decode cX12_push 81 = .ok (.istore 7, 2) := dk_54 (by decide +kernel)
theorem dX12_push_83 : decode cX12_push 83 = .ok (.iload 7, 2) := dk_21 (by decide +kernel)
theorem dX12_push_85 : decode cX12_push 85 = .ok (.iload 4, 2) := dk_21 (by decide +kernel)
theorem dX12_push_87 : decode cX12_push 87 = .ok (.if_icmp .ge 8, 3) := dk_162 (by decide +kernel)
theorem dX12_push_90 : decode cX12_push 90 = .ok (.iload 7, 2) := dk_21 (by decide +kernel)
theorem dX12_push_92 : decode cX12_push 92 = .ok (.goto 5, 3) := dk_167 (by decide +kernel)
theorem dX12_push_95 : decode cX12_push 95 = .ok (.iload 4, 2) := dk_21 (by decide +kernel)
theorem dX12_push_97 : decode cX12_push 97 = .ok (.istore 4, 2) := dk_54 (by decide +kernel)
theorem dX12_push_99 : decode cX12_push 99 = .ok (.aload_n 0, 1) := dk_42 (by decide +kernel)
theorem dX12_push_100 : decode cX12_push 100 = .ok (.getfield 330, 3) := dk_180 (by decide +kernel)
theorem dX12_push_103 : decode cX12_push 103 = .ok (.iload 5, 2) := dk_21 (by decide +kernel)
theorem dX12_push_105 : decode cX12_push 105 = .ok (.iaload, 1) := dk_46 (by decide +kernel)
theorem dX12_push_106 : decode cX12_push 106 = .ok (.ifCond .le 13, 3) := dk_158 (by decide +kernel)
theorem dX12_push_109 : decode cX12_push 109 = .ok (.aload_n 0, 1) := dk_42 (by decide +kernel)
theorem dX12_push_110 : decode cX12_push 110 = .ok (.getfield 312, 3) := dk_180 (by decide +kernel)
theorem dX12_push_113 : decode cX12_push 113 = .ok (.iload 6, 2) := dk_21 (by decide +kernel)
theorem dX12_push_115 : decode cX12_push 115 = .ok (.iaload, 1) := dk_46 (by decide +kernel)
theorem dX12_push_116 : decode cX12_push 116 = .ok (.goto 10, 3) := dk_167 (by decide +kernel)
theorem dX12_push_119 : decode cX12_push 119 = .ok (.aload_n 0, 1) := dk_42 (by decide +kernel)
theorem dX12_push_120 : decode cX12_push 120 = .ok (.getfield 315, 3) := dk_180 (by decide +kernel)
theorem dX12_push_123 : decode cX12_push 123 = .ok (.iload 6, 2) := dk_21 (by decide +kernel)
theorem dX12_push_125 : decode cX12_push 125 = .ok (.iaload, 1) := dk_46 (by decide +kernel)
theorem dX12_push_126 : decode cX12_push 126 = .ok (.istore 5, 2) := dk_54 (by decide +kernel)
theorem dX12_push_128 : decode cX12_push 128 = .ok (.goto (-122), 3) := dk_167 (by decide +kernel)
theorem dX12_push_131 : decode cX12_push 131 = .ok (.iload_n 2, 1) := dk_28 (by decide +kernel)
theorem dX12_push_132 : decode cX12_push 132 = .ok (.istore 5, 2) := dk_54 (by decide +kernel)
theorem dX12_push_134 : decode cX12_push 134 = .ok (.iload 5, 2) := dk_21 (by decide +kernel)
theorem dX12_push_136 : decode cX12_push 136 = .ok (.iload_n 1, 1) := dk_27 (by decide +kernel)
theorem dX12_push_137 : decode cX12_push 137 = .ok (.if_icmp .eq 99, 3) := dk_159 (by decide +kernel)
theorem dX12_push_140 : decode cX12_push 140 = .ok (.aload_n 0, 1) := dk_42 (by decide +kernel)
theorem dX12_push_141 : decode cX12_push 141 = .ok (.getfield 330, 3) := dk_180 (by decide +kernel)
theorem dX12_push_144 : decode cX12_push 144 = .ok (.iload 5, 2) := dk_21 (by decide +kernel)
theorem dX12_push_146 : decode cX12_push 146 = .ok (.iaload, 1) := dk_46 (by decide +kernel)
theorem dX12_push_147 : decode cX12_push 147 = .ok (.ifCond .le 7, 3) := dk_158 (by decide +kernel)
theorem dX12_push_150 : decode cX12_push 150 = .ok (.iconst 1, 1) := dk_4 (by decide +kernel)
theorem dX12_push_151 : decode cX12_push 151 = .ok (.goto 4, 3) := dk_167 (by decide +kernel)
theorem dX12_push_154 : decode cX12_push 154 = .ok (.iconst 0, 1) := dk_3 (by decide +kernel)
theorem dX12_push_155 : decode cX12_push 155 = .ok (.istore 6, 2) := dk_54 (by decide +kernel)
theorem dX12_push_157 : decode cX12_push 157 = .ok (.iload 6, 2) := dk_21 (by decide +kernel)
theorem dX12_push_159 : decode cX12_push 159 = .ok (.ifCond .eq 15, 3) := dk_153 (by decide +kernel)
theorem dX12_push_162 : decode cX12_push 162 = .ok (.aload_n 0, 1) := dk_42 (by decide +kernel)
theorem dX12_push_163 : decode cX12_push 163 = .ok (.getfield 330, 3) := dk_180 (by decide +kernel)
theorem dX12_push_166 : decode cX12_push 166 = .ok (.iload 5, 2) := dk_21 (by decide +kernel)
theorem dX12_push_168 : decode cX12_push 168 = .ok (.iaload, 1) := dk_46 (by decide +kernel)
theorem dX12_push_169 : decode cX12_push 169 = .ok (.iconst 1, 1) := dk_4 (by decide +kernel)
theorem dX12_push_170 : decode cX12_push 170 = .ok (.isub, 1) := dk_100 (by decide +kernel)
theorem dX12_push_171 : decode cX12_push 171 = .ok (.goto 13, 3) := dk_167 (by decide +kernel)
theorem dX12_push_174 : decode cX12_push 174 = .ok (.aload_n 0, 1) := dk_42 (by decide +kernel)
theorem dX12_push_175 : decode cX12_push 175 = .ok (.getfield 330, 3) := dk_180 (by decide +kernel)
theorem dX12_push_178 : decode cX12_push 178 = .ok (.iload 5, 2) := dk_21 (by decide +kernel)
theorem dX12_push_180 : decode cX12_push 180 = .ok (.iaload, 1) := dk_46 (by decide +kernel)
theorem dX12_push_181 : decode cX12_push 181 = .ok (.ineg, 1) := dk_116 (by decide +kernel)
theorem dX12_push_182 : decode cX12_push 182 = .ok (.iconst 1, 1) := dk_4 (by decide +kernel)
theorem dX12_push_183 : decode cX12_push 183 = .ok (.isub, 1) := dk_100 (by decide +kernel)
theorem dX12_push_184 : decode cX12_push 184 = .ok (.istore 7, 2) := dk_54 (by decide +kernel)
theorem dX12_push_186 : decode cX12_push 186 = .ok (.aload_n 0, 1) := dk_42 (by decide +kernel)
theorem dX12_push_187 : decode cX12_push 187 = .ok (.getfield 324, 3) := dk_180 (by decide +kernel)
theorem dX12_push_190 : decode cX12_push 190 = .ok (.iload 7, 2) := dk_21 (by decide +kernel)
theorem dX12_push_192 : decode cX12_push 192 = .ok (.dup2, 1) := dk_92 (by decide +kernel)
theorem dX12_push_193 : decode cX12_push 193 = .ok (.iaload, 1) := dk_46 (by decide +kernel)
theorem dX12_push_194 : decode cX12_push 194 = .ok (.iload 6, 2) := dk_21 (by decide +kernel)
theorem dX12_push_196 : decode cX12_push 196 = .ok (.ifCond .eq 8, 3) := dk_153 (by decide +kernel)
theorem dX12_push_199 : decode cX12_push 199 = .ok (.iload 4, 2) := dk_21 (by decide +kernel)
theorem dX12_push_201 : decode cX12_push 201 = .ok (.goto 6, 3) := dk_167 (by decide +kernel)
theorem dX12_push_204 : decode cX12_push 204 = .ok (.iload 4, 2) := dk_21 (by decide +kernel)
theorem dX12_push_206 : decode cX12_push 206 = .ok (.ineg, 1) := dk_116 (by decide +kernel)
theorem dX12_push_207 : decode cX12_push 207 = .ok (.iadd, 1) := dk_96 (by decide +kernel)
theorem dX12_push_208 : decode cX12_push 208 = .ok (.iastore, 1) := dk_79 (by decide +kernel)
theorem dX12_push_209 : decode cX12_push 209 = .ok (.iload 6, 2) := dk_21 (by decide +kernel)
theorem dX12_push_211 : decode cX12_push 211 = .ok (.ifCond .eq 13, 3) := dk_153 (by decide +kernel)
theorem dX12_push_214 : decode cX12_push 214 = .ok (.aload_n 0, 1) := dk_42 (by decide +kernel)
theorem dX12_push_215 : decode cX12_push 215 = .ok (.getfield 312, 3) := dk_180 (by decide +kernel)
theorem dX12_push_218 : decode cX12_push 218 = .ok (.iload 7, 2) := dk_21 (by decide +kernel)
theorem dX12_push_220 : decode cX12_push 220 = .ok (.iaload, 1) := dk_46 (by decide +kernel)
theorem dX12_push_221 : decode cX12_push 221 = .ok (.goto 10, 3) := dk_167 (by decide +kernel)
theorem dX12_push_224 : decode cX12_push 224 = .ok (.aload_n 0, 1) := dk_42 (by decide +kernel)
theorem dX12_push_225 : decode cX12_push 225 = .ok (.getfield 315, 3) := dk_180 (by decide +kernel)
theorem dX12_push_228 : decode cX12_push 228 = .ok (.iload 7, 2) := dk_21 (by decide +kernel)
theorem dX12_push_230 : decode cX12_push 230 = .ok (.iaload, 1) := dk_46 (by decide +kernel)
theorem dX12_push_231 : decode cX12_push 231 = .ok (.istore 5, 2) := dk_54 (by decide +kernel)
theorem dX12_push_233 : decode cX12_push 233 = .ok (.goto (-99), 3) := dk_167 (by decide +kernel)
theorem dX12_push_236 : decode cX12_push 236 = .ok (.iload 4, 2) := dk_21 (by decide +kernel)
theorem dX12_push_238 : decode cX12_push 238 = .ok (.ireturn, 1) := dk_172 (by decide +kernel)
def wsRX12_push : List Cond := .code yX12_push cX12_push 8 (some .int) :: ([.fieldLink RX12 330 "OptimaWorksModel" "by" "[I", .fieldLink RX12 324 "OptimaWorksModel" "flow" "[I", .fieldLink RX12 315 "OptimaWorksModel" "arcTo" "[I", .fieldLink RX12 312 "OptimaWorksModel" "arcFrom" "[I", .fieldLink RX12 318 "OptimaWorksModel" "arcRoom" "[I"] ++ wsX120)
theorem iwsRX12_push_in12 : ∀ w ∈ wsX120, w ∈ wsRX12_push := fun _ h => List.mem_cons_of_mem _ (List.mem_append_right _ h)
theorem gdwsRX12_push : wsRX12_push.all goodWord = true := gdC rfl (gdA (by decide +kernel : ([.fieldLink RX12 330 "OptimaWorksModel" "by" "[I", .fieldLink RX12 324 "OptimaWorksModel" "flow" "[I", .fieldLink RX12 315 "OptimaWorksModel" "arcTo" "[I", .fieldLink RX12 312 "OptimaWorksModel" "arcFrom" "[I", .fieldLink RX12 318 "OptimaWorksModel" "arcRoom" "[I"] : List Cond).all goodWord = true) gdwsX120)
set_option maxHeartbeats 4000000 in
set_option maxRecDepth 100000 in
/-- push(s, t, most) -/
theorem r_X12_push (l : Launch) (dC : Nat → ClassId) (dI : Nat → Nat → Nat) (a : Nat → Nat) (k : Nat → ClassId) (h0 : Nat) (vi : Nat → Int32) (vj : Nat → Int64) (vF : Nat → Nat → Int32) (vG : Nat → Nat → Int64) (ar : Nat) (sN : Nat) (tN : Nat) (mI : Int32) (rk : Nat → Nat) (har : vi 150 = nI ar) (har40 : ar ≤ 40) (hAr : ArO (vF 95) (vF 96) (vF 97) (vF 98) ar) (hs12 : sN < 12) (ht12 : tN < 12) (hFl : FlO (vF 97) (vF 99) ar) (hT : TrK (vF 95) (vF 96) (vF 97) (vF 98) (vF 99) ar sN (vF 100) (vF 101) rk) (htl : vF 100 tN ≠ 536870912) (htsn : tN ≠ sN) (hm1 : 1 ≤ (mI).toInt) (sz : Nat) : Met l yX12_push wsRX12_push ({ frames := 0, cells := 0, slots := 0, locals := 0 }) (va_Pc [.ref h0, .int (nI sN), .int (nI tN), .int mI] (fun U => U.heap.size = sz ∧ va_P (dC, dI) vwCl (WR a k h0 vi vj vF vG) U.heap ∧ va_K (dC, dI) vwCl (tX12 k) U ∧ va_D (fun _ => True) (WR a k h0 vi vj vF vG))) (va_Qi (fun (r : Int32) (u : Nat → Int32) => (1 ≤ (r).toInt ∧ (r).toInt ≤ (mI).toInt) ∧ (FlO (vF 97) u ar) ∧ (∀ a, a < ar → u a = vF 99 a ∨ ∃ w, w < 12 ∧ vF 100 w ≠ 536870912 ∧ w ≠ sN ∧ ((vF 101 w).toInt = (a : Int) + 1 ∨ (vF 101 w).toInt = -((a : Int) + 1))) ∧ (∀ S, rsA (((ar : Nat) : Int), vF 95, vF 96, vF 97, vF 98) (fI u) S ar = rsA (((ar : Nat) : Int), vF 95, vF 96, vF 97, vF 98) (fI (vF 99)) S ar - (sW S sN r.toInt - sW S tN r.toInt))) (fun (u : Nat → Int32) t => va_P (dC, dI) vwCl (WR a k h0 vi vj (fT vF 99 u) vG) t.heap ∧ va_D (va_A (WR a k h0 vi vj vF vG) sz) (WR a k h0 vi vj (fT vF 99 u) vG)) (va_A (WR a k h0 vi vj vF vG) sz)) 0 0 (va_A (WR a k h0 vi vj vF vG) sz) := by
  refine Met.ofW (cc := cX12_push) (maxL := 8) (ret := (some .int)) (by decide) rfl ?_
  intro p e s m args below meth c s₁ B hml hv
  obtain ⟨rfl, hsz, hP, hK, hD0⟩ := hv
  have hx := B.exec
  have hb := B.bytes
  have hr := B.returns
  have hts := atoms_spec (ws := wsRX12_push) B.pre
  have hown : s.vm.findClass RX12 = some m.cls := findClass_of_methodNamed B.named
  have hlocks := B.notSynchronized
  subst hsz
  have hD := hD0.self (sz := s.heap.size)
  generalize hAe : va_A (WR a k h0 vi vj vF vG) s.heap.size = A at hD ⊢
  have hA : ∀ q : Nat, s.heap.size ≤ q → A q := fun q h => by rw [← hAe]; exact Or.inr h
  have hS : va_S A s.heap s.heap [] := va_S.rf
  have hl := lv_entry ([.ref h0, .int (nI sN), .int (nI tN), .int mI]) (n := 8) (Nat.le_of_ble_eq_true rfl)
  rw [lg_entry_eq]
  generalize (lg_sl ([.ref h0, .int (nI sN), .int (nI tN), .int mI]) ++ List.replicate (8 - (lg_sl ([.ref h0, .int (nI sN), .int (nI tN), .int mI])).length) Slot.unset).toArray = ls at hl ⊢
  have hl : lv_has ls 8 [(0, .ref h0), (1, .int (nI sN)), (2, .int (nI tN)), (3, .int mI)] := hl
  refine lv_iload_n hx hb dX12_push_0 rfl (lv_at hl 3 rfl) ?_
  refine lv_istore hx hb dX12_push_1 hl (by decide) rfl (fun ls (hl : lv_has ls _ ([(4, .int mI), (0, .ref h0), (1, .int (nI sN)), (2, .int (nI tN)), (3, .int mI)])) => ?_)
  refine lv_iload_n hx hb dX12_push_3 rfl (lv_at hl 3 rfl) ?_
  refine lv_istore hx hb dX12_push_4 hl (by decide) rfl (fun ls (hl : lv_has ls _ ([(5, .int (nI tN)), (4, .int mI), (0, .ref h0), (1, .int (nI sN)), (2, .int (nI tN)), (3, .int mI)])) => ?_)
  have hl : lv_has _ _ ([(0, .ref h0), (1, .int (nI sN)), (2, .int (nI tN)), (4, .int mI), (5, .int (nI tN))]) := lv_sub hl [2, 3, 4, 1, 0] rfl
  refine (fun (loop : ∀ (n9 : Nat) (nq : Int32) (vN : Nat) (V : Nat → Prop) (H : Heap) (locs : List Loc) (ls : Array Slot), (vN < 12) → (vF 100 vN ≠ 536870912) → (1 ≤ (nq).toInt ∧ (nq).toInt ≤ (mI).toInt) → (V tN ∨ vN = tN) → (VsO (vF 95) (vF 96) (vF 97) (vF 98) (vF 99) ar sN (vF 100) (vF 101) rk V (nq).toInt vN) →  (rk vN < n9) → va_P (dC, dI) vwCl (WR a k h0 vi vj vF vG) H → va_D A (WR a k h0 vi vj vF vG) → va_S A s.heap H locs → lv_has ls 8 [(0, .ref h0), (1, .int (nI sN)), (2, .int (nI tN)), (4, .int nq), (5, .int (nI vN))] → W p l e _ s m _ below meth c H locs 0 0 _ (F0 m 6 ls [])) => loop (rk tN + 1) mI tN (fun _ => False) _ _ _ (ht12) (htl) (by omega) (Or.inr rfl) (fun w hw => hw.elim) (by omega) hP hD hS hl) ?_
  intro n9
  induction n9 with
  | zero => intro nq vN V H locs ls hv12 hvl hnq hVt0 hVs hf9; exact False.elim (by omega)
  | succ n9 ih6 =>
    intro nq vN V H locs ls hv12 hvl hnq hVt0 hVs hf6 hP hD hS hl
    refine lv_iload hx hb dX12_push_6 (lv_at hl 4 rfl) ?_
    refine lv_iload_n hx hb dX12_push_8 rfl (lv_at hl 1 rfl) ?_
    refine lv_icmp_eq (tgt := 131) hx hb dX12_push_9 (by decide) (fun c_9 => ?_) (fun c_9 => ?_)
    · have t_9 : ((vN : Nat) : Int) = ((sN : Nat) : Int) := toI_eq c_9 (nI_toInt (by omega)) (nI_toInt (by omega))
      have evs : vN = sN := (nI_eq (by omega) (by omega)).mp c_9
      have hVt : V tN := hVt0.resolve_right (fun e9 => htsn (by rw [← e9]; exact evs))
      have hVs2 : VsO (vF 95) (vF 96) (vF 97) (vF 98) (vF 99) ar sN (vF 100) (vF 101) rk V (nq).toInt sN := by (have h9 := hVs); rw [evs] at h9; exact h9
      refine lv_iload_n hx hb dX12_push_131 rfl (lv_at hl 2 rfl) ?_
      refine lv_istore hx hb dX12_push_132 hl (by decide) rfl (fun ls (hl : lv_has ls _ ([(5, .int (nI tN)), (0, .ref h0), (1, .int (nI sN)), (2, .int (nI tN)), (4, .int nq)])) => ?_)
      have e9 : fT vF 99 (vF 99) = vF := by funext q9; by_cases h9_99 : q9 = 99; (subst h9_99; exact (fT_eq _ _ _).trans (Eq.trans (by first | rfl | assumption | (symm; assumption) | (subst_vars; rfl)) (Eq.refl _).symm)); exact (fT_ne _ _ h9_99).trans (Eq.refl _).symm
      have hP : va_P (dC, dI) vwCl (WR a k h0 vi vj (fT vF 99 (vF 99)) vG) H := by rw [e9]; exact hP
      have hD : va_D A (WR a k h0 vi vj (fT vF 99 (vF 99)) vG) := by rw [e9]; exact hD
      clear e9
      have hl : lv_has _ _ ([(0, .ref h0), (1, .int (nI sN)), (4, .int nq), (5, .int (nI tN))]) := lv_sub hl [1, 2, 4, 0] rfl
      refine (fun (loop : ∀ (n9 : Nat) (v2 : Nat) (f2 : Nat → Int32) (H : Heap) (locs : List Loc) (ls : Array Slot), (v2 < 12) → (V v2 ∨ v2 = sN) → (FlO (vF 97) f2 ar) → (∀ w u a c, V w → u < 12 → rk w ≤ rk v2 → Lk (vF 95) (vF 96) (vF 97) (vF 98) (vF 99) ar (vF 101 w) w u a c → rk u < rk w → f2 a = vF 99 a) → (∀ a, a < ar → f2 a = vF 99 a ∨ ∃ w, w < 12 ∧ vF 100 w ≠ 536870912 ∧ w ≠ sN ∧ ((vF 101 w).toInt = (a : Int) + 1 ∨ (vF 101 w).toInt = -((a : Int) + 1))) → (∀ S, rsA (((ar : Nat) : Int), vF 95, vF 96, vF 97, vF 98) (fI f2) S ar = rsA (((ar : Nat) : Int), vF 95, vF 96, vF 97, vF 98) (fI (vF 99)) S ar - (sW S v2 (nq).toInt - sW S tN (nq).toInt)) →  (rk v2 < n9) → va_P (dC, dI) vwCl (WR a k h0 vi vj (fT vF 99 f2) vG) H → va_D A (WR a k h0 vi vj (fT vF 99 f2) vG) → va_S A s.heap H locs → lv_has ls 8 [(0, .ref h0), (1, .int (nI sN)), (4, .int nq), (5, .int (nI v2))] → W p l e _ s m _ below meth c H locs 0 0 _ (F0 m 134 ls [])) => loop (rk tN + 1) tN (vF 99) _ _ _ (ht12) (Or.inl hVt) (hFl) (fun w u a c _ _ _ _ _ => rfl) (fun a _ => Or.inl rfl) (fun S => by omega) (by omega) hP hD hS hl) ?_
      intro n9
      induction n9 with
      | zero => intro v2 f2 H locs ls hv212 hv2 hf2 hun hg hRS hf9; exact False.elim (by omega)
      | succ n9 ih134_1 =>
        intro v2 f2 H locs ls hv212 hv2 hf2 hun hg hRS hf134_1 hP hD hS hl
        refine lv_iload hx hb dX12_push_134 (lv_at hl 3 rfl) ?_
        refine lv_iload_n hx hb dX12_push_136 rfl (lv_at hl 1 rfl) ?_
        refine lv_icmp_eq (tgt := 236) hx hb dX12_push_137 (by decide) (fun c_137 => ?_) (fun c_137 => ?_)
        · have t_137 : ((v2 : Nat) : Int) = ((sN : Nat) : Int) := toI_eq c_137 (nI_toInt (by omega)) (nI_toInt (by omega))
          refine lv_iload hx hb dX12_push_236 (lv_at hl 2 rfl) ?_
          refine W.widen (k := 0) (n := 0) (by decide +kernel) (by decide +kernel) ?_
          exact W.iret (v := nq) hx hb hr (fun t9_ ht hW => ⟨⟨nq, f2, rfl, by (try dsimp only); exact ⟨hnq, hf2, hg, by (have ev9 : v2 = sN := (nI_eq (by omega) (by omega)).mp c_137); (have h9 := hRS); rw [ev9] at h9; exact h9⟩, by rw [ht]; exact hP, hD⟩, hS.F ht⟩) hS.2.2 dX12_push_238
        · have t_137 : ¬ ((v2 : Nat) : Int) = ((sN : Nat) : Int) := toI_neq c_137 (nI_toInt (by omega)) (nI_toInt (by omega))
          have hvs2 : v2 ≠ sN := fun e9 => c_137 (by rw [e9])
          have hVv := hv2.resolve_right hvs2
          obtain ⟨g1, g2, g3, uN, aN, cN, hu12, hLk, hrk, hnr, hVu⟩ := hVs2 v2 hVv
          have haN := hLk.1
          have hfa := hFl aN haN
          obtain ⟨x9, z9, _, _, _, _, _, hrm, _⟩ := hAr aN haN
          have hf2a := hf2 aN haN
          have hun9 := hun v2 uN aN cN hVv hu12 (Nat.le_refl _) hLk hrk
          refine lv_aload_n hx hb dX12_push_140 rfl (lv_at hl 0 rfl) ?_
          refine va_get (D := (dC, dI)) (ci := 12) (v := .ref (a 101)) (C := RX12) (T := TX12) (N := 163) (fs := fM (vS a vi vj)) hx hb hts iwsRX12_push_in12 hown hK hP 0 rfl rfl 157 (by decide) (hts (.fieldLink RX12 330 "OptimaWorksModel" "by" "[I") (by decide +kernel)) (fun _ h9 => h9) rfl dX12_push_141 ?_
          refine lv_iload hx hb dX12_push_144 (lv_at hl 3 rfl) ?_
          refine va_iald (cA := k 101) (n := 12) (f := (vF 101)) hx hb hK hP 102 101 (WR_get 101 (by decide)) (TR_get 101 (by decide)) (vp_in_nI (show v2 < 12 by omega) (by omega)) dX12_push_146 ?_
          refine lv_topi (fun y1 hy1 => ?_)
          obtain rfl : ((vF 101) v2) = y1 := (hy1.trans (by rw [nI_clamp (by omega)])).symm
          refine lv_if_le (tgt := 154) hx hb dX12_push_147 (by decide) (fun c_147 => ?_) (fun c_147 => ?_)
          · have t_147 : (((vF 101) v2)).toInt ≤ 0 := toI_le c_147 rfl (by decide)
            refine lv_iconst (v := 0) hx hb dX12_push_154 (by decide) ?_
            refine lv_istore hx hb dX12_push_155 hl (by decide) rfl (fun ls (hl : lv_has ls _ ([(6, .int 0), (0, .ref h0), (1, .int (nI sN)), (4, .int nq), (5, .int (nI v2))])) => ?_)
            refine lv_iload hx hb dX12_push_157 (lv_at hl 0 rfl) ?_
            refine lv_if_eq (tgt := 174) hx hb dX12_push_159 (by decide) (fun _ => ?_) (fun c9 => absurd (by decide) c9)
            obtain ⟨hb1, hb2, hb3, hb4, hb5⟩ := hLk.2.resolve_left (fun h => by have h9 := h.1; omega)
            refine lv_aload_n hx hb dX12_push_174 rfl (lv_at hl 1 rfl) ?_
            refine va_get (D := (dC, dI)) (ci := 12) (v := .ref (a 101)) (C := RX12) (T := TX12) (N := 163) (fs := fM (vS a vi vj)) hx hb hts iwsRX12_push_in12 hown hK hP 0 rfl rfl 157 (by decide) (hts (.fieldLink RX12 330 "OptimaWorksModel" "by" "[I") (by decide +kernel)) (fun _ h9 => h9) rfl dX12_push_175 ?_
            refine lv_iload hx hb dX12_push_178 (lv_at hl 4 rfl) ?_
            refine va_iald (cA := k 101) (n := 12) (f := (vF 101)) hx hb hK hP 102 101 (WR_get 101 (by decide)) (TR_get 101 (by decide)) (vp_in_nI (show v2 < 12 by omega) (by omega)) dX12_push_180 ?_
            refine lv_topi (fun y2 hy2 => ?_)
            obtain rfl : ((vF 101) v2) = y2 := (hy2.trans (by rw [nI_clamp (by omega)])).symm
            refine lv_ineg hx hb dX12_push_181 ?_
            refine lv_iconst (v := 1) hx hb dX12_push_182 (by decide) ?_
            refine lv_isub hx hb dX12_push_183 ?_
            refine lv_topi (fun y3 hy3 => ?_)
            obtain rfl : (nI aN) = y3 := (hy3.trans (by_b hb1 (by omega))).symm
            refine lv_istore hx hb dX12_push_184 hl (by decide) rfl (fun ls (hl : lv_has ls _ ([(7, .int (nI aN)), (6, .int 0), (0, .ref h0), (1, .int (nI sN)), (4, .int nq), (5, .int (nI v2))])) => ?_)
            refine lv_aload_n hx hb dX12_push_186 rfl (lv_at hl 2 rfl) ?_
            refine va_get (D := (dC, dI)) (ci := 12) (v := .ref (a 99)) (C := RX12) (T := TX12) (N := 163) (fs := fM (vS a vi vj)) hx hb hts iwsRX12_push_in12 hown hK hP 0 rfl rfl 155 (by decide) (hts (.fieldLink RX12 324 "OptimaWorksModel" "flow" "[I") (by decide +kernel)) (fun _ h9 => h9) rfl dX12_push_187 ?_
            refine lv_iload hx hb dX12_push_190 (lv_at hl 0 rfl) ?_
            refine lv_dup2_11 hx hb dX12_push_192 rfl rfl ?_
            refine va_iald (cA := k 99) (n := 40) (f := f2) hx hb hK hP 100 99 (WR_get 99 (by decide)) (TR_get 99 (by decide)) (vp_in_nI (show aN < 40 by omega) (by omega)) dX12_push_193 ?_
            refine lv_topi (fun y4 hy4 => ?_)
            obtain rfl : (f2 aN) = y4 := (hy4.trans (by rw [nI_clamp (by omega)])).symm
            refine lv_iload hx hb dX12_push_194 (lv_at hl 1 rfl) ?_
            refine lv_if_eq (tgt := 204) hx hb dX12_push_196 (by decide) (fun _ => ?_) (fun c9 => absurd (by decide) c9)
            refine lv_iload hx hb dX12_push_204 (lv_at hl 4 rfl) ?_
            refine lv_ineg hx hb dX12_push_206 ?_
            refine lv_iadd hx hb dX12_push_207 ?_
            refine va_iast (cA := k 99) (n := 40) (f := f2) hx hb hK hP hD hS 100 99 (WR_get 99 (by decide)) (TR_get 99 (by decide)) (vp_in_nI (show aN < 40 by omega) (by omega)) dX12_push_208 (fun H locs hP hD hS => ?_)
            have e9 : fT vF 99 (upd f2 ((nI aN)).toNatClampNeg ((f2 aN) + (-nq))) = fT (fT vF 99 f2) 99 (upd f2 ((nI aN)).toNatClampNeg ((f2 aN) + (-nq))) := (fT_sm _ _ _ _).symm
            have hP : va_P (dC, dI) vwCl (WR a k h0 vi vj (fT vF 99 (upd f2 ((nI aN)).toNatClampNeg ((f2 aN) + (-nq)))) vG) H := by rw [e9, ← WR_F 99 (by decide) _ rfl]; exact hP
            have hD : va_D A (WR a k h0 vi vj (fT vF 99 (upd f2 ((nI aN)).toNatClampNeg ((f2 aN) + (-nq)))) vG) := by rw [e9, ← WR_F 99 (by decide) _ rfl]; exact hD
            clear e9
            have hrs : rsd (vF 97) (vF 99) (vF 101 v2) aN = (vF 99 aN).toInt := by unfold rsd; rw [if_neg (by omega)]
            have hng := (neg32 (x := nq) (b := 1000) (by rw [hrs] at hnr; omega) (by decide)).2
            have hnw : (f2 aN + -nq).toInt = (f2 aN).toInt - (nq).toInt := by rw [addB (by rw [hun9]; omega) (by rw [hng]; rw [hrs] at hnr; omega), hng]; omega
            refine lv_iload hx hb dX12_push_209 (lv_at hl 1 rfl) ?_
            refine lv_if_eq (tgt := 224) hx hb dX12_push_211 (by decide) (fun _ => ?_) (fun c9 => absurd (by decide) c9)
            refine lv_aload_n hx hb dX12_push_224 rfl (lv_at hl 2 rfl) ?_
            refine va_get (D := (dC, dI)) (ci := 12) (v := .ref (a 96)) (C := RX12) (T := TX12) (N := 163) (fs := fM (vS a vi vj)) hx hb hts iwsRX12_push_in12 hown hK hP 0 rfl rfl 152 (by decide) (hts (.fieldLink RX12 315 "OptimaWorksModel" "arcTo" "[I") (by decide +kernel)) (fun _ h9 => h9) rfl dX12_push_225 ?_
            refine lv_iload hx hb dX12_push_228 (lv_at hl 0 rfl) ?_
            refine va_iald (cA := k 96) (n := 40) (f := (vF 96)) hx hb hK hP 97 96 (WR_get 96 (by decide)) (TR_get 96 (by decide)) (vp_in_nI (show aN < 40 by omega) (by omega)) dX12_push_230 ?_
            refine lv_topi (fun y5 hy5 => ?_)
            obtain rfl : ((vF 96) aN) = y5 := (hy5.trans (by rw [nI_clamp (by omega)])).symm
            refine lv_topi (fun y6 hy6 => ?_)
            obtain rfl : (nI uN) = y6 := (hy6.trans (hb2)).symm
            refine lv_istore hx hb dX12_push_231 hl (by decide) rfl (fun ls (hl : lv_has ls _ ([(5, .int (nI uN)), (7, .int (nI aN)), (6, .int 0), (0, .ref h0), (1, .int (nI sN)), (4, .int nq)])) => ?_)
            refine lv_goto (tgt := 134) hx hb dX12_push_233 (by decide) ?_
            have hl : lv_has _ _ ([(0, .ref h0), (1, .int (nI sN)), (4, .int nq), (5, .int (nI uN))]) := lv_sub hl [3, 4, 5, 0] rfl
            exact ih134_1 uN (upd f2 ((nI aN)).toNatClampNeg ((f2 aN) + (-nq))) _ _ _ (hu12) (hVu) (fun a9 ha9 => by rw [upd_at (by omega)]; by_cases e9 : a9 = aN; (rw [if_pos e9, hnw, e9, hun9]; rw [hrs] at hnr; omega); (rw [if_neg e9]; exact hf2 a9 ha9)) (fun w9 u9 a9 c9 k1 k2 k3 k4 k5 => by rw [upd_at (by omega), if_neg (fun e9 => by subst e9; (have ew := hT.apart (hVs2 w9 k1).1 g1 k2 hu12 k4 hLk k5 hrk); subst ew; omega)]; exact hun w9 u9 a9 c9 k1 k2 (by omega) k4 k5) (fun a9 ha9 => by rw [upd_at (by omega)]; by_cases e9 : a9 = aN; (subst e9; exact Or.inr ⟨v2, g1, g2, g3, Or.inr hb1⟩); (rw [if_neg e9]; exact hg a9 ha9)) (fun S => by refine Eq.trans (rsA_put (fl := fI f2) (a := aN) (k := (-(nq).toInt)) haN (by unfold fI; (try dsimp only); rw [upd_at (by omega), if_pos rfl, hnw] <;> omega) (fun b9 hb9 => by unfold fI; (try dsimp only); rw [upd_at (by omega), if_neg hb9])) ?_; rw [hRS S, tFr_nI (d := (((ar : Nat) : Int), vF 95, vF 96, vF 97, vF 98)) (by omega) hb3, tTo_nI (d := (((ar : Nat) : Int), vF 95, vF 96, vF 97, vF 98)) (by omega) hb2]; rw [sW_neg, sW_neg]; omega) (by omega) hP hD hS hl
          · have t_147 : ¬ (((vF 101) v2)).toInt ≤ 0 := toI_nle c_147 rfl (by decide)
            refine lv_iconst (v := 1) hx hb dX12_push_150 (by decide) ?_
            refine lv_goto (tgt := 155) hx hb dX12_push_151 (by decide) ?_
            refine lv_istore hx hb dX12_push_155 hl (by decide) rfl (fun ls (hl : lv_has ls _ ([(6, .int 1), (0, .ref h0), (1, .int (nI sN)), (4, .int nq), (5, .int (nI v2))])) => ?_)
            refine lv_iload hx hb dX12_push_157 (lv_at hl 0 rfl) ?_
            refine lv_if_eq (tgt := 174) hx hb dX12_push_159 (by decide) (fun c9 => absurd c9 (by decide)) (fun _ => ?_)
            obtain ⟨hb1, hb2, hb3, hb4, hb5⟩ := hLk.2.resolve_right (fun h => by have h9 := h.1; omega)
            refine lv_aload_n hx hb dX12_push_162 rfl (lv_at hl 1 rfl) ?_
            refine va_get (D := (dC, dI)) (ci := 12) (v := .ref (a 101)) (C := RX12) (T := TX12) (N := 163) (fs := fM (vS a vi vj)) hx hb hts iwsRX12_push_in12 hown hK hP 0 rfl rfl 157 (by decide) (hts (.fieldLink RX12 330 "OptimaWorksModel" "by" "[I") (by decide +kernel)) (fun _ h9 => h9) rfl dX12_push_163 ?_
            refine lv_iload hx hb dX12_push_166 (lv_at hl 4 rfl) ?_
            refine va_iald (cA := k 101) (n := 12) (f := (vF 101)) hx hb hK hP 102 101 (WR_get 101 (by decide)) (TR_get 101 (by decide)) (vp_in_nI (show v2 < 12 by omega) (by omega)) dX12_push_168 ?_
            refine lv_topi (fun y7 hy7 => ?_)
            obtain rfl : ((vF 101) v2) = y7 := (hy7.trans (by rw [nI_clamp (by omega)])).symm
            refine lv_iconst (v := 1) hx hb dX12_push_169 (by decide) ?_
            refine lv_isub hx hb dX12_push_170 ?_
            refine lv_topi (fun y8 hy8 => ?_)
            obtain rfl : (nI aN) = y8 := (hy8.trans (by_f hb1 (by omega))).symm
            refine lv_goto (tgt := 184) hx hb dX12_push_171 (by decide) ?_
            refine lv_istore hx hb dX12_push_184 hl (by decide) rfl (fun ls (hl : lv_has ls _ ([(7, .int (nI aN)), (6, .int 1), (0, .ref h0), (1, .int (nI sN)), (4, .int nq), (5, .int (nI v2))])) => ?_)
            refine lv_aload_n hx hb dX12_push_186 rfl (lv_at hl 2 rfl) ?_
            refine va_get (D := (dC, dI)) (ci := 12) (v := .ref (a 99)) (C := RX12) (T := TX12) (N := 163) (fs := fM (vS a vi vj)) hx hb hts iwsRX12_push_in12 hown hK hP 0 rfl rfl 155 (by decide) (hts (.fieldLink RX12 324 "OptimaWorksModel" "flow" "[I") (by decide +kernel)) (fun _ h9 => h9) rfl dX12_push_187 ?_
            refine lv_iload hx hb dX12_push_190 (lv_at hl 0 rfl) ?_
            refine lv_dup2_11 hx hb dX12_push_192 rfl rfl ?_
            refine va_iald (cA := k 99) (n := 40) (f := f2) hx hb hK hP 100 99 (WR_get 99 (by decide)) (TR_get 99 (by decide)) (vp_in_nI (show aN < 40 by omega) (by omega)) dX12_push_193 ?_
            refine lv_topi (fun y9 hy9 => ?_)
            obtain rfl : (f2 aN) = y9 := (hy9.trans (by rw [nI_clamp (by omega)])).symm
            refine lv_iload hx hb dX12_push_194 (lv_at hl 1 rfl) ?_
            refine lv_if_eq (tgt := 204) hx hb dX12_push_196 (by decide) (fun c9 => absurd c9 (by decide)) (fun _ => ?_)
            refine lv_iload hx hb dX12_push_199 (lv_at hl 4 rfl) ?_
            refine lv_goto (tgt := 207) hx hb dX12_push_201 (by decide) ?_
            refine lv_iadd hx hb dX12_push_207 ?_
            refine va_iast (cA := k 99) (n := 40) (f := f2) hx hb hK hP hD hS 100 99 (WR_get 99 (by decide)) (TR_get 99 (by decide)) (vp_in_nI (show aN < 40 by omega) (by omega)) dX12_push_208 (fun H locs hP hD hS => ?_)
            have e9 : fT vF 99 (upd f2 ((nI aN)).toNatClampNeg ((f2 aN) + nq)) = fT (fT vF 99 f2) 99 (upd f2 ((nI aN)).toNatClampNeg ((f2 aN) + nq)) := (fT_sm _ _ _ _).symm
            have hP : va_P (dC, dI) vwCl (WR a k h0 vi vj (fT vF 99 (upd f2 ((nI aN)).toNatClampNeg ((f2 aN) + nq))) vG) H := by rw [e9, ← WR_F 99 (by decide) _ rfl]; exact hP
            have hD : va_D A (WR a k h0 vi vj (fT vF 99 (upd f2 ((nI aN)).toNatClampNeg ((f2 aN) + nq))) vG) := by rw [e9, ← WR_F 99 (by decide) _ rfl]; exact hD
            clear e9
            have hrs : rsd (vF 97) (vF 99) (vF 101 v2) aN = (vF 97 aN).toInt - (vF 99 aN).toInt := by unfold rsd; rw [if_pos (by omega)]
            have hnw : (f2 aN + nq).toInt = (f2 aN).toInt + (nq).toInt := addB (by rw [hun9]; omega) (by rw [hrs] at hnr; omega)
            refine lv_iload hx hb dX12_push_209 (lv_at hl 1 rfl) ?_
            refine lv_if_eq (tgt := 224) hx hb dX12_push_211 (by decide) (fun c9 => absurd c9 (by decide)) (fun _ => ?_)
            refine lv_aload_n hx hb dX12_push_214 rfl (lv_at hl 2 rfl) ?_
            refine va_get (D := (dC, dI)) (ci := 12) (v := .ref (a 95)) (C := RX12) (T := TX12) (N := 163) (fs := fM (vS a vi vj)) hx hb hts iwsRX12_push_in12 hown hK hP 0 rfl rfl 151 (by decide) (hts (.fieldLink RX12 312 "OptimaWorksModel" "arcFrom" "[I") (by decide +kernel)) (fun _ h9 => h9) rfl dX12_push_215 ?_
            refine lv_iload hx hb dX12_push_218 (lv_at hl 0 rfl) ?_
            refine va_iald (cA := k 95) (n := 40) (f := (vF 95)) hx hb hK hP 96 95 (WR_get 95 (by decide)) (TR_get 95 (by decide)) (vp_in_nI (show aN < 40 by omega) (by omega)) dX12_push_220 ?_
            refine lv_topi (fun y10 hy10 => ?_)
            obtain rfl : ((vF 95) aN) = y10 := (hy10.trans (by rw [nI_clamp (by omega)])).symm
            refine lv_topi (fun y11 hy11 => ?_)
            obtain rfl : (nI uN) = y11 := (hy11.trans (hb2)).symm
            refine lv_goto (tgt := 231) hx hb dX12_push_221 (by decide) ?_
            refine lv_istore hx hb dX12_push_231 hl (by decide) rfl (fun ls (hl : lv_has ls _ ([(5, .int (nI uN)), (7, .int (nI aN)), (6, .int 1), (0, .ref h0), (1, .int (nI sN)), (4, .int nq)])) => ?_)
            refine lv_goto (tgt := 134) hx hb dX12_push_233 (by decide) ?_
            have hl : lv_has _ _ ([(0, .ref h0), (1, .int (nI sN)), (4, .int nq), (5, .int (nI uN))]) := lv_sub hl [3, 4, 5, 0] rfl
            exact ih134_1 uN (upd f2 ((nI aN)).toNatClampNeg ((f2 aN) + nq)) _ _ _ (hu12) (hVu) (fun a9 ha9 => by rw [upd_at (by omega)]; by_cases e9 : a9 = aN; (rw [if_pos e9, hnw, e9, hun9]; rw [hrs] at hnr; omega); (rw [if_neg e9]; exact hf2 a9 ha9)) (fun w9 u9 a9 c9 k1 k2 k3 k4 k5 => by rw [upd_at (by omega), if_neg (fun e9 => by subst e9; (have ew := hT.apart (hVs2 w9 k1).1 g1 k2 hu12 k4 hLk k5 hrk); subst ew; omega)]; exact hun w9 u9 a9 c9 k1 k2 (by omega) k4 k5) (fun a9 ha9 => by rw [upd_at (by omega)]; by_cases e9 : a9 = aN; (subst e9; exact Or.inr ⟨v2, g1, g2, g3, Or.inl hb1⟩); (rw [if_neg e9]; exact hg a9 ha9)) (fun S => by refine Eq.trans (rsA_put (fl := fI f2) (a := aN) (k := (nq).toInt) haN (by unfold fI; (try dsimp only); rw [upd_at (by omega), if_pos rfl, hnw] <;> omega) (fun b9 hb9 => by unfold fI; (try dsimp only); rw [upd_at (by omega), if_neg hb9])) ?_; rw [hRS S, tFr_nI (d := (((ar : Nat) : Int), vF 95, vF 96, vF 97, vF 98)) (by omega) hb2, tTo_nI (d := (((ar : Nat) : Int), vF 95, vF 96, vF 97, vF 98)) (by omega) hb3]; omega) (by omega) hP hD hS hl
    · have t_9 : ¬ ((vN : Nat) : Int) = ((sN : Nat) : Int) := toI_neq c_9 (nI_toInt (by omega)) (nI_toInt (by omega))
      have hvs : vN ≠ sN := fun e9 => c_9 (by rw [e9])
      obtain ⟨uN, aN, cN, hu12, huw, hLk, hul, hpr, hrk⟩ := hT vN hv12 hvl hvs
      have haN := hLk.1
      have hfa := hFl aN haN
      obtain ⟨x9, z9, _, _, _, _, _, hrm, _⟩ := hAr aN haN
      refine lv_aload_n hx hb dX12_push_12 rfl (lv_at hl 0 rfl) ?_
      refine va_get (D := (dC, dI)) (ci := 12) (v := .ref (a 101)) (C := RX12) (T := TX12) (N := 163) (fs := fM (vS a vi vj)) hx hb hts iwsRX12_push_in12 hown hK hP 0 rfl rfl 157 (by decide) (hts (.fieldLink RX12 330 "OptimaWorksModel" "by" "[I") (by decide +kernel)) (fun _ h9 => h9) rfl dX12_push_13 ?_
      refine lv_iload hx hb dX12_push_16 (lv_at hl 4 rfl) ?_
      refine va_iald (cA := k 101) (n := 12) (f := (vF 101)) hx hb hK hP 102 101 (WR_get 101 (by decide)) (TR_get 101 (by decide)) (vp_in_nI (show vN < 12 by omega) (by omega)) dX12_push_18 ?_
      refine lv_topi (fun y12 hy12 => ?_)
      obtain rfl : ((vF 101) vN) = y12 := (hy12.trans (by rw [nI_clamp (by omega)])).symm
      refine lv_if_le (tgt := 34) hx hb dX12_push_19 (by decide) (fun c_19 => ?_) (fun c_19 => ?_)
      · have t_19 : (((vF 101) vN)).toInt ≤ 0 := toI_le c_19 rfl (by decide)
        obtain ⟨hb1, hb2, hb3, hb4, hb5⟩ := hLk.2.resolve_left (fun h => by have h9 := h.1; omega)
        refine lv_aload_n hx hb dX12_push_34 rfl (lv_at hl 0 rfl) ?_
        refine va_get (D := (dC, dI)) (ci := 12) (v := .ref (a 101)) (C := RX12) (T := TX12) (N := 163) (fs := fM (vS a vi vj)) hx hb hts iwsRX12_push_in12 hown hK hP 0 rfl rfl 157 (by decide) (hts (.fieldLink RX12 330 "OptimaWorksModel" "by" "[I") (by decide +kernel)) (fun _ h9 => h9) rfl dX12_push_35 ?_
        refine lv_iload hx hb dX12_push_38 (lv_at hl 4 rfl) ?_
        refine va_iald (cA := k 101) (n := 12) (f := (vF 101)) hx hb hK hP 102 101 (WR_get 101 (by decide)) (TR_get 101 (by decide)) (vp_in_nI (show vN < 12 by omega) (by omega)) dX12_push_40 ?_
        refine lv_topi (fun y13 hy13 => ?_)
        obtain rfl : ((vF 101) vN) = y13 := (hy13.trans (by rw [nI_clamp (by omega)])).symm
        refine lv_ineg hx hb dX12_push_41 ?_
        refine lv_iconst (v := 1) hx hb dX12_push_42 (by decide) ?_
        refine lv_isub hx hb dX12_push_43 ?_
        refine lv_topi (fun y14 hy14 => ?_)
        obtain rfl : (nI aN) = y14 := (hy14.trans (by_b hb1 (by omega))).symm
        refine lv_istore hx hb dX12_push_44 hl (by decide) rfl (fun ls (hl : lv_has ls _ ([(6, .int (nI aN)), (0, .ref h0), (1, .int (nI sN)), (2, .int (nI tN)), (4, .int nq), (5, .int (nI vN))])) => ?_)
        refine lv_aload_n hx hb dX12_push_46 rfl (lv_at hl 1 rfl) ?_
        refine va_get (D := (dC, dI)) (ci := 12) (v := .ref (a 101)) (C := RX12) (T := TX12) (N := 163) (fs := fM (vS a vi vj)) hx hb hts iwsRX12_push_in12 hown hK hP 0 rfl rfl 157 (by decide) (hts (.fieldLink RX12 330 "OptimaWorksModel" "by" "[I") (by decide +kernel)) (fun _ h9 => h9) rfl dX12_push_47 ?_
        refine lv_iload hx hb dX12_push_50 (lv_at hl 5 rfl) ?_
        refine va_iald (cA := k 101) (n := 12) (f := (vF 101)) hx hb hK hP 102 101 (WR_get 101 (by decide)) (TR_get 101 (by decide)) (vp_in_nI (show vN < 12 by omega) (by omega)) dX12_push_52 ?_
        refine lv_topi (fun y15 hy15 => ?_)
        obtain rfl : ((vF 101) vN) = y15 := (hy15.trans (by rw [nI_clamp (by omega)])).symm
        refine lv_if_le (tgt := 74) hx hb dX12_push_53 (by decide) (fun c_53 => ?_) (fun c9 => False.elim (c9 c_19))
        have t_53 : (((vF 101) vN)).toInt ≤ 0 := toI_le c_53 rfl (by decide)
        refine lv_aload_n hx hb dX12_push_74 rfl (lv_at hl 1 rfl) ?_
        refine va_get (D := (dC, dI)) (ci := 12) (v := .ref (a 99)) (C := RX12) (T := TX12) (N := 163) (fs := fM (vS a vi vj)) hx hb hts iwsRX12_push_in12 hown hK hP 0 rfl rfl 155 (by decide) (hts (.fieldLink RX12 324 "OptimaWorksModel" "flow" "[I") (by decide +kernel)) (fun _ h9 => h9) rfl dX12_push_75 ?_
        refine lv_iload hx hb dX12_push_78 (lv_at hl 0 rfl) ?_
        refine va_iald (cA := k 99) (n := 40) (f := (vF 99)) hx hb hK hP 100 99 (WR_get 99 (by decide)) (TR_get 99 (by decide)) (vp_in_nI (show aN < 40 by omega) (by omega)) dX12_push_80 ?_
        refine lv_topi (fun y16 hy16 => ?_)
        obtain rfl : ((vF 99) aN) = y16 := (hy16.trans (by rw [nI_clamp (by omega)])).symm
        have hrs : rsd (vF 97) (vF 99) (vF 101 vN) aN = (vF 99 aN).toInt := by unfold rsd; rw [if_neg (by omega)]
        have hro : (vF 99 aN).toInt = rsd (vF 97) (vF 99) (vF 101 vN) aN := hrs.symm
        refine lv_istore hx hb dX12_push_81 hl (by decide) rfl (fun ls (hl : lv_has ls _ ([(7, .int ((vF 99) aN)), (6, .int (nI aN)), (0, .ref h0), (1, .int (nI sN)), (2, .int (nI tN)), (4, .int nq), (5, .int (nI vN))])) => ?_)
        refine lv_iload hx hb dX12_push_83 (lv_at hl 0 rfl) ?_
        refine lv_iload hx hb dX12_push_85 (lv_at hl 5 rfl) ?_
        refine W.cut (pc := 97) (fun H locs ls stk => ∃ (n2 : Int32), (1 ≤ (n2).toInt ∧ (n2).toInt ≤ (nq).toInt ∧ (n2).toInt ≤ rsd (vF 97) (vF 99) (vF 101 vN) aN) ∧  stk = [.int n2] ∧ va_P (dC, dI) vwCl (WR a k h0 vi vj vF vG) H ∧ va_D A (WR a k h0 vi vj vF vG) ∧ va_S A s.heap H locs ∧ lv_has ls 8 [(7, .int ((vF 99) aN)), (6, .int (nI aN)), (0, .ref h0), (1, .int (nI sN)), (2, .int (nI tN)), (4, .int nq), (5, .int (nI vN))]) (fun join1 => ?_) ?_
        · refine lv_icmp_ge (tgt := 95) hx hb dX12_push_87 (by decide) (fun c_87 => ?_) (fun c_87 => ?_)
          · have t_87 : (((vF 99) aN)).toInt ≥ (nq).toInt := toI_ge c_87 rfl rfl
            refine lv_iload hx hb dX12_push_95 (lv_at hl 5 rfl) ?_
            have hl : lv_has _ _ ([(7, .int ((vF 99) aN)), (6, .int (nI aN)), (0, .ref h0), (1, .int (nI sN)), (2, .int (nI tN)), (4, .int nq), (5, .int (nI vN))]) := lv_sub hl [0, 1, 2, 3, 4, 5, 6] rfl
            exact join1 _ _ _ _ ⟨nq, by omega, rfl, hP, hD, hS, hl⟩
          · have t_87 : ¬ (((vF 99) aN)).toInt ≥ (nq).toInt := toI_nge c_87 rfl rfl
            refine lv_iload hx hb dX12_push_90 (lv_at hl 0 rfl) ?_
            refine lv_goto (tgt := 97) hx hb dX12_push_92 (by decide) ?_
            have hl : lv_has _ _ ([(7, .int ((vF 99) aN)), (6, .int (nI aN)), (0, .ref h0), (1, .int (nI sN)), (2, .int (nI tN)), (4, .int nq), (5, .int (nI vN))]) := lv_sub hl [0, 1, 2, 3, 4, 5, 6] rfl
            exact join1 _ _ _ _ ⟨((vF 99) aN), by omega, rfl, hP, hD, hS, hl⟩
        · rintro H locs ls stk ⟨n2, hn2, rfl, hP, hD, hS, hl⟩
          refine lv_istore hx hb dX12_push_97 hl (by decide) rfl (fun ls (hl : lv_has ls _ ([(4, .int n2), (7, .int ((vF 99) aN)), (6, .int (nI aN)), (0, .ref h0), (1, .int (nI sN)), (2, .int (nI tN)), (5, .int (nI vN))])) => ?_)
          refine lv_aload_n hx hb dX12_push_99 rfl (lv_at hl 3 rfl) ?_
          refine va_get (D := (dC, dI)) (ci := 12) (v := .ref (a 101)) (C := RX12) (T := TX12) (N := 163) (fs := fM (vS a vi vj)) hx hb hts iwsRX12_push_in12 hown hK hP 0 rfl rfl 157 (by decide) (hts (.fieldLink RX12 330 "OptimaWorksModel" "by" "[I") (by decide +kernel)) (fun _ h9 => h9) rfl dX12_push_100 ?_
          refine lv_iload hx hb dX12_push_103 (lv_at hl 6 rfl) ?_
          refine va_iald (cA := k 101) (n := 12) (f := (vF 101)) hx hb hK hP 102 101 (WR_get 101 (by decide)) (TR_get 101 (by decide)) (vp_in_nI (show vN < 12 by omega) (by omega)) dX12_push_105 ?_
          refine lv_topi (fun y17 hy17 => ?_)
          obtain rfl : ((vF 101) vN) = y17 := (hy17.trans (by rw [nI_clamp (by omega)])).symm
          refine lv_if_le (tgt := 119) hx hb dX12_push_106 (by decide) (fun c_106 => ?_) (fun c9 => False.elim (c9 c_19))
          have t_106 : (((vF 101) vN)).toInt ≤ 0 := toI_le c_106 rfl (by decide)
          refine lv_aload_n hx hb dX12_push_119 rfl (lv_at hl 3 rfl) ?_
          refine va_get (D := (dC, dI)) (ci := 12) (v := .ref (a 96)) (C := RX12) (T := TX12) (N := 163) (fs := fM (vS a vi vj)) hx hb hts iwsRX12_push_in12 hown hK hP 0 rfl rfl 152 (by decide) (hts (.fieldLink RX12 315 "OptimaWorksModel" "arcTo" "[I") (by decide +kernel)) (fun _ h9 => h9) rfl dX12_push_120 ?_
          refine lv_iload hx hb dX12_push_123 (lv_at hl 2 rfl) ?_
          refine va_iald (cA := k 96) (n := 40) (f := (vF 96)) hx hb hK hP 97 96 (WR_get 96 (by decide)) (TR_get 96 (by decide)) (vp_in_nI (show aN < 40 by omega) (by omega)) dX12_push_125 ?_
          refine lv_topi (fun y18 hy18 => ?_)
          obtain rfl : ((vF 96) aN) = y18 := (hy18.trans (by rw [nI_clamp (by omega)])).symm
          refine lv_topi (fun y19 hy19 => ?_)
          obtain rfl : (nI uN) = y19 := (hy19.trans (hb2)).symm
          refine lv_istore hx hb dX12_push_126 hl (by decide) rfl (fun ls (hl : lv_has ls _ ([(5, .int (nI uN)), (4, .int n2), (7, .int ((vF 99) aN)), (6, .int (nI aN)), (0, .ref h0), (1, .int (nI sN)), (2, .int (nI tN))])) => ?_)
          refine lv_goto (tgt := 6) hx hb dX12_push_128 (by decide) ?_
          have hl : lv_has _ _ ([(0, .ref h0), (1, .int (nI sN)), (2, .int (nI tN)), (4, .int n2), (5, .int (nI uN))]) := lv_sub hl [4, 5, 6, 1, 0] rfl
          exact ih6 n2 uN (fun w => V w ∨ w = vN) _ _ _ (hu12) (hul) (by omega) (by rcases hVt0 with h9 | h9; (exact Or.inl (Or.inl h9)); (exact Or.inl (Or.inr h9.symm))) (hVs.next hv12 hvl hvs hu12 hLk hrk (by omega) (by omega)) (by omega) hP hD hS hl
      · have t_19 : ¬ (((vF 101) vN)).toInt ≤ 0 := toI_nle c_19 rfl (by decide)
        obtain ⟨hb1, hb2, hb3, hb4, hb5⟩ := hLk.2.resolve_right (fun h => by have h9 := h.1; omega)
        refine lv_aload_n hx hb dX12_push_22 rfl (lv_at hl 0 rfl) ?_
        refine va_get (D := (dC, dI)) (ci := 12) (v := .ref (a 101)) (C := RX12) (T := TX12) (N := 163) (fs := fM (vS a vi vj)) hx hb hts iwsRX12_push_in12 hown hK hP 0 rfl rfl 157 (by decide) (hts (.fieldLink RX12 330 "OptimaWorksModel" "by" "[I") (by decide +kernel)) (fun _ h9 => h9) rfl dX12_push_23 ?_
        refine lv_iload hx hb dX12_push_26 (lv_at hl 4 rfl) ?_
        refine va_iald (cA := k 101) (n := 12) (f := (vF 101)) hx hb hK hP 102 101 (WR_get 101 (by decide)) (TR_get 101 (by decide)) (vp_in_nI (show vN < 12 by omega) (by omega)) dX12_push_28 ?_
        refine lv_topi (fun y20 hy20 => ?_)
        obtain rfl : ((vF 101) vN) = y20 := (hy20.trans (by rw [nI_clamp (by omega)])).symm
        refine lv_iconst (v := 1) hx hb dX12_push_29 (by decide) ?_
        refine lv_isub hx hb dX12_push_30 ?_
        refine lv_topi (fun y21 hy21 => ?_)
        obtain rfl : (nI aN) = y21 := (hy21.trans (by_f hb1 (by omega))).symm
        refine lv_goto (tgt := 44) hx hb dX12_push_31 (by decide) ?_
        refine lv_istore hx hb dX12_push_44 hl (by decide) rfl (fun ls (hl : lv_has ls _ ([(6, .int (nI aN)), (0, .ref h0), (1, .int (nI sN)), (2, .int (nI tN)), (4, .int nq), (5, .int (nI vN))])) => ?_)
        refine lv_aload_n hx hb dX12_push_46 rfl (lv_at hl 1 rfl) ?_
        refine va_get (D := (dC, dI)) (ci := 12) (v := .ref (a 101)) (C := RX12) (T := TX12) (N := 163) (fs := fM (vS a vi vj)) hx hb hts iwsRX12_push_in12 hown hK hP 0 rfl rfl 157 (by decide) (hts (.fieldLink RX12 330 "OptimaWorksModel" "by" "[I") (by decide +kernel)) (fun _ h9 => h9) rfl dX12_push_47 ?_
        refine lv_iload hx hb dX12_push_50 (lv_at hl 5 rfl) ?_
        refine va_iald (cA := k 101) (n := 12) (f := (vF 101)) hx hb hK hP 102 101 (WR_get 101 (by decide)) (TR_get 101 (by decide)) (vp_in_nI (show vN < 12 by omega) (by omega)) dX12_push_52 ?_
        refine lv_topi (fun y22 hy22 => ?_)
        obtain rfl : ((vF 101) vN) = y22 := (hy22.trans (by rw [nI_clamp (by omega)])).symm
        refine lv_if_le (tgt := 74) hx hb dX12_push_53 (by decide) (fun c9 => False.elim (c_19 c9)) (fun c_53 => ?_)
        have t_53 : ¬ (((vF 101) vN)).toInt ≤ 0 := toI_nle c_53 rfl (by decide)
        refine lv_aload_n hx hb dX12_push_56 rfl (lv_at hl 1 rfl) ?_
        refine va_get (D := (dC, dI)) (ci := 12) (v := .ref (a 97)) (C := RX12) (T := TX12) (N := 163) (fs := fM (vS a vi vj)) hx hb hts iwsRX12_push_in12 hown hK hP 0 rfl rfl 153 (by decide) (hts (.fieldLink RX12 318 "OptimaWorksModel" "arcRoom" "[I") (by decide +kernel)) (fun _ h9 => h9) rfl dX12_push_57 ?_
        refine lv_iload hx hb dX12_push_60 (lv_at hl 0 rfl) ?_
        refine va_iald (cA := k 97) (n := 40) (f := (vF 97)) hx hb hK hP 98 97 (WR_get 97 (by decide)) (TR_get 97 (by decide)) (vp_in_nI (show aN < 40 by omega) (by omega)) dX12_push_62 ?_
        refine lv_topi (fun y23 hy23 => ?_)
        obtain rfl : ((vF 97) aN) = y23 := (hy23.trans (by rw [nI_clamp (by omega)])).symm
        refine lv_aload_n hx hb dX12_push_63 rfl (lv_at hl 1 rfl) ?_
        refine va_get (D := (dC, dI)) (ci := 12) (v := .ref (a 99)) (C := RX12) (T := TX12) (N := 163) (fs := fM (vS a vi vj)) hx hb hts iwsRX12_push_in12 hown hK hP 0 rfl rfl 155 (by decide) (hts (.fieldLink RX12 324 "OptimaWorksModel" "flow" "[I") (by decide +kernel)) (fun _ h9 => h9) rfl dX12_push_64 ?_
        refine lv_iload hx hb dX12_push_67 (lv_at hl 0 rfl) ?_
        refine va_iald (cA := k 99) (n := 40) (f := (vF 99)) hx hb hK hP 100 99 (WR_get 99 (by decide)) (TR_get 99 (by decide)) (vp_in_nI (show aN < 40 by omega) (by omega)) dX12_push_69 ?_
        refine lv_topi (fun y24 hy24 => ?_)
        obtain rfl : ((vF 99) aN) = y24 := (hy24.trans (by rw [nI_clamp (by omega)])).symm
        refine lv_isub hx hb dX12_push_70 ?_
        refine lv_goto (tgt := 81) hx hb dX12_push_71 (by decide) ?_
        have hrs : rsd (vF 97) (vF 99) (vF 101 vN) aN = (vF 97 aN).toInt - (vF 99 aN).toInt := by unfold rsd; rw [if_pos (by omega)]
        have hro : (vF 97 aN - vF 99 aN).toInt = rsd (vF 97) (vF 99) (vF 101 vN) aN := by rw [hrs]; exact subB (by omega) (by omega)
        refine lv_istore hx hb dX12_push_81 hl (by decide) rfl (fun ls (hl : lv_has ls _ ([(7, .int (((vF 97) aN) - ((vF 99) aN))), (6, .int (nI aN)), (0, .ref h0), (1, .int (nI sN)), (2, .int (nI tN)), (4, .int nq), (5, .int (nI vN))])) => ?_)
        refine lv_iload hx hb dX12_push_83 (lv_at hl 0 rfl) ?_
        refine lv_iload hx hb dX12_push_85 (lv_at hl 5 rfl) ?_
        refine W.cut (pc := 97) (fun H locs ls stk => ∃ (n2 : Int32), (1 ≤ (n2).toInt ∧ (n2).toInt ≤ (nq).toInt ∧ (n2).toInt ≤ rsd (vF 97) (vF 99) (vF 101 vN) aN) ∧  stk = [.int n2] ∧ va_P (dC, dI) vwCl (WR a k h0 vi vj vF vG) H ∧ va_D A (WR a k h0 vi vj vF vG) ∧ va_S A s.heap H locs ∧ lv_has ls 8 [(7, .int (((vF 97) aN) - ((vF 99) aN))), (6, .int (nI aN)), (0, .ref h0), (1, .int (nI sN)), (2, .int (nI tN)), (4, .int nq), (5, .int (nI vN))]) (fun join2 => ?_) ?_
        · refine lv_icmp_ge (tgt := 95) hx hb dX12_push_87 (by decide) (fun c_87 => ?_) (fun c_87 => ?_)
          · have t_87 : ((((vF 97) aN) - ((vF 99) aN))).toInt ≥ (nq).toInt := toI_ge c_87 rfl rfl
            refine lv_iload hx hb dX12_push_95 (lv_at hl 5 rfl) ?_
            have hl : lv_has _ _ ([(7, .int (((vF 97) aN) - ((vF 99) aN))), (6, .int (nI aN)), (0, .ref h0), (1, .int (nI sN)), (2, .int (nI tN)), (4, .int nq), (5, .int (nI vN))]) := lv_sub hl [0, 1, 2, 3, 4, 5, 6] rfl
            exact join2 _ _ _ _ ⟨nq, by omega, rfl, hP, hD, hS, hl⟩
          · have t_87 : ¬ ((((vF 97) aN) - ((vF 99) aN))).toInt ≥ (nq).toInt := toI_nge c_87 rfl rfl
            refine lv_iload hx hb dX12_push_90 (lv_at hl 0 rfl) ?_
            refine lv_goto (tgt := 97) hx hb dX12_push_92 (by decide) ?_
            have hl : lv_has _ _ ([(7, .int (((vF 97) aN) - ((vF 99) aN))), (6, .int (nI aN)), (0, .ref h0), (1, .int (nI sN)), (2, .int (nI tN)), (4, .int nq), (5, .int (nI vN))]) := lv_sub hl [0, 1, 2, 3, 4, 5, 6] rfl
            exact join2 _ _ _ _ ⟨(((vF 97) aN) - ((vF 99) aN)), by omega, rfl, hP, hD, hS, hl⟩
        · rintro H locs ls stk ⟨n2, hn2, rfl, hP, hD, hS, hl⟩
          refine lv_istore hx hb dX12_push_97 hl (by decide) rfl (fun ls (hl : lv_has ls _ ([(4, .int n2), (7, .int (((vF 97) aN) - ((vF 99) aN))), (6, .int (nI aN)), (0, .ref h0), (1, .int (nI sN)), (2, .int (nI tN)), (5, .int (nI vN))])) => ?_)
          refine lv_aload_n hx hb dX12_push_99 rfl (lv_at hl 3 rfl) ?_
          refine va_get (D := (dC, dI)) (ci := 12) (v := .ref (a 101)) (C := RX12) (T := TX12) (N := 163) (fs := fM (vS a vi vj)) hx hb hts iwsRX12_push_in12 hown hK hP 0 rfl rfl 157 (by decide) (hts (.fieldLink RX12 330 "OptimaWorksModel" "by" "[I") (by decide +kernel)) (fun _ h9 => h9) rfl dX12_push_100 ?_
          refine lv_iload hx hb dX12_push_103 (lv_at hl 6 rfl) ?_
          refine va_iald (cA := k 101) (n := 12) (f := (vF 101)) hx hb hK hP 102 101 (WR_get 101 (by decide)) (TR_get 101 (by decide)) (vp_in_nI (show vN < 12 by omega) (by omega)) dX12_push_105 ?_
          refine lv_topi (fun y25 hy25 => ?_)
          obtain rfl : ((vF 101) vN) = y25 := (hy25.trans (by rw [nI_clamp (by omega)])).symm
          refine lv_if_le (tgt := 119) hx hb dX12_push_106 (by decide) (fun c9 => False.elim (c_19 c9)) (fun c_106 => ?_)
          have t_106 : ¬ (((vF 101) vN)).toInt ≤ 0 := toI_nle c_106 rfl (by decide)
          refine lv_aload_n hx hb dX12_push_109 rfl (lv_at hl 3 rfl) ?_
          refine va_get (D := (dC, dI)) (ci := 12) (v := .ref (a 95)) (C := RX12) (T := TX12) (N := 163) (fs := fM (vS a vi vj)) hx hb hts iwsRX12_push_in12 hown hK hP 0 rfl rfl 151 (by decide) (hts (.fieldLink RX12 312 "OptimaWorksModel" "arcFrom" "[I") (by decide +kernel)) (fun _ h9 => h9) rfl dX12_push_110 ?_
          refine lv_iload hx hb dX12_push_113 (lv_at hl 2 rfl) ?_
          refine va_iald (cA := k 95) (n := 40) (f := (vF 95)) hx hb hK hP 96 95 (WR_get 95 (by decide)) (TR_get 95 (by decide)) (vp_in_nI (show aN < 40 by omega) (by omega)) dX12_push_115 ?_
          refine lv_topi (fun y26 hy26 => ?_)
          obtain rfl : ((vF 95) aN) = y26 := (hy26.trans (by rw [nI_clamp (by omega)])).symm
          refine lv_topi (fun y27 hy27 => ?_)
          obtain rfl : (nI uN) = y27 := (hy27.trans (hb2)).symm
          refine lv_goto (tgt := 126) hx hb dX12_push_116 (by decide) ?_
          refine lv_istore hx hb dX12_push_126 hl (by decide) rfl (fun ls (hl : lv_has ls _ ([(5, .int (nI uN)), (4, .int n2), (7, .int (((vF 97) aN) - ((vF 99) aN))), (6, .int (nI aN)), (0, .ref h0), (1, .int (nI sN)), (2, .int (nI tN))])) => ?_)
          refine lv_goto (tgt := 6) hx hb dX12_push_128 (by decide) ?_
          have hl : lv_has _ _ ([(0, .ref h0), (1, .int (nI sN)), (2, .int (nI tN)), (4, .int n2), (5, .int (nI uN))]) := lv_sub hl [4, 5, 6, 1, 0] rfl
          exact ih6 n2 uN (fun w => V w ∨ w = vN) _ _ _ (hu12) (hul) (by omega) (by rcases hVt0 with h9 | h9; (exact Or.inl (Or.inl h9)); (exact Or.inl (Or.inr h9.symm))) (hVs.next hv12 hvl hvs hu12 hLk hrk (by omega) (by omega)) (by omega) hP hD hS hl

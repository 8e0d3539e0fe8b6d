theorem dX12_add_0 : decode cX12_add 0 = .ok (.aload_n 0, 1) := dk_42 (by decide +kernel)
theorem dX12_add_1 : decode cX12_add 1 = .ok (.iload_n 2, 1) := dk_28 (by decide +kernel)
theorem dX12_add_2 : decode cX12_add 2 = .ok (.invokevirtual 353, 3) := dk_182 (by decide +kernel)
theorem dX12_add_5 : decode cX12_add 5 = .ok (.istore 5, 2) := dk_54 (by decide +kernel)
theorem dX12_add_7 : decode cX12_add 7 = .ok (.aload_n 0, 1) := dk_42 (by decide +kernel)
theorem dX12_add_8 : decode cX12_add 8 = .ok (.iload_n 3, 1) := dk_29 (by decide +kernel)
theorem dX12_add_9 : decode cX12_add 9 = .ok (.invokevirtual 353, 3) := dk_182 (by decide +kernel)
theorem dX12_add_12 : decode cX12_add 12 = .ok (.iload 4, 2) := dk_21 (by decide +kernel)
theorem dX12_add_14 : decode cX12_add 14 = .ok (.imul, 1) := dk_104 (by decide +kernel)
theorem dX12_add_15 : decode cX12_add 15 = .ok (.istore 6, 2) := dk_54 (by decide +kernel)
theorem dX12_add_17 : decode cX12_add 17 = .ok (.aload_n 0, 1) := dk_42 (by decide +kernel)
theorem dX12_add_18 : decode cX12_add 18 = .ok (.getfield 7, 3) := dk_180 (by decide +kernel)
theorem dX12_add_21 : decode cX12_add 21 = .ok (.bipush 24, 2) := dk_16 (by decide +kernel)
theorem dX12_add_23 : decode cX12_add 23 = .ok (.iload_n 2, 1) := dk_28 (by decide +kernel)
theorem dX12_add_24 : decode cX12_add 24 = .ok (.imul, 1) := dk_104 (by decide +kernel)
theorem dX12_add_25 : decode cX12_add 25 = .ok (.iconst 1, 1) := dk_4 (by decide +kernel)
theorem dX12_add_26 : decode cX12_add 26 = .ok (.iadd, 1) := dk_96 (by decide +kernel)
theorem dX12_add_27 : decode cX12_add 27 = .ok (.iaload, 1) := dk_46 (by decide +kernel)
theorem dX12_add_28 : decode cX12_add 28 = .ok (.istore 7, 2) := dk_54 (by decide +kernel)
theorem dX12_add_30 : decode cX12_add 30 = .ok (.aload_n 0, 1) := dk_42 (by decide +kernel)
theorem dX12_add_31 : decode cX12_add 31 = .ok (.getfield 7, 3) := dk_180 (by decide +kernel)
theorem dX12_add_34 : decode cX12_add 34 = .ok (.bipush 24, 2) := dk_16 (by decide +kernel)
theorem dX12_add_36 : decode cX12_add 36 = .ok (.iload_n 3, 1) := dk_29 (by decide +kernel)
theorem dX12_add_37 : decode cX12_add 37 = .ok (.imul, 1) := dk_104 (by decide +kernel)
theorem dX12_add_38 : decode cX12_add 38 = .ok (.iconst 1, 1) := dk_4 (by decide +kernel)
theorem dX12_add_39 : decode cX12_add 39 = .ok (.iadd, 1) := dk_96 (by decide +kernel)
theorem dX12_add_40 : decode cX12_add 40 = .ok (.iaload, 1) := dk_46 (by decide +kernel)
theorem dX12_add_41 : decode cX12_add 41 = .ok (.istore 8, 2) := dk_54 (by decide +kernel)
theorem dX12_add_43 : decode cX12_add 43 = .ok (.iload 7, 2) := dk_21 (by decide +kernel)
theorem dX12_add_45 : decode cX12_add 45 = .ok (.iload 8, 2) := dk_21 (by decide +kernel)
theorem dX12_add_47 : decode cX12_add 47 = .ok (.if_icmp .le 8, 3) := dk_164 (by decide +kernel)
theorem dX12_add_50 : decode cX12_add 50 = .ok (.iload 7, 2) := dk_21 (by decide +kernel)
theorem dX12_add_52 : decode cX12_add 52 = .ok (.goto 5, 3) := dk_167 (by decide +kernel)
theorem dX12_add_55 : decode cX12_add 55 = .ok (.iload 8, 2) := dk_21 (by decide +kernel)
theorem dX12_add_57 : decode cX12_add 57 = .ok (.istore 9, 2) := dk_54 (by decide +kernel)
theorem dX12_add_59 : decode cX12_add 59 = .ok (.iload 5, 2) := dk_21 (by decide +kernel)
theorem dX12_add_61 : decode cX12_add 61 = .ok (.iload 6, 2) := dk_21 (by decide +kernel)
theorem dX12_add_63 : decode cX12_add 63 = .ok (.imul, 1) := dk_104 (by decide +kernel)
theorem dX12_add_64 : decode cX12_add 64 = .ok (.ifCond .ge 16, 3) := dk_156 (by decide +kernel)
theorem dX12_add_67 : decode cX12_add 67 = .ok (.aload_n 0, 1) := dk_42 (by decide +kernel)
theorem dX12_add_68 : decode cX12_add 68 = .ok (.iload_n 2, 1) := dk_28 (by decide +kernel)
theorem dX12_add_69 : decode cX12_add 69 = .ok (.iload_n 3, 1) := dk_29 (by decide +kernel)
theorem dX12_add_70 : decode cX12_add 70 = .ok (.invokevirtual 357, 3) := dk_182 (by decide +kernel)
theorem dX12_add_73 : decode cX12_add 73 = .ok (.ifCond .ge 7, 3) := dk_156 (by decide +kernel)
theorem dX12_add_76 : decode cX12_add 76 = .ok (.iconst 1, 1) := dk_4 (by decide +kernel)
theorem dX12_add_77 : decode cX12_add 77 = .ok (.goto 4, 3) := dk_167 (by decide +kernel)
theorem dX12_add_80 : decode cX12_add 80 = .ok (.iconst 0, 1) := dk_3 (by decide +kernel)
theorem dX12_add_81 : decode cX12_add 81 = .ok (.istore 10, 2) := dk_54 (by decide +kernel)
theorem dX12_add_83 : decode cX12_add 83 = .ok (.iconst 0, 1) := dk_3 (by decide +kernel)
theorem dX12_add_84 : decode cX12_add 84 = .ok (.istore 11, 2) := dk_54 (by decide +kernel)
theorem dX12_add_86 : decode cX12_add 86 = .ok (.iload 11, 2) := dk_21 (by decide +kernel)
theorem dX12_add_88 : decode cX12_add 88 = .ok (.iload 9, 2) := dk_21 (by decide +kernel)
theorem dX12_add_90 : decode cX12_add 90 = .ok (.if_icmp .ge 106, 3) := dk_162 (by decide +kernel)
theorem dX12_add_93 : decode cX12_add 93 = .ok (.iload 11, 2) := dk_21 (by decide +kernel)
theorem dX12_add_95 : decode cX12_add 95 = .ok (.iload 7, 2) := dk_21 (by decide +kernel)
theorem dX12_add_97 : decode cX12_add 97 = .ok (.if_icmp .ge 21, 3) := dk_162 (by decide +kernel)
theorem dX12_add_100 : decode cX12_add 100 = .ok (.aload_n 0, 1) := dk_42 (by decide +kernel)
theorem dX12_add_101 : decode cX12_add 101 = .ok (.getfield 7, 3) := dk_180 (by decide +kernel)
theorem dX12_add_104 : decode cX12_add 104 = .ok (.bipush 24, 2) := dk_16 (by decide +kernel)
theorem dX12_add_106 : decode cX12_add 106 = .ok (.iload_n 2, 1) := dk_28 (by decide +kernel)
theorem dX12_add_107 : decode cX12_add 107 = .ok (.imul, 1) := dk_104 (by decide +kernel)
theorem dX12_add_108 : decode cX12_add 108 = .ok (.iconst 2, 1) := dk_5 (by decide +kernel)
theorem dX12_add_109 : decode cX12_add 109 = .ok (.iadd, 1) := dk_96 (by decide +kernel)
theorem dX12_add_110 : decode cX12_add 110 = .ok (.iload 11, 2) := dk_21 (by decide +kernel)
theorem dX12_add_112 : decode cX12_add 112 = .ok (.iadd, 1) := dk_96 (by decide +kernel)
theorem dX12_add_113 : decode cX12_add 113 = .ok (.iaload, 1) := dk_46 (by decide +kernel)
theorem dX12_add_114 : decode cX12_add 114 = .ok (.i2l, 1) := dk_133 (by decide +kernel)
theorem dX12_add_115 : decode cX12_add 115 = .ok (.goto 4, 3) := dk_167 (by decide +kernel)
theorem dX12_add_118 : decode cX12_add 118 = .ok (.lconst 0, 1) := dk_9 (by decide +kernel)
theorem dX12_add_119 : decode cX12_add 119 = .ok (.lstore 12, 2) := dk_55 (by decide +kernel)
theorem dX12_add_121 : decode cX12_add 121 = .ok (.iload 11, 2) := dk_21 (by decide +kernel)
theorem dX12_add_123 : decode cX12_add 123 = .ok (.iload 8, 2) := dk_21 (by decide +kernel)
theorem dX12_add_125 : decode cX12_add 125 = .ok (.if_icmp .ge 21, 3) := dk_162 (by decide +kernel)
theorem dX12_add_128 : decode cX12_add 128 = .ok (.aload_n 0, 1) := dk_42 (by decide +kernel)
theorem dX12_add_129 : decode cX12_add 129 = .ok (.getfield 7, 3) := dk_180 (by decide +kernel)
theorem dX12_add_132 : decode cX12_add 132 = .ok (.bipush 24, 2) := dk_16 (by decide +kernel)
theorem dX12_add_134 : decode cX12_add 134 = .ok (.iload_n 3, 1) := dk_29 (by decide +kernel)
theorem dX12_add_135 : decode cX12_add 135 = .ok (.imul, 1) := dk_104 (by decide +kernel)
theorem dX12_add_136 : decode cX12_add 136 = .ok (.iconst 2, 1) := dk_5 (by decide +kernel)
theorem dX12_add_137 : decode cX12_add 137 = .ok (.iadd, 1) := dk_96 (by decide +kernel)
theorem dX12_add_138 : decode cX12_add 138 = .ok (.iload 11, 2) := dk_21 (by decide +kernel)
theorem dX12_add_140 : decode cX12_add 140 = .ok (.iadd, 1) := dk_96 (by decide +kernel)
theorem dX12_add_141 : decode cX12_add 141 = .ok (.iaload, 1) := dk_46 (by decide +kernel)
theorem dX12_add_142 : decode cX12_add 142 = .ok (.i2l, 1) := dk_133 (by decide +kernel)
theorem dX12_add_143 : decode cX12_add 143 = .ok (.goto 4, 3) := dk_167 (by decide +kernel)
theorem dX12_add_146 : decode cX12_add 146 = .ok (.lconst 0, 1) := dk_9 (by decide +kernel)
theorem dX12_add_147 : decode cX12_add 147 = .ok (.lstore 14, 2) := dk_55 (by decide +kernel)
theorem dX12_add_149 : decode cX12_add 149 = .ok (.aload_n 0, 1) := dk_42 (by decide +kernel)
theorem dX12_add_150 : decode cX12_add 150 = .ok (.getfield 13, 3) := dk_180 (by decide +kernel)
theorem dX12_add_153 : decode cX12_add 153 = .ok (.iload 11, 2) := dk_21 (by decide +kernel)
theorem dX12_add_155 : decode cX12_add 155 = .ok (.iload 5, 2) := dk_21 (by decide +kernel)
theorem dX12_add_157 : decode cX12_add 157 = .ok (.iload 6, 2) := dk_21 (by decide +kernel)
theorem dX12_add_159 : decode cX12_add 159 = .ok (.imul, 1) := dk_104 (by decide +kernel)
theorem dX12_add_160 : decode cX12_add 160 = .ok (.ifCond .lt 11, 3) := dk_155 (by decide +kernel)
theorem dX12_add_163 : decode cX12_add 163 = .ok (.lload 12, 2) := dk_22 (by decide +kernel)
theorem dX12_add_165 : decode cX12_add 165 = .ok (.lload 14, 2) := dk_22 (by decide +kernel)
theorem dX12_add_167 : decode cX12_add 167 = .ok (.ladd, 1) := dk_97 (by decide +kernel)
theorem dX12_add_168 : decode cX12_add 168 = .ok (.goto 21, 3) := dk_167 (by decide +kernel)
theorem dX12_add_171 : decode cX12_add 171 = .ok (.iload 10, 2) := dk_21 (by decide +kernel)
theorem dX12_add_173 : decode cX12_add 173 = .ok (.ifCond .eq 11, 3) := dk_153 (by decide +kernel)
theorem dX12_add_176 : decode cX12_add 176 = .ok (.lload 14, 2) := dk_22 (by decide +kernel)
theorem dX12_add_178 : decode cX12_add 178 = .ok (.lload 12, 2) := dk_22 (by decide +kernel)
theorem dX12_add_180 : decode cX12_add 180 = .ok (.lsub, 1) := dk_101 (by decide +kernel)
theorem dX12_add_181 : decode cX12_add 181 = .ok (.goto 8, 3) := dk_167 (by decide +kernel)
theorem dX12_add_184 : decode cX12_add 184 = .ok (.lload 12, 2) := dk_22 (by decide +kernel)
theorem dX12_add_186 : decode cX12_add 186 = .ok (.lload 14, 2) := dk_22 (by decide +kernel)
theorem dX12_add_188 : decode cX12_add 188 = .ok (.lsub, 1) := dk_101 (by decide +kernel)
theorem dX12_add_189 : decode cX12_add 189 = .ok (.lastore, 1) := dk_80 (by decide +kernel)
theorem dX12_add_190 : decode cX12_add 190 = .ok (.iinc 11 1, 3) := dk_132 (by decide +kernel)
theorem dX12_add_193 : decode cX12_add 193 = .ok (.goto (-107), 3) := dk_167 (by decide +kernel)
theorem dX12_add_196 : decode cX12_add 196 = .ok (.aload_n 0, 1) := dk_42 (by decide +kernel)
theorem dX12_add_197 : decode cX12_add 197 = .ok (.iload_n 1, 1) := dk_27 (by decide +kernel)
theorem dX12_add_198 : decode cX12_add 198 = .ok (.iload 9, 2) := dk_21 (by decide +kernel)
theorem dX12_add_200 : decode cX12_add 200 = .ok (.iload 5, 2) := dk_21 (by decide +kernel)
theorem dX12_add_202 : decode cX12_add 202 = .ok (.iload 6, 2) := dk_21 (by decide +kernel)
theorem dX12_add_204 : decode cX12_add 204 = .ok (.imul, 1) := dk_104 (by decide +kernel)
theorem dX12_add_205 : decode cX12_add 205 = .ok (.ifCond .lt 18, 3) := dk_155 (by decide +kernel)
theorem dX12_add_208 : decode cX12_add 208 = .ok (.iload 5, 2) := dk_21 (by decide +kernel)
theorem dX12_add_210 : decode cX12_add 210 = .ok (.ifCond .eq 8, 3) := dk_153 (by decide +kernel)
theorem dX12_add_213 : decode cX12_add 213 = .ok (.iload 5, 2) := dk_21 (by decide +kernel)
theorem dX12_add_215 : decode cX12_add 215 = .ok (.goto 20, 3) := dk_167 (by decide +kernel)
theorem dX12_add_218 : decode cX12_add 218 = .ok (.iload 6, 2) := dk_21 (by decide +kernel)
theorem dX12_add_220 : decode cX12_add 220 = .ok (.goto 15, 3) := dk_167 (by decide +kernel)
theorem dX12_add_223 : decode cX12_add 223 = .ok (.iload 10, 2) := dk_21 (by decide +kernel)
theorem dX12_add_225 : decode cX12_add 225 = .ok (.ifCond .eq 8, 3) := dk_153 (by decide +kernel)
theorem dX12_add_228 : decode cX12_add 228 = .ok (.iload 6, 2) := dk_21 (by decide +kernel)
theorem dX12_add_230 : decode cX12_add 230 = .ok (.goto 5, 3) := dk_167 (by decide +kernel)
theorem dX12_add_233 : decode cX12_add 233 = .ok (.iload 5, 2) := dk_21 (by decide +kernel)
theorem dX12_add_235 : decode cX12_add 235 = .ok (.invokevirtual 361, 3) := dk_182 (by decide +kernel)
theorem dX12_add_238 : decode cX12_add 238 = .ok (.return_, 1) := dk_177 (by decide +kernel)
def wsRX12_add : List Cond := .code yX12_add cX12_add 16 none :: ([.fieldLink RX12 7 "OptimaWorksModel" "big" "[I", .fieldLink RX12 13 "OptimaWorksModel" "sum" "[J"] ++ wsX120 ++ (wsV RX12 353 RX12 yX12_sign wsRX12_sign) ++ (wsV RX12 361 RX12 yX12_carry wsRX12_carry) ++ (wsV RX12 357 RX12 yX12_bare wsRX12_bare))
theorem iwsRX12_add_in12 : ∀ w ∈ wsX120, w ∈ wsRX12_add := fun _ h => List.mem_cons_of_mem _ (List.mem_append_left _ (List.mem_append_left _ (List.mem_append_left _ (List.mem_append_right _ h))))
theorem gwsRX12_add_0 : GoodIn wsRX12_add (wsV RX12 353 RX12 yX12_sign wsRX12_sign) := goodIn_sub (fun _ h => List.mem_cons_of_mem _ (List.mem_append_left _ (List.mem_append_left _ (List.mem_append_right _ h)))) (by decide +kernel)
theorem gwsRX12_add_1 : GoodIn wsRX12_add (wsV RX12 361 RX12 yX12_carry wsRX12_carry) := goodIn_sub (fun _ h => List.mem_cons_of_mem _ (List.mem_append_left _ (List.mem_append_right _ h))) (by decide +kernel)
theorem gwsRX12_add_2 : GoodIn wsRX12_add (wsV RX12 357 RX12 yX12_bare wsRX12_bare) := goodIn_sub (fun _ h => List.mem_cons_of_mem _ (List.mem_append_right _ h)) (by decide +kernel)
set_option maxHeartbeats 4000000 in
set_option maxRecDepth 100000 in
/-- add(s, a, b, how) -/
theorem r_X12_add (l : Launch) (dC : Nat → ClassId) (dI : Nat → Nat → Nat) (a : Nat → Nat) (k : Nat → ClassId) (h0 : Nat) (vi : Nat → Int32) (vj : Nat → Int64) (vF : Nat → Nat → Int32) (vG : Nat → Nat → Int64) (sn : Nat) (hs : sn < 1100) (an : Nat) (bn : Nat) (xa : Int) (xb : Int) (hw : Int32) (hI : Int) (hna : an < 1100) (hnb : bn < 1100) (hxa : Nu (vF 0) an xa) (hxb : Nu (vF 0) bn xb) (hhw : (hI = 1 ∧ hw = 1) ∨ (hI = -1 ∧ hw = -1)) (hbig : (xa + hI * xb).natAbs < 2 ^ 616) (sz : Nat) : Met l yX12_add wsRX12_add ({ frames := 1, cells := 0, slots := 0, locals := 28 }) (va_Pc [.ref h0, .int (nI sn), .int (nI an), .int (nI bn), .int hw] (fun U => U.heap.size = sz ∧ va_P (dC, dI) vwCl (WR a k h0 vi vj vF vG) U.heap ∧ va_K (dC, dI) vwCl (tX12 k) U ∧ va_D (fun _ => True) (WR a k h0 vi vj vF vG))) (va_Qv (fun (u : (Nat → Int32) × (Nat → Int64)) => (Nu (u.1) sn (xa + hI * xb)) ∧ (∀ q, (q < 24 * sn ∨ 24 * sn + 24 ≤ q) → (u.1) q = vF 0 q)) (fun (u : (Nat → Int32) × (Nat → Int64)) t => va_P (dC, dI) vwCl (WR a k h0 vi vj (fT vF 0 (u.1)) (fT vG 1 (u.2))) t.heap ∧ va_D (va_A (WR a k h0 vi vj vF vG) sz) (WR a k h0 vi vj (fT vF 0 (u.1)) (fT vG 1 (u.2)))) (va_A (WR a k h0 vi vj vF vG) sz)) 0 0 (va_A (WR a k h0 vi vj vF vG) sz) := by
  refine Met.ofW (cc := cX12_add) (maxL := 16) (ret := none) (by decide) rfl ?_
  intro p e s m args below meth c s₁ B hml hv
  obtain ⟨rfl, hsz, hP, hK, hD0⟩ := hv
  have hx := B.exec
  have hb := B.bytes
  have hr := B.returns
  have hts := atoms_spec (ws := wsRX12_add) B.pre
  have hown : s.vm.findClass RX12 = some m.cls := findClass_of_methodNamed B.named
  have hlocks := B.notSynchronized
  subst hsz
  have hD := hD0.self (sz := s.heap.size)
  generalize hAe : va_A (WR a k h0 vi vj vF vG) s.heap.size = A at hD ⊢
  have hA : ∀ q : Nat, s.heap.size ≤ q → A q := fun q h => by rw [← hAe]; exact Or.inr h
  have hS : va_S A s.heap s.heap [] := va_S.rf
  have hl := lv_entry ([.ref h0, .int (nI sn), .int (nI an), .int (nI bn), .int hw]) (n := 16) (Nat.le_of_ble_eq_true rfl)
  rw [lg_entry_eq]
  generalize (lg_sl ([.ref h0, .int (nI sn), .int (nI an), .int (nI bn), .int hw]) ++ List.replicate (16 - (lg_sl ([.ref h0, .int (nI sn), .int (nI an), .int (nI bn), .int hw])).length) Slot.unset).toArray = ls at hl ⊢
  have hl : lv_has ls 16 [(0, .ref h0), (1, .int (nI sn)), (2, .int (nI an)), (3, .int (nI bn)), (4, .int hw)] := hl
  obtain ⟨na, hna1, hna2, hna3, hna4, hna5, hna6⟩ := id hxa
  obtain ⟨nb_, hnb1, hnb2, hnb3, hnb4, hnb5, hnb6⟩ := id hxb
  have sa := sgT hna6
  have sb := sgTimes (sgT hnb6) hhw
  have sxy := sgMul sa sb
  have hyb : (hI * xb).natAbs = xb.natAbs := by rcases hhw with ⟨h9, _⟩ | ⟨h9, _⟩ <;> rw [h9] <;> omega
  generalize hYB : hI * xb = yb at *
  refine lv_aload_n hx hb dX12_add_0 rfl (lv_at hl 0 rfl) ?_
  refine lv_iload_n hx hb dX12_add_1 rfl (lv_at hl 2 rfl) ?_
  have hFc := allFree hD hS hA
  refine va_calli (va_runV (As := [.int (nI an)]) (rest := []) ⟨hx, hb, hml, hown, hts⟩ (r_X12_sign l dC dI a k h0 vi vj vF vG an (by first | assumption | decide | omega | rfl) s.heap.size) (cwV 1 hts gwsRX12_add_0 rfl rfl rfl (by decide +kernel) ⟨by decide +kernel, by decide +kernel⟩) ⟨fun a U g mk q => by obtain ⟨q0, q1, qP, qK, qD⟩ := q; exact ⟨q0, q1, qP, va_K.moved (u := U) (U := U.calling g mk a) (Vm.Alike.refl U.vm) qK, qD⟩, va_recv hK hP (ci := 12) (q0 := 0) rfl rfl, fun U hU9 hW => ⟨rfl, by rw [hU9], by rw [hU9]; exact hP, va_K.moved hW.alike hK, hD.weaken (fun _ _ _ _ => trivial)⟩⟩ rfl rfl hl.1 rfl (lv_room (Nat.le_of_ble_eq_true rfl)) dX12_add_2 ⟨by decide +kernel, by decide +kernel⟩) hS (fun q _ h => hFc q h) hFc (fun r2 u t9_ H1 locs ht hvm hw9 hB9 hz1 hk1 hS => ?_)
  obtain ⟨hP1, hD1⟩ := hB9
  rw [ht] at hP1
  have hP := hP1
  have hD := hD1.weaken (fun _ q _ h => hFc q.1 h)
  generalize H1 = H at hP hS ⊢
  have hP : va_P (dC, dI) vwCl (WR a k h0 vi vj vF vG) H := hP
  have hD : va_D A (WR a k h0 vi vj vF vG) := hD
  obtain rfl := hw9
  refine lv_istore hx hb dX12_add_5 hl (by decide) rfl (fun ls (hl : lv_has ls _ ([(5, .int (vF 0 (24 * an))), (0, .ref h0), (1, .int (nI sn)), (2, .int (nI an)), (3, .int (nI bn)), (4, .int hw)])) => ?_)
  refine lv_aload_n hx hb dX12_add_7 rfl (lv_at hl 1 rfl) ?_
  refine lv_iload_n hx hb dX12_add_8 rfl (lv_at hl 4 rfl) ?_
  have hFc := allFree hD hS hA
  refine va_calli (va_runV (As := [.int (nI bn)]) (rest := []) ⟨hx, hb, hml, hown, hts⟩ (r_X12_sign l dC dI a k h0 vi vj vF vG bn (by first | assumption | decide | omega | rfl) H.size) (cwV 1 hts gwsRX12_add_0 rfl rfl rfl (by decide +kernel) ⟨by decide +kernel, by decide +kernel⟩) ⟨fun a U g mk q => by obtain ⟨q0, q1, qP, qK, qD⟩ := q; exact ⟨q0, q1, qP, va_K.moved (u := U) (U := U.calling g mk a) (Vm.Alike.refl U.vm) qK, qD⟩, va_recv hK hP (ci := 12) (q0 := 0) rfl rfl, fun U hU9 hW => ⟨rfl, by rw [hU9], by rw [hU9]; exact hP, va_K.moved hW.alike hK, hD.weaken (fun _ _ _ _ => trivial)⟩⟩ rfl rfl hl.1 rfl (lv_room (Nat.le_of_ble_eq_true rfl)) dX12_add_9 ⟨by decide +kernel, by decide +kernel⟩) hS (fun q _ h => hFc q h) hFc (fun r9 u t9_ H1 locs ht hvm hw9 hB9 hz1 hk1 hS => ?_)
  obtain ⟨hP1, hD1⟩ := hB9
  rw [ht] at hP1
  have hP := hP1
  have hD := hD1.weaken (fun _ q _ h => hFc q.1 h)
  generalize H1 = H at hP hS ⊢
  have hP : va_P (dC, dI) vwCl (WR a k h0 vi vj vF vG) H := hP
  have hD : va_D A (WR a k h0 vi vj vF vG) := hD
  obtain rfl := hw9
  refine lv_iload hx hb dX12_add_12 (lv_at hl 5 rfl) ?_
  refine lv_imul hx hb dX12_add_14 ?_
  refine lv_istore hx hb dX12_add_15 hl (by decide) rfl (fun ls (hl : lv_has ls _ ([(6, .int ((vF 0 (24 * bn)) * hw)), (5, .int (vF 0 (24 * an))), (0, .ref h0), (1, .int (nI sn)), (2, .int (nI an)), (3, .int (nI bn)), (4, .int hw)])) => ?_)
  refine lv_aload_n hx hb dX12_add_17 rfl (lv_at hl 2 rfl) ?_
  refine va_get (D := (dC, dI)) (ci := 12) (v := .ref (a 0)) (C := RX12) (T := TX12) (N := 163) (fs := fM (vS a vi vj)) hx hb hts iwsRX12_add_in12 hown hK hP 0 rfl rfl 1 (by decide) (hts (.fieldLink RX12 7 "OptimaWorksModel" "big" "[I") (by decide +kernel)) (fun _ h9 => h9) rfl dX12_add_18 ?_
  refine lv_bipush (v := 24) hx hb dX12_add_21 (by decide) ?_
  refine lv_iload_n hx hb dX12_add_23 rfl (lv_at hl 4 rfl) ?_
  refine lv_imul hx hb dX12_add_24 ?_
  refine lv_topi (fun y1 hy1 => ?_)
  obtain rfl : (nI (24 * an)) = y1 := (hy1.trans (pk_mul 24 an)).symm
  refine lv_iconst (v := 1) hx hb dX12_add_25 (by decide) ?_
  refine lv_iadd hx hb dX12_add_26 ?_
  refine lv_topi (fun y2 hy2 => ?_)
  obtain rfl : (nI ((24 * an) + 1)) = y2 := (hy2.trans (nI_add (24 * an) 1)).symm
  refine va_iald (cA := k 0) (n := 26400) (f := (vF 0)) hx hb hK hP 1 0 (WR_get 0 (by decide)) (TR_get 0 (by decide)) (vp_in_nI (show ((24 * an) + 1) < 26400 by omega) (by omega)) dX12_add_27 ?_
  refine lv_topi (fun y3 hy3 => ?_)
  obtain rfl : ((vF 0) ((24 * an) + 1)) = y3 := (hy3.trans (by rw [nI_clamp (by omega)])).symm
  refine lv_topi (fun y4 hy4 => ?_)
  obtain rfl : (nI na) = y4 := (hy4.trans (hna2)).symm
  refine lv_istore hx hb dX12_add_28 hl (by decide) rfl (fun ls (hl : lv_has ls _ ([(7, .int (nI na)), (6, .int ((vF 0 (24 * bn)) * hw)), (5, .int (vF 0 (24 * an))), (0, .ref h0), (1, .int (nI sn)), (2, .int (nI an)), (3, .int (nI bn)), (4, .int hw)])) => ?_)
  refine lv_aload_n hx hb dX12_add_30 rfl (lv_at hl 3 rfl) ?_
  refine va_get (D := (dC, dI)) (ci := 12) (v := .ref (a 0)) (C := RX12) (T := TX12) (N := 163) (fs := fM (vS a vi vj)) hx hb hts iwsRX12_add_in12 hown hK hP 0 rfl rfl 1 (by decide) (hts (.fieldLink RX12 7 "OptimaWorksModel" "big" "[I") (by decide +kernel)) (fun _ h9 => h9) rfl dX12_add_31 ?_
  refine lv_bipush (v := 24) hx hb dX12_add_34 (by decide) ?_
  refine lv_iload_n hx hb dX12_add_36 rfl (lv_at hl 6 rfl) ?_
  refine lv_imul hx hb dX12_add_37 ?_
  refine lv_topi (fun y5 hy5 => ?_)
  obtain rfl : (nI (24 * bn)) = y5 := (hy5.trans (pk_mul 24 bn)).symm
  refine lv_iconst (v := 1) hx hb dX12_add_38 (by decide) ?_
  refine lv_iadd hx hb dX12_add_39 ?_
  refine lv_topi (fun y6 hy6 => ?_)
  obtain rfl : (nI ((24 * bn) + 1)) = y6 := (hy6.trans (nI_add (24 * bn) 1)).symm
  refine va_iald (cA := k 0) (n := 26400) (f := (vF 0)) hx hb hK hP 1 0 (WR_get 0 (by decide)) (TR_get 0 (by decide)) (vp_in_nI (show ((24 * bn) + 1) < 26400 by omega) (by omega)) dX12_add_40 ?_
  refine lv_topi (fun y7 hy7 => ?_)
  obtain rfl : ((vF 0) ((24 * bn) + 1)) = y7 := (hy7.trans (by rw [nI_clamp (by omega)])).symm
  refine lv_topi (fun y8 hy8 => ?_)
  obtain rfl : (nI nb_) = y8 := (hy8.trans (hnb2)).symm
  refine lv_istore hx hb dX12_add_41 hl (by decide) rfl (fun ls (hl : lv_has ls _ ([(8, .int (nI nb_)), (7, .int (nI na)), (6, .int ((vF 0 (24 * bn)) * hw)), (5, .int (vF 0 (24 * an))), (0, .ref h0), (1, .int (nI sn)), (2, .int (nI an)), (3, .int (nI bn)), (4, .int hw)])) => ?_)
  refine lv_iload hx hb dX12_add_43 (lv_at hl 1 rfl) ?_
  refine lv_iload hx hb dX12_add_45 (lv_at hl 0 rfl) ?_
  refine lv_icmp_le (tgt := 55) hx hb dX12_add_47 (by decide) (fun c_47 => ?_) (fun c_47 => ?_)
  · have t_47 : ((na : Nat) : Int) ≤ ((nb_ : Nat) : Int) := toI_le c_47 (nI_toInt (by omega)) (nI_toInt (by omega))
    refine lv_iload hx hb dX12_add_55 (lv_at hl 0 rfl) ?_
    obtain ⟨wn, hwn1, hwn2, hwn3⟩ : ∃ wn, wn = nb_ ∧ na ≤ wn ∧ nb_ ≤ wn := ⟨_, rfl, by omega, by omega⟩
    refine lv_topi (fun y9 hy9 => ?_)
    obtain rfl : (nI wn) = y9 := (hy9.trans (by rw [hwn1])).symm
    refine lv_istore hx hb dX12_add_57 hl (by decide) rfl (fun ls (hl : lv_has ls _ ([(9, .int (nI wn)), (8, .int (nI nb_)), (7, .int (nI na)), (6, .int ((vF 0 (24 * bn)) * hw)), (5, .int (vF 0 (24 * an))), (0, .ref h0), (1, .int (nI sn)), (2, .int (nI an)), (3, .int (nI bn)), (4, .int hw)])) => ?_)
    refine lv_iload hx hb dX12_add_59 (lv_at hl 4 rfl) ?_
    refine lv_iload hx hb dX12_add_61 (lv_at hl 3 rfl) ?_
    refine lv_imul hx hb dX12_add_63 ?_
    refine lv_if_ge (tgt := 80) hx hb dX12_add_64 (by decide) (fun c_64 => ?_) (fun c_64 => ?_)
    · have t_64 : (((vF 0 (24 * an)) * ((vF 0 (24 * bn)) * hw))).toInt ≥ 0 := toI_ge c_64 rfl (by decide)
      refine lv_iconst (v := 0) hx hb dX12_add_80 (by decide) ?_
      refine lv_istore hx hb dX12_add_81 hl (by decide) rfl (fun ls (hl : lv_has ls _ ([(10, .int 0), (9, .int (nI wn)), (8, .int (nI nb_)), (7, .int (nI na)), (6, .int ((vF 0 (24 * bn)) * hw)), (5, .int (vF 0 (24 * an))), (0, .ref h0), (1, .int (nI sn)), (2, .int (nI an)), (3, .int (nI bn)), (4, .int hw)])) => ?_)
      refine lv_iconst (v := 0) hx hb dX12_add_83 (by decide) ?_
      refine lv_istore hx hb dX12_add_84 hl (by decide) rfl (fun ls (hl : lv_has ls _ ([(11, .int 0), (10, .int 0), (9, .int (nI wn)), (8, .int (nI nb_)), (7, .int (nI na)), (6, .int ((vF 0 (24 * bn)) * hw)), (5, .int (vF 0 (24 * an))), (0, .ref h0), (1, .int (nI sn)), (2, .int (nI an)), (3, .int (nI bn)), (4, .int hw)])) => ?_)
      have e9 : fT vG 1 (vG 1) = vG := by funext q9; by_cases h9_1 : q9 = 1; (subst h9_1; exact (fT_eq _ _ _).trans (Eq.trans (by first | rfl | assumption | (symm; assumption) | (subst_vars; rfl)) (Eq.refl _).symm)); exact (fT_ne _ _ h9_1).trans (Eq.refl _).symm
      have hP : va_P (dC, dI) vwCl (WR a k h0 vi vj vF (fT vG 1 (vG 1))) H := by rw [e9]; exact hP
      have hD : va_D A (WR a k h0 vi vj vF (fT vG 1 (vG 1))) := by rw [e9]; exact hD
      clear e9
      have hl : lv_has _ _ ([(11, .int (nI 0)), (0, .ref h0), (1, .int (nI sn)), (2, .int (nI an)), (3, .int (nI bn)), (5, .int (vF 0 (24 * an))), (6, .int ((vF 0 (24 * bn)) * hw)), (7, .int (nI na)), (8, .int (nI nb_)), (9, .int (nI wn)), (10, .int 0)]) := lv_sub hl [0, 7, 8, 9, 10, 6, 5, 4, 3, 2, 1] rfl
      refine (fun (loop : ∀ (n9 : Nat) (i : Nat) (gs : Nat → Int64) (H : Heap) (locs : List Loc) (ls : Array Slot), (i ≤ wn) → (∀ q, q < i → (gs q).toInt = 1 * la28 (vF 0) (24 * an + 2) na q + 1 * la28 (vF 0) (24 * bn + 2) nb_ q) →  (wn < i + n9) → va_P (dC, dI) vwCl (WR a k h0 vi vj vF (fT vG 1 gs)) H → va_D A (WR a k h0 vi vj vF (fT vG 1 gs)) → va_S A s.heap H locs → lv_has ls 16 [(11, .int (nI i)), (0, .ref h0), (1, .int (nI sn)), (2, .int (nI an)), (3, .int (nI bn)), (5, .int (vF 0 (24 * an))), (6, .int ((vF 0 (24 * bn)) * hw)), (7, .int (nI na)), (8, .int (nI nb_)), (9, .int (nI wn)), (10, .int 0)] → W p l e _ s m _ below meth c H locs 0 0 _ (F0 m 86 ls [])) => loop (wn + 1) 0 (vG 1) _ _ _ (by omega) (fun q h => absurd h (by omega)) (by omega) hP hD hS hl) ?_
      intro n9
      induction n9 with
      | zero => intro i gs H locs ls hi hE hf9; exact False.elim (by omega)
      | succ n9 ih86 =>
        intro i gs H locs ls hi hE hf86 hP hD hS hl
        refine lv_iload hx hb dX12_add_86 (lv_at hl 0 rfl) ?_
        refine lv_iload hx hb dX12_add_88 (lv_at hl 9 rfl) ?_
        refine lv_icmp_ge (tgt := 196) hx hb dX12_add_90 (by decide) (fun c_90 => ?_) (fun c_90 => ?_)
        · have t_90 : ((i : Nat) : Int) ≥ ((wn : Nat) : Int) := toI_ge c_90 (nI_toInt (by omega)) (nI_toInt (by omega))
          refine lv_aload_n hx hb dX12_add_196 rfl (lv_at hl 1 rfl) ?_
          refine lv_iload_n hx hb dX12_add_197 rfl (lv_at hl 2 rfl) ?_
          refine lv_iload hx hb dX12_add_198 (lv_at hl 9 rfl) ?_
          refine lv_iload hx hb dX12_add_200 (lv_at hl 5 rfl) ?_
          refine lv_iload hx hb dX12_add_202 (lv_at hl 6 rfl) ?_
          refine lv_imul hx hb dX12_add_204 ?_
          refine lv_if_lt (tgt := 223) hx hb dX12_add_205 (by decide) (fun c9 => False.elim (by have t9 : (((vF 0 (24 * an)) * ((vF 0 (24 * bn)) * hw))).toInt < 0 := toI_lt c9 rfl (by decide); omega)) (fun c_205 => ?_)
          have t_205 : ¬ (((vF 0 (24 * an)) * ((vF 0 (24 * bn)) * hw))).toInt < 0 := toI_nlt c_205 rfl (by decide)
          refine lv_iload hx hb dX12_add_208 (lv_at hl 5 rfl) ?_
          refine lv_if_eq (tgt := 218) hx hb dX12_add_210 (by decide) (fun c_210 => ?_) (fun c_210 => ?_)
          · have t_210 : ((vF 0 (24 * an))).toInt = 0 := toI_eq c_210 rfl (by decide)
            refine lv_iload hx hb dX12_add_218 (lv_at hl 6 rfl) ?_
            refine lv_goto (tgt := 235) hx hb dX12_add_220 (by decide) ?_
            have hsv := sum28 hna3 hnb3 hwn2 hwn3 (gs := gs) (ca := 1) (cb := 1) (fun q hq => hE q (by omega))
            rw [← hna5, ← hnb5] at hsv
            have hFc := allFree hD hS hA
            refine va_callv (va_runV (As := [.int (nI sn), .int (nI wn), .int ((vF 0 (24 * bn)) * hw)]) (rest := []) ⟨hx, hb, hml, hown, hts⟩ (r_X12_carry l dC dI a k h0 vi vj vF (fT vG 1 gs) sn wn ((vF 0 (24 * bn)) * hw) ((xa + yb).natAbs) (if xa + yb < 0 then -1 else 1) (by first | assumption | decide | omega | rfl) (by first | assumption | decide | omega | rfl) (fun q hq => by show -1152921504606846976 ≤ (gs q).toInt ∧ (gs q).toInt ≤ 1152921504606846976; have := hE q (by omega); have := la_bd hna3 q; have := la_bd hnb3 q; omega) (by show sv28 gs wn = _; rw [hsv]; omega) (by first | assumption | decide | omega | rfl) (fun h9 => by split <;> first | exact Or.inr ⟨rfl, ofm1 (by omega)⟩ | exact Or.inl ⟨rfl, of1 (by omega)⟩) H.size) (cwV 3 hts gwsRX12_add_1 rfl rfl rfl (by decide +kernel) ⟨by decide +kernel, by decide +kernel⟩) ⟨fun a U g mk q => by obtain ⟨q0, q1, qP, qK, qD⟩ := q; exact ⟨q0, q1, qP, va_K.moved (u := U) (U := U.calling g mk a) (Vm.Alike.refl U.vm) qK, qD⟩, va_recv hK hP (ci := 12) (q0 := 0) rfl rfl, fun U hU9 hW => ⟨rfl, by rw [hU9], by rw [hU9]; exact hP, va_K.moved hW.alike hK, hD.weaken (fun _ _ _ _ => trivial)⟩⟩ rfl rfl hl.1 rfl (lv_room (Nat.le_of_ble_eq_true rfl)) dX12_add_235 ⟨by decide +kernel, by decide +kernel⟩) hS (fun q _ h => hFc q h) hFc (fun u t9_ H1 locs ht hvm hw9 hB9 hz1 hk1 hS => ?_)
            obtain ⟨g235, hwit235⟩ : ∃ w9, w9 = u := ⟨u, rfl⟩
            subst hwit235
            obtain ⟨hP1, hD1⟩ := hB9
            rw [ht] at hP1
            have hP := hP1
            have hD := hD1.weaken (fun _ q _ h => hFc q.1 h)
            generalize H1 = H at hP hS ⊢
            have hP : va_P (dC, dI) vwCl (WR a k h0 vi vj (fT vF 0 g235) (fT vG 1 gs)) H := hP
            have hD : va_D A (WR a k h0 vi vj (fT vF 0 g235) (fT vG 1 gs)) := hD
            obtain ⟨f235_0, f235_1⟩ := hw9
            refine W.widen (k := 0) (n := 0) (by decide +kernel) (by decide +kernel) ?_
            exact W.vret hx hb hr (fun t9_ ht hW => ⟨⟨(g235, gs), rfl, by (try dsimp only); (have e9 : (if xa + yb < 0 then -1 else 1) * (((xa + yb).natAbs : Nat) : Int) = xa + yb := by split <;> omega); rw [e9] at f235_0; exact ⟨f235_0, f235_1⟩, by rw [ht]; exact hP, hD⟩, hS.F ht⟩) hS.2.2 dX12_add_238
          · have t_210 : ¬ ((vF 0 (24 * an))).toInt = 0 := toI_neq c_210 rfl (by decide)
            refine lv_iload hx hb dX12_add_213 (lv_at hl 5 rfl) ?_
            refine lv_goto (tgt := 235) hx hb dX12_add_215 (by decide) ?_
            have hsv := sum28 hna3 hnb3 hwn2 hwn3 (gs := gs) (ca := 1) (cb := 1) (fun q hq => hE q (by omega))
            rw [← hna5, ← hnb5] at hsv
            have hFc := allFree hD hS hA
            refine va_callv (va_runV (As := [.int (nI sn), .int (nI wn), .int (vF 0 (24 * an))]) (rest := []) ⟨hx, hb, hml, hown, hts⟩ (r_X12_carry l dC dI a k h0 vi vj vF (fT vG 1 gs) sn wn (vF 0 (24 * an)) ((xa + yb).natAbs) (if xa + yb < 0 then -1 else 1) (by first | assumption | decide | omega | rfl) (by first | assumption | decide | omega | rfl) (fun q hq => by show -1152921504606846976 ≤ (gs q).toInt ∧ (gs q).toInt ≤ 1152921504606846976; have := hE q (by omega); have := la_bd hna3 q; have := la_bd hnb3 q; omega) (by show sv28 gs wn = _; rw [hsv]; omega) (by first | assumption | decide | omega | rfl) (fun h9 => by split <;> first | exact Or.inr ⟨rfl, ofm1 (by omega)⟩ | exact Or.inl ⟨rfl, of1 (by omega)⟩) H.size) (cwV 3 hts gwsRX12_add_1 rfl rfl rfl (by decide +kernel) ⟨by decide +kernel, by decide +kernel⟩) ⟨fun a U g mk q => by obtain ⟨q0, q1, qP, qK, qD⟩ := q; exact ⟨q0, q1, qP, va_K.moved (u := U) (U := U.calling g mk a) (Vm.Alike.refl U.vm) qK, qD⟩, va_recv hK hP (ci := 12) (q0 := 0) rfl rfl, fun U hU9 hW => ⟨rfl, by rw [hU9], by rw [hU9]; exact hP, va_K.moved hW.alike hK, hD.weaken (fun _ _ _ _ => trivial)⟩⟩ rfl rfl hl.1 rfl (lv_room (Nat.le_of_ble_eq_true rfl)) dX12_add_235 ⟨by decide +kernel, by decide +kernel⟩) hS (fun q _ h => hFc q h) hFc (fun u t9_ H1 locs ht hvm hw9 hB9 hz1 hk1 hS => ?_)
            obtain ⟨g235_1, hwit235_1⟩ : ∃ w9, w9 = u := ⟨u, rfl⟩
            subst hwit235_1
            obtain ⟨hP1, hD1⟩ := hB9
            rw [ht] at hP1
            have hP := hP1
            have hD := hD1.weaken (fun _ q _ h => hFc q.1 h)
            generalize H1 = H at hP hS ⊢
            have hP : va_P (dC, dI) vwCl (WR a k h0 vi vj (fT vF 0 g235_1) (fT vG 1 gs)) H := hP
            have hD : va_D A (WR a k h0 vi vj (fT vF 0 g235_1) (fT vG 1 gs)) := hD
            obtain ⟨f235_1_0, f235_1_1⟩ := hw9
            refine W.widen (k := 0) (n := 0) (by decide +kernel) (by decide +kernel) ?_
            exact W.vret hx hb hr (fun t9_ ht hW => ⟨⟨(g235_1, gs), rfl, by (try dsimp only); (have e9 : (if xa + yb < 0 then -1 else 1) * (((xa + yb).natAbs : Nat) : Int) = xa + yb := by split <;> omega); rw [e9] at f235_1_0; exact ⟨f235_1_0, f235_1_1⟩, by rw [ht]; exact hP, hD⟩, hS.F ht⟩) hS.2.2 dX12_add_238
        · have t_90 : ¬ ((i : Nat) : Int) ≥ ((wn : Nat) : Int) := toI_nge c_90 (nI_toInt (by omega)) (nI_toInt (by omega))
          refine lv_iload hx hb dX12_add_93 (lv_at hl 0 rfl) ?_
          refine lv_iload hx hb dX12_add_95 (lv_at hl 7 rfl) ?_
          refine lv_icmp_ge (tgt := 118) hx hb dX12_add_97 (by decide) (fun c_97 => ?_) (fun c_97 => ?_)
          · have t_97 : ((i : Nat) : Int) ≥ ((na : Nat) : Int) := toI_ge c_97 (nI_toInt (by omega)) (nI_toInt (by omega))
            refine lv_lconst (v := 0) hx hb dX12_add_118 (by decide) ?_
            have eU : (0 : Int64).toInt = la28 (vF 0) (24 * an + 2) na i := by unfold la28; rw [if_neg (by omega)]; decide
            refine lv_lstore hx hb dX12_add_119 hl (by decide) rfl (fun ls (hl : lv_has ls _ ([(12, .long 0), (11, .int (nI i)), (0, .ref h0), (1, .int (nI sn)), (2, .int (nI an)), (3, .int (nI bn)), (5, .int (vF 0 (24 * an))), (6, .int ((vF 0 (24 * bn)) * hw)), (7, .int (nI na)), (8, .int (nI nb_)), (9, .int (nI wn)), (10, .int 0)])) => ?_)
            refine lv_iload hx hb dX12_add_121 (lv_at hl 1 rfl) ?_
            refine lv_iload hx hb dX12_add_123 (lv_at hl 9 rfl) ?_
            refine lv_icmp_ge (tgt := 146) hx hb dX12_add_125 (by decide) (fun c_125 => ?_) (fun c_125 => ?_)
            · have t_125 : ((i : Nat) : Int) ≥ ((nb_ : Nat) : Int) := toI_ge c_125 (nI_toInt (by omega)) (nI_toInt (by omega))
              refine lv_lconst (v := 0) hx hb dX12_add_146 (by decide) ?_
              have eV : (0 : Int64).toInt = la28 (vF 0) (24 * bn + 2) nb_ i := by unfold la28; rw [if_neg (by omega)]; decide
              have bU := la_bd hna3 i
              have bV := la_bd hnb3 i
              refine lv_lstore hx hb dX12_add_147 hl (by decide) rfl (fun ls (hl : lv_has ls _ ([(14, .long 0), (12, .long 0), (11, .int (nI i)), (0, .ref h0), (1, .int (nI sn)), (2, .int (nI an)), (3, .int (nI bn)), (5, .int (vF 0 (24 * an))), (6, .int ((vF 0 (24 * bn)) * hw)), (7, .int (nI na)), (8, .int (nI nb_)), (9, .int (nI wn)), (10, .int 0)])) => ?_)
              refine lv_aload_n hx hb dX12_add_149 rfl (lv_at hl 3 rfl) ?_
              refine va_get (D := (dC, dI)) (ci := 12) (v := .ref (a 1)) (C := RX12) (T := TX12) (N := 163) (fs := fM (vS a vi vj)) hx hb hts iwsRX12_add_in12 hown hK hP 0 rfl rfl 2 (by decide) (hts (.fieldLink RX12 13 "OptimaWorksModel" "sum" "[J") (by decide +kernel)) (fun _ h9 => h9) rfl dX12_add_150 ?_
              refine lv_iload hx hb dX12_add_153 (lv_at hl 2 rfl) ?_
              refine lv_iload hx hb dX12_add_155 (lv_at hl 7 rfl) ?_
              refine lv_iload hx hb dX12_add_157 (lv_at hl 8 rfl) ?_
              refine lv_imul hx hb dX12_add_159 ?_
              refine lv_if_lt (tgt := 171) hx hb dX12_add_160 (by decide) (fun c9 => False.elim (by have t9 : (((vF 0 (24 * an)) * ((vF 0 (24 * bn)) * hw))).toInt < 0 := toI_lt c9 rfl (by decide); omega)) (fun c_160 => ?_)
              have t_160 : ¬ (((vF 0 (24 * an)) * ((vF 0 (24 * bn)) * hw))).toInt < 0 := toI_nlt c_160 rfl (by decide)
              refine lv_lload hx hb dX12_add_163 (lv_at hl 1 rfl) ?_
              refine lv_lload hx hb dX12_add_165 (lv_at hl 0 rfl) ?_
              refine lv_ladd hx hb dX12_add_167 ?_
              refine lv_topl (fun y10 hy10 => ?_)
              obtain rfl : 0 = y10 := (hy10.trans (by decide)).symm
              refine lv_goto (tgt := 189) hx hb dX12_add_168 (by decide) ?_
              have eS : (0 : Int64).toInt = 1 * la28 (vF 0) (24 * an + 2) na i + 1 * la28 (vF 0) (24 * bn + 2) nb_ i := by (have e0 : (0 : Int64).toInt = 0 := by decide); rw [e0] at eU eV ⊢; omega
              refine va_last (cA := k 1) (n := 48) (f := gs) hx hb hK hP hD hS 2 1 (WR_get 1 (by decide)) (TR_get 1 (by decide)) (vp_in_nI (show i < 48 by omega) (by omega)) dX12_add_189 (fun H locs hP hD hS => ?_)
              have e9 : fT vG 1 (vp_updL gs ((nI i)).toNatClampNeg 0) = fT (fT vG 1 gs) 1 (vp_updL gs ((nI i)).toNatClampNeg 0) := (fT_sm _ _ _ _).symm
              have hP : va_P (dC, dI) vwCl (WR a k h0 vi vj vF (fT vG 1 (vp_updL gs ((nI i)).toNatClampNeg 0))) H := by rw [e9, ← WR_G 1 (by decide) _ rfl]; exact hP
              have hD : va_D A (WR a k h0 vi vj vF (fT vG 1 (vp_updL gs ((nI i)).toNatClampNeg 0))) := by rw [e9, ← WR_G 1 (by decide) _ rfl]; exact hD
              clear e9
              refine lv_iinc (v := (nI (i + 1))) hx hb dX12_add_190 hl (k := 2) rfl (nI_add i 1) (by decide) rfl (fun ls (hl : lv_has ls _ ([(11, .int (nI (i + 1))), (14, .long 0), (12, .long 0), (0, .ref h0), (1, .int (nI sn)), (2, .int (nI an)), (3, .int (nI bn)), (5, .int (vF 0 (24 * an))), (6, .int ((vF 0 (24 * bn)) * hw)), (7, .int (nI na)), (8, .int (nI nb_)), (9, .int (nI wn)), (10, .int 0)])) => ?_)
              refine lv_goto (tgt := 86) hx hb dX12_add_193 (by decide) ?_
              have hl : lv_has _ _ ([(11, .int (nI (i + 1))), (0, .ref h0), (1, .int (nI sn)), (2, .int (nI an)), (3, .int (nI bn)), (5, .int (vF 0 (24 * an))), (6, .int ((vF 0 (24 * bn)) * hw)), (7, .int (nI na)), (8, .int (nI nb_)), (9, .int (nI wn)), (10, .int 0)]) := lv_sub hl [0, 3, 4, 5, 6, 7, 8, 9, 10, 11, 12] rfl
              exact ih86 (i + 1) (vp_updL gs ((nI i)).toNatClampNeg 0) _ _ _ (by omega) (fun q hq => by rw [updL_at (by omega)]; by_cases e9 : q = i; (rw [if_pos e9, e9]; exact eS); (rw [if_neg e9]; exact hE q (by omega))) (by omega) hP hD hS hl
            · have t_125 : ¬ ((i : Nat) : Int) ≥ ((nb_ : Nat) : Int) := toI_nge c_125 (nI_toInt (by omega)) (nI_toInt (by omega))
              refine lv_aload_n hx hb dX12_add_128 rfl (lv_at hl 2 rfl) ?_
              refine va_get (D := (dC, dI)) (ci := 12) (v := .ref (a 0)) (C := RX12) (T := TX12) (N := 163) (fs := fM (vS a vi vj)) hx hb hts iwsRX12_add_in12 hown hK hP 0 rfl rfl 1 (by decide) (hts (.fieldLink RX12 7 "OptimaWorksModel" "big" "[I") (by decide +kernel)) (fun _ h9 => h9) rfl dX12_add_129 ?_
              refine lv_bipush (v := 24) hx hb dX12_add_132 (by decide) ?_
              refine lv_iload_n hx hb dX12_add_134 rfl (lv_at hl 5 rfl) ?_
              refine lv_imul hx hb dX12_add_135 ?_
              refine lv_topi (fun y11 hy11 => ?_)
              obtain rfl : (nI (24 * bn)) = y11 := (hy11.trans (pk_mul 24 bn)).symm
              refine lv_iconst (v := 2) hx hb dX12_add_136 (by decide) ?_
              refine lv_iadd hx hb dX12_add_137 ?_
              refine lv_topi (fun y12 hy12 => ?_)
              obtain rfl : (nI ((24 * bn) + 2)) = y12 := (hy12.trans (nI_add (24 * bn) 2)).symm
              refine lv_iload hx hb dX12_add_138 (lv_at hl 1 rfl) ?_
              refine lv_iadd hx hb dX12_add_140 ?_
              refine lv_topi (fun y13 hy13 => ?_)
              obtain rfl : (nI (((24 * bn) + 2) + i)) = y13 := (hy13.trans (nI_add ((24 * bn) + 2) i)).symm
              refine va_iald (cA := k 0) (n := 26400) (f := (vF 0)) hx hb hK hP 1 0 (WR_get 0 (by decide)) (TR_get 0 (by decide)) (vp_in_nI (show (((24 * bn) + 2) + i) < 26400 by omega) (by omega)) dX12_add_141 ?_
              refine lv_topi (fun y14 hy14 => ?_)
              obtain rfl : ((vF 0) (((24 * bn) + 2) + i)) = y14 := (hy14.trans (by rw [nI_clamp (by omega)])).symm
              refine lv_i2l hx hb dX12_add_142 rfl ?_
              refine lv_goto (tgt := 147) hx hb dX12_add_143 (by decide) ?_
              have eV : ((((vF 0) (((24 * bn) + 2) + i))).toInt64 : Int64).toInt = la28 (vF 0) (24 * bn + 2) nb_ i := by unfold la28; rw [if_pos (by omega)]; exact i64T _
              have bU := la_bd hna3 i
              have bV := la_bd hnb3 i
              refine lv_lstore hx hb dX12_add_147 hl (by decide) rfl (fun ls (hl : lv_has ls _ ([(14, .long (((vF 0) (((24 * bn) + 2) + i))).toInt64), (12, .long 0), (11, .int (nI i)), (0, .ref h0), (1, .int (nI sn)), (2, .int (nI an)), (3, .int (nI bn)), (5, .int (vF 0 (24 * an))), (6, .int ((vF 0 (24 * bn)) * hw)), (7, .int (nI na)), (8, .int (nI nb_)), (9, .int (nI wn)), (10, .int 0)])) => ?_)
              refine lv_aload_n hx hb dX12_add_149 rfl (lv_at hl 3 rfl) ?_
              refine va_get (D := (dC, dI)) (ci := 12) (v := .ref (a 1)) (C := RX12) (T := TX12) (N := 163) (fs := fM (vS a vi vj)) hx hb hts iwsRX12_add_in12 hown hK hP 0 rfl rfl 2 (by decide) (hts (.fieldLink RX12 13 "OptimaWorksModel" "sum" "[J") (by decide +kernel)) (fun _ h9 => h9) rfl dX12_add_150 ?_
              refine lv_iload hx hb dX12_add_153 (lv_at hl 2 rfl) ?_
              refine lv_iload hx hb dX12_add_155 (lv_at hl 7 rfl) ?_
              refine lv_iload hx hb dX12_add_157 (lv_at hl 8 rfl) ?_
              refine lv_imul hx hb dX12_add_159 ?_
              refine lv_if_lt (tgt := 171) hx hb dX12_add_160 (by decide) (fun c9 => False.elim (by have t9 : (((vF 0 (24 * an)) * ((vF 0 (24 * bn)) * hw))).toInt < 0 := toI_lt c9 rfl (by decide); omega)) (fun c_160 => ?_)
              have t_160 : ¬ (((vF 0 (24 * an)) * ((vF 0 (24 * bn)) * hw))).toInt < 0 := toI_nlt c_160 rfl (by decide)
              refine lv_lload hx hb dX12_add_163 (lv_at hl 1 rfl) ?_
              refine lv_lload hx hb dX12_add_165 (lv_at hl 0 rfl) ?_
              refine lv_ladd hx hb dX12_add_167 ?_
              refine lv_goto (tgt := 189) hx hb dX12_add_168 (by decide) ?_
              have eS : ((0 + (((vF 0) (((24 * bn) + 2) + i))).toInt64) : Int64).toInt = 1 * la28 (vF 0) (24 * an + 2) na i + 1 * la28 (vF 0) (24 * bn + 2) nb_ i := by rw [addJ (by omega) (by omega)]; omega
              refine va_last (cA := k 1) (n := 48) (f := gs) hx hb hK hP hD hS 2 1 (WR_get 1 (by decide)) (TR_get 1 (by decide)) (vp_in_nI (show i < 48 by omega) (by omega)) dX12_add_189 (fun H locs hP hD hS => ?_)
              have e9 : fT vG 1 (vp_updL gs ((nI i)).toNatClampNeg (0 + (((vF 0) (((24 * bn) + 2) + i))).toInt64)) = fT (fT vG 1 gs) 1 (vp_updL gs ((nI i)).toNatClampNeg (0 + (((vF 0) (((24 * bn) + 2) + i))).toInt64)) := (fT_sm _ _ _ _).symm
              have hP : va_P (dC, dI) vwCl (WR a k h0 vi vj vF (fT vG 1 (vp_updL gs ((nI i)).toNatClampNeg (0 + (((vF 0) (((24 * bn) + 2) + i))).toInt64)))) H := by rw [e9, ← WR_G 1 (by decide) _ rfl]; exact hP
              have hD : va_D A (WR a k h0 vi vj vF (fT vG 1 (vp_updL gs ((nI i)).toNatClampNeg (0 + (((vF 0) (((24 * bn) + 2) + i))).toInt64)))) := by rw [e9, ← WR_G 1 (by decide) _ rfl]; exact hD
              clear e9
              refine lv_iinc (v := (nI (i + 1))) hx hb dX12_add_190 hl (k := 2) rfl (nI_add i 1) (by decide) rfl (fun ls (hl : lv_has ls _ ([(11, .int (nI (i + 1))), (14, .long (((vF 0) (((24 * bn) + 2) + i))).toInt64), (12, .long 0), (0, .ref h0), (1, .int (nI sn)), (2, .int (nI an)), (3, .int (nI bn)), (5, .int (vF 0 (24 * an))), (6, .int ((vF 0 (24 * bn)) * hw)), (7, .int (nI na)), (8, .int (nI nb_)), (9, .int (nI wn)), (10, .int 0)])) => ?_)
              refine lv_goto (tgt := 86) hx hb dX12_add_193 (by decide) ?_
              have hl : lv_has _ _ ([(11, .int (nI (i + 1))), (0, .ref h0), (1, .int (nI sn)), (2, .int (nI an)), (3, .int (nI bn)), (5, .int (vF 0 (24 * an))), (6, .int ((vF 0 (24 * bn)) * hw)), (7, .int (nI na)), (8, .int (nI nb_)), (9, .int (nI wn)), (10, .int 0)]) := lv_sub hl [0, 3, 4, 5, 6, 7, 8, 9, 10, 11, 12] rfl
              exact ih86 (i + 1) (vp_updL gs ((nI i)).toNatClampNeg (0 + (((vF 0) (((24 * bn) + 2) + i))).toInt64)) _ _ _ (by omega) (fun q hq => by rw [updL_at (by omega)]; by_cases e9 : q = i; (rw [if_pos e9, e9]; exact eS); (rw [if_neg e9]; exact hE q (by omega))) (by omega) hP hD hS hl
          · have t_97 : ¬ ((i : Nat) : Int) ≥ ((na : Nat) : Int) := toI_nge c_97 (nI_toInt (by omega)) (nI_toInt (by omega))
            refine lv_aload_n hx hb dX12_add_100 rfl (lv_at hl 1 rfl) ?_
            refine va_get (D := (dC, dI)) (ci := 12) (v := .ref (a 0)) (C := RX12) (T := TX12) (N := 163) (fs := fM (vS a vi vj)) hx hb hts iwsRX12_add_in12 hown hK hP 0 rfl rfl 1 (by decide) (hts (.fieldLink RX12 7 "OptimaWorksModel" "big" "[I") (by decide +kernel)) (fun _ h9 => h9) rfl dX12_add_101 ?_
            refine lv_bipush (v := 24) hx hb dX12_add_104 (by decide) ?_
            refine lv_iload_n hx hb dX12_add_106 rfl (lv_at hl 3 rfl) ?_
            refine lv_imul hx hb dX12_add_107 ?_
            refine lv_topi (fun y15 hy15 => ?_)
            obtain rfl : (nI (24 * an)) = y15 := (hy15.trans (pk_mul 24 an)).symm
            refine lv_iconst (v := 2) hx hb dX12_add_108 (by decide) ?_
            refine lv_iadd hx hb dX12_add_109 ?_
            refine lv_topi (fun y16 hy16 => ?_)
            obtain rfl : (nI ((24 * an) + 2)) = y16 := (hy16.trans (nI_add (24 * an) 2)).symm
            refine lv_iload hx hb dX12_add_110 (lv_at hl 0 rfl) ?_
            refine lv_iadd hx hb dX12_add_112 ?_
            refine lv_topi (fun y17 hy17 => ?_)
            obtain rfl : (nI (((24 * an) + 2) + i)) = y17 := (hy17.trans (nI_add ((24 * an) + 2) i)).symm
            refine va_iald (cA := k 0) (n := 26400) (f := (vF 0)) hx hb hK hP 1 0 (WR_get 0 (by decide)) (TR_get 0 (by decide)) (vp_in_nI (show (((24 * an) + 2) + i) < 26400 by omega) (by omega)) dX12_add_113 ?_
            refine lv_topi (fun y18 hy18 => ?_)
            obtain rfl : ((vF 0) (((24 * an) + 2) + i)) = y18 := (hy18.trans (by rw [nI_clamp (by omega)])).symm
            refine lv_i2l hx hb dX12_add_114 rfl ?_
            refine lv_goto (tgt := 119) hx hb dX12_add_115 (by decide) ?_
            have eU : ((((vF 0) (((24 * an) + 2) + i))).toInt64 : Int64).toInt = la28 (vF 0) (24 * an + 2) na i := by unfold la28; rw [if_pos (by omega)]; exact i64T _
            refine lv_lstore hx hb dX12_add_119 hl (by decide) rfl (fun ls (hl : lv_has ls _ ([(12, .long (((vF 0) (((24 * an) + 2) + i))).toInt64), (11, .int (nI i)), (0, .ref h0), (1, .int (nI sn)), (2, .int (nI an)), (3, .int (nI bn)), (5, .int (vF 0 (24 * an))), (6, .int ((vF 0 (24 * bn)) * hw)), (7, .int (nI na)), (8, .int (nI nb_)), (9, .int (nI wn)), (10, .int 0)])) => ?_)
            refine lv_iload hx hb dX12_add_121 (lv_at hl 1 rfl) ?_
            refine lv_iload hx hb dX12_add_123 (lv_at hl 9 rfl) ?_
            refine lv_icmp_ge (tgt := 146) hx hb dX12_add_125 (by decide) (fun c_125 => ?_) (fun c_125 => ?_)
            · have t_125 : ((i : Nat) : Int) ≥ ((nb_ : Nat) : Int) := toI_ge c_125 (nI_toInt (by omega)) (nI_toInt (by omega))
              refine lv_lconst (v := 0) hx hb dX12_add_146 (by decide) ?_
              have eV : (0 : Int64).toInt = la28 (vF 0) (24 * bn + 2) nb_ i := by unfold la28; rw [if_neg (by omega)]; decide
              have bU := la_bd hna3 i
              have bV := la_bd hnb3 i
              refine lv_lstore hx hb dX12_add_147 hl (by decide) rfl (fun ls (hl : lv_has ls _ ([(14, .long 0), (12, .long (((vF 0) (((24 * an) + 2) + i))).toInt64), (11, .int (nI i)), (0, .ref h0), (1, .int (nI sn)), (2, .int (nI an)), (3, .int (nI bn)), (5, .int (vF 0 (24 * an))), (6, .int ((vF 0 (24 * bn)) * hw)), (7, .int (nI na)), (8, .int (nI nb_)), (9, .int (nI wn)), (10, .int 0)])) => ?_)
              refine lv_aload_n hx hb dX12_add_149 rfl (lv_at hl 3 rfl) ?_
              refine va_get (D := (dC, dI)) (ci := 12) (v := .ref (a 1)) (C := RX12) (T := TX12) (N := 163) (fs := fM (vS a vi vj)) hx hb hts iwsRX12_add_in12 hown hK hP 0 rfl rfl 2 (by decide) (hts (.fieldLink RX12 13 "OptimaWorksModel" "sum" "[J") (by decide +kernel)) (fun _ h9 => h9) rfl dX12_add_150 ?_
              refine lv_iload hx hb dX12_add_153 (lv_at hl 2 rfl) ?_
              refine lv_iload hx hb dX12_add_155 (lv_at hl 7 rfl) ?_
              refine lv_iload hx hb dX12_add_157 (lv_at hl 8 rfl) ?_
              refine lv_imul hx hb dX12_add_159 ?_
              refine lv_if_lt (tgt := 171) hx hb dX12_add_160 (by decide) (fun c9 => False.elim (by have t9 : (((vF 0 (24 * an)) * ((vF 0 (24 * bn)) * hw))).toInt < 0 := toI_lt c9 rfl (by decide); omega)) (fun c_160 => ?_)
              have t_160 : ¬ (((vF 0 (24 * an)) * ((vF 0 (24 * bn)) * hw))).toInt < 0 := toI_nlt c_160 rfl (by decide)
              refine lv_lload hx hb dX12_add_163 (lv_at hl 1 rfl) ?_
              refine lv_lload hx hb dX12_add_165 (lv_at hl 0 rfl) ?_
              refine lv_ladd hx hb dX12_add_167 ?_
              refine lv_goto (tgt := 189) hx hb dX12_add_168 (by decide) ?_
              have eS : (((((vF 0) (((24 * an) + 2) + i))).toInt64 + 0) : Int64).toInt = 1 * la28 (vF 0) (24 * an + 2) na i + 1 * la28 (vF 0) (24 * bn + 2) nb_ i := by rw [addJ (by omega) (by omega)]; omega
              refine va_last (cA := k 1) (n := 48) (f := gs) hx hb hK hP hD hS 2 1 (WR_get 1 (by decide)) (TR_get 1 (by decide)) (vp_in_nI (show i < 48 by omega) (by omega)) dX12_add_189 (fun H locs hP hD hS => ?_)
              have e9 : fT vG 1 (vp_updL gs ((nI i)).toNatClampNeg ((((vF 0) (((24 * an) + 2) + i))).toInt64 + 0)) = fT (fT vG 1 gs) 1 (vp_updL gs ((nI i)).toNatClampNeg ((((vF 0) (((24 * an) + 2) + i))).toInt64 + 0)) := (fT_sm _ _ _ _).symm
              have hP : va_P (dC, dI) vwCl (WR a k h0 vi vj vF (fT vG 1 (vp_updL gs ((nI i)).toNatClampNeg ((((vF 0) (((24 * an) + 2) + i))).toInt64 + 0)))) H := by rw [e9, ← WR_G 1 (by decide) _ rfl]; exact hP
              have hD : va_D A (WR a k h0 vi vj vF (fT vG 1 (vp_updL gs ((nI i)).toNatClampNeg ((((vF 0) (((24 * an) + 2) + i))).toInt64 + 0)))) := by rw [e9, ← WR_G 1 (by decide) _ rfl]; exact hD
              clear e9
              refine lv_iinc (v := (nI (i + 1))) hx hb dX12_add_190 hl (k := 2) rfl (nI_add i 1) (by decide) rfl (fun ls (hl : lv_has ls _ ([(11, .int (nI (i + 1))), (14, .long 0), (12, .long (((vF 0) (((24 * an) + 2) + i))).toInt64), (0, .ref h0), (1, .int (nI sn)), (2, .int (nI an)), (3, .int (nI bn)), (5, .int (vF 0 (24 * an))), (6, .int ((vF 0 (24 * bn)) * hw)), (7, .int (nI na)), (8, .int (nI nb_)), (9, .int (nI wn)), (10, .int 0)])) => ?_)
              refine lv_goto (tgt := 86) hx hb dX12_add_193 (by decide) ?_
              have hl : lv_has _ _ ([(11, .int (nI (i + 1))), (0, .ref h0), (1, .int (nI sn)), (2, .int (nI an)), (3, .int (nI bn)), (5, .int (vF 0 (24 * an))), (6, .int ((vF 0 (24 * bn)) * hw)), (7, .int (nI na)), (8, .int (nI nb_)), (9, .int (nI wn)), (10, .int 0)]) := lv_sub hl [0, 3, 4, 5, 6, 7, 8, 9, 10, 11, 12] rfl
              exact ih86 (i + 1) (vp_updL gs ((nI i)).toNatClampNeg ((((vF 0) (((24 * an) + 2) + i))).toInt64 + 0)) _ _ _ (by omega) (fun q hq => by rw [updL_at (by omega)]; by_cases e9 : q = i; (rw [if_pos e9, e9]; exact eS); (rw [if_neg e9]; exact hE q (by omega))) (by omega) hP hD hS hl
            · have t_125 : ¬ ((i : Nat) : Int) ≥ ((nb_ : Nat) : Int) := toI_nge c_125 (nI_toInt (by omega)) (nI_toInt (by omega))
              refine lv_aload_n hx hb dX12_add_128 rfl (lv_at hl 2 rfl) ?_
              refine va_get (D := (dC, dI)) (ci := 12) (v := .ref (a 0)) (C := RX12) (T := TX12) (N := 163) (fs := fM (vS a vi vj)) hx hb hts iwsRX12_add_in12 hown hK hP 0 rfl rfl 1 (by decide) (hts (.fieldLink RX12 7 "OptimaWorksModel" "big" "[I") (by decide +kernel)) (fun _ h9 => h9) rfl dX12_add_129 ?_
              refine lv_bipush (v := 24) hx hb dX12_add_132 (by decide) ?_
              refine lv_iload_n hx hb dX12_add_134 rfl (lv_at hl 5 rfl) ?_
              refine lv_imul hx hb dX12_add_135 ?_
              refine lv_topi (fun y19 hy19 => ?_)
              obtain rfl : (nI (24 * bn)) = y19 := (hy19.trans (pk_mul 24 bn)).symm
              refine lv_iconst (v := 2) hx hb dX12_add_136 (by decide) ?_
              refine lv_iadd hx hb dX12_add_137 ?_
              refine lv_topi (fun y20 hy20 => ?_)
              obtain rfl : (nI ((24 * bn) + 2)) = y20 := (hy20.trans (nI_add (24 * bn) 2)).symm
              refine lv_iload hx hb dX12_add_138 (lv_at hl 1 rfl) ?_
              refine lv_iadd hx hb dX12_add_140 ?_
              refine lv_topi (fun y21 hy21 => ?_)
              obtain rfl : (nI (((24 * bn) + 2) + i)) = y21 := (hy21.trans (nI_add ((24 * bn) + 2) i)).symm
              refine va_iald (cA := k 0) (n := 26400) (f := (vF 0)) hx hb hK hP 1 0 (WR_get 0 (by decide)) (TR_get 0 (by decide)) (vp_in_nI (show (((24 * bn) + 2) + i) < 26400 by omega) (by omega)) dX12_add_141 ?_
              refine lv_topi (fun y22 hy22 => ?_)
              obtain rfl : ((vF 0) (((24 * bn) + 2) + i)) = y22 := (hy22.trans (by rw [nI_clamp (by omega)])).symm
              refine lv_i2l hx hb dX12_add_142 rfl ?_
              refine lv_goto (tgt := 147) hx hb dX12_add_143 (by decide) ?_
              have eV : ((((vF 0) (((24 * bn) + 2) + i))).toInt64 : Int64).toInt = la28 (vF 0) (24 * bn + 2) nb_ i := by unfold la28; rw [if_pos (by omega)]; exact i64T _
              have bU := la_bd hna3 i
              have bV := la_bd hnb3 i
              refine lv_lstore hx hb dX12_add_147 hl (by decide) rfl (fun ls (hl : lv_has ls _ ([(14, .long (((vF 0) (((24 * bn) + 2) + i))).toInt64), (12, .long (((vF 0) (((24 * an) + 2) + i))).toInt64), (11, .int (nI i)), (0, .ref h0), (1, .int (nI sn)), (2, .int (nI an)), (3, .int (nI bn)), (5, .int (vF 0 (24 * an))), (6, .int ((vF 0 (24 * bn)) * hw)), (7, .int (nI na)), (8, .int (nI nb_)), (9, .int (nI wn)), (10, .int 0)])) => ?_)
              refine lv_aload_n hx hb dX12_add_149 rfl (lv_at hl 3 rfl) ?_
              refine va_get (D := (dC, dI)) (ci := 12) (v := .ref (a 1)) (C := RX12) (T := TX12) (N := 163) (fs := fM (vS a vi vj)) hx hb hts iwsRX12_add_in12 hown hK hP 0 rfl rfl 2 (by decide) (hts (.fieldLink RX12 13 "OptimaWorksModel" "sum" "[J") (by decide +kernel)) (fun _ h9 => h9) rfl dX12_add_150 ?_
              refine lv_iload hx hb dX12_add_153 (lv_at hl 2 rfl) ?_
              refine lv_iload hx hb dX12_add_155 (lv_at hl 7 rfl) ?_
              refine lv_iload hx hb dX12_add_157 (lv_at hl 8 rfl) ?_
              refine lv_imul hx hb dX12_add_159 ?_
              refine lv_if_lt (tgt := 171) hx hb dX12_add_160 (by decide) (fun c9 => False.elim (by have t9 : (((vF 0 (24 * an)) * ((vF 0 (24 * bn)) * hw))).toInt < 0 := toI_lt c9 rfl (by decide); omega)) (fun c_160 => ?_)
              have t_160 : ¬ (((vF 0 (24 * an)) * ((vF 0 (24 * bn)) * hw))).toInt < 0 := toI_nlt c_160 rfl (by decide)
              refine lv_lload hx hb dX12_add_163 (lv_at hl 1 rfl) ?_
              refine lv_lload hx hb dX12_add_165 (lv_at hl 0 rfl) ?_
              refine lv_ladd hx hb dX12_add_167 ?_
              refine lv_goto (tgt := 189) hx hb dX12_add_168 (by decide) ?_
              have eS : (((((vF 0) (((24 * an) + 2) + i))).toInt64 + (((vF 0) (((24 * bn) + 2) + i))).toInt64) : Int64).toInt = 1 * la28 (vF 0) (24 * an + 2) na i + 1 * la28 (vF 0) (24 * bn + 2) nb_ i := by rw [addJ (by omega) (by omega)]; omega
              refine va_last (cA := k 1) (n := 48) (f := gs) hx hb hK hP hD hS 2 1 (WR_get 1 (by decide)) (TR_get 1 (by decide)) (vp_in_nI (show i < 48 by omega) (by omega)) dX12_add_189 (fun H locs hP hD hS => ?_)
              have e9 : fT vG 1 (vp_updL gs ((nI i)).toNatClampNeg ((((vF 0) (((24 * an) + 2) + i))).toInt64 + (((vF 0) (((24 * bn) + 2) + i))).toInt64)) = fT (fT vG 1 gs) 1 (vp_updL gs ((nI i)).toNatClampNeg ((((vF 0) (((24 * an) + 2) + i))).toInt64 + (((vF 0) (((24 * bn) + 2) + i))).toInt64)) := (fT_sm _ _ _ _).symm
              have hP : va_P (dC, dI) vwCl (WR a k h0 vi vj vF (fT vG 1 (vp_updL gs ((nI i)).toNatClampNeg ((((vF 0) (((24 * an) + 2) + i))).toInt64 + (((vF 0) (((24 * bn) + 2) + i))).toInt64)))) H := by rw [e9, ← WR_G 1 (by decide) _ rfl]; exact hP
              have hD : va_D A (WR a k h0 vi vj vF (fT vG 1 (vp_updL gs ((nI i)).toNatClampNeg ((((vF 0) (((24 * an) + 2) + i))).toInt64 + (((vF 0) (((24 * bn) + 2) + i))).toInt64)))) := by rw [e9, ← WR_G 1 (by decide) _ rfl]; exact hD
              clear e9
              refine lv_iinc (v := (nI (i + 1))) hx hb dX12_add_190 hl (k := 2) rfl (nI_add i 1) (by decide) rfl (fun ls (hl : lv_has ls _ ([(11, .int (nI (i + 1))), (14, .long (((vF 0) (((24 * bn) + 2) + i))).toInt64), (12, .long (((vF 0) (((24 * an) + 2) + i))).toInt64), (0, .ref h0), (1, .int (nI sn)), (2, .int (nI an)), (3, .int (nI bn)), (5, .int (vF 0 (24 * an))), (6, .int ((vF 0 (24 * bn)) * hw)), (7, .int (nI na)), (8, .int (nI nb_)), (9, .int (nI wn)), (10, .int 0)])) => ?_)
              refine lv_goto (tgt := 86) hx hb dX12_add_193 (by decide) ?_
              have hl : lv_has _ _ ([(11, .int (nI (i + 1))), (0, .ref h0), (1, .int (nI sn)), (2, .int (nI an)), (3, .int (nI bn)), (5, .int (vF 0 (24 * an))), (6, .int ((vF 0 (24 * bn)) * hw)), (7, .int (nI na)), (8, .int (nI nb_)), (9, .int (nI wn)), (10, .int 0)]) := lv_sub hl [0, 3, 4, 5, 6, 7, 8, 9, 10, 11, 12] rfl
              exact ih86 (i + 1) (vp_updL gs ((nI i)).toNatClampNeg ((((vF 0) (((24 * an) + 2) + i))).toInt64 + (((vF 0) (((24 * bn) + 2) + i))).toInt64)) _ _ _ (by omega) (fun q hq => by rw [updL_at (by omega)]; by_cases e9 : q = i; (rw [if_pos e9, e9]; exact eS); (rw [if_neg e9]; exact hE q (by omega))) (by omega) hP hD hS hl
    · have t_64 : ¬ (((vF 0 (24 * an)) * ((vF 0 (24 * bn)) * hw))).toInt ≥ 0 := toI_nge c_64 rfl (by decide)
      refine lv_aload_n hx hb dX12_add_67 rfl (lv_at hl 5 rfl) ?_
      refine lv_iload_n hx hb dX12_add_68 rfl (lv_at hl 7 rfl) ?_
      refine lv_iload_n hx hb dX12_add_69 rfl (lv_at hl 8 rfl) ?_
      have hFc := allFree hD hS hA
      refine va_calli (va_runV (As := [.int (nI an), .int (nI bn)]) (rest := []) ⟨hx, hb, hml, hown, hts⟩ (r_X12_bare l dC dI a k h0 vi vj vF vG an bn xa xb (by first | assumption | decide | omega | rfl) (by first | assumption | decide | omega | rfl) (hxa) (hxb) H.size) (cwV 2 hts gwsRX12_add_2 rfl rfl rfl (by decide +kernel) ⟨by decide +kernel, by decide +kernel⟩) ⟨fun a U g mk q => by obtain ⟨q0, q1, qP, qK, qD⟩ := q; exact ⟨q0, q1, qP, va_K.moved (u := U) (U := U.calling g mk a) (Vm.Alike.refl U.vm) qK, qD⟩, va_recv hK hP (ci := 12) (q0 := 0) rfl rfl, fun U hU9 hW => ⟨rfl, by rw [hU9], by rw [hU9]; exact hP, va_K.moved hW.alike hK, hD.weaken (fun _ _ _ _ => trivial)⟩⟩ rfl rfl hl.1 rfl (lv_room (Nat.le_of_ble_eq_true rfl)) dX12_add_70 ⟨by decide +kernel, by decide +kernel⟩) hS (fun q _ h => hFc q h) hFc (fun r70 u t9_ H1 locs ht hvm hw9 hB9 hz1 hk1 hS => ?_)
      obtain ⟨hP1, hD1⟩ := hB9
      rw [ht] at hP1
      have hP := hP1
      have hD := hD1.weaken (fun _ q _ h => hFc q.1 h)
      generalize H1 = H at hP hS ⊢
      have hP : va_P (dC, dI) vwCl (WR a k h0 vi vj vF vG) H := hP
      have hD : va_D A (WR a k h0 vi vj vF vG) := hD
      obtain ⟨f70_0, f70_1⟩ := hw9
      refine lv_if_ge (tgt := 80) hx hb dX12_add_73 (by decide) (fun c_73 => ?_) (fun c_73 => ?_)
      · have t_73 : (r70).toInt ≥ 0 := toI_ge c_73 rfl (by decide)
        refine lv_iconst (v := 0) hx hb dX12_add_80 (by decide) ?_
        refine lv_istore hx hb dX12_add_81 hl (by decide) rfl (fun ls (hl : lv_has ls _ ([(10, .int 0), (9, .int (nI wn)), (8, .int (nI nb_)), (7, .int (nI na)), (6, .int ((vF 0 (24 * bn)) * hw)), (5, .int (vF 0 (24 * an))), (0, .ref h0), (1, .int (nI sn)), (2, .int (nI an)), (3, .int (nI bn)), (4, .int hw)])) => ?_)
        refine lv_iconst (v := 0) hx hb dX12_add_83 (by decide) ?_
        refine lv_istore hx hb dX12_add_84 hl (by decide) rfl (fun ls (hl : lv_has ls _ ([(11, .int 0), (10, .int 0), (9, .int (nI wn)), (8, .int (nI nb_)), (7, .int (nI na)), (6, .int ((vF 0 (24 * bn)) * hw)), (5, .int (vF 0 (24 * an))), (0, .ref h0), (1, .int (nI sn)), (2, .int (nI an)), (3, .int (nI bn)), (4, .int hw)])) => ?_)
        have e9 : fT vG 1 (vG 1) = vG := by funext q9; by_cases h9_1 : q9 = 1; (subst h9_1; exact (fT_eq _ _ _).trans (Eq.trans (by first | rfl | assumption | (symm; assumption) | (subst_vars; rfl)) (Eq.refl _).symm)); exact (fT_ne _ _ h9_1).trans (Eq.refl _).symm
        have hP : va_P (dC, dI) vwCl (WR a k h0 vi vj vF (fT vG 1 (vG 1))) H := by rw [e9]; exact hP
        have hD : va_D A (WR a k h0 vi vj vF (fT vG 1 (vG 1))) := by rw [e9]; exact hD
        clear e9
        have hl : lv_has _ _ ([(11, .int (nI 0)), (0, .ref h0), (1, .int (nI sn)), (2, .int (nI an)), (3, .int (nI bn)), (5, .int (vF 0 (24 * an))), (6, .int ((vF 0 (24 * bn)) * hw)), (7, .int (nI na)), (8, .int (nI nb_)), (9, .int (nI wn)), (10, .int 0)]) := lv_sub hl [0, 7, 8, 9, 10, 6, 5, 4, 3, 2, 1] rfl
        refine (fun (loop : ∀ (n9 : Nat) (i : Nat) (gs : Nat → Int64) (H : Heap) (locs : List Loc) (ls : Array Slot), (i ≤ wn) → (∀ q, q < i → (gs q).toInt = 1 * la28 (vF 0) (24 * an + 2) na q + (-1) * la28 (vF 0) (24 * bn + 2) nb_ q) →  (wn < i + n9) → va_P (dC, dI) vwCl (WR a k h0 vi vj vF (fT vG 1 gs)) H → va_D A (WR a k h0 vi vj vF (fT vG 1 gs)) → va_S A s.heap H locs → lv_has ls 16 [(11, .int (nI i)), (0, .ref h0), (1, .int (nI sn)), (2, .int (nI an)), (3, .int (nI bn)), (5, .int (vF 0 (24 * an))), (6, .int ((vF 0 (24 * bn)) * hw)), (7, .int (nI na)), (8, .int (nI nb_)), (9, .int (nI wn)), (10, .int 0)] → W p l e _ s m _ below meth c H locs 0 0 _ (F0 m 86 ls [])) => loop (wn + 1) 0 (vG 1) _ _ _ (by omega) (fun q h => absurd h (by omega)) (by omega) hP hD hS hl) ?_
        intro n9
        induction n9 with
        | zero => intro i gs H locs ls hi hE hf9; exact False.elim (by omega)
        | succ n9 ih86_1 =>
          intro i gs H locs ls hi hE hf86_1 hP hD hS hl
          refine lv_iload hx hb dX12_add_86 (lv_at hl 0 rfl) ?_
          refine lv_iload hx hb dX12_add_88 (lv_at hl 9 rfl) ?_
          refine lv_icmp_ge (tgt := 196) hx hb dX12_add_90 (by decide) (fun c_90 => ?_) (fun c_90 => ?_)
          · have t_90 : ((i : Nat) : Int) ≥ ((wn : Nat) : Int) := toI_ge c_90 (nI_toInt (by omega)) (nI_toInt (by omega))
            refine lv_aload_n hx hb dX12_add_196 rfl (lv_at hl 1 rfl) ?_
            refine lv_iload_n hx hb dX12_add_197 rfl (lv_at hl 2 rfl) ?_
            refine lv_iload hx hb dX12_add_198 (lv_at hl 9 rfl) ?_
            refine lv_iload hx hb dX12_add_200 (lv_at hl 5 rfl) ?_
            refine lv_iload hx hb dX12_add_202 (lv_at hl 6 rfl) ?_
            refine lv_imul hx hb dX12_add_204 ?_
            refine lv_if_lt (tgt := 223) hx hb dX12_add_205 (by decide) (fun c_205 => ?_) (fun c9 => False.elim (by have t9 : ¬ (((vF 0 (24 * an)) * ((vF 0 (24 * bn)) * hw))).toInt < 0 := toI_nlt c9 rfl (by decide); omega))
            have t_205 : (((vF 0 (24 * an)) * ((vF 0 (24 * bn)) * hw))).toInt < 0 := toI_lt c_205 rfl (by decide)
            refine lv_iload hx hb dX12_add_223 (lv_at hl 10 rfl) ?_
            refine lv_if_eq (tgt := 233) hx hb dX12_add_225 (by decide) (fun _ => ?_) (fun c9 => absurd (by decide) c9)
            refine lv_iload hx hb dX12_add_233 (lv_at hl 5 rfl) ?_
            have hsv := sum28 hna3 hnb3 hwn2 hwn3 (gs := gs) (ca := 1) (cb := (-1)) (fun q hq => hE q (by omega))
            rw [← hna5, ← hnb5] at hsv
            have hFc := allFree hD hS hA
            refine va_callv (va_runV (As := [.int (nI sn), .int (nI wn), .int (vF 0 (24 * an))]) (rest := []) ⟨hx, hb, hml, hown, hts⟩ (r_X12_carry l dC dI a k h0 vi vj vF (fT vG 1 gs) sn wn (vF 0 (24 * an)) ((xa + yb).natAbs) (if xa + yb < 0 then -1 else 1) (by first | assumption | decide | omega | rfl) (by first | assumption | decide | omega | rfl) (fun q hq => by show -1152921504606846976 ≤ (gs q).toInt ∧ (gs q).toInt ≤ 1152921504606846976; have := hE q (by omega); have := la_bd hna3 q; have := la_bd hnb3 q; omega) (by show sv28 gs wn = _; rw [hsv]; omega) (by first | assumption | decide | omega | rfl) (fun h9 => by split <;> first | exact Or.inr ⟨rfl, ofm1 (by omega)⟩ | exact Or.inl ⟨rfl, of1 (by omega)⟩) H.size) (cwV 3 hts gwsRX12_add_1 rfl rfl rfl (by decide +kernel) ⟨by decide +kernel, by decide +kernel⟩) ⟨fun a U g mk q => by obtain ⟨q0, q1, qP, qK, qD⟩ := q; exact ⟨q0, q1, qP, va_K.moved (u := U) (U := U.calling g mk a) (Vm.Alike.refl U.vm) qK, qD⟩, va_recv hK hP (ci := 12) (q0 := 0) rfl rfl, fun U hU9 hW => ⟨rfl, by rw [hU9], by rw [hU9]; exact hP, va_K.moved hW.alike hK, hD.weaken (fun _ _ _ _ => trivial)⟩⟩ rfl rfl hl.1 rfl (lv_room (Nat.le_of_ble_eq_true rfl)) dX12_add_235 ⟨by decide +kernel, by decide +kernel⟩) hS (fun q _ h => hFc q h) hFc (fun u t9_ H1 locs ht hvm hw9 hB9 hz1 hk1 hS => ?_)
            obtain ⟨g235_2, hwit235_2⟩ : ∃ w9, w9 = u := ⟨u, rfl⟩
            subst hwit235_2
            obtain ⟨hP1, hD1⟩ := hB9
            rw [ht] at hP1
            have hP := hP1
            have hD := hD1.weaken (fun _ q _ h => hFc q.1 h)
            generalize H1 = H at hP hS ⊢
            have hP : va_P (dC, dI) vwCl (WR a k h0 vi vj (fT vF 0 g235_2) (fT vG 1 gs)) H := hP
            have hD : va_D A (WR a k h0 vi vj (fT vF 0 g235_2) (fT vG 1 gs)) := hD
            obtain ⟨f235_2_0, f235_2_1⟩ := hw9
            refine W.widen (k := 0) (n := 0) (by decide +kernel) (by decide +kernel) ?_
            exact W.vret hx hb hr (fun t9_ ht hW => ⟨⟨(g235_2, gs), rfl, by (try dsimp only); (have e9 : (if xa + yb < 0 then -1 else 1) * (((xa + yb).natAbs : Nat) : Int) = xa + yb := by split <;> omega); rw [e9] at f235_2_0; exact ⟨f235_2_0, f235_2_1⟩, by rw [ht]; exact hP, hD⟩, hS.F ht⟩) hS.2.2 dX12_add_238
          · have t_90 : ¬ ((i : Nat) : Int) ≥ ((wn : Nat) : Int) := toI_nge c_90 (nI_toInt (by omega)) (nI_toInt (by omega))
            refine lv_iload hx hb dX12_add_93 (lv_at hl 0 rfl) ?_
            refine lv_iload hx hb dX12_add_95 (lv_at hl 7 rfl) ?_
            refine lv_icmp_ge (tgt := 118) hx hb dX12_add_97 (by decide) (fun c_97 => ?_) (fun c_97 => ?_)
            · have t_97 : ((i : Nat) : Int) ≥ ((na : Nat) : Int) := toI_ge c_97 (nI_toInt (by omega)) (nI_toInt (by omega))
              refine lv_lconst (v := 0) hx hb dX12_add_118 (by decide) ?_
              have eU : (0 : Int64).toInt = la28 (vF 0) (24 * an + 2) na i := by unfold la28; rw [if_neg (by omega)]; decide
              refine lv_lstore hx hb dX12_add_119 hl (by decide) rfl (fun ls (hl : lv_has ls _ ([(12, .long 0), (11, .int (nI i)), (0, .ref h0), (1, .int (nI sn)), (2, .int (nI an)), (3, .int (nI bn)), (5, .int (vF 0 (24 * an))), (6, .int ((vF 0 (24 * bn)) * hw)), (7, .int (nI na)), (8, .int (nI nb_)), (9, .int (nI wn)), (10, .int 0)])) => ?_)
              refine lv_iload hx hb dX12_add_121 (lv_at hl 1 rfl) ?_
              refine lv_iload hx hb dX12_add_123 (lv_at hl 9 rfl) ?_
              refine lv_icmp_ge (tgt := 146) hx hb dX12_add_125 (by decide) (fun c_125 => ?_) (fun c_125 => ?_)
              · have t_125 : ((i : Nat) : Int) ≥ ((nb_ : Nat) : Int) := toI_ge c_125 (nI_toInt (by omega)) (nI_toInt (by omega))
                refine lv_lconst (v := 0) hx hb dX12_add_146 (by decide) ?_
                have eV : (0 : Int64).toInt = la28 (vF 0) (24 * bn + 2) nb_ i := by unfold la28; rw [if_neg (by omega)]; decide
                have bU := la_bd hna3 i
                have bV := la_bd hnb3 i
                refine lv_lstore hx hb dX12_add_147 hl (by decide) rfl (fun ls (hl : lv_has ls _ ([(14, .long 0), (12, .long 0), (11, .int (nI i)), (0, .ref h0), (1, .int (nI sn)), (2, .int (nI an)), (3, .int (nI bn)), (5, .int (vF 0 (24 * an))), (6, .int ((vF 0 (24 * bn)) * hw)), (7, .int (nI na)), (8, .int (nI nb_)), (9, .int (nI wn)), (10, .int 0)])) => ?_)
                refine lv_aload_n hx hb dX12_add_149 rfl (lv_at hl 3 rfl) ?_
                refine va_get (D := (dC, dI)) (ci := 12) (v := .ref (a 1)) (C := RX12) (T := TX12) (N := 163) (fs := fM (vS a vi vj)) hx hb hts iwsRX12_add_in12 hown hK hP 0 rfl rfl 2 (by decide) (hts (.fieldLink RX12 13 "OptimaWorksModel" "sum" "[J") (by decide +kernel)) (fun _ h9 => h9) rfl dX12_add_150 ?_
                refine lv_iload hx hb dX12_add_153 (lv_at hl 2 rfl) ?_
                refine lv_iload hx hb dX12_add_155 (lv_at hl 7 rfl) ?_
                refine lv_iload hx hb dX12_add_157 (lv_at hl 8 rfl) ?_
                refine lv_imul hx hb dX12_add_159 ?_
                refine lv_if_lt (tgt := 171) hx hb dX12_add_160 (by decide) (fun c_160 => ?_) (fun c9 => False.elim (by have t9 : ¬ (((vF 0 (24 * an)) * ((vF 0 (24 * bn)) * hw))).toInt < 0 := toI_nlt c9 rfl (by decide); omega))
                have t_160 : (((vF 0 (24 * an)) * ((vF 0 (24 * bn)) * hw))).toInt < 0 := toI_lt c_160 rfl (by decide)
                refine lv_iload hx hb dX12_add_171 (lv_at hl 12 rfl) ?_
                refine lv_if_eq (tgt := 184) hx hb dX12_add_173 (by decide) (fun _ => ?_) (fun c9 => absurd (by decide) c9)
                refine lv_lload hx hb dX12_add_184 (lv_at hl 1 rfl) ?_
                refine lv_lload hx hb dX12_add_186 (lv_at hl 0 rfl) ?_
                refine lv_lsub hx hb dX12_add_188 ?_
                refine lv_topl (fun y23 hy23 => ?_)
                obtain rfl : 0 = y23 := (hy23.trans (by decide)).symm
                have eS : (0 : Int64).toInt = 1 * la28 (vF 0) (24 * an + 2) na i + (-1) * la28 (vF 0) (24 * bn + 2) nb_ i := by (have e0 : (0 : Int64).toInt = 0 := by decide); rw [e0] at eU eV ⊢; omega
                refine va_last (cA := k 1) (n := 48) (f := gs) hx hb hK hP hD hS 2 1 (WR_get 1 (by decide)) (TR_get 1 (by decide)) (vp_in_nI (show i < 48 by omega) (by omega)) dX12_add_189 (fun H locs hP hD hS => ?_)
                have e9 : fT vG 1 (vp_updL gs ((nI i)).toNatClampNeg 0) = fT (fT vG 1 gs) 1 (vp_updL gs ((nI i)).toNatClampNeg 0) := (fT_sm _ _ _ _).symm
                have hP : va_P (dC, dI) vwCl (WR a k h0 vi vj vF (fT vG 1 (vp_updL gs ((nI i)).toNatClampNeg 0))) H := by rw [e9, ← WR_G 1 (by decide) _ rfl]; exact hP
                have hD : va_D A (WR a k h0 vi vj vF (fT vG 1 (vp_updL gs ((nI i)).toNatClampNeg 0))) := by rw [e9, ← WR_G 1 (by decide) _ rfl]; exact hD
                clear e9
                refine lv_iinc (v := (nI (i + 1))) hx hb dX12_add_190 hl (k := 2) rfl (nI_add i 1) (by decide) rfl (fun ls (hl : lv_has ls _ ([(11, .int (nI (i + 1))), (14, .long 0), (12, .long 0), (0, .ref h0), (1, .int (nI sn)), (2, .int (nI an)), (3, .int (nI bn)), (5, .int (vF 0 (24 * an))), (6, .int ((vF 0 (24 * bn)) * hw)), (7, .int (nI na)), (8, .int (nI nb_)), (9, .int (nI wn)), (10, .int 0)])) => ?_)
                refine lv_goto (tgt := 86) hx hb dX12_add_193 (by decide) ?_
                have hl : lv_has _ _ ([(11, .int (nI (i + 1))), (0, .ref h0), (1, .int (nI sn)), (2, .int (nI an)), (3, .int (nI bn)), (5, .int (vF 0 (24 * an))), (6, .int ((vF 0 (24 * bn)) * hw)), (7, .int (nI na)), (8, .int (nI nb_)), (9, .int (nI wn)), (10, .int 0)]) := lv_sub hl [0, 3, 4, 5, 6, 7, 8, 9, 10, 11, 12] rfl
                exact ih86_1 (i + 1) (vp_updL gs ((nI i)).toNatClampNeg 0) _ _ _ (by omega) (fun q hq => by rw [updL_at (by omega)]; by_cases e9 : q = i; (rw [if_pos e9, e9]; exact eS); (rw [if_neg e9]; exact hE q (by omega))) (by omega) hP hD hS hl
              · have t_125 : ¬ ((i : Nat) : Int) ≥ ((nb_ : Nat) : Int) := toI_nge c_125 (nI_toInt (by omega)) (nI_toInt (by omega))
                refine lv_aload_n hx hb dX12_add_128 rfl (lv_at hl 2 rfl) ?_
                refine va_get (D := (dC, dI)) (ci := 12) (v := .ref (a 0)) (C := RX12) (T := TX12) (N := 163) (fs := fM (vS a vi vj)) hx hb hts iwsRX12_add_in12 hown hK hP 0 rfl rfl 1 (by decide) (hts (.fieldLink RX12 7 "OptimaWorksModel" "big" "[I") (by decide +kernel)) (fun _ h9 => h9) rfl dX12_add_129 ?_
                refine lv_bipush (v := 24) hx hb dX12_add_132 (by decide) ?_
                refine lv_iload_n hx hb dX12_add_134 rfl (lv_at hl 5 rfl) ?_
                refine lv_imul hx hb dX12_add_135 ?_
                refine lv_topi (fun y24 hy24 => ?_)
                obtain rfl : (nI (24 * bn)) = y24 := (hy24.trans (pk_mul 24 bn)).symm
                refine lv_iconst (v := 2) hx hb dX12_add_136 (by decide) ?_
                refine lv_iadd hx hb dX12_add_137 ?_
                refine lv_topi (fun y25 hy25 => ?_)
                obtain rfl : (nI ((24 * bn) + 2)) = y25 := (hy25.trans (nI_add (24 * bn) 2)).symm
                refine lv_iload hx hb dX12_add_138 (lv_at hl 1 rfl) ?_
                refine lv_iadd hx hb dX12_add_140 ?_
                refine lv_topi (fun y26 hy26 => ?_)
                obtain rfl : (nI (((24 * bn) + 2) + i)) = y26 := (hy26.trans (nI_add ((24 * bn) + 2) i)).symm
                refine va_iald (cA := k 0) (n := 26400) (f := (vF 0)) hx hb hK hP 1 0 (WR_get 0 (by decide)) (TR_get 0 (by decide)) (vp_in_nI (show (((24 * bn) + 2) + i) < 26400 by omega) (by omega)) dX12_add_141 ?_
                refine lv_topi (fun y27 hy27 => ?_)
                obtain rfl : ((vF 0) (((24 * bn) + 2) + i)) = y27 := (hy27.trans (by rw [nI_clamp (by omega)])).symm
                refine lv_i2l hx hb dX12_add_142 rfl ?_
                refine lv_goto (tgt := 147) hx hb dX12_add_143 (by decide) ?_
                have eV : ((((vF 0) (((24 * bn) + 2) + i))).toInt64 : Int64).toInt = la28 (vF 0) (24 * bn + 2) nb_ i := by unfold la28; rw [if_pos (by omega)]; exact i64T _
                have bU := la_bd hna3 i
                have bV := la_bd hnb3 i
                refine lv_lstore hx hb dX12_add_147 hl (by decide) rfl (fun ls (hl : lv_has ls _ ([(14, .long (((vF 0) (((24 * bn) + 2) + i))).toInt64), (12, .long 0), (11, .int (nI i)), (0, .ref h0), (1, .int (nI sn)), (2, .int (nI an)), (3, .int (nI bn)), (5, .int (vF 0 (24 * an))), (6, .int ((vF 0 (24 * bn)) * hw)), (7, .int (nI na)), (8, .int (nI nb_)), (9, .int (nI wn)), (10, .int 0)])) => ?_)
                refine lv_aload_n hx hb dX12_add_149 rfl (lv_at hl 3 rfl) ?_
                refine va_get (D := (dC, dI)) (ci := 12) (v := .ref (a 1)) (C := RX12) (T := TX12) (N := 163) (fs := fM (vS a vi vj)) hx hb hts iwsRX12_add_in12 hown hK hP 0 rfl rfl 2 (by decide) (hts (.fieldLink RX12 13 "OptimaWorksModel" "sum" "[J") (by decide +kernel)) (fun _ h9 => h9) rfl dX12_add_150 ?_
                refine lv_iload hx hb dX12_add_153 (lv_at hl 2 rfl) ?_
                refine lv_iload hx hb dX12_add_155 (lv_at hl 7 rfl) ?_
                refine lv_iload hx hb dX12_add_157 (lv_at hl 8 rfl) ?_
                refine lv_imul hx hb dX12_add_159 ?_
                refine lv_if_lt (tgt := 171) hx hb dX12_add_160 (by decide) (fun c_160 => ?_) (fun c9 => False.elim (by have t9 : ¬ (((vF 0 (24 * an)) * ((vF 0 (24 * bn)) * hw))).toInt < 0 := toI_nlt c9 rfl (by decide); omega))
                have t_160 : (((vF 0 (24 * an)) * ((vF 0 (24 * bn)) * hw))).toInt < 0 := toI_lt c_160 rfl (by decide)
                refine lv_iload hx hb dX12_add_171 (lv_at hl 12 rfl) ?_
                refine lv_if_eq (tgt := 184) hx hb dX12_add_173 (by decide) (fun _ => ?_) (fun c9 => absurd (by decide) c9)
                refine lv_lload hx hb dX12_add_184 (lv_at hl 1 rfl) ?_
                refine lv_lload hx hb dX12_add_186 (lv_at hl 0 rfl) ?_
                refine lv_lsub hx hb dX12_add_188 ?_
                have eS : ((0 - (((vF 0) (((24 * bn) + 2) + i))).toInt64) : Int64).toInt = 1 * la28 (vF 0) (24 * an + 2) na i + (-1) * la28 (vF 0) (24 * bn + 2) nb_ i := by rw [subJ (by omega) (by omega)]; omega
                refine va_last (cA := k 1) (n := 48) (f := gs) hx hb hK hP hD hS 2 1 (WR_get 1 (by decide)) (TR_get 1 (by decide)) (vp_in_nI (show i < 48 by omega) (by omega)) dX12_add_189 (fun H locs hP hD hS => ?_)
                have e9 : fT vG 1 (vp_updL gs ((nI i)).toNatClampNeg (0 - (((vF 0) (((24 * bn) + 2) + i))).toInt64)) = fT (fT vG 1 gs) 1 (vp_updL gs ((nI i)).toNatClampNeg (0 - (((vF 0) (((24 * bn) + 2) + i))).toInt64)) := (fT_sm _ _ _ _).symm
                have hP : va_P (dC, dI) vwCl (WR a k h0 vi vj vF (fT vG 1 (vp_updL gs ((nI i)).toNatClampNeg (0 - (((vF 0) (((24 * bn) + 2) + i))).toInt64)))) H := by rw [e9, ← WR_G 1 (by decide) _ rfl]; exact hP
                have hD : va_D A (WR a k h0 vi vj vF (fT vG 1 (vp_updL gs ((nI i)).toNatClampNeg (0 - (((vF 0) (((24 * bn) + 2) + i))).toInt64)))) := by rw [e9, ← WR_G 1 (by decide) _ rfl]; exact hD
                clear e9
                refine lv_iinc (v := (nI (i + 1))) hx hb dX12_add_190 hl (k := 2) rfl (nI_add i 1) (by decide) rfl (fun ls (hl : lv_has ls _ ([(11, .int (nI (i + 1))), (14, .long (((vF 0) (((24 * bn) + 2) + i))).toInt64), (12, .long 0), (0, .ref h0), (1, .int (nI sn)), (2, .int (nI an)), (3, .int (nI bn)), (5, .int (vF 0 (24 * an))), (6, .int ((vF 0 (24 * bn)) * hw)), (7, .int (nI na)), (8, .int (nI nb_)), (9, .int (nI wn)), (10, .int 0)])) => ?_)
                refine lv_goto (tgt := 86) hx hb dX12_add_193 (by decide) ?_
                have hl : lv_has _ _ ([(11, .int (nI (i + 1))), (0, .ref h0), (1, .int (nI sn)), (2, .int (nI an)), (3, .int (nI bn)), (5, .int (vF 0 (24 * an))), (6, .int ((vF 0 (24 * bn)) * hw)), (7, .int (nI na)), (8, .int (nI nb_)), (9, .int (nI wn)), (10, .int 0)]) := lv_sub hl [0, 3, 4, 5, 6, 7, 8, 9, 10, 11, 12] rfl
                exact ih86_1 (i + 1) (vp_updL gs ((nI i)).toNatClampNeg (0 - (((vF 0) (((24 * bn) + 2) + i))).toInt64)) _ _ _ (by omega) (fun q hq => by rw [updL_at (by omega)]; by_cases e9 : q = i; (rw [if_pos e9, e9]; exact eS); (rw [if_neg e9]; exact hE q (by omega))) (by omega) hP hD hS hl
            · have t_97 : ¬ ((i : Nat) : Int) ≥ ((na : Nat) : Int) := toI_nge c_97 (nI_toInt (by omega)) (nI_toInt (by omega))
              refine lv_aload_n hx hb dX12_add_100 rfl (lv_at hl 1 rfl) ?_
              refine va_get (D := (dC, dI)) (ci := 12) (v := .ref (a 0)) (C := RX12) (T := TX12) (N := 163) (fs := fM (vS a vi vj)) hx hb hts iwsRX12_add_in12 hown hK hP 0 rfl rfl 1 (by decide) (hts (.fieldLink RX12 7 "OptimaWorksModel" "big" "[I") (by decide +kernel)) (fun _ h9 => h9) rfl dX12_add_101 ?_
              refine lv_bipush (v := 24) hx hb dX12_add_104 (by decide) ?_
              refine lv_iload_n hx hb dX12_add_106 rfl (lv_at hl 3 rfl) ?_
              refine lv_imul hx hb dX12_add_107 ?_
              refine lv_topi (fun y28 hy28 => ?_)
              obtain rfl : (nI (24 * an)) = y28 := (hy28.trans (pk_mul 24 an)).symm
              refine lv_iconst (v := 2) hx hb dX12_add_108 (by decide) ?_
              refine lv_iadd hx hb dX12_add_109 ?_
              refine lv_topi (fun y29 hy29 => ?_)
              obtain rfl : (nI ((24 * an) + 2)) = y29 := (hy29.trans (nI_add (24 * an) 2)).symm
              refine lv_iload hx hb dX12_add_110 (lv_at hl 0 rfl) ?_
              refine lv_iadd hx hb dX12_add_112 ?_
              refine lv_topi (fun y30 hy30 => ?_)
              obtain rfl : (nI (((24 * an) + 2) + i)) = y30 := (hy30.trans (nI_add ((24 * an) + 2) i)).symm
              refine va_iald (cA := k 0) (n := 26400) (f := (vF 0)) hx hb hK hP 1 0 (WR_get 0 (by decide)) (TR_get 0 (by decide)) (vp_in_nI (show (((24 * an) + 2) + i) < 26400 by omega) (by omega)) dX12_add_113 ?_
              refine lv_topi (fun y31 hy31 => ?_)
              obtain rfl : ((vF 0) (((24 * an) + 2) + i)) = y31 := (hy31.trans (by rw [nI_clamp (by omega)])).symm
              refine lv_i2l hx hb dX12_add_114 rfl ?_
              refine lv_goto (tgt := 119) hx hb dX12_add_115 (by decide) ?_
              have eU : ((((vF 0) (((24 * an) + 2) + i))).toInt64 : Int64).toInt = la28 (vF 0) (24 * an + 2) na i := by unfold la28; rw [if_pos (by omega)]; exact i64T _
              refine lv_lstore hx hb dX12_add_119 hl (by decide) rfl (fun ls (hl : lv_has ls _ ([(12, .long (((vF 0) (((24 * an) + 2) + i))).toInt64), (11, .int (nI i)), (0, .ref h0), (1, .int (nI sn)), (2, .int (nI an)), (3, .int (nI bn)), (5, .int (vF 0 (24 * an))), (6, .int ((vF 0 (24 * bn)) * hw)), (7, .int (nI na)), (8, .int (nI nb_)), (9, .int (nI wn)), (10, .int 0)])) => ?_)
              refine lv_iload hx hb dX12_add_121 (lv_at hl 1 rfl) ?_
              refine lv_iload hx hb dX12_add_123 (lv_at hl 9 rfl) ?_
              refine lv_icmp_ge (tgt := 146) hx hb dX12_add_125 (by decide) (fun c_125 => ?_) (fun c_125 => ?_)
              · have t_125 : ((i : Nat) : Int) ≥ ((nb_ : Nat) : Int) := toI_ge c_125 (nI_toInt (by omega)) (nI_toInt (by omega))
                refine lv_lconst (v := 0) hx hb dX12_add_146 (by decide) ?_
                have eV : (0 : Int64).toInt = la28 (vF 0) (24 * bn + 2) nb_ i := by unfold la28; rw [if_neg (by omega)]; decide
                have bU := la_bd hna3 i
                have bV := la_bd hnb3 i
                refine lv_lstore hx hb dX12_add_147 hl (by decide) rfl (fun ls (hl : lv_has ls _ ([(14, .long 0), (12, .long (((vF 0) (((24 * an) + 2) + i))).toInt64), (11, .int (nI i)), (0, .ref h0), (1, .int (nI sn)), (2, .int (nI an)), (3, .int (nI bn)), (5, .int (vF 0 (24 * an))), (6, .int ((vF 0 (24 * bn)) * hw)), (7, .int (nI na)), (8, .int (nI nb_)), (9, .int (nI wn)), (10, .int 0)])) => ?_)
                refine lv_aload_n hx hb dX12_add_149 rfl (lv_at hl 3 rfl) ?_
                refine va_get (D := (dC, dI)) (ci := 12) (v := .ref (a 1)) (C := RX12) (T := TX12) (N := 163) (fs := fM (vS a vi vj)) hx hb hts iwsRX12_add_in12 hown hK hP 0 rfl rfl 2 (by decide) (hts (.fieldLink RX12 13 "OptimaWorksModel" "sum" "[J") (by decide +kernel)) (fun _ h9 => h9) rfl dX12_add_150 ?_
                refine lv_iload hx hb dX12_add_153 (lv_at hl 2 rfl) ?_
                refine lv_iload hx hb dX12_add_155 (lv_at hl 7 rfl) ?_
                refine lv_iload hx hb dX12_add_157 (lv_at hl 8 rfl) ?_
                refine lv_imul hx hb dX12_add_159 ?_
                refine lv_if_lt (tgt := 171) hx hb dX12_add_160 (by decide) (fun c_160 => ?_) (fun c9 => False.elim (by have t9 : ¬ (((vF 0 (24 * an)) * ((vF 0 (24 * bn)) * hw))).toInt < 0 := toI_nlt c9 rfl (by decide); omega))
                have t_160 : (((vF 0 (24 * an)) * ((vF 0 (24 * bn)) * hw))).toInt < 0 := toI_lt c_160 rfl (by decide)
                refine lv_iload hx hb dX12_add_171 (lv_at hl 12 rfl) ?_
                refine lv_if_eq (tgt := 184) hx hb dX12_add_173 (by decide) (fun _ => ?_) (fun c9 => absurd (by decide) c9)
                refine lv_lload hx hb dX12_add_184 (lv_at hl 1 rfl) ?_
                refine lv_lload hx hb dX12_add_186 (lv_at hl 0 rfl) ?_
                refine lv_lsub hx hb dX12_add_188 ?_
                have eS : (((((vF 0) (((24 * an) + 2) + i))).toInt64 - 0) : Int64).toInt = 1 * la28 (vF 0) (24 * an + 2) na i + (-1) * la28 (vF 0) (24 * bn + 2) nb_ i := by rw [subJ (by omega) (by omega)]; omega
                refine va_last (cA := k 1) (n := 48) (f := gs) hx hb hK hP hD hS 2 1 (WR_get 1 (by decide)) (TR_get 1 (by decide)) (vp_in_nI (show i < 48 by omega) (by omega)) dX12_add_189 (fun H locs hP hD hS => ?_)
                have e9 : fT vG 1 (vp_updL gs ((nI i)).toNatClampNeg ((((vF 0) (((24 * an) + 2) + i))).toInt64 - 0)) = fT (fT vG 1 gs) 1 (vp_updL gs ((nI i)).toNatClampNeg ((((vF 0) (((24 * an) + 2) + i))).toInt64 - 0)) := (fT_sm _ _ _ _).symm
                have hP : va_P (dC, dI) vwCl (WR a k h0 vi vj vF (fT vG 1 (vp_updL gs ((nI i)).toNatClampNeg ((((vF 0) (((24 * an) + 2) + i))).toInt64 - 0)))) H := by rw [e9, ← WR_G 1 (by decide) _ rfl]; exact hP
                have hD : va_D A (WR a k h0 vi vj vF (fT vG 1 (vp_updL gs ((nI i)).toNatClampNeg ((((vF 0) (((24 * an) + 2) + i))).toInt64 - 0)))) := by rw [e9, ← WR_G 1 (by decide) _ rfl]; exact hD
                clear e9
                refine lv_iinc (v := (nI (i + 1))) hx hb dX12_add_190 hl (k := 2) rfl (nI_add i 1) (by decide) rfl (fun ls (hl : lv_has ls _ ([(11, .int (nI (i + 1))), (14, .long 0), (12, .long (((vF 0) (((24 * an) + 2) + i))).toInt64), (0, .ref h0), (1, .int (nI sn)), (2, .int (nI an)), (3, .int (nI bn)), (5, .int (vF 0 (24 * an))), (6, .int ((vF 0 (24 * bn)) * hw)), (7, .int (nI na)), (8, .int (nI nb_)), (9, .int (nI wn)), (10, .int 0)])) => ?_)
                refine lv_goto (tgt := 86) hx hb dX12_add_193 (by decide) ?_
                have hl : lv_has _ _ ([(11, .int (nI (i + 1))), (0, .ref h0), (1, .int (nI sn)), (2, .int (nI an)), (3, .int (nI bn)), (5, .int (vF 0 (24 * an))), (6, .int ((vF 0 (24 * bn)) * hw)), (7, .int (nI na)), (8, .int (nI nb_)), (9, .int (nI wn)), (10, .int 0)]) := lv_sub hl [0, 3, 4, 5, 6, 7, 8, 9, 10, 11, 12] rfl
                exact ih86_1 (i + 1) (vp_updL gs ((nI i)).toNatClampNeg ((((vF 0) (((24 * an) + 2) + i))).toInt64 - 0)) _ _ _ (by omega) (fun q hq => by rw [updL_at (by omega)]; by_cases e9 : q = i; (rw [if_pos e9, e9]; exact eS); (rw [if_neg e9]; exact hE q (by omega))) (by omega) hP hD hS hl
              · have t_125 : ¬ ((i : Nat) : Int) ≥ ((nb_ : Nat) : Int) := toI_nge c_125 (nI_toInt (by omega)) (nI_toInt (by omega))
                refine lv_aload_n hx hb dX12_add_128 rfl (lv_at hl 2 rfl) ?_
                refine va_get (D := (dC, dI)) (ci := 12) (v := .ref (a 0)) (C := RX12) (T := TX12) (N := 163) (fs := fM (vS a vi vj)) hx hb hts iwsRX12_add_in12 hown hK hP 0 rfl rfl 1 (by decide) (hts (.fieldLink RX12 7 "OptimaWorksModel" "big" "[I") (by decide +kernel)) (fun _ h9 => h9) rfl dX12_add_129 ?_
                refine lv_bipush (v := 24) hx hb dX12_add_132 (by decide) ?_
                refine lv_iload_n hx hb dX12_add_134 rfl (lv_at hl 5 rfl) ?_
                refine lv_imul hx hb dX12_add_135 ?_
                refine lv_topi (fun y32 hy32 => ?_)
                obtain rfl : (nI (24 * bn)) = y32 := (hy32.trans (pk_mul 24 bn)).symm
                refine lv_iconst (v := 2) hx hb dX12_add_136 (by decide) ?_
                refine lv_iadd hx hb dX12_add_137 ?_
                refine lv_topi (fun y33 hy33 => ?_)
                obtain rfl : (nI ((24 * bn) + 2)) = y33 := (hy33.trans (nI_add (24 * bn) 2)).symm
                refine lv_iload hx hb dX12_add_138 (lv_at hl 1 rfl) ?_
                refine lv_iadd hx hb dX12_add_140 ?_
                refine lv_topi (fun y34 hy34 => ?_)
                obtain rfl : (nI (((24 * bn) + 2) + i)) = y34 := (hy34.trans (nI_add ((24 * bn) + 2) i)).symm
                refine va_iald (cA := k 0) (n := 26400) (f := (vF 0)) hx hb hK hP 1 0 (WR_get 0 (by decide)) (TR_get 0 (by decide)) (vp_in_nI (show (((24 * bn) + 2) + i) < 26400 by omega) (by omega)) dX12_add_141 ?_
                refine lv_topi (fun y35 hy35 => ?_)
                obtain rfl : ((vF 0) (((24 * bn) + 2) + i)) = y35 := (hy35.trans (by rw [nI_clamp (by omega)])).symm
                refine lv_i2l hx hb dX12_add_142 rfl ?_
                refine lv_goto (tgt := 147) hx hb dX12_add_143 (by decide) ?_
                have eV : ((((vF 0) (((24 * bn) + 2) + i))).toInt64 : Int64).toInt = la28 (vF 0) (24 * bn + 2) nb_ i := by unfold la28; rw [if_pos (by omega)]; exact i64T _
                have bU := la_bd hna3 i
                have bV := la_bd hnb3 i
                refine lv_lstore hx hb dX12_add_147 hl (by decide) rfl (fun ls (hl : lv_has ls _ ([(14, .long (((vF 0) (((24 * bn) + 2) + i))).toInt64), (12, .long (((vF 0) (((24 * an) + 2) + i))).toInt64), (11, .int (nI i)), (0, .ref h0), (1, .int (nI sn)), (2, .int (nI an)), (3, .int (nI bn)), (5, .int (vF 0 (24 * an))), (6, .int ((vF 0 (24 * bn)) * hw)), (7, .int (nI na)), (8, .int (nI nb_)), (9, .int (nI wn)), (10, .int 0)])) => ?_)
                refine lv_aload_n hx hb dX12_add_149 rfl (lv_at hl 3 rfl) ?_
                refine va_get (D := (dC, dI)) (ci := 12) (v := .ref (a 1)) (C := RX12) (T := TX12) (N := 163) (fs := fM (vS a vi vj)) hx hb hts iwsRX12_add_in12 hown hK hP 0 rfl rfl 2 (by decide) (hts (.fieldLink RX12 13 "OptimaWorksModel" "sum" "[J") (by decide +kernel)) (fun _ h9 => h9) rfl dX12_add_150 ?_
                refine lv_iload hx hb dX12_add_153 (lv_at hl 2 rfl) ?_
                refine lv_iload hx hb dX12_add_155 (lv_at hl 7 rfl) ?_
                refine lv_iload hx hb dX12_add_157 (lv_at hl 8 rfl) ?_
                refine lv_imul hx hb dX12_add_159 ?_
                refine lv_if_lt (tgt := 171) hx hb dX12_add_160 (by decide) (fun c_160 => ?_) (fun c9 => False.elim (by have t9 : ¬ (((vF 0 (24 * an)) * ((vF 0 (24 * bn)) * hw))).toInt < 0 := toI_nlt c9 rfl (by decide); omega))
                have t_160 : (((vF 0 (24 * an)) * ((vF 0 (24 * bn)) * hw))).toInt < 0 := toI_lt c_160 rfl (by decide)
                refine lv_iload hx hb dX12_add_171 (lv_at hl 12 rfl) ?_
                refine lv_if_eq (tgt := 184) hx hb dX12_add_173 (by decide) (fun _ => ?_) (fun c9 => absurd (by decide) c9)
                refine lv_lload hx hb dX12_add_184 (lv_at hl 1 rfl) ?_
                refine lv_lload hx hb dX12_add_186 (lv_at hl 0 rfl) ?_
                refine lv_lsub hx hb dX12_add_188 ?_
                have eS : (((((vF 0) (((24 * an) + 2) + i))).toInt64 - (((vF 0) (((24 * bn) + 2) + i))).toInt64) : Int64).toInt = 1 * la28 (vF 0) (24 * an + 2) na i + (-1) * la28 (vF 0) (24 * bn + 2) nb_ i := by rw [subJ (by omega) (by omega)]; omega
                refine va_last (cA := k 1) (n := 48) (f := gs) hx hb hK hP hD hS 2 1 (WR_get 1 (by decide)) (TR_get 1 (by decide)) (vp_in_nI (show i < 48 by omega) (by omega)) dX12_add_189 (fun H locs hP hD hS => ?_)
                have e9 : fT vG 1 (vp_updL gs ((nI i)).toNatClampNeg ((((vF 0) (((24 * an) + 2) + i))).toInt64 - (((vF 0) (((24 * bn) + 2) + i))).toInt64)) = fT (fT vG 1 gs) 1 (vp_updL gs ((nI i)).toNatClampNeg ((((vF 0) (((24 * an) + 2) + i))).toInt64 - (((vF 0) (((24 * bn) + 2) + i))).toInt64)) := (fT_sm _ _ _ _).symm
                have hP : va_P (dC, dI) vwCl (WR a k h0 vi vj vF (fT vG 1 (vp_updL gs ((nI i)).toNatClampNeg ((((vF 0) (((24 * an) + 2) + i))).toInt64 - (((vF 0) (((24 * bn) + 2) + i))).toInt64)))) H := by rw [e9, ← WR_G 1 (by decide) _ rfl]; exact hP
                have hD : va_D A (WR a k h0 vi vj vF (fT vG 1 (vp_updL gs ((nI i)).toNatClampNeg ((((vF 0) (((24 * an) + 2) + i))).toInt64 - (((vF 0) (((24 * bn) + 2) + i))).toInt64)))) := by rw [e9, ← WR_G 1 (by decide) _ rfl]; exact hD
                clear e9
                refine lv_iinc (v := (nI (i + 1))) hx hb dX12_add_190 hl (k := 2) rfl (nI_add i 1) (by decide) rfl (fun ls (hl : lv_has ls _ ([(11, .int (nI (i + 1))), (14, .long (((vF 0) (((24 * bn) + 2) + i))).toInt64), (12, .long (((vF 0) (((24 * an) + 2) + i))).toInt64), (0, .ref h0), (1, .int (nI sn)), (2, .int (nI an)), (3, .int (nI bn)), (5, .int (vF 0 (24 * an))), (6, .int ((vF 0 (24 * bn)) * hw)), (7, .int (nI na)), (8, .int (nI nb_)), (9, .int (nI wn)), (10, .int 0)])) => ?_)
                refine lv_goto (tgt := 86) hx hb dX12_add_193 (by decide) ?_
                have hl : lv_has _ _ ([(11, .int (nI (i + 1))), (0, .ref h0), (1, .int (nI sn)), (2, .int (nI an)), (3, .int (nI bn)), (5, .int (vF 0 (24 * an))), (6, .int ((vF 0 (24 * bn)) * hw)), (7, .int (nI na)), (8, .int (nI nb_)), (9, .int (nI wn)), (10, .int 0)]) := lv_sub hl [0, 3, 4, 5, 6, 7, 8, 9, 10, 11, 12] rfl
                exact ih86_1 (i + 1) (vp_updL gs ((nI i)).toNatClampNeg ((((vF 0) (((24 * an) + 2) + i))).toInt64 - (((vF 0) (((24 * bn) + 2) + i))).toInt64)) _ _ _ (by omega) (fun q hq => by rw [updL_at (by omega)]; by_cases e9 : q = i; (rw [if_pos e9, e9]; exact eS); (rw [if_neg e9]; exact hE q (by omega))) (by omega) hP hD hS hl
      · have t_73 : ¬ (r70).toInt ≥ 0 := toI_nge c_73 rfl (by decide)
        refine lv_iconst (v := 1) hx hb dX12_add_76 (by decide) ?_
        refine lv_goto (tgt := 81) hx hb dX12_add_77 (by decide) ?_
        refine lv_istore hx hb dX12_add_81 hl (by decide) rfl (fun ls (hl : lv_has ls _ ([(10, .int 1), (9, .int (nI wn)), (8, .int (nI nb_)), (7, .int (nI na)), (6, .int ((vF 0 (24 * bn)) * hw)), (5, .int (vF 0 (24 * an))), (0, .ref h0), (1, .int (nI sn)), (2, .int (nI an)), (3, .int (nI bn)), (4, .int hw)])) => ?_)
        refine lv_iconst (v := 0) hx hb dX12_add_83 (by decide) ?_
        refine lv_istore hx hb dX12_add_84 hl (by decide) rfl (fun ls (hl : lv_has ls _ ([(11, .int 0), (10, .int 1), (9, .int (nI wn)), (8, .int (nI nb_)), (7, .int (nI na)), (6, .int ((vF 0 (24 * bn)) * hw)), (5, .int (vF 0 (24 * an))), (0, .ref h0), (1, .int (nI sn)), (2, .int (nI an)), (3, .int (nI bn)), (4, .int hw)])) => ?_)
        have e9 : fT vG 1 (vG 1) = vG := by funext q9; by_cases h9_1 : q9 = 1; (subst h9_1; exact (fT_eq _ _ _).trans (Eq.trans (by first | rfl | assumption | (symm; assumption) | (subst_vars; rfl)) (Eq.refl _).symm)); exact (fT_ne _ _ h9_1).trans (Eq.refl _).symm
        have hP : va_P (dC, dI) vwCl (WR a k h0 vi vj vF (fT vG 1 (vG 1))) H := by rw [e9]; exact hP
        have hD : va_D A (WR a k h0 vi vj vF (fT vG 1 (vG 1))) := by rw [e9]; exact hD
        clear e9
        have hl : lv_has _ _ ([(11, .int (nI 0)), (0, .ref h0), (1, .int (nI sn)), (2, .int (nI an)), (3, .int (nI bn)), (5, .int (vF 0 (24 * an))), (6, .int ((vF 0 (24 * bn)) * hw)), (7, .int (nI na)), (8, .int (nI nb_)), (9, .int (nI wn)), (10, .int 1)]) := lv_sub hl [0, 7, 8, 9, 10, 6, 5, 4, 3, 2, 1] rfl
        refine (fun (loop : ∀ (n9 : Nat) (i : Nat) (gs : Nat → Int64) (H : Heap) (locs : List Loc) (ls : Array Slot), (i ≤ wn) → (∀ q, q < i → (gs q).toInt = (-1) * la28 (vF 0) (24 * an + 2) na q + 1 * la28 (vF 0) (24 * bn + 2) nb_ q) →  (wn < i + n9) → va_P (dC, dI) vwCl (WR a k h0 vi vj vF (fT vG 1 gs)) H → va_D A (WR a k h0 vi vj vF (fT vG 1 gs)) → va_S A s.heap H locs → lv_has ls 16 [(11, .int (nI i)), (0, .ref h0), (1, .int (nI sn)), (2, .int (nI an)), (3, .int (nI bn)), (5, .int (vF 0 (24 * an))), (6, .int ((vF 0 (24 * bn)) * hw)), (7, .int (nI na)), (8, .int (nI nb_)), (9, .int (nI wn)), (10, .int 1)] → W p l e _ s m _ below meth c H locs 0 0 _ (F0 m 86 ls [])) => loop (wn + 1) 0 (vG 1) _ _ _ (by omega) (fun q h => absurd h (by omega)) (by omega) hP hD hS hl) ?_
        intro n9
        induction n9 with
        | zero => intro i gs H locs ls hi hE hf9; exact False.elim (by omega)
        | succ n9 ih86_2 =>
          intro i gs H locs ls hi hE hf86_2 hP hD hS hl
          refine lv_iload hx hb dX12_add_86 (lv_at hl 0 rfl) ?_
          refine lv_iload hx hb dX12_add_88 (lv_at hl 9 rfl) ?_
          refine lv_icmp_ge (tgt := 196) hx hb dX12_add_90 (by decide) (fun c_90 => ?_) (fun c_90 => ?_)
          · have t_90 : ((i : Nat) : Int) ≥ ((wn : Nat) : Int) := toI_ge c_90 (nI_toInt (by omega)) (nI_toInt (by omega))
            refine lv_aload_n hx hb dX12_add_196 rfl (lv_at hl 1 rfl) ?_
            refine lv_iload_n hx hb dX12_add_197 rfl (lv_at hl 2 rfl) ?_
            refine lv_iload hx hb dX12_add_198 (lv_at hl 9 rfl) ?_
            refine lv_iload hx hb dX12_add_200 (lv_at hl 5 rfl) ?_
            refine lv_iload hx hb dX12_add_202 (lv_at hl 6 rfl) ?_
            refine lv_imul hx hb dX12_add_204 ?_
            refine lv_if_lt (tgt := 223) hx hb dX12_add_205 (by decide) (fun c_205 => ?_) (fun c9 => False.elim (by have t9 : ¬ (((vF 0 (24 * an)) * ((vF 0 (24 * bn)) * hw))).toInt < 0 := toI_nlt c9 rfl (by decide); omega))
            have t_205 : (((vF 0 (24 * an)) * ((vF 0 (24 * bn)) * hw))).toInt < 0 := toI_lt c_205 rfl (by decide)
            refine lv_iload hx hb dX12_add_223 (lv_at hl 10 rfl) ?_
            refine lv_if_eq (tgt := 233) hx hb dX12_add_225 (by decide) (fun c9 => absurd c9 (by decide)) (fun _ => ?_)
            refine lv_iload hx hb dX12_add_228 (lv_at hl 6 rfl) ?_
            refine lv_goto (tgt := 235) hx hb dX12_add_230 (by decide) ?_
            have hsv := sum28 hna3 hnb3 hwn2 hwn3 (gs := gs) (ca := (-1)) (cb := 1) (fun q hq => hE q (by omega))
            rw [← hna5, ← hnb5] at hsv
            have hFc := allFree hD hS hA
            refine va_callv (va_runV (As := [.int (nI sn), .int (nI wn), .int ((vF 0 (24 * bn)) * hw)]) (rest := []) ⟨hx, hb, hml, hown, hts⟩ (r_X12_carry l dC dI a k h0 vi vj vF (fT vG 1 gs) sn wn ((vF 0 (24 * bn)) * hw) ((xa + yb).natAbs) (if xa + yb < 0 then -1 else 1) (by first | assumption | decide | omega | rfl) (by first | assumption | decide | omega | rfl) (fun q hq => by show -1152921504606846976 ≤ (gs q).toInt ∧ (gs q).toInt ≤ 1152921504606846976; have := hE q (by omega); have := la_bd hna3 q; have := la_bd hnb3 q; omega) (by show sv28 gs wn = _; rw [hsv]; omega) (by first | assumption | decide | omega | rfl) (fun h9 => by split <;> first | exact Or.inr ⟨rfl, ofm1 (by omega)⟩ | exact Or.inl ⟨rfl, of1 (by omega)⟩) H.size) (cwV 3 hts gwsRX12_add_1 rfl rfl rfl (by decide +kernel) ⟨by decide +kernel, by decide +kernel⟩) ⟨fun a U g mk q => by obtain ⟨q0, q1, qP, qK, qD⟩ := q; exact ⟨q0, q1, qP, va_K.moved (u := U) (U := U.calling g mk a) (Vm.Alike.refl U.vm) qK, qD⟩, va_recv hK hP (ci := 12) (q0 := 0) rfl rfl, fun U hU9 hW => ⟨rfl, by rw [hU9], by rw [hU9]; exact hP, va_K.moved hW.alike hK, hD.weaken (fun _ _ _ _ => trivial)⟩⟩ rfl rfl hl.1 rfl (lv_room (Nat.le_of_ble_eq_true rfl)) dX12_add_235 ⟨by decide +kernel, by decide +kernel⟩) hS (fun q _ h => hFc q h) hFc (fun u t9_ H1 locs ht hvm hw9 hB9 hz1 hk1 hS => ?_)
            obtain ⟨g235_3, hwit235_3⟩ : ∃ w9, w9 = u := ⟨u, rfl⟩
            subst hwit235_3
            obtain ⟨hP1, hD1⟩ := hB9
            rw [ht] at hP1
            have hP := hP1
            have hD := hD1.weaken (fun _ q _ h => hFc q.1 h)
            generalize H1 = H at hP hS ⊢
            have hP : va_P (dC, dI) vwCl (WR a k h0 vi vj (fT vF 0 g235_3) (fT vG 1 gs)) H := hP
            have hD : va_D A (WR a k h0 vi vj (fT vF 0 g235_3) (fT vG 1 gs)) := hD
            obtain ⟨f235_3_0, f235_3_1⟩ := hw9
            refine W.widen (k := 0) (n := 0) (by decide +kernel) (by decide +kernel) ?_
            exact W.vret hx hb hr (fun t9_ ht hW => ⟨⟨(g235_3, gs), rfl, by (try dsimp only); (have e9 : (if xa + yb < 0 then -1 else 1) * (((xa + yb).natAbs : Nat) : Int) = xa + yb := by split <;> omega); rw [e9] at f235_3_0; exact ⟨f235_3_0, f235_3_1⟩, by rw [ht]; exact hP, hD⟩, hS.F ht⟩) hS.2.2 dX12_add_238
          · have t_90 : ¬ ((i : Nat) : Int) ≥ ((wn : Nat) : Int) := toI_nge c_90 (nI_toInt (by omega)) (nI_toInt (by omega))
            refine lv_iload hx hb dX12_add_93 (lv_at hl 0 rfl) ?_
            refine lv_iload hx hb dX12_add_95 (lv_at hl 7 rfl) ?_
            refine lv_icmp_ge (tgt := 118) hx hb dX12_add_97 (by decide) (fun c_97 => ?_) (fun c_97 => ?_)
            · have t_97 : ((i : Nat) : Int) ≥ ((na : Nat) : Int) := toI_ge c_97 (nI_toInt (by omega)) (nI_toInt (by omega))
              refine lv_lconst (v := 0) hx hb dX12_add_118 (by decide) ?_
              have eU : (0 : Int64).toInt = la28 (vF 0) (24 * an + 2) na i := by unfold la28; rw [if_neg (by omega)]; decide
              refine lv_lstore hx hb dX12_add_119 hl (by decide) rfl (fun ls (hl : lv_has ls _ ([(12, .long 0), (11, .int (nI i)), (0, .ref h0), (1, .int (nI sn)), (2, .int (nI an)), (3, .int (nI bn)), (5, .int (vF 0 (24 * an))), (6, .int ((vF 0 (24 * bn)) * hw)), (7, .int (nI na)), (8, .int (nI nb_)), (9, .int (nI wn)), (10, .int 1)])) => ?_)
              refine lv_iload hx hb dX12_add_121 (lv_at hl 1 rfl) ?_
              refine lv_iload hx hb dX12_add_123 (lv_at hl 9 rfl) ?_
              refine lv_icmp_ge (tgt := 146) hx hb dX12_add_125 (by decide) (fun c_125 => ?_) (fun c_125 => ?_)
              · have t_125 : ((i : Nat) : Int) ≥ ((nb_ : Nat) : Int) := toI_ge c_125 (nI_toInt (by omega)) (nI_toInt (by omega))
                refine lv_lconst (v := 0) hx hb dX12_add_146 (by decide) ?_
                have eV : (0 : Int64).toInt = la28 (vF 0) (24 * bn + 2) nb_ i := by unfold la28; rw [if_neg (by omega)]; decide
                have bU := la_bd hna3 i
                have bV := la_bd hnb3 i
                refine lv_lstore hx hb dX12_add_147 hl (by decide) rfl (fun ls (hl : lv_has ls _ ([(14, .long 0), (12, .long 0), (11, .int (nI i)), (0, .ref h0), (1, .int (nI sn)), (2, .int (nI an)), (3, .int (nI bn)), (5, .int (vF 0 (24 * an))), (6, .int ((vF 0 (24 * bn)) * hw)), (7, .int (nI na)), (8, .int (nI nb_)), (9, .int (nI wn)), (10, .int 1)])) => ?_)
                refine lv_aload_n hx hb dX12_add_149 rfl (lv_at hl 3 rfl) ?_
                refine va_get (D := (dC, dI)) (ci := 12) (v := .ref (a 1)) (C := RX12) (T := TX12) (N := 163) (fs := fM (vS a vi vj)) hx hb hts iwsRX12_add_in12 hown hK hP 0 rfl rfl 2 (by decide) (hts (.fieldLink RX12 13 "OptimaWorksModel" "sum" "[J") (by decide +kernel)) (fun _ h9 => h9) rfl dX12_add_150 ?_
                refine lv_iload hx hb dX12_add_153 (lv_at hl 2 rfl) ?_
                refine lv_iload hx hb dX12_add_155 (lv_at hl 7 rfl) ?_
                refine lv_iload hx hb dX12_add_157 (lv_at hl 8 rfl) ?_
                refine lv_imul hx hb dX12_add_159 ?_
                refine lv_if_lt (tgt := 171) hx hb dX12_add_160 (by decide) (fun c_160 => ?_) (fun c9 => False.elim (by have t9 : ¬ (((vF 0 (24 * an)) * ((vF 0 (24 * bn)) * hw))).toInt < 0 := toI_nlt c9 rfl (by decide); omega))
                have t_160 : (((vF 0 (24 * an)) * ((vF 0 (24 * bn)) * hw))).toInt < 0 := toI_lt c_160 rfl (by decide)
                refine lv_iload hx hb dX12_add_171 (lv_at hl 12 rfl) ?_
                refine lv_if_eq (tgt := 184) hx hb dX12_add_173 (by decide) (fun c9 => absurd c9 (by decide)) (fun _ => ?_)
                refine lv_lload hx hb dX12_add_176 (lv_at hl 0 rfl) ?_
                refine lv_lload hx hb dX12_add_178 (lv_at hl 1 rfl) ?_
                refine lv_lsub hx hb dX12_add_180 ?_
                refine lv_topl (fun y36 hy36 => ?_)
                obtain rfl : 0 = y36 := (hy36.trans (by decide)).symm
                refine lv_goto (tgt := 189) hx hb dX12_add_181 (by decide) ?_
                have eS : (0 : Int64).toInt = (-1) * la28 (vF 0) (24 * an + 2) na i + 1 * la28 (vF 0) (24 * bn + 2) nb_ i := by (have e0 : (0 : Int64).toInt = 0 := by decide); rw [e0] at eU eV ⊢; omega
                refine va_last (cA := k 1) (n := 48) (f := gs) hx hb hK hP hD hS 2 1 (WR_get 1 (by decide)) (TR_get 1 (by decide)) (vp_in_nI (show i < 48 by omega) (by omega)) dX12_add_189 (fun H locs hP hD hS => ?_)
                have e9 : fT vG 1 (vp_updL gs ((nI i)).toNatClampNeg 0) = fT (fT vG 1 gs) 1 (vp_updL gs ((nI i)).toNatClampNeg 0) := (fT_sm _ _ _ _).symm
                have hP : va_P (dC, dI) vwCl (WR a k h0 vi vj vF (fT vG 1 (vp_updL gs ((nI i)).toNatClampNeg 0))) H := by rw [e9, ← WR_G 1 (by decide) _ rfl]; exact hP
                have hD : va_D A (WR a k h0 vi vj vF (fT vG 1 (vp_updL gs ((nI i)).toNatClampNeg 0))) := by rw [e9, ← WR_G 1 (by decide) _ rfl]; exact hD
                clear e9
                refine lv_iinc (v := (nI (i + 1))) hx hb dX12_add_190 hl (k := 2) rfl (nI_add i 1) (by decide) rfl (fun ls (hl : lv_has ls _ ([(11, .int (nI (i + 1))), (14, .long 0), (12, .long 0), (0, .ref h0), (1, .int (nI sn)), (2, .int (nI an)), (3, .int (nI bn)), (5, .int (vF 0 (24 * an))), (6, .int ((vF 0 (24 * bn)) * hw)), (7, .int (nI na)), (8, .int (nI nb_)), (9, .int (nI wn)), (10, .int 1)])) => ?_)
                refine lv_goto (tgt := 86) hx hb dX12_add_193 (by decide) ?_
                have hl : lv_has _ _ ([(11, .int (nI (i + 1))), (0, .ref h0), (1, .int (nI sn)), (2, .int (nI an)), (3, .int (nI bn)), (5, .int (vF 0 (24 * an))), (6, .int ((vF 0 (24 * bn)) * hw)), (7, .int (nI na)), (8, .int (nI nb_)), (9, .int (nI wn)), (10, .int 1)]) := lv_sub hl [0, 3, 4, 5, 6, 7, 8, 9, 10, 11, 12] rfl
                exact ih86_2 (i + 1) (vp_updL gs ((nI i)).toNatClampNeg 0) _ _ _ (by omega) (fun q hq => by rw [updL_at (by omega)]; by_cases e9 : q = i; (rw [if_pos e9, e9]; exact eS); (rw [if_neg e9]; exact hE q (by omega))) (by omega) hP hD hS hl
              · have t_125 : ¬ ((i : Nat) : Int) ≥ ((nb_ : Nat) : Int) := toI_nge c_125 (nI_toInt (by omega)) (nI_toInt (by omega))
                refine lv_aload_n hx hb dX12_add_128 rfl (lv_at hl 2 rfl) ?_
                refine va_get (D := (dC, dI)) (ci := 12) (v := .ref (a 0)) (C := RX12) (T := TX12) (N := 163) (fs := fM (vS a vi vj)) hx hb hts iwsRX12_add_in12 hown hK hP 0 rfl rfl 1 (by decide) (hts (.fieldLink RX12 7 "OptimaWorksModel" "big" "[I") (by decide +kernel)) (fun _ h9 => h9) rfl dX12_add_129 ?_
                refine lv_bipush (v := 24) hx hb dX12_add_132 (by decide) ?_
                refine lv_iload_n hx hb dX12_add_134 rfl (lv_at hl 5 rfl) ?_
                refine lv_imul hx hb dX12_add_135 ?_
                refine lv_topi (fun y37 hy37 => ?_)
                obtain rfl : (nI (24 * bn)) = y37 := (hy37.trans (pk_mul 24 bn)).symm
                refine lv_iconst (v := 2) hx hb dX12_add_136 (by decide) ?_
                refine lv_iadd hx hb dX12_add_137 ?_
                refine lv_topi (fun y38 hy38 => ?_)
                obtain rfl : (nI ((24 * bn) + 2)) = y38 := (hy38.trans (nI_add (24 * bn) 2)).symm
                refine lv_iload hx hb dX12_add_138 (lv_at hl 1 rfl) ?_
                refine lv_iadd hx hb dX12_add_140 ?_
                refine lv_topi (fun y39 hy39 => ?_)
                obtain rfl : (nI (((24 * bn) + 2) + i)) = y39 := (hy39.trans (nI_add ((24 * bn) + 2) i)).symm
                refine va_iald (cA := k 0) (n := 26400) (f := (vF 0)) hx hb hK hP 1 0 (WR_get 0 (by decide)) (TR_get 0 (by decide)) (vp_in_nI (show (((24 * bn) + 2) + i) < 26400 by omega) (by omega)) dX12_add_141 ?_
                refine lv_topi (fun y40 hy40 => ?_)
                obtain rfl : ((vF 0) (((24 * bn) + 2) + i)) = y40 := (hy40.trans (by rw [nI_clamp (by omega)])).symm
                refine lv_i2l hx hb dX12_add_142 rfl ?_
                refine lv_goto (tgt := 147) hx hb dX12_add_143 (by decide) ?_
                have eV : ((((vF 0) (((24 * bn) + 2) + i))).toInt64 : Int64).toInt = la28 (vF 0) (24 * bn + 2) nb_ i := by unfold la28; rw [if_pos (by omega)]; exact i64T _
                have bU := la_bd hna3 i
                have bV := la_bd hnb3 i
                refine lv_lstore hx hb dX12_add_147 hl (by decide) rfl (fun ls (hl : lv_has ls _ ([(14, .long (((vF 0) (((24 * bn) + 2) + i))).toInt64), (12, .long 0), (11, .int (nI i)), (0, .ref h0), (1, .int (nI sn)), (2, .int (nI an)), (3, .int (nI bn)), (5, .int (vF 0 (24 * an))), (6, .int ((vF 0 (24 * bn)) * hw)), (7, .int (nI na)), (8, .int (nI nb_)), (9, .int (nI wn)), (10, .int 1)])) => ?_)
                refine lv_aload_n hx hb dX12_add_149 rfl (lv_at hl 3 rfl) ?_
                refine va_get (D := (dC, dI)) (ci := 12) (v := .ref (a 1)) (C := RX12) (T := TX12) (N := 163) (fs := fM (vS a vi vj)) hx hb hts iwsRX12_add_in12 hown hK hP 0 rfl rfl 2 (by decide) (hts (.fieldLink RX12 13 "OptimaWorksModel" "sum" "[J") (by decide +kernel)) (fun _ h9 => h9) rfl dX12_add_150 ?_
                refine lv_iload hx hb dX12_add_153 (lv_at hl 2 rfl) ?_
                refine lv_iload hx hb dX12_add_155 (lv_at hl 7 rfl) ?_
                refine lv_iload hx hb dX12_add_157 (lv_at hl 8 rfl) ?_
                refine lv_imul hx hb dX12_add_159 ?_
                refine lv_if_lt (tgt := 171) hx hb dX12_add_160 (by decide) (fun c_160 => ?_) (fun c9 => False.elim (by have t9 : ¬ (((vF 0 (24 * an)) * ((vF 0 (24 * bn)) * hw))).toInt < 0 := toI_nlt c9 rfl (by decide); omega))
                have t_160 : (((vF 0 (24 * an)) * ((vF 0 (24 * bn)) * hw))).toInt < 0 := toI_lt c_160 rfl (by decide)
                refine lv_iload hx hb dX12_add_171 (lv_at hl 12 rfl) ?_
                refine lv_if_eq (tgt := 184) hx hb dX12_add_173 (by decide) (fun c9 => absurd c9 (by decide)) (fun _ => ?_)
                refine lv_lload hx hb dX12_add_176 (lv_at hl 0 rfl) ?_
                refine lv_lload hx hb dX12_add_178 (lv_at hl 1 rfl) ?_
                refine lv_lsub hx hb dX12_add_180 ?_
                refine lv_goto (tgt := 189) hx hb dX12_add_181 (by decide) ?_
                have eS : (((((vF 0) (((24 * bn) + 2) + i))).toInt64 - 0) : Int64).toInt = (-1) * la28 (vF 0) (24 * an + 2) na i + 1 * la28 (vF 0) (24 * bn + 2) nb_ i := by rw [subJ (by omega) (by omega)]; omega
                refine va_last (cA := k 1) (n := 48) (f := gs) hx hb hK hP hD hS 2 1 (WR_get 1 (by decide)) (TR_get 1 (by decide)) (vp_in_nI (show i < 48 by omega) (by omega)) dX12_add_189 (fun H locs hP hD hS => ?_)
                have e9 : fT vG 1 (vp_updL gs ((nI i)).toNatClampNeg ((((vF 0) (((24 * bn) + 2) + i))).toInt64 - 0)) = fT (fT vG 1 gs) 1 (vp_updL gs ((nI i)).toNatClampNeg ((((vF 0) (((24 * bn) + 2) + i))).toInt64 - 0)) := (fT_sm _ _ _ _).symm
                have hP : va_P (dC, dI) vwCl (WR a k h0 vi vj vF (fT vG 1 (vp_updL gs ((nI i)).toNatClampNeg ((((vF 0) (((24 * bn) + 2) + i))).toInt64 - 0)))) H := by rw [e9, ← WR_G 1 (by decide) _ rfl]; exact hP
                have hD : va_D A (WR a k h0 vi vj vF (fT vG 1 (vp_updL gs ((nI i)).toNatClampNeg ((((vF 0) (((24 * bn) + 2) + i))).toInt64 - 0)))) := by rw [e9, ← WR_G 1 (by decide) _ rfl]; exact hD
                clear e9
                refine lv_iinc (v := (nI (i + 1))) hx hb dX12_add_190 hl (k := 2) rfl (nI_add i 1) (by decide) rfl (fun ls (hl : lv_has ls _ ([(11, .int (nI (i + 1))), (14, .long (((vF 0) (((24 * bn) + 2) + i))).toInt64), (12, .long 0), (0, .ref h0), (1, .int (nI sn)), (2, .int (nI an)), (3, .int (nI bn)), (5, .int (vF 0 (24 * an))), (6, .int ((vF 0 (24 * bn)) * hw)), (7, .int (nI na)), (8, .int (nI nb_)), (9, .int (nI wn)), (10, .int 1)])) => ?_)
                refine lv_goto (tgt := 86) hx hb dX12_add_193 (by decide) ?_
                have hl : lv_has _ _ ([(11, .int (nI (i + 1))), (0, .ref h0), (1, .int (nI sn)), (2, .int (nI an)), (3, .int (nI bn)), (5, .int (vF 0 (24 * an))), (6, .int ((vF 0 (24 * bn)) * hw)), (7, .int (nI na)), (8, .int (nI nb_)), (9, .int (nI wn)), (10, .int 1)]) := lv_sub hl [0, 3, 4, 5, 6, 7, 8, 9, 10, 11, 12] rfl
                exact ih86_2 (i + 1) (vp_updL gs ((nI i)).toNatClampNeg ((((vF 0) (((24 * bn) + 2) + i))).toInt64 - 0)) _ _ _ (by omega) (fun q hq => by rw [updL_at (by omega)]; by_cases e9 : q = i; (rw [if_pos e9, e9]; exact eS); (rw [if_neg e9]; exact hE q (by omega))) (by omega) hP hD hS hl
            · have t_97 : ¬ ((i : Nat) : Int) ≥ ((na : Nat) : Int) := toI_nge c_97 (nI_toInt (by omega)) (nI_toInt (by omega))
              refine lv_aload_n hx hb dX12_add_100 rfl (lv_at hl 1 rfl) ?_
              refine va_get (D := (dC, dI)) (ci := 12) (v := .ref (a 0)) (C := RX12) (T := TX12) (N := 163) (fs := fM (vS a vi vj)) hx hb hts iwsRX12_add_in12 hown hK hP 0 rfl rfl 1 (by decide) (hts (.fieldLink RX12 7 "OptimaWorksModel" "big" "[I") (by decide +kernel)) (fun _ h9 => h9) rfl dX12_add_101 ?_
              refine lv_bipush (v := 24) hx hb dX12_add_104 (by decide) ?_
              refine lv_iload_n hx hb dX12_add_106 rfl (lv_at hl 3 rfl) ?_
              refine lv_imul hx hb dX12_add_107 ?_
              refine lv_topi (fun y41 hy41 => ?_)
              obtain rfl : (nI (24 * an)) = y41 := (hy41.trans (pk_mul 24 an)).symm
              refine lv_iconst (v := 2) hx hb dX12_add_108 (by decide) ?_
              refine lv_iadd hx hb dX12_add_109 ?_
              refine lv_topi (fun y42 hy42 => ?_)
              obtain rfl : (nI ((24 * an) + 2)) = y42 := (hy42.trans (nI_add (24 * an) 2)).symm
              refine lv_iload hx hb dX12_add_110 (lv_at hl 0 rfl) ?_
              refine lv_iadd hx hb dX12_add_112 ?_
              refine lv_topi (fun y43 hy43 => ?_)
              obtain rfl : (nI (((24 * an) + 2) + i)) = y43 := (hy43.trans (nI_add ((24 * an) + 2) i)).symm
              refine va_iald (cA := k 0) (n := 26400) (f := (vF 0)) hx hb hK hP 1 0 (WR_get 0 (by decide)) (TR_get 0 (by decide)) (vp_in_nI (show (((24 * an) + 2) + i) < 26400 by omega) (by omega)) dX12_add_113 ?_
              refine lv_topi (fun y44 hy44 => ?_)
              obtain rfl : ((vF 0) (((24 * an) + 2) + i)) = y44 := (hy44.trans (by rw [nI_clamp (by omega)])).symm
              refine lv_i2l hx hb dX12_add_114 rfl ?_
              refine lv_goto (tgt := 119) hx hb dX12_add_115 (by decide) ?_
              have eU : ((((vF 0) (((24 * an) + 2) + i))).toInt64 : Int64).toInt = la28 (vF 0) (24 * an + 2) na i := by unfold la28; rw [if_pos (by omega)]; exact i64T _
              refine lv_lstore hx hb dX12_add_119 hl (by decide) rfl (fun ls (hl : lv_has ls _ ([(12, .long (((vF 0) (((24 * an) + 2) + i))).toInt64), (11, .int (nI i)), (0, .ref h0), (1, .int (nI sn)), (2, .int (nI an)), (3, .int (nI bn)), (5, .int (vF 0 (24 * an))), (6, .int ((vF 0 (24 * bn)) * hw)), (7, .int (nI na)), (8, .int (nI nb_)), (9, .int (nI wn)), (10, .int 1)])) => ?_)
              refine lv_iload hx hb dX12_add_121 (lv_at hl 1 rfl) ?_
              refine lv_iload hx hb dX12_add_123 (lv_at hl 9 rfl) ?_
              refine lv_icmp_ge (tgt := 146) hx hb dX12_add_125 (by decide) (fun c_125 => ?_) (fun c_125 => ?_)
              · have t_125 : ((i : Nat) : Int) ≥ ((nb_ : Nat) : Int) := toI_ge c_125 (nI_toInt (by omega)) (nI_toInt (by omega))
                refine lv_lconst (v := 0) hx hb dX12_add_146 (by decide) ?_
                have eV : (0 : Int64).toInt = la28 (vF 0) (24 * bn + 2) nb_ i := by unfold la28; rw [if_neg (by omega)]; decide
                have bU := la_bd hna3 i
                have bV := la_bd hnb3 i
                refine lv_lstore hx hb dX12_add_147 hl (by decide) rfl (fun ls (hl : lv_has ls _ ([(14, .long 0), (12, .long (((vF 0) (((24 * an) + 2) + i))).toInt64), (11, .int (nI i)), (0, .ref h0), (1, .int (nI sn)), (2, .int (nI an)), (3, .int (nI bn)), (5, .int (vF 0 (24 * an))), (6, .int ((vF 0 (24 * bn)) * hw)), (7, .int (nI na)), (8, .int (nI nb_)), (9, .int (nI wn)), (10, .int 1)])) => ?_)
                refine lv_aload_n hx hb dX12_add_149 rfl (lv_at hl 3 rfl) ?_
                refine va_get (D := (dC, dI)) (ci := 12) (v := .ref (a 1)) (C := RX12) (T := TX12) (N := 163) (fs := fM (vS a vi vj)) hx hb hts iwsRX12_add_in12 hown hK hP 0 rfl rfl 2 (by decide) (hts (.fieldLink RX12 13 "OptimaWorksModel" "sum" "[J") (by decide +kernel)) (fun _ h9 => h9) rfl dX12_add_150 ?_
                refine lv_iload hx hb dX12_add_153 (lv_at hl 2 rfl) ?_
                refine lv_iload hx hb dX12_add_155 (lv_at hl 7 rfl) ?_
                refine lv_iload hx hb dX12_add_157 (lv_at hl 8 rfl) ?_
                refine lv_imul hx hb dX12_add_159 ?_
                refine lv_if_lt (tgt := 171) hx hb dX12_add_160 (by decide) (fun c_160 => ?_) (fun c9 => False.elim (by have t9 : ¬ (((vF 0 (24 * an)) * ((vF 0 (24 * bn)) * hw))).toInt < 0 := toI_nlt c9 rfl (by decide); omega))
                have t_160 : (((vF 0 (24 * an)) * ((vF 0 (24 * bn)) * hw))).toInt < 0 := toI_lt c_160 rfl (by decide)
                refine lv_iload hx hb dX12_add_171 (lv_at hl 12 rfl) ?_
                refine lv_if_eq (tgt := 184) hx hb dX12_add_173 (by decide) (fun c9 => absurd c9 (by decide)) (fun _ => ?_)
                refine lv_lload hx hb dX12_add_176 (lv_at hl 0 rfl) ?_
                refine lv_lload hx hb dX12_add_178 (lv_at hl 1 rfl) ?_
                refine lv_lsub hx hb dX12_add_180 ?_
                refine lv_goto (tgt := 189) hx hb dX12_add_181 (by decide) ?_
                have eS : ((0 - (((vF 0) (((24 * an) + 2) + i))).toInt64) : Int64).toInt = (-1) * la28 (vF 0) (24 * an + 2) na i + 1 * la28 (vF 0) (24 * bn + 2) nb_ i := by rw [subJ (by omega) (by omega)]; omega
                refine va_last (cA := k 1) (n := 48) (f := gs) hx hb hK hP hD hS 2 1 (WR_get 1 (by decide)) (TR_get 1 (by decide)) (vp_in_nI (show i < 48 by omega) (by omega)) dX12_add_189 (fun H locs hP hD hS => ?_)
                have e9 : fT vG 1 (vp_updL gs ((nI i)).toNatClampNeg (0 - (((vF 0) (((24 * an) + 2) + i))).toInt64)) = fT (fT vG 1 gs) 1 (vp_updL gs ((nI i)).toNatClampNeg (0 - (((vF 0) (((24 * an) + 2) + i))).toInt64)) := (fT_sm _ _ _ _).symm
                have hP : va_P (dC, dI) vwCl (WR a k h0 vi vj vF (fT vG 1 (vp_updL gs ((nI i)).toNatClampNeg (0 - (((vF 0) (((24 * an) + 2) + i))).toInt64)))) H := by rw [e9, ← WR_G 1 (by decide) _ rfl]; exact hP
                have hD : va_D A (WR a k h0 vi vj vF (fT vG 1 (vp_updL gs ((nI i)).toNatClampNeg (0 - (((vF 0) (((24 * an) + 2) + i))).toInt64)))) := by rw [e9, ← WR_G 1 (by decide) _ rfl]; exact hD
                clear e9
                refine lv_iinc (v := (nI (i + 1))) hx hb dX12_add_190 hl (k := 2) rfl (nI_add i 1) (by decide) rfl (fun ls (hl : lv_has ls _ ([(11, .int (nI (i + 1))), (14, .long 0), (12, .long (((vF 0) (((24 * an) + 2) + i))).toInt64), (0, .ref h0), (1, .int (nI sn)), (2, .int (nI an)), (3, .int (nI bn)), (5, .int (vF 0 (24 * an))), (6, .int ((vF 0 (24 * bn)) * hw)), (7, .int (nI na)), (8, .int (nI nb_)), (9, .int (nI wn)), (10, .int 1)])) => ?_)
                refine lv_goto (tgt := 86) hx hb dX12_add_193 (by decide) ?_
                have hl : lv_has _ _ ([(11, .int (nI (i + 1))), (0, .ref h0), (1, .int (nI sn)), (2, .int (nI an)), (3, .int (nI bn)), (5, .int (vF 0 (24 * an))), (6, .int ((vF 0 (24 * bn)) * hw)), (7, .int (nI na)), (8, .int (nI nb_)), (9, .int (nI wn)), (10, .int 1)]) := lv_sub hl [0, 3, 4, 5, 6, 7, 8, 9, 10, 11, 12] rfl
                exact ih86_2 (i + 1) (vp_updL gs ((nI i)).toNatClampNeg (0 - (((vF 0) (((24 * an) + 2) + i))).toInt64)) _ _ _ (by omega) (fun q hq => by rw [updL_at (by omega)]; by_cases e9 : q = i; (rw [if_pos e9, e9]; exact eS); (rw [if_neg e9]; exact hE q (by omega))) (by omega) hP hD hS hl
              · have t_125 : ¬ ((i : Nat) : Int) ≥ ((nb_ : Nat) : Int) := toI_nge c_125 (nI_toInt (by omega)) (nI_toInt (by omega))
                refine lv_aload_n hx hb dX12_add_128 rfl (lv_at hl 2 rfl) ?_
                refine va_get (D := (dC, dI)) (ci := 12) (v := .ref (a 0)) (C := RX12) (T := TX12) (N := 163) (fs := fM (vS a vi vj)) hx hb hts iwsRX12_add_in12 hown hK hP 0 rfl rfl 1 (by decide) (hts (.fieldLink RX12 7 "OptimaWorksModel" "big" "[I") (by decide +kernel)) (fun _ h9 => h9) rfl dX12_add_129 ?_
                refine lv_bipush (v := 24) hx hb dX12_add_132 (by decide) ?_
                refine lv_iload_n hx hb dX12_add_134 rfl (lv_at hl 5 rfl) ?_
                refine lv_imul hx hb dX12_add_135 ?_
                refine lv_topi (fun y45 hy45 => ?_)
                obtain rfl : (nI (24 * bn)) = y45 := (hy45.trans (pk_mul 24 bn)).symm
                refine lv_iconst (v := 2) hx hb dX12_add_136 (by decide) ?_
                refine lv_iadd hx hb dX12_add_137 ?_
                refine lv_topi (fun y46 hy46 => ?_)
                obtain rfl : (nI ((24 * bn) + 2)) = y46 := (hy46.trans (nI_add (24 * bn) 2)).symm
                refine lv_iload hx hb dX12_add_138 (lv_at hl 1 rfl) ?_
                refine lv_iadd hx hb dX12_add_140 ?_
                refine lv_topi (fun y47 hy47 => ?_)
                obtain rfl : (nI (((24 * bn) + 2) + i)) = y47 := (hy47.trans (nI_add ((24 * bn) + 2) i)).symm
                refine va_iald (cA := k 0) (n := 26400) (f := (vF 0)) hx hb hK hP 1 0 (WR_get 0 (by decide)) (TR_get 0 (by decide)) (vp_in_nI (show (((24 * bn) + 2) + i) < 26400 by omega) (by omega)) dX12_add_141 ?_
                refine lv_topi (fun y48 hy48 => ?_)
                obtain rfl : ((vF 0) (((24 * bn) + 2) + i)) = y48 := (hy48.trans (by rw [nI_clamp (by omega)])).symm
                refine lv_i2l hx hb dX12_add_142 rfl ?_
                refine lv_goto (tgt := 147) hx hb dX12_add_143 (by decide) ?_
                have eV : ((((vF 0) (((24 * bn) + 2) + i))).toInt64 : Int64).toInt = la28 (vF 0) (24 * bn + 2) nb_ i := by unfold la28; rw [if_pos (by omega)]; exact i64T _
                have bU := la_bd hna3 i
                have bV := la_bd hnb3 i
                refine lv_lstore hx hb dX12_add_147 hl (by decide) rfl (fun ls (hl : lv_has ls _ ([(14, .long (((vF 0) (((24 * bn) + 2) + i))).toInt64), (12, .long (((vF 0) (((24 * an) + 2) + i))).toInt64), (11, .int (nI i)), (0, .ref h0), (1, .int (nI sn)), (2, .int (nI an)), (3, .int (nI bn)), (5, .int (vF 0 (24 * an))), (6, .int ((vF 0 (24 * bn)) * hw)), (7, .int (nI na)), (8, .int (nI nb_)), (9, .int (nI wn)), (10, .int 1)])) => ?_)
                refine lv_aload_n hx hb dX12_add_149 rfl (lv_at hl 3 rfl) ?_
                refine va_get (D := (dC, dI)) (ci := 12) (v := .ref (a 1)) (C := RX12) (T := TX12) (N := 163) (fs := fM (vS a vi vj)) hx hb hts iwsRX12_add_in12 hown hK hP 0 rfl rfl 2 (by decide) (hts (.fieldLink RX12 13 "OptimaWorksModel" "sum" "[J") (by decide +kernel)) (fun _ h9 => h9) rfl dX12_add_150 ?_
                refine lv_iload hx hb dX12_add_153 (lv_at hl 2 rfl) ?_
                refine lv_iload hx hb dX12_add_155 (lv_at hl 7 rfl) ?_
                refine lv_iload hx hb dX12_add_157 (lv_at hl 8 rfl) ?_
                refine lv_imul hx hb dX12_add_159 ?_
                refine lv_if_lt (tgt := 171) hx hb dX12_add_160 (by decide) (fun c_160 => ?_) (fun c9 => False.elim (by have t9 : ¬ (((vF 0 (24 * an)) * ((vF 0 (24 * bn)) * hw))).toInt < 0 := toI_nlt c9 rfl (by decide); omega))
                have t_160 : (((vF 0 (24 * an)) * ((vF 0 (24 * bn)) * hw))).toInt < 0 := toI_lt c_160 rfl (by decide)
                refine lv_iload hx hb dX12_add_171 (lv_at hl 12 rfl) ?_
                refine lv_if_eq (tgt := 184) hx hb dX12_add_173 (by decide) (fun c9 => absurd c9 (by decide)) (fun _ => ?_)
                refine lv_lload hx hb dX12_add_176 (lv_at hl 0 rfl) ?_
                refine lv_lload hx hb dX12_add_178 (lv_at hl 1 rfl) ?_
                refine lv_lsub hx hb dX12_add_180 ?_
                refine lv_goto (tgt := 189) hx hb dX12_add_181 (by decide) ?_
                have eS : (((((vF 0) (((24 * bn) + 2) + i))).toInt64 - (((vF 0) (((24 * an) + 2) + i))).toInt64) : Int64).toInt = (-1) * la28 (vF 0) (24 * an + 2) na i + 1 * la28 (vF 0) (24 * bn + 2) nb_ i := by rw [subJ (by omega) (by omega)]; omega
                refine va_last (cA := k 1) (n := 48) (f := gs) hx hb hK hP hD hS 2 1 (WR_get 1 (by decide)) (TR_get 1 (by decide)) (vp_in_nI (show i < 48 by omega) (by omega)) dX12_add_189 (fun H locs hP hD hS => ?_)
                have e9 : fT vG 1 (vp_updL gs ((nI i)).toNatClampNeg ((((vF 0) (((24 * bn) + 2) + i))).toInt64 - (((vF 0) (((24 * an) + 2) + i))).toInt64)) = fT (fT vG 1 gs) 1 (vp_updL gs ((nI i)).toNatClampNeg ((((vF 0) (((24 * bn) + 2) + i))).toInt64 - (((vF 0) (((24 * an) + 2) + i))).toInt64)) := (fT_sm _ _ _ _).symm
                have hP : va_P (dC, dI) vwCl (WR a k h0 vi vj vF (fT vG 1 (vp_updL gs ((nI i)).toNatClampNeg ((((vF 0) (((24 * bn) + 2) + i))).toInt64 - (((vF 0) (((24 * an) + 2) + i))).toInt64)))) H := by rw [e9, ← WR_G 1 (by decide) _ rfl]; exact hP
                have hD : va_D A (WR a k h0 vi vj vF (fT vG 1 (vp_updL gs ((nI i)).toNatClampNeg ((((vF 0) (((24 * bn) + 2) + i))).toInt64 - (((vF 0) (((24 * an) + 2) + i))).toInt64)))) := by rw [e9, ← WR_G 1 (by decide) _ rfl]; exact hD
                clear e9
                refine lv_iinc (v := (nI (i + 1))) hx hb dX12_add_190 hl (k := 2) rfl (nI_add i 1) (by decide) rfl (fun ls (hl : lv_has ls _ ([(11, .int (nI (i + 1))), (14, .long (((vF 0) (((24 * bn) + 2) + i))).toInt64), (12, .long (((vF 0) (((24 * an) + 2) + i))).toInt64), (0, .ref h0), (1, .int (nI sn)), (2, .int (nI an)), (3, .int (nI bn)), (5, .int (vF 0 (24 * an))), (6, .int ((vF 0 (24 * bn)) * hw)), (7, .int (nI na)), (8, .int (nI nb_)), (9, .int (nI wn)), (10, .int 1)])) => ?_)
                refine lv_goto (tgt := 86) hx hb dX12_add_193 (by decide) ?_
                have hl : lv_has _ _ ([(11, .int (nI (i + 1))), (0, .ref h0), (1, .int (nI sn)), (2, .int (nI an)), (3, .int (nI bn)), (5, .int (vF 0 (24 * an))), (6, .int ((vF 0 (24 * bn)) * hw)), (7, .int (nI na)), (8, .int (nI nb_)), (9, .int (nI wn)), (10, .int 1)]) := lv_sub hl [0, 3, 4, 5, 6, 7, 8, 9, 10, 11, 12] rfl
                exact ih86_2 (i + 1) (vp_updL gs ((nI i)).toNatClampNeg ((((vF 0) (((24 * bn) + 2) + i))).toInt64 - (((vF 0) (((24 * an) + 2) + i))).toInt64)) _ _ _ (by omega) (fun q hq => by rw [updL_at (by omega)]; by_cases e9 : q = i; (rw [if_pos e9, e9]; exact eS); (rw [if_neg e9]; exact hE q (by omega))) (by omega) hP hD hS hl
  · have t_47 : ¬ ((na : Nat) : Int) ≤ ((nb_ : Nat) : Int) := toI_nle c_47 (nI_toInt (by omega)) (nI_toInt (by omega))
    refine lv_iload hx hb dX12_add_50 (lv_at hl 1 rfl) ?_
    refine lv_goto (tgt := 57) hx hb dX12_add_52 (by decide) ?_
    obtain ⟨wn, hwn1, hwn2, hwn3⟩ : ∃ wn, wn = na ∧ na ≤ wn ∧ nb_ ≤ wn := ⟨_, rfl, by omega, by omega⟩
    refine lv_topi (fun y49 hy49 => ?_)
    obtain rfl : (nI wn) = y49 := (hy49.trans (by rw [hwn1])).symm
    refine lv_istore hx hb dX12_add_57 hl (by decide) rfl (fun ls (hl : lv_has ls _ ([(9, .int (nI wn)), (8, .int (nI nb_)), (7, .int (nI na)), (6, .int ((vF 0 (24 * bn)) * hw)), (5, .int (vF 0 (24 * an))), (0, .ref h0), (1, .int (nI sn)), (2, .int (nI an)), (3, .int (nI bn)), (4, .int hw)])) => ?_)
    refine lv_iload hx hb dX12_add_59 (lv_at hl 4 rfl) ?_
    refine lv_iload hx hb dX12_add_61 (lv_at hl 3 rfl) ?_
    refine lv_imul hx hb dX12_add_63 ?_
    refine lv_if_ge (tgt := 80) hx hb dX12_add_64 (by decide) (fun c_64 => ?_) (fun c_64 => ?_)
    · have t_64 : (((vF 0 (24 * an)) * ((vF 0 (24 * bn)) * hw))).toInt ≥ 0 := toI_ge c_64 rfl (by decide)
      refine lv_iconst (v := 0) hx hb dX12_add_80 (by decide) ?_
      refine lv_istore hx hb dX12_add_81 hl (by decide) rfl (fun ls (hl : lv_has ls _ ([(10, .int 0), (9, .int (nI wn)), (8, .int (nI nb_)), (7, .int (nI na)), (6, .int ((vF 0 (24 * bn)) * hw)), (5, .int (vF 0 (24 * an))), (0, .ref h0), (1, .int (nI sn)), (2, .int (nI an)), (3, .int (nI bn)), (4, .int hw)])) => ?_)
      refine lv_iconst (v := 0) hx hb dX12_add_83 (by decide) ?_
      refine lv_istore hx hb dX12_add_84 hl (by decide) rfl (fun ls (hl : lv_has ls _ ([(11, .int 0), (10, .int 0), (9, .int (nI wn)), (8, .int (nI nb_)), (7, .int (nI na)), (6, .int ((vF 0 (24 * bn)) * hw)), (5, .int (vF 0 (24 * an))), (0, .ref h0), (1, .int (nI sn)), (2, .int (nI an)), (3, .int (nI bn)), (4, .int hw)])) => ?_)
      have e9 : fT vG 1 (vG 1) = vG := by funext q9; by_cases h9_1 : q9 = 1; (subst h9_1; exact (fT_eq _ _ _).trans (Eq.trans (by first | rfl | assumption | (symm; assumption) | (subst_vars; rfl)) (Eq.refl _).symm)); exact (fT_ne _ _ h9_1).trans (Eq.refl _).symm
      have hP : va_P (dC, dI) vwCl (WR a k h0 vi vj vF (fT vG 1 (vG 1))) H := by rw [e9]; exact hP
      have hD : va_D A (WR a k h0 vi vj vF (fT vG 1 (vG 1))) := by rw [e9]; exact hD
      clear e9
      have hl : lv_has _ _ ([(11, .int (nI 0)), (0, .ref h0), (1, .int (nI sn)), (2, .int (nI an)), (3, .int (nI bn)), (5, .int (vF 0 (24 * an))), (6, .int ((vF 0 (24 * bn)) * hw)), (7, .int (nI na)), (8, .int (nI nb_)), (9, .int (nI wn)), (10, .int 0)]) := lv_sub hl [0, 7, 8, 9, 10, 6, 5, 4, 3, 2, 1] rfl
      refine (fun (loop : ∀ (n9 : Nat) (i : Nat) (gs : Nat → Int64) (H : Heap) (locs : List Loc) (ls : Array Slot), (i ≤ wn) → (∀ q, q < i → (gs q).toInt = 1 * la28 (vF 0) (24 * an + 2) na q + 1 * la28 (vF 0) (24 * bn + 2) nb_ q) →  (wn < i + n9) → va_P (dC, dI) vwCl (WR a k h0 vi vj vF (fT vG 1 gs)) H → va_D A (WR a k h0 vi vj vF (fT vG 1 gs)) → va_S A s.heap H locs → lv_has ls 16 [(11, .int (nI i)), (0, .ref h0), (1, .int (nI sn)), (2, .int (nI an)), (3, .int (nI bn)), (5, .int (vF 0 (24 * an))), (6, .int ((vF 0 (24 * bn)) * hw)), (7, .int (nI na)), (8, .int (nI nb_)), (9, .int (nI wn)), (10, .int 0)] → W p l e _ s m _ below meth c H locs 0 0 _ (F0 m 86 ls [])) => loop (wn + 1) 0 (vG 1) _ _ _ (by omega) (fun q h => absurd h (by omega)) (by omega) hP hD hS hl) ?_
      intro n9
      induction n9 with
      | zero => intro i gs H locs ls hi hE hf9; exact False.elim (by omega)
      | succ n9 ih86_3 =>
        intro i gs H locs ls hi hE hf86_3 hP hD hS hl
        refine lv_iload hx hb dX12_add_86 (lv_at hl 0 rfl) ?_
        refine lv_iload hx hb dX12_add_88 (lv_at hl 9 rfl) ?_
        refine lv_icmp_ge (tgt := 196) hx hb dX12_add_90 (by decide) (fun c_90 => ?_) (fun c_90 => ?_)
        · have t_90 : ((i : Nat) : Int) ≥ ((wn : Nat) : Int) := toI_ge c_90 (nI_toInt (by omega)) (nI_toInt (by omega))
          refine lv_aload_n hx hb dX12_add_196 rfl (lv_at hl 1 rfl) ?_
          refine lv_iload_n hx hb dX12_add_197 rfl (lv_at hl 2 rfl) ?_
          refine lv_iload hx hb dX12_add_198 (lv_at hl 9 rfl) ?_
          refine lv_iload hx hb dX12_add_200 (lv_at hl 5 rfl) ?_
          refine lv_iload hx hb dX12_add_202 (lv_at hl 6 rfl) ?_
          refine lv_imul hx hb dX12_add_204 ?_
          refine lv_if_lt (tgt := 223) hx hb dX12_add_205 (by decide) (fun c9 => False.elim (by have t9 : (((vF 0 (24 * an)) * ((vF 0 (24 * bn)) * hw))).toInt < 0 := toI_lt c9 rfl (by decide); omega)) (fun c_205 => ?_)
          have t_205 : ¬ (((vF 0 (24 * an)) * ((vF 0 (24 * bn)) * hw))).toInt < 0 := toI_nlt c_205 rfl (by decide)
          refine lv_iload hx hb dX12_add_208 (lv_at hl 5 rfl) ?_
          refine lv_if_eq (tgt := 218) hx hb dX12_add_210 (by decide) (fun c_210 => ?_) (fun c_210 => ?_)
          · have t_210 : ((vF 0 (24 * an))).toInt = 0 := toI_eq c_210 rfl (by decide)
            refine lv_iload hx hb dX12_add_218 (lv_at hl 6 rfl) ?_
            refine lv_goto (tgt := 235) hx hb dX12_add_220 (by decide) ?_
            have hsv := sum28 hna3 hnb3 hwn2 hwn3 (gs := gs) (ca := 1) (cb := 1) (fun q hq => hE q (by omega))
            rw [← hna5, ← hnb5] at hsv
            have hFc := allFree hD hS hA
            refine va_callv (va_runV (As := [.int (nI sn), .int (nI wn), .int ((vF 0 (24 * bn)) * hw)]) (rest := []) ⟨hx, hb, hml, hown, hts⟩ (r_X12_carry l dC dI a k h0 vi vj vF (fT vG 1 gs) sn wn ((vF 0 (24 * bn)) * hw) ((xa + yb).natAbs) (if xa + yb < 0 then -1 else 1) (by first | assumption | decide | omega | rfl) (by first | assumption | decide | omega | rfl) (fun q hq => by show -1152921504606846976 ≤ (gs q).toInt ∧ (gs q).toInt ≤ 1152921504606846976; have := hE q (by omega); have := la_bd hna3 q; have := la_bd hnb3 q; omega) (by show sv28 gs wn = _; rw [hsv]; omega) (by first | assumption | decide | omega | rfl) (fun h9 => by split <;> first | exact Or.inr ⟨rfl, ofm1 (by omega)⟩ | exact Or.inl ⟨rfl, of1 (by omega)⟩) H.size) (cwV 3 hts gwsRX12_add_1 rfl rfl rfl (by decide +kernel) ⟨by decide +kernel, by decide +kernel⟩) ⟨fun a U g mk q => by obtain ⟨q0, q1, qP, qK, qD⟩ := q; exact ⟨q0, q1, qP, va_K.moved (u := U) (U := U.calling g mk a) (Vm.Alike.refl U.vm) qK, qD⟩, va_recv hK hP (ci := 12) (q0 := 0) rfl rfl, fun U hU9 hW => ⟨rfl, by rw [hU9], by rw [hU9]; exact hP, va_K.moved hW.alike hK, hD.weaken (fun _ _ _ _ => trivial)⟩⟩ rfl rfl hl.1 rfl (lv_room (Nat.le_of_ble_eq_true rfl)) dX12_add_235 ⟨by decide +kernel, by decide +kernel⟩) hS (fun q _ h => hFc q h) hFc (fun u t9_ H1 locs ht hvm hw9 hB9 hz1 hk1 hS => ?_)
            obtain ⟨g235_4, hwit235_4⟩ : ∃ w9, w9 = u := ⟨u, rfl⟩
            subst hwit235_4
            obtain ⟨hP1, hD1⟩ := hB9
            rw [ht] at hP1
            have hP := hP1
            have hD := hD1.weaken (fun _ q _ h => hFc q.1 h)
            generalize H1 = H at hP hS ⊢
            have hP : va_P (dC, dI) vwCl (WR a k h0 vi vj (fT vF 0 g235_4) (fT vG 1 gs)) H := hP
            have hD : va_D A (WR a k h0 vi vj (fT vF 0 g235_4) (fT vG 1 gs)) := hD
            obtain ⟨f235_4_0, f235_4_1⟩ := hw9
            refine W.widen (k := 0) (n := 0) (by decide +kernel) (by decide +kernel) ?_
            exact W.vret hx hb hr (fun t9_ ht hW => ⟨⟨(g235_4, gs), rfl, by (try dsimp only); (have e9 : (if xa + yb < 0 then -1 else 1) * (((xa + yb).natAbs : Nat) : Int) = xa + yb := by split <;> omega); rw [e9] at f235_4_0; exact ⟨f235_4_0, f235_4_1⟩, by rw [ht]; exact hP, hD⟩, hS.F ht⟩) hS.2.2 dX12_add_238
          · have t_210 : ¬ ((vF 0 (24 * an))).toInt = 0 := toI_neq c_210 rfl (by decide)
            refine lv_iload hx hb dX12_add_213 (lv_at hl 5 rfl) ?_
            refine lv_goto (tgt := 235) hx hb dX12_add_215 (by decide) ?_
            have hsv := sum28 hna3 hnb3 hwn2 hwn3 (gs := gs) (ca := 1) (cb := 1) (fun q hq => hE q (by omega))
            rw [← hna5, ← hnb5] at hsv
            have hFc := allFree hD hS hA
            refine va_callv (va_runV (As := [.int (nI sn), .int (nI wn), .int (vF 0 (24 * an))]) (rest := []) ⟨hx, hb, hml, hown, hts⟩ (r_X12_carry l dC dI a k h0 vi vj vF (fT vG 1 gs) sn wn (vF 0 (24 * an)) ((xa + yb).natAbs) (if xa + yb < 0 then -1 else 1) (by first | assumption | decide | omega | rfl) (by first | assumption | decide | omega | rfl) (fun q hq => by show -1152921504606846976 ≤ (gs q).toInt ∧ (gs q).toInt ≤ 1152921504606846976; have := hE q (by omega); have := la_bd hna3 q; have := la_bd hnb3 q; omega) (by show sv28 gs wn = _; rw [hsv]; omega) (by first | assumption | decide | omega | rfl) (fun h9 => by split <;> first | exact Or.inr ⟨rfl, ofm1 (by omega)⟩ | exact Or.inl ⟨rfl, of1 (by omega)⟩) H.size) (cwV 3 hts gwsRX12_add_1 rfl rfl rfl (by decide +kernel) ⟨by decide +kernel, by decide +kernel⟩) ⟨fun a U g mk q => by obtain ⟨q0, q1, qP, qK, qD⟩ := q; exact ⟨q0, q1, qP, va_K.moved (u := U) (U := U.calling g mk a) (Vm.Alike.refl U.vm) qK, qD⟩, va_recv hK hP (ci := 12) (q0 := 0) rfl rfl, fun U hU9 hW => ⟨rfl, by rw [hU9], by rw [hU9]; exact hP, va_K.moved hW.alike hK, hD.weaken (fun _ _ _ _ => trivial)⟩⟩ rfl rfl hl.1 rfl (lv_room (Nat.le_of_ble_eq_true rfl)) dX12_add_235 ⟨by decide +kernel, by decide +kernel⟩) hS (fun q _ h => hFc q h) hFc (fun u t9_ H1 locs ht hvm hw9 hB9 hz1 hk1 hS => ?_)
            obtain ⟨g235_5, hwit235_5⟩ : ∃ w9, w9 = u := ⟨u, rfl⟩
            subst hwit235_5
            obtain ⟨hP1, hD1⟩ := hB9
            rw [ht] at hP1
            have hP := hP1
            have hD := hD1.weaken (fun _ q _ h => hFc q.1 h)
            generalize H1 = H at hP hS ⊢
            have hP : va_P (dC, dI) vwCl (WR a k h0 vi vj (fT vF 0 g235_5) (fT vG 1 gs)) H := hP
            have hD : va_D A (WR a k h0 vi vj (fT vF 0 g235_5) (fT vG 1 gs)) := hD
            obtain ⟨f235_5_0, f235_5_1⟩ := hw9
            refine W.widen (k := 0) (n := 0) (by decide +kernel) (by decide +kernel) ?_
            exact W.vret hx hb hr (fun t9_ ht hW => ⟨⟨(g235_5, gs), rfl, by (try dsimp only); (have e9 : (if xa + yb < 0 then -1 else 1) * (((xa + yb).natAbs : Nat) : Int) = xa + yb := by split <;> omega); rw [e9] at f235_5_0; exact ⟨f235_5_0, f235_5_1⟩, by rw [ht]; exact hP, hD⟩, hS.F ht⟩) hS.2.2 dX12_add_238
        · have t_90 : ¬ ((i : Nat) : Int) ≥ ((wn : Nat) : Int) := toI_nge c_90 (nI_toInt (by omega)) (nI_toInt (by omega))
          refine lv_iload hx hb dX12_add_93 (lv_at hl 0 rfl) ?_
          refine lv_iload hx hb dX12_add_95 (lv_at hl 7 rfl) ?_
          refine lv_icmp_ge (tgt := 118) hx hb dX12_add_97 (by decide) (fun c_97 => ?_) (fun c_97 => ?_)
          · have t_97 : ((i : Nat) : Int) ≥ ((na : Nat) : Int) := toI_ge c_97 (nI_toInt (by omega)) (nI_toInt (by omega))
            refine lv_lconst (v := 0) hx hb dX12_add_118 (by decide) ?_
            have eU : (0 : Int64).toInt = la28 (vF 0) (24 * an + 2) na i := by unfold la28; rw [if_neg (by omega)]; decide
            refine lv_lstore hx hb dX12_add_119 hl (by decide) rfl (fun ls (hl : lv_has ls _ ([(12, .long 0), (11, .int (nI i)), (0, .ref h0), (1, .int (nI sn)), (2, .int (nI an)), (3, .int (nI bn)), (5, .int (vF 0 (24 * an))), (6, .int ((vF 0 (24 * bn)) * hw)), (7, .int (nI na)), (8, .int (nI nb_)), (9, .int (nI wn)), (10, .int 0)])) => ?_)
            refine lv_iload hx hb dX12_add_121 (lv_at hl 1 rfl) ?_
            refine lv_iload hx hb dX12_add_123 (lv_at hl 9 rfl) ?_
            refine lv_icmp_ge (tgt := 146) hx hb dX12_add_125 (by decide) (fun c_125 => ?_) (fun c_125 => ?_)
            · have t_125 : ((i : Nat) : Int) ≥ ((nb_ : Nat) : Int) := toI_ge c_125 (nI_toInt (by omega)) (nI_toInt (by omega))
              refine lv_lconst (v := 0) hx hb dX12_add_146 (by decide) ?_
              have eV : (0 : Int64).toInt = la28 (vF 0) (24 * bn + 2) nb_ i := by unfold la28; rw [if_neg (by omega)]; decide
              have bU := la_bd hna3 i
              have bV := la_bd hnb3 i
              refine lv_lstore hx hb dX12_add_147 hl (by decide) rfl (fun ls (hl : lv_has ls _ ([(14, .long 0), (12, .long 0), (11, .int (nI i)), (0, .ref h0), (1, .int (nI sn)), (2, .int (nI an)), (3, .int (nI bn)), (5, .int (vF 0 (24 * an))), (6, .int ((vF 0 (24 * bn)) * hw)), (7, .int (nI na)), (8, .int (nI nb_)), (9, .int (nI wn)), (10, .int 0)])) => ?_)
              refine lv_aload_n hx hb dX12_add_149 rfl (lv_at hl 3 rfl) ?_
              refine va_get (D := (dC, dI)) (ci := 12) (v := .ref (a 1)) (C := RX12) (T := TX12) (N := 163) (fs := fM (vS a vi vj)) hx hb hts iwsRX12_add_in12 hown hK hP 0 rfl rfl 2 (by decide) (hts (.fieldLink RX12 13 "OptimaWorksModel" "sum" "[J") (by decide +kernel)) (fun _ h9 => h9) rfl dX12_add_150 ?_
              refine lv_iload hx hb dX12_add_153 (lv_at hl 2 rfl) ?_
              refine lv_iload hx hb dX12_add_155 (lv_at hl 7 rfl) ?_
              refine lv_iload hx hb dX12_add_157 (lv_at hl 8 rfl) ?_
              refine lv_imul hx hb dX12_add_159 ?_
              refine lv_if_lt (tgt := 171) hx hb dX12_add_160 (by decide) (fun c9 => False.elim (by have t9 : (((vF 0 (24 * an)) * ((vF 0 (24 * bn)) * hw))).toInt < 0 := toI_lt c9 rfl (by decide); omega)) (fun c_160 => ?_)
              have t_160 : ¬ (((vF 0 (24 * an)) * ((vF 0 (24 * bn)) * hw))).toInt < 0 := toI_nlt c_160 rfl (by decide)
              refine lv_lload hx hb dX12_add_163 (lv_at hl 1 rfl) ?_
              refine lv_lload hx hb dX12_add_165 (lv_at hl 0 rfl) ?_
              refine lv_ladd hx hb dX12_add_167 ?_
              refine lv_topl (fun y50 hy50 => ?_)
              obtain rfl : 0 = y50 := (hy50.trans (by decide)).symm
              refine lv_goto (tgt := 189) hx hb dX12_add_168 (by decide) ?_
              have eS : (0 : Int64).toInt = 1 * la28 (vF 0) (24 * an + 2) na i + 1 * la28 (vF 0) (24 * bn + 2) nb_ i := by (have e0 : (0 : Int64).toInt = 0 := by decide); rw [e0] at eU eV ⊢; omega
              refine va_last (cA := k 1) (n := 48) (f := gs) hx hb hK hP hD hS 2 1 (WR_get 1 (by decide)) (TR_get 1 (by decide)) (vp_in_nI (show i < 48 by omega) (by omega)) dX12_add_189 (fun H locs hP hD hS => ?_)
              have e9 : fT vG 1 (vp_updL gs ((nI i)).toNatClampNeg 0) = fT (fT vG 1 gs) 1 (vp_updL gs ((nI i)).toNatClampNeg 0) := (fT_sm _ _ _ _).symm
              have hP : va_P (dC, dI) vwCl (WR a k h0 vi vj vF (fT vG 1 (vp_updL gs ((nI i)).toNatClampNeg 0))) H := by rw [e9, ← WR_G 1 (by decide) _ rfl]; exact hP
              have hD : va_D A (WR a k h0 vi vj vF (fT vG 1 (vp_updL gs ((nI i)).toNatClampNeg 0))) := by rw [e9, ← WR_G 1 (by decide) _ rfl]; exact hD
              clear e9
              refine lv_iinc (v := (nI (i + 1))) hx hb dX12_add_190 hl (k := 2) rfl (nI_add i 1) (by decide) rfl (fun ls (hl : lv_has ls _ ([(11, .int (nI (i + 1))), (14, .long 0), (12, .long 0), (0, .ref h0), (1, .int (nI sn)), (2, .int (nI an)), (3, .int (nI bn)), (5, .int (vF 0 (24 * an))), (6, .int ((vF 0 (24 * bn)) * hw)), (7, .int (nI na)), (8, .int (nI nb_)), (9, .int (nI wn)), (10, .int 0)])) => ?_)
              refine lv_goto (tgt := 86) hx hb dX12_add_193 (by decide) ?_
              have hl : lv_has _ _ ([(11, .int (nI (i + 1))), (0, .ref h0), (1, .int (nI sn)), (2, .int (nI an)), (3, .int (nI bn)), (5, .int (vF 0 (24 * an))), (6, .int ((vF 0 (24 * bn)) * hw)), (7, .int (nI na)), (8, .int (nI nb_)), (9, .int (nI wn)), (10, .int 0)]) := lv_sub hl [0, 3, 4, 5, 6, 7, 8, 9, 10, 11, 12] rfl
              exact ih86_3 (i + 1) (vp_updL gs ((nI i)).toNatClampNeg 0) _ _ _ (by omega) (fun q hq => by rw [updL_at (by omega)]; by_cases e9 : q = i; (rw [if_pos e9, e9]; exact eS); (rw [if_neg e9]; exact hE q (by omega))) (by omega) hP hD hS hl
            · have t_125 : ¬ ((i : Nat) : Int) ≥ ((nb_ : Nat) : Int) := toI_nge c_125 (nI_toInt (by omega)) (nI_toInt (by omega))
              refine lv_aload_n hx hb dX12_add_128 rfl (lv_at hl 2 rfl) ?_
              refine va_get (D := (dC, dI)) (ci := 12) (v := .ref (a 0)) (C := RX12) (T := TX12) (N := 163) (fs := fM (vS a vi vj)) hx hb hts iwsRX12_add_in12 hown hK hP 0 rfl rfl 1 (by decide) (hts (.fieldLink RX12 7 "OptimaWorksModel" "big" "[I") (by decide +kernel)) (fun _ h9 => h9) rfl dX12_add_129 ?_
              refine lv_bipush (v := 24) hx hb dX12_add_132 (by decide) ?_
              refine lv_iload_n hx hb dX12_add_134 rfl (lv_at hl 5 rfl) ?_
              refine lv_imul hx hb dX12_add_135 ?_
              refine lv_topi (fun y51 hy51 => ?_)
              obtain rfl : (nI (24 * bn)) = y51 := (hy51.trans (pk_mul 24 bn)).symm
              refine lv_iconst (v := 2) hx hb dX12_add_136 (by decide) ?_
              refine lv_iadd hx hb dX12_add_137 ?_
              refine lv_topi (fun y52 hy52 => ?_)
              obtain rfl : (nI ((24 * bn) + 2)) = y52 := (hy52.trans (nI_add (24 * bn) 2)).symm
              refine lv_iload hx hb dX12_add_138 (lv_at hl 1 rfl) ?_
              refine lv_iadd hx hb dX12_add_140 ?_
              refine lv_topi (fun y53 hy53 => ?_)
              obtain rfl : (nI (((24 * bn) + 2) + i)) = y53 := (hy53.trans (nI_add ((24 * bn) + 2) i)).symm
              refine va_iald (cA := k 0) (n := 26400) (f := (vF 0)) hx hb hK hP 1 0 (WR_get 0 (by decide)) (TR_get 0 (by decide)) (vp_in_nI (show (((24 * bn) + 2) + i) < 26400 by omega) (by omega)) dX12_add_141 ?_
              refine lv_topi (fun y54 hy54 => ?_)
              obtain rfl : ((vF 0) (((24 * bn) + 2) + i)) = y54 := (hy54.trans (by rw [nI_clamp (by omega)])).symm
              refine lv_i2l hx hb dX12_add_142 rfl ?_
              refine lv_goto (tgt := 147) hx hb dX12_add_143 (by decide) ?_
              have eV : ((((vF 0) (((24 * bn) + 2) + i))).toInt64 : Int64).toInt = la28 (vF 0) (24 * bn + 2) nb_ i := by unfold la28; rw [if_pos (by omega)]; exact i64T _
              have bU := la_bd hna3 i
              have bV := la_bd hnb3 i
              refine lv_lstore hx hb dX12_add_147 hl (by decide) rfl (fun ls (hl : lv_has ls _ ([(14, .long (((vF 0) (((24 * bn) + 2) + i))).toInt64), (12, .long 0), (11, .int (nI i)), (0, .ref h0), (1, .int (nI sn)), (2, .int (nI an)), (3, .int (nI bn)), (5, .int (vF 0 (24 * an))), (6, .int ((vF 0 (24 * bn)) * hw)), (7, .int (nI na)), (8, .int (nI nb_)), (9, .int (nI wn)), (10, .int 0)])) => ?_)
              refine lv_aload_n hx hb dX12_add_149 rfl (lv_at hl 3 rfl) ?_
              refine va_get (D := (dC, dI)) (ci := 12) (v := .ref (a 1)) (C := RX12) (T := TX12) (N := 163) (fs := fM (vS a vi vj)) hx hb hts iwsRX12_add_in12 hown hK hP 0 rfl rfl 2 (by decide) (hts (.fieldLink RX12 13 "OptimaWorksModel" "sum" "[J") (by decide +kernel)) (fun _ h9 => h9) rfl dX12_add_150 ?_
              refine lv_iload hx hb dX12_add_153 (lv_at hl 2 rfl) ?_
              refine lv_iload hx hb dX12_add_155 (lv_at hl 7 rfl) ?_
              refine lv_iload hx hb dX12_add_157 (lv_at hl 8 rfl) ?_
              refine lv_imul hx hb dX12_add_159 ?_
              refine lv_if_lt (tgt := 171) hx hb dX12_add_160 (by decide) (fun c9 => False.elim (by have t9 : (((vF 0 (24 * an)) * ((vF 0 (24 * bn)) * hw))).toInt < 0 := toI_lt c9 rfl (by decide); omega)) (fun c_160 => ?_)
              have t_160 : ¬ (((vF 0 (24 * an)) * ((vF 0 (24 * bn)) * hw))).toInt < 0 := toI_nlt c_160 rfl (by decide)
              refine lv_lload hx hb dX12_add_163 (lv_at hl 1 rfl) ?_
              refine lv_lload hx hb dX12_add_165 (lv_at hl 0 rfl) ?_
              refine lv_ladd hx hb dX12_add_167 ?_
              refine lv_goto (tgt := 189) hx hb dX12_add_168 (by decide) ?_
              have eS : ((0 + (((vF 0) (((24 * bn) + 2) + i))).toInt64) : Int64).toInt = 1 * la28 (vF 0) (24 * an + 2) na i + 1 * la28 (vF 0) (24 * bn + 2) nb_ i := by rw [addJ (by omega) (by omega)]; omega
              refine va_last (cA := k 1) (n := 48) (f := gs) hx hb hK hP hD hS 2 1 (WR_get 1 (by decide)) (TR_get 1 (by decide)) (vp_in_nI (show i < 48 by omega) (by omega)) dX12_add_189 (fun H locs hP hD hS => ?_)
              have e9 : fT vG 1 (vp_updL gs ((nI i)).toNatClampNeg (0 + (((vF 0) (((24 * bn) + 2) + i))).toInt64)) = fT (fT vG 1 gs) 1 (vp_updL gs ((nI i)).toNatClampNeg (0 + (((vF 0) (((24 * bn) + 2) + i))).toInt64)) := (fT_sm _ _ _ _).symm
              have hP : va_P (dC, dI) vwCl (WR a k h0 vi vj vF (fT vG 1 (vp_updL gs ((nI i)).toNatClampNeg (0 + (((vF 0) (((24 * bn) + 2) + i))).toInt64)))) H := by rw [e9, ← WR_G 1 (by decide) _ rfl]; exact hP
              have hD : va_D A (WR a k h0 vi vj vF (fT vG 1 (vp_updL gs ((nI i)).toNatClampNeg (0 + (((vF 0) (((24 * bn) + 2) + i))).toInt64)))) := by rw [e9, ← WR_G 1 (by decide) _ rfl]; exact hD
              clear e9
              refine lv_iinc (v := (nI (i + 1))) hx hb dX12_add_190 hl (k := 2) rfl (nI_add i 1) (by decide) rfl (fun ls (hl : lv_has ls _ ([(11, .int (nI (i + 1))), (14, .long (((vF 0) (((24 * bn) + 2) + i))).toInt64), (12, .long 0), (0, .ref h0), (1, .int (nI sn)), (2, .int (nI an)), (3, .int (nI bn)), (5, .int (vF 0 (24 * an))), (6, .int ((vF 0 (24 * bn)) * hw)), (7, .int (nI na)), (8, .int (nI nb_)), (9, .int (nI wn)), (10, .int 0)])) => ?_)
              refine lv_goto (tgt := 86) hx hb dX12_add_193 (by decide) ?_
              have hl : lv_has _ _ ([(11, .int (nI (i + 1))), (0, .ref h0), (1, .int (nI sn)), (2, .int (nI an)), (3, .int (nI bn)), (5, .int (vF 0 (24 * an))), (6, .int ((vF 0 (24 * bn)) * hw)), (7, .int (nI na)), (8, .int (nI nb_)), (9, .int (nI wn)), (10, .int 0)]) := lv_sub hl [0, 3, 4, 5, 6, 7, 8, 9, 10, 11, 12] rfl
              exact ih86_3 (i + 1) (vp_updL gs ((nI i)).toNatClampNeg (0 + (((vF 0) (((24 * bn) + 2) + i))).toInt64)) _ _ _ (by omega) (fun q hq => by rw [updL_at (by omega)]; by_cases e9 : q = i; (rw [if_pos e9, e9]; exact eS); (rw [if_neg e9]; exact hE q (by omega))) (by omega) hP hD hS hl
          · have t_97 : ¬ ((i : Nat) : Int) ≥ ((na : Nat) : Int) := toI_nge c_97 (nI_toInt (by omega)) (nI_toInt (by omega))
            refine lv_aload_n hx hb dX12_add_100 rfl (lv_at hl 1 rfl) ?_
            refine va_get (D := (dC, dI)) (ci := 12) (v := .ref (a 0)) (C := RX12) (T := TX12) (N := 163) (fs := fM (vS a vi vj)) hx hb hts iwsRX12_add_in12 hown hK hP 0 rfl rfl 1 (by decide) (hts (.fieldLink RX12 7 "OptimaWorksModel" "big" "[I") (by decide +kernel)) (fun _ h9 => h9) rfl dX12_add_101 ?_
            refine lv_bipush (v := 24) hx hb dX12_add_104 (by decide) ?_
            refine lv_iload_n hx hb dX12_add_106 rfl (lv_at hl 3 rfl) ?_
            refine lv_imul hx hb dX12_add_107 ?_
            refine lv_topi (fun y55 hy55 => ?_)
            obtain rfl : (nI (24 * an)) = y55 := (hy55.trans (pk_mul 24 an)).symm
            refine lv_iconst (v := 2) hx hb dX12_add_108 (by decide) ?_
            refine lv_iadd hx hb dX12_add_109 ?_
            refine lv_topi (fun y56 hy56 => ?_)
            obtain rfl : (nI ((24 * an) + 2)) = y56 := (hy56.trans (nI_add (24 * an) 2)).symm
            refine lv_iload hx hb dX12_add_110 (lv_at hl 0 rfl) ?_
            refine lv_iadd hx hb dX12_add_112 ?_
            refine lv_topi (fun y57 hy57 => ?_)
            obtain rfl : (nI (((24 * an) + 2) + i)) = y57 := (hy57.trans (nI_add ((24 * an) + 2) i)).symm
            refine va_iald (cA := k 0) (n := 26400) (f := (vF 0)) hx hb hK hP 1 0 (WR_get 0 (by decide)) (TR_get 0 (by decide)) (vp_in_nI (show (((24 * an) + 2) + i) < 26400 by omega) (by omega)) dX12_add_113 ?_
            refine lv_topi (fun y58 hy58 => ?_)
            obtain rfl : ((vF 0) (((24 * an) + 2) + i)) = y58 := (hy58.trans (by rw [nI_clamp (by omega)])).symm
            refine lv_i2l hx hb dX12_add_114 rfl ?_
            refine lv_goto (tgt := 119) hx hb dX12_add_115 (by decide) ?_
            have eU : ((((vF 0) (((24 * an) + 2) + i))).toInt64 : Int64).toInt = la28 (vF 0) (24 * an + 2) na i := by unfold la28; rw [if_pos (by omega)]; exact i64T _
            refine lv_lstore hx hb dX12_add_119 hl (by decide) rfl (fun ls (hl : lv_has ls _ ([(12, .long (((vF 0) (((24 * an) + 2) + i))).toInt64), (11, .int (nI i)), (0, .ref h0), (1, .int (nI sn)), (2, .int (nI an)), (3, .int (nI bn)), (5, .int (vF 0 (24 * an))), (6, .int ((vF 0 (24 * bn)) * hw)), (7, .int (nI na)), (8, .int (nI nb_)), (9, .int (nI wn)), (10, .int 0)])) => ?_)
            refine lv_iload hx hb dX12_add_121 (lv_at hl 1 rfl) ?_
            refine lv_iload hx hb dX12_add_123 (lv_at hl 9 rfl) ?_
            refine lv_icmp_ge (tgt := 146) hx hb dX12_add_125 (by decide) (fun c_125 => ?_) (fun c_125 => ?_)
            · have t_125 : ((i : Nat) : Int) ≥ ((nb_ : Nat) : Int) := toI_ge c_125 (nI_toInt (by omega)) (nI_toInt (by omega))
              refine lv_lconst (v := 0) hx hb dX12_add_146 (by decide) ?_
              have eV : (0 : Int64).toInt = la28 (vF 0) (24 * bn + 2) nb_ i := by unfold la28; rw [if_neg (by omega)]; decide
              have bU := la_bd hna3 i
              have bV := la_bd hnb3 i
              refine lv_lstore hx hb dX12_add_147 hl (by decide) rfl (fun ls (hl : lv_has ls _ ([(14, .long 0), (12, .long (((vF 0) (((24 * an) + 2) + i))).toInt64), (11, .int (nI i)), (0, .ref h0), (1, .int (nI sn)), (2, .int (nI an)), (3, .int (nI bn)), (5, .int (vF 0 (24 * an))), (6, .int ((vF 0 (24 * bn)) * hw)), (7, .int (nI na)), (8, .int (nI nb_)), (9, .int (nI wn)), (10, .int 0)])) => ?_)
              refine lv_aload_n hx hb dX12_add_149 rfl (lv_at hl 3 rfl) ?_
              refine va_get (D := (dC, dI)) (ci := 12) (v := .ref (a 1)) (C := RX12) (T := TX12) (N := 163) (fs := fM (vS a vi vj)) hx hb hts iwsRX12_add_in12 hown hK hP 0 rfl rfl 2 (by decide) (hts (.fieldLink RX12 13 "OptimaWorksModel" "sum" "[J") (by decide +kernel)) (fun _ h9 => h9) rfl dX12_add_150 ?_
              refine lv_iload hx hb dX12_add_153 (lv_at hl 2 rfl) ?_
              refine lv_iload hx hb dX12_add_155 (lv_at hl 7 rfl) ?_
              refine lv_iload hx hb dX12_add_157 (lv_at hl 8 rfl) ?_
              refine lv_imul hx hb dX12_add_159 ?_
              refine lv_if_lt (tgt := 171) hx hb dX12_add_160 (by decide) (fun c9 => False.elim (by have t9 : (((vF 0 (24 * an)) * ((vF 0 (24 * bn)) * hw))).toInt < 0 := toI_lt c9 rfl (by decide); omega)) (fun c_160 => ?_)
              have t_160 : ¬ (((vF 0 (24 * an)) * ((vF 0 (24 * bn)) * hw))).toInt < 0 := toI_nlt c_160 rfl (by decide)
              refine lv_lload hx hb dX12_add_163 (lv_at hl 1 rfl) ?_
              refine lv_lload hx hb dX12_add_165 (lv_at hl 0 rfl) ?_
              refine lv_ladd hx hb dX12_add_167 ?_
              refine lv_goto (tgt := 189) hx hb dX12_add_168 (by decide) ?_
              have eS : (((((vF 0) (((24 * an) + 2) + i))).toInt64 + 0) : Int64).toInt = 1 * la28 (vF 0) (24 * an + 2) na i + 1 * la28 (vF 0) (24 * bn + 2) nb_ i := by rw [addJ (by omega) (by omega)]; omega
              refine va_last (cA := k 1) (n := 48) (f := gs) hx hb hK hP hD hS 2 1 (WR_get 1 (by decide)) (TR_get 1 (by decide)) (vp_in_nI (show i < 48 by omega) (by omega)) dX12_add_189 (fun H locs hP hD hS => ?_)
              have e9 : fT vG 1 (vp_updL gs ((nI i)).toNatClampNeg ((((vF 0) (((24 * an) + 2) + i))).toInt64 + 0)) = fT (fT vG 1 gs) 1 (vp_updL gs ((nI i)).toNatClampNeg ((((vF 0) (((24 * an) + 2) + i))).toInt64 + 0)) := (fT_sm _ _ _ _).symm
              have hP : va_P (dC, dI) vwCl (WR a k h0 vi vj vF (fT vG 1 (vp_updL gs ((nI i)).toNatClampNeg ((((vF 0) (((24 * an) + 2) + i))).toInt64 + 0)))) H := by rw [e9, ← WR_G 1 (by decide) _ rfl]; exact hP
              have hD : va_D A (WR a k h0 vi vj vF (fT vG 1 (vp_updL gs ((nI i)).toNatClampNeg ((((vF 0) (((24 * an) + 2) + i))).toInt64 + 0)))) := by rw [e9, ← WR_G 1 (by decide) _ rfl]; exact hD
              clear e9
              refine lv_iinc (v := (nI (i + 1))) hx hb dX12_add_190 hl (k := 2) rfl (nI_add i 1) (by decide) rfl (fun ls (hl : lv_has ls _ ([(11, .int (nI (i + 1))), (14, .long 0), (12, .long (((vF 0) (((24 * an) + 2) + i))).toInt64), (0, .ref h0), (1, .int (nI sn)), (2, .int (nI an)), (3, .int (nI bn)), (5, .int (vF 0 (24 * an))), (6, .int ((vF 0 (24 * bn)) * hw)), (7, .int (nI na)), (8, .int (nI nb_)), (9, .int (nI wn)), (10, .int 0)])) => ?_)
              refine lv_goto (tgt := 86) hx hb dX12_add_193 (by decide) ?_
              have hl : lv_has _ _ ([(11, .int (nI (i + 1))), (0, .ref h0), (1, .int (nI sn)), (2, .int (nI an)), (3, .int (nI bn)), (5, .int (vF 0 (24 * an))), (6, .int ((vF 0 (24 * bn)) * hw)), (7, .int (nI na)), (8, .int (nI nb_)), (9, .int (nI wn)), (10, .int 0)]) := lv_sub hl [0, 3, 4, 5, 6, 7, 8, 9, 10, 11, 12] rfl
              exact ih86_3 (i + 1) (vp_updL gs ((nI i)).toNatClampNeg ((((vF 0) (((24 * an) + 2) + i))).toInt64 + 0)) _ _ _ (by omega) (fun q hq => by rw [updL_at (by omega)]; by_cases e9 : q = i; (rw [if_pos e9, e9]; exact eS); (rw [if_neg e9]; exact hE q (by omega))) (by omega) hP hD hS hl
            · have t_125 : ¬ ((i : Nat) : Int) ≥ ((nb_ : Nat) : Int) := toI_nge c_125 (nI_toInt (by omega)) (nI_toInt (by omega))
              refine lv_aload_n hx hb dX12_add_128 rfl (lv_at hl 2 rfl) ?_
              refine va_get (D := (dC, dI)) (ci := 12) (v := .ref (a 0)) (C := RX12) (T := TX12) (N := 163) (fs := fM (vS a vi vj)) hx hb hts iwsRX12_add_in12 hown hK hP 0 rfl rfl 1 (by decide) (hts (.fieldLink RX12 7 "OptimaWorksModel" "big" "[I") (by decide +kernel)) (fun _ h9 => h9) rfl dX12_add_129 ?_
              refine lv_bipush (v := 24) hx hb dX12_add_132 (by decide) ?_
              refine lv_iload_n hx hb dX12_add_134 rfl (lv_at hl 5 rfl) ?_
              refine lv_imul hx hb dX12_add_135 ?_
              refine lv_topi (fun y59 hy59 => ?_)
              obtain rfl : (nI (24 * bn)) = y59 := (hy59.trans (pk_mul 24 bn)).symm
              refine lv_iconst (v := 2) hx hb dX12_add_136 (by decide) ?_
              refine lv_iadd hx hb dX12_add_137 ?_
              refine lv_topi (fun y60 hy60 => ?_)
              obtain rfl : (nI ((24 * bn) + 2)) = y60 := (hy60.trans (nI_add (24 * bn) 2)).symm
              refine lv_iload hx hb dX12_add_138 (lv_at hl 1 rfl) ?_
              refine lv_iadd hx hb dX12_add_140 ?_
              refine lv_topi (fun y61 hy61 => ?_)
              obtain rfl : (nI (((24 * bn) + 2) + i)) = y61 := (hy61.trans (nI_add ((24 * bn) + 2) i)).symm
              refine va_iald (cA := k 0) (n := 26400) (f := (vF 0)) hx hb hK hP 1 0 (WR_get 0 (by decide)) (TR_get 0 (by decide)) (vp_in_nI (show (((24 * bn) + 2) + i) < 26400 by omega) (by omega)) dX12_add_141 ?_
              refine lv_topi (fun y62 hy62 => ?_)
              obtain rfl : ((vF 0) (((24 * bn) + 2) + i)) = y62 := (hy62.trans (by rw [nI_clamp (by omega)])).symm
              refine lv_i2l hx hb dX12_add_142 rfl ?_
              refine lv_goto (tgt := 147) hx hb dX12_add_143 (by decide) ?_
              have eV : ((((vF 0) (((24 * bn) + 2) + i))).toInt64 : Int64).toInt = la28 (vF 0) (24 * bn + 2) nb_ i := by unfold la28; rw [if_pos (by omega)]; exact i64T _
              have bU := la_bd hna3 i
              have bV := la_bd hnb3 i
              refine lv_lstore hx hb dX12_add_147 hl (by decide) rfl (fun ls (hl : lv_has ls _ ([(14, .long (((vF 0) (((24 * bn) + 2) + i))).toInt64), (12, .long (((vF 0) (((24 * an) + 2) + i))).toInt64), (11, .int (nI i)), (0, .ref h0), (1, .int (nI sn)), (2, .int (nI an)), (3, .int (nI bn)), (5, .int (vF 0 (24 * an))), (6, .int ((vF 0 (24 * bn)) * hw)), (7, .int (nI na)), (8, .int (nI nb_)), (9, .int (nI wn)), (10, .int 0)])) => ?_)
              refine lv_aload_n hx hb dX12_add_149 rfl (lv_at hl 3 rfl) ?_
              refine va_get (D := (dC, dI)) (ci := 12) (v := .ref (a 1)) (C := RX12) (T := TX12) (N := 163) (fs := fM (vS a vi vj)) hx hb hts iwsRX12_add_in12 hown hK hP 0 rfl rfl 2 (by decide) (hts (.fieldLink RX12 13 "OptimaWorksModel" "sum" "[J") (by decide +kernel)) (fun _ h9 => h9) rfl dX12_add_150 ?_
              refine lv_iload hx hb dX12_add_153 (lv_at hl 2 rfl) ?_
              refine lv_iload hx hb dX12_add_155 (lv_at hl 7 rfl) ?_
              refine lv_iload hx hb dX12_add_157 (lv_at hl 8 rfl) ?_
              refine lv_imul hx hb dX12_add_159 ?_
              refine lv_if_lt (tgt := 171) hx hb dX12_add_160 (by decide) (fun c9 => False.elim (by have t9 : (((vF 0 (24 * an)) * ((vF 0 (24 * bn)) * hw))).toInt < 0 := toI_lt c9 rfl (by decide); omega)) (fun c_160 => ?_)
              have t_160 : ¬ (((vF 0 (24 * an)) * ((vF 0 (24 * bn)) * hw))).toInt < 0 := toI_nlt c_160 rfl (by decide)
              refine lv_lload hx hb dX12_add_163 (lv_at hl 1 rfl) ?_
              refine lv_lload hx hb dX12_add_165 (lv_at hl 0 rfl) ?_
              refine lv_ladd hx hb dX12_add_167 ?_
              refine lv_goto (tgt := 189) hx hb dX12_add_168 (by decide) ?_
              have eS : (((((vF 0) (((24 * an) + 2) + i))).toInt64 + (((vF 0) (((24 * bn) + 2) + i))).toInt64) : Int64).toInt = 1 * la28 (vF 0) (24 * an + 2) na i + 1 * la28 (vF 0) (24 * bn + 2) nb_ i := by rw [addJ (by omega) (by omega)]; omega
              refine va_last (cA := k 1) (n := 48) (f := gs) hx hb hK hP hD hS 2 1 (WR_get 1 (by decide)) (TR_get 1 (by decide)) (vp_in_nI (show i < 48 by omega) (by omega)) dX12_add_189 (fun H locs hP hD hS => ?_)
              have e9 : fT vG 1 (vp_updL gs ((nI i)).toNatClampNeg ((((vF 0) (((24 * an) + 2) + i))).toInt64 + (((vF 0) (((24 * bn) + 2) + i))).toInt64)) = fT (fT vG 1 gs) 1 (vp_updL gs ((nI i)).toNatClampNeg ((((vF 0) (((24 * an) + 2) + i))).toInt64 + (((vF 0) (((24 * bn) + 2) + i))).toInt64)) := (fT_sm _ _ _ _).symm
              have hP : va_P (dC, dI) vwCl (WR a k h0 vi vj vF (fT vG 1 (vp_updL gs ((nI i)).toNatClampNeg ((((vF 0) (((24 * an) + 2) + i))).toInt64 + (((vF 0) (((24 * bn) + 2) + i))).toInt64)))) H := by rw [e9, ← WR_G 1 (by decide) _ rfl]; exact hP
              have hD : va_D A (WR a k h0 vi vj vF (fT vG 1 (vp_updL gs ((nI i)).toNatClampNeg ((((vF 0) (((24 * an) + 2) + i))).toInt64 + (((vF 0) (((24 * bn) + 2) + i))).toInt64)))) := by rw [e9, ← WR_G 1 (by decide) _ rfl]; exact hD
              clear e9
              refine lv_iinc (v := (nI (i + 1))) hx hb dX12_add_190 hl (k := 2) rfl (nI_add i 1) (by decide) rfl (fun ls (hl : lv_has ls _ ([(11, .int (nI (i + 1))), (14, .long (((vF 0) (((24 * bn) + 2) + i))).toInt64), (12, .long (((vF 0) (((24 * an) + 2) + i))).toInt64), (0, .ref h0), (1, .int (nI sn)), (2, .int (nI an)), (3, .int (nI bn)), (5, .int (vF 0 (24 * an))), (6, .int ((vF 0 (24 * bn)) * hw)), (7, .int (nI na)), (8, .int (nI nb_)), (9, .int (nI wn)), (10, .int 0)])) => ?_)
              refine lv_goto (tgt := 86) hx hb dX12_add_193 (by decide) ?_
              have hl : lv_has _ _ ([(11, .int (nI (i + 1))), (0, .ref h0), (1, .int (nI sn)), (2, .int (nI an)), (3, .int (nI bn)), (5, .int (vF 0 (24 * an))), (6, .int ((vF 0 (24 * bn)) * hw)), (7, .int (nI na)), (8, .int (nI nb_)), (9, .int (nI wn)), (10, .int 0)]) := lv_sub hl [0, 3, 4, 5, 6, 7, 8, 9, 10, 11, 12] rfl
              exact ih86_3 (i + 1) (vp_updL gs ((nI i)).toNatClampNeg ((((vF 0) (((24 * an) + 2) + i))).toInt64 + (((vF 0) (((24 * bn) + 2) + i))).toInt64)) _ _ _ (by omega) (fun q hq => by rw [updL_at (by omega)]; by_cases e9 : q = i; (rw [if_pos e9, e9]; exact eS); (rw [if_neg e9]; exact hE q (by omega))) (by omega) hP hD hS hl
    · have t_64 : ¬ (((vF 0 (24 * an)) * ((vF 0 (24 * bn)) * hw))).toInt ≥ 0 := toI_nge c_64 rfl (by decide)
      refine lv_aload_n hx hb dX12_add_67 rfl (lv_at hl 5 rfl) ?_
      refine lv_iload_n hx hb dX12_add_68 rfl (lv_at hl 7 rfl) ?_
      refine lv_iload_n hx hb dX12_add_69 rfl (lv_at hl 8 rfl) ?_
      have hFc := allFree hD hS hA
      refine va_calli (va_runV (As := [.int (nI an), .int (nI bn)]) (rest := []) ⟨hx, hb, hml, hown, hts⟩ (r_X12_bare l dC dI a k h0 vi vj vF vG an bn xa xb (by first | assumption | decide | omega | rfl) (by first | assumption | decide | omega | rfl) (hxa) (hxb) H.size) (cwV 2 hts gwsRX12_add_2 rfl rfl rfl (by decide +kernel) ⟨by decide +kernel, by decide +kernel⟩) ⟨fun a U g mk q => by obtain ⟨q0, q1, qP, qK, qD⟩ := q; exact ⟨q0, q1, qP, va_K.moved (u := U) (U := U.calling g mk a) (Vm.Alike.refl U.vm) qK, qD⟩, va_recv hK hP (ci := 12) (q0 := 0) rfl rfl, fun U hU9 hW => ⟨rfl, by rw [hU9], by rw [hU9]; exact hP, va_K.moved hW.alike hK, hD.weaken (fun _ _ _ _ => trivial)⟩⟩ rfl rfl hl.1 rfl (lv_room (Nat.le_of_ble_eq_true rfl)) dX12_add_70 ⟨by decide +kernel, by decide +kernel⟩) hS (fun q _ h => hFc q h) hFc (fun r70_1 u t9_ H1 locs ht hvm hw9 hB9 hz1 hk1 hS => ?_)
      obtain ⟨hP1, hD1⟩ := hB9
      rw [ht] at hP1
      have hP := hP1
      have hD := hD1.weaken (fun _ q _ h => hFc q.1 h)
      generalize H1 = H at hP hS ⊢
      have hP : va_P (dC, dI) vwCl (WR a k h0 vi vj vF vG) H := hP
      have hD : va_D A (WR a k h0 vi vj vF vG) := hD
      obtain ⟨f70_1_0, f70_1_1⟩ := hw9
      refine lv_if_ge (tgt := 80) hx hb dX12_add_73 (by decide) (fun c_73 => ?_) (fun c_73 => ?_)
      · have t_73 : (r70_1).toInt ≥ 0 := toI_ge c_73 rfl (by decide)
        refine lv_iconst (v := 0) hx hb dX12_add_80 (by decide) ?_
        refine lv_istore hx hb dX12_add_81 hl (by decide) rfl (fun ls (hl : lv_has ls _ ([(10, .int 0), (9, .int (nI wn)), (8, .int (nI nb_)), (7, .int (nI na)), (6, .int ((vF 0 (24 * bn)) * hw)), (5, .int (vF 0 (24 * an))), (0, .ref h0), (1, .int (nI sn)), (2, .int (nI an)), (3, .int (nI bn)), (4, .int hw)])) => ?_)
        refine lv_iconst (v := 0) hx hb dX12_add_83 (by decide) ?_
        refine lv_istore hx hb dX12_add_84 hl (by decide) rfl (fun ls (hl : lv_has ls _ ([(11, .int 0), (10, .int 0), (9, .int (nI wn)), (8, .int (nI nb_)), (7, .int (nI na)), (6, .int ((vF 0 (24 * bn)) * hw)), (5, .int (vF 0 (24 * an))), (0, .ref h0), (1, .int (nI sn)), (2, .int (nI an)), (3, .int (nI bn)), (4, .int hw)])) => ?_)
        have e9 : fT vG 1 (vG 1) = vG := by funext q9; by_cases h9_1 : q9 = 1; (subst h9_1; exact (fT_eq _ _ _).trans (Eq.trans (by first | rfl | assumption | (symm; assumption) | (subst_vars; rfl)) (Eq.refl _).symm)); exact (fT_ne _ _ h9_1).trans (Eq.refl _).symm
        have hP : va_P (dC, dI) vwCl (WR a k h0 vi vj vF (fT vG 1 (vG 1))) H := by rw [e9]; exact hP
        have hD : va_D A (WR a k h0 vi vj vF (fT vG 1 (vG 1))) := by rw [e9]; exact hD
        clear e9
        have hl : lv_has _ _ ([(11, .int (nI 0)), (0, .ref h0), (1, .int (nI sn)), (2, .int (nI an)), (3, .int (nI bn)), (5, .int (vF 0 (24 * an))), (6, .int ((vF 0 (24 * bn)) * hw)), (7, .int (nI na)), (8, .int (nI nb_)), (9, .int (nI wn)), (10, .int 0)]) := lv_sub hl [0, 7, 8, 9, 10, 6, 5, 4, 3, 2, 1] rfl
        refine (fun (loop : ∀ (n9 : Nat) (i : Nat) (gs : Nat → Int64) (H : Heap) (locs : List Loc) (ls : Array Slot), (i ≤ wn) → (∀ q, q < i → (gs q).toInt = 1 * la28 (vF 0) (24 * an + 2) na q + (-1) * la28 (vF 0) (24 * bn + 2) nb_ q) →  (wn < i + n9) → va_P (dC, dI) vwCl (WR a k h0 vi vj vF (fT vG 1 gs)) H → va_D A (WR a k h0 vi vj vF (fT vG 1 gs)) → va_S A s.heap H locs → lv_has ls 16 [(11, .int (nI i)), (0, .ref h0), (1, .int (nI sn)), (2, .int (nI an)), (3, .int (nI bn)), (5, .int (vF 0 (24 * an))), (6, .int ((vF 0 (24 * bn)) * hw)), (7, .int (nI na)), (8, .int (nI nb_)), (9, .int (nI wn)), (10, .int 0)] → W p l e _ s m _ below meth c H locs 0 0 _ (F0 m 86 ls [])) => loop (wn + 1) 0 (vG 1) _ _ _ (by omega) (fun q h => absurd h (by omega)) (by omega) hP hD hS hl) ?_
        intro n9
        induction n9 with
        | zero => intro i gs H locs ls hi hE hf9; exact False.elim (by omega)
        | succ n9 ih86_4 =>
          intro i gs H locs ls hi hE hf86_4 hP hD hS hl
          refine lv_iload hx hb dX12_add_86 (lv_at hl 0 rfl) ?_
          refine lv_iload hx hb dX12_add_88 (lv_at hl 9 rfl) ?_
          refine lv_icmp_ge (tgt := 196) hx hb dX12_add_90 (by decide) (fun c_90 => ?_) (fun c_90 => ?_)
          · have t_90 : ((i : Nat) : Int) ≥ ((wn : Nat) : Int) := toI_ge c_90 (nI_toInt (by omega)) (nI_toInt (by omega))
            refine lv_aload_n hx hb dX12_add_196 rfl (lv_at hl 1 rfl) ?_
            refine lv_iload_n hx hb dX12_add_197 rfl (lv_at hl 2 rfl) ?_
            refine lv_iload hx hb dX12_add_198 (lv_at hl 9 rfl) ?_
            refine lv_iload hx hb dX12_add_200 (lv_at hl 5 rfl) ?_
            refine lv_iload hx hb dX12_add_202 (lv_at hl 6 rfl) ?_
            refine lv_imul hx hb dX12_add_204 ?_
            refine lv_if_lt (tgt := 223) hx hb dX12_add_205 (by decide) (fun c_205 => ?_) (fun c9 => False.elim (by have t9 : ¬ (((vF 0 (24 * an)) * ((vF 0 (24 * bn)) * hw))).toInt < 0 := toI_nlt c9 rfl (by decide); omega))
            have t_205 : (((vF 0 (24 * an)) * ((vF 0 (24 * bn)) * hw))).toInt < 0 := toI_lt c_205 rfl (by decide)
            refine lv_iload hx hb dX12_add_223 (lv_at hl 10 rfl) ?_
            refine lv_if_eq (tgt := 233) hx hb dX12_add_225 (by decide) (fun _ => ?_) (fun c9 => absurd (by decide) c9)
            refine lv_iload hx hb dX12_add_233 (lv_at hl 5 rfl) ?_
            have hsv := sum28 hna3 hnb3 hwn2 hwn3 (gs := gs) (ca := 1) (cb := (-1)) (fun q hq => hE q (by omega))
            rw [← hna5, ← hnb5] at hsv
            have hFc := allFree hD hS hA
            refine va_callv (va_runV (As := [.int (nI sn), .int (nI wn), .int (vF 0 (24 * an))]) (rest := []) ⟨hx, hb, hml, hown, hts⟩ (r_X12_carry l dC dI a k h0 vi vj vF (fT vG 1 gs) sn wn (vF 0 (24 * an)) ((xa + yb).natAbs) (if xa + yb < 0 then -1 else 1) (by first | assumption | decide | omega | rfl) (by first | assumption | decide | omega | rfl) (fun q hq => by show -1152921504606846976 ≤ (gs q).toInt ∧ (gs q).toInt ≤ 1152921504606846976; have := hE q (by omega); have := la_bd hna3 q; have := la_bd hnb3 q; omega) (by show sv28 gs wn = _; rw [hsv]; omega) (by first | assumption | decide | omega | rfl) (fun h9 => by split <;> first | exact Or.inr ⟨rfl, ofm1 (by omega)⟩ | exact Or.inl ⟨rfl, of1 (by omega)⟩) H.size) (cwV 3 hts gwsRX12_add_1 rfl rfl rfl (by decide +kernel) ⟨by decide +kernel, by decide +kernel⟩) ⟨fun a U g mk q => by obtain ⟨q0, q1, qP, qK, qD⟩ := q; exact ⟨q0, q1, qP, va_K.moved (u := U) (U := U.calling g mk a) (Vm.Alike.refl U.vm) qK, qD⟩, va_recv hK hP (ci := 12) (q0 := 0) rfl rfl, fun U hU9 hW => ⟨rfl, by rw [hU9], by rw [hU9]; exact hP, va_K.moved hW.alike hK, hD.weaken (fun _ _ _ _ => trivial)⟩⟩ rfl rfl hl.1 rfl (lv_room (Nat.le_of_ble_eq_true rfl)) dX12_add_235 ⟨by decide +kernel, by decide +kernel⟩) hS (fun q _ h => hFc q h) hFc (fun u t9_ H1 locs ht hvm hw9 hB9 hz1 hk1 hS => ?_)
            obtain ⟨g235_6, hwit235_6⟩ : ∃ w9, w9 = u := ⟨u, rfl⟩
            subst hwit235_6
            obtain ⟨hP1, hD1⟩ := hB9
            rw [ht] at hP1
            have hP := hP1
            have hD := hD1.weaken (fun _ q _ h => hFc q.1 h)
            generalize H1 = H at hP hS ⊢
            have hP : va_P (dC, dI) vwCl (WR a k h0 vi vj (fT vF 0 g235_6) (fT vG 1 gs)) H := hP
            have hD : va_D A (WR a k h0 vi vj (fT vF 0 g235_6) (fT vG 1 gs)) := hD
            obtain ⟨f235_6_0, f235_6_1⟩ := hw9
            refine W.widen (k := 0) (n := 0) (by decide +kernel) (by decide +kernel) ?_
            exact W.vret hx hb hr (fun t9_ ht hW => ⟨⟨(g235_6, gs), rfl, by (try dsimp only); (have e9 : (if xa + yb < 0 then -1 else 1) * (((xa + yb).natAbs : Nat) : Int) = xa + yb := by split <;> omega); rw [e9] at f235_6_0; exact ⟨f235_6_0, f235_6_1⟩, by rw [ht]; exact hP, hD⟩, hS.F ht⟩) hS.2.2 dX12_add_238
          · have t_90 : ¬ ((i : Nat) : Int) ≥ ((wn : Nat) : Int) := toI_nge c_90 (nI_toInt (by omega)) (nI_toInt (by omega))
            refine lv_iload hx hb dX12_add_93 (lv_at hl 0 rfl) ?_
            refine lv_iload hx hb dX12_add_95 (lv_at hl 7 rfl) ?_
            refine lv_icmp_ge (tgt := 118) hx hb dX12_add_97 (by decide) (fun c_97 => ?_) (fun c_97 => ?_)
            · have t_97 : ((i : Nat) : Int) ≥ ((na : Nat) : Int) := toI_ge c_97 (nI_toInt (by omega)) (nI_toInt (by omega))
              refine lv_lconst (v := 0) hx hb dX12_add_118 (by decide) ?_
              have eU : (0 : Int64).toInt = la28 (vF 0) (24 * an + 2) na i := by unfold la28; rw [if_neg (by omega)]; decide
              refine lv_lstore hx hb dX12_add_119 hl (by decide) rfl (fun ls (hl : lv_has ls _ ([(12, .long 0), (11, .int (nI i)), (0, .ref h0), (1, .int (nI sn)), (2, .int (nI an)), (3, .int (nI bn)), (5, .int (vF 0 (24 * an))), (6, .int ((vF 0 (24 * bn)) * hw)), (7, .int (nI na)), (8, .int (nI nb_)), (9, .int (nI wn)), (10, .int 0)])) => ?_)
              refine lv_iload hx hb dX12_add_121 (lv_at hl 1 rfl) ?_
              refine lv_iload hx hb dX12_add_123 (lv_at hl 9 rfl) ?_
              refine lv_icmp_ge (tgt := 146) hx hb dX12_add_125 (by decide) (fun c_125 => ?_) (fun c_125 => ?_)
              · have t_125 : ((i : Nat) : Int) ≥ ((nb_ : Nat) : Int) := toI_ge c_125 (nI_toInt (by omega)) (nI_toInt (by omega))
                refine lv_lconst (v := 0) hx hb dX12_add_146 (by decide) ?_
                have eV : (0 : Int64).toInt = la28 (vF 0) (24 * bn + 2) nb_ i := by unfold la28; rw [if_neg (by omega)]; decide
                have bU := la_bd hna3 i
                have bV := la_bd hnb3 i
                refine lv_lstore hx hb dX12_add_147 hl (by decide) rfl (fun ls (hl : lv_has ls _ ([(14, .long 0), (12, .long 0), (11, .int (nI i)), (0, .ref h0), (1, .int (nI sn)), (2, .int (nI an)), (3, .int (nI bn)), (5, .int (vF 0 (24 * an))), (6, .int ((vF 0 (24 * bn)) * hw)), (7, .int (nI na)), (8, .int (nI nb_)), (9, .int (nI wn)), (10, .int 0)])) => ?_)
                refine lv_aload_n hx hb dX12_add_149 rfl (lv_at hl 3 rfl) ?_
                refine va_get (D := (dC, dI)) (ci := 12) (v := .ref (a 1)) (C := RX12) (T := TX12) (N := 163) (fs := fM (vS a vi vj)) hx hb hts iwsRX12_add_in12 hown hK hP 0 rfl rfl 2 (by decide) (hts (.fieldLink RX12 13 "OptimaWorksModel" "sum" "[J") (by decide +kernel)) (fun _ h9 => h9) rfl dX12_add_150 ?_
                refine lv_iload hx hb dX12_add_153 (lv_at hl 2 rfl) ?_
                refine lv_iload hx hb dX12_add_155 (lv_at hl 7 rfl) ?_
                refine lv_iload hx hb dX12_add_157 (lv_at hl 8 rfl) ?_
                refine lv_imul hx hb dX12_add_159 ?_
                refine lv_if_lt (tgt := 171) hx hb dX12_add_160 (by decide) (fun c_160 => ?_) (fun c9 => False.elim (by have t9 : ¬ (((vF 0 (24 * an)) * ((vF 0 (24 * bn)) * hw))).toInt < 0 := toI_nlt c9 rfl (by decide); omega))
                have t_160 : (((vF 0 (24 * an)) * ((vF 0 (24 * bn)) * hw))).toInt < 0 := toI_lt c_160 rfl (by decide)
                refine lv_iload hx hb dX12_add_171 (lv_at hl 12 rfl) ?_
                refine lv_if_eq (tgt := 184) hx hb dX12_add_173 (by decide) (fun _ => ?_) (fun c9 => absurd (by decide) c9)
                refine lv_lload hx hb dX12_add_184 (lv_at hl 1 rfl) ?_
                refine lv_lload hx hb dX12_add_186 (lv_at hl 0 rfl) ?_
                refine lv_lsub hx hb dX12_add_188 ?_
                refine lv_topl (fun y63 hy63 => ?_)
                obtain rfl : 0 = y63 := (hy63.trans (by decide)).symm
                have eS : (0 : Int64).toInt = 1 * la28 (vF 0) (24 * an + 2) na i + (-1) * la28 (vF 0) (24 * bn + 2) nb_ i := by (have e0 : (0 : Int64).toInt = 0 := by decide); rw [e0] at eU eV ⊢; omega
                refine va_last (cA := k 1) (n := 48) (f := gs) hx hb hK hP hD hS 2 1 (WR_get 1 (by decide)) (TR_get 1 (by decide)) (vp_in_nI (show i < 48 by omega) (by omega)) dX12_add_189 (fun H locs hP hD hS => ?_)
                have e9 : fT vG 1 (vp_updL gs ((nI i)).toNatClampNeg 0) = fT (fT vG 1 gs) 1 (vp_updL gs ((nI i)).toNatClampNeg 0) := (fT_sm _ _ _ _).symm
                have hP : va_P (dC, dI) vwCl (WR a k h0 vi vj vF (fT vG 1 (vp_updL gs ((nI i)).toNatClampNeg 0))) H := by rw [e9, ← WR_G 1 (by decide) _ rfl]; exact hP
                have hD : va_D A (WR a k h0 vi vj vF (fT vG 1 (vp_updL gs ((nI i)).toNatClampNeg 0))) := by rw [e9, ← WR_G 1 (by decide) _ rfl]; exact hD
                clear e9
                refine lv_iinc (v := (nI (i + 1))) hx hb dX12_add_190 hl (k := 2) rfl (nI_add i 1) (by decide) rfl (fun ls (hl : lv_has ls _ ([(11, .int (nI (i + 1))), (14, .long 0), (12, .long 0), (0, .ref h0), (1, .int (nI sn)), (2, .int (nI an)), (3, .int (nI bn)), (5, .int (vF 0 (24 * an))), (6, .int ((vF 0 (24 * bn)) * hw)), (7, .int (nI na)), (8, .int (nI nb_)), (9, .int (nI wn)), (10, .int 0)])) => ?_)
                refine lv_goto (tgt := 86) hx hb dX12_add_193 (by decide) ?_
                have hl : lv_has _ _ ([(11, .int (nI (i + 1))), (0, .ref h0), (1, .int (nI sn)), (2, .int (nI an)), (3, .int (nI bn)), (5, .int (vF 0 (24 * an))), (6, .int ((vF 0 (24 * bn)) * hw)), (7, .int (nI na)), (8, .int (nI nb_)), (9, .int (nI wn)), (10, .int 0)]) := lv_sub hl [0, 3, 4, 5, 6, 7, 8, 9, 10, 11, 12] rfl
                exact ih86_4 (i + 1) (vp_updL gs ((nI i)).toNatClampNeg 0) _ _ _ (by omega) (fun q hq => by rw [updL_at (by omega)]; by_cases e9 : q = i; (rw [if_pos e9, e9]; exact eS); (rw [if_neg e9]; exact hE q (by omega))) (by omega) hP hD hS hl
              · have t_125 : ¬ ((i : Nat) : Int) ≥ ((nb_ : Nat) : Int) := toI_nge c_125 (nI_toInt (by omega)) (nI_toInt (by omega))
                refine lv_aload_n hx hb dX12_add_128 rfl (lv_at hl 2 rfl) ?_
                refine va_get (D := (dC, dI)) (ci := 12) (v := .ref (a 0)) (C := RX12) (T := TX12) (N := 163) (fs := fM (vS a vi vj)) hx hb hts iwsRX12_add_in12 hown hK hP 0 rfl rfl 1 (by decide) (hts (.fieldLink RX12 7 "OptimaWorksModel" "big" "[I") (by decide +kernel)) (fun _ h9 => h9) rfl dX12_add_129 ?_
                refine lv_bipush (v := 24) hx hb dX12_add_132 (by decide) ?_
                refine lv_iload_n hx hb dX12_add_134 rfl (lv_at hl 5 rfl) ?_
                refine lv_imul hx hb dX12_add_135 ?_
                refine lv_topi (fun y64 hy64 => ?_)
                obtain rfl : (nI (24 * bn)) = y64 := (hy64.trans (pk_mul 24 bn)).symm
                refine lv_iconst (v := 2) hx hb dX12_add_136 (by decide) ?_
                refine lv_iadd hx hb dX12_add_137 ?_
                refine lv_topi (fun y65 hy65 => ?_)
                obtain rfl : (nI ((24 * bn) + 2)) = y65 := (hy65.trans (nI_add (24 * bn) 2)).symm
                refine lv_iload hx hb dX12_add_138 (lv_at hl 1 rfl) ?_
                refine lv_iadd hx hb dX12_add_140 ?_
                refine lv_topi (fun y66 hy66 => ?_)
                obtain rfl : (nI (((24 * bn) + 2) + i)) = y66 := (hy66.trans (nI_add ((24 * bn) + 2) i)).symm
                refine va_iald (cA := k 0) (n := 26400) (f := (vF 0)) hx hb hK hP 1 0 (WR_get 0 (by decide)) (TR_get 0 (by decide)) (vp_in_nI (show (((24 * bn) + 2) + i) < 26400 by omega) (by omega)) dX12_add_141 ?_
                refine lv_topi (fun y67 hy67 => ?_)
                obtain rfl : ((vF 0) (((24 * bn) + 2) + i)) = y67 := (hy67.trans (by rw [nI_clamp (by omega)])).symm
                refine lv_i2l hx hb dX12_add_142 rfl ?_
                refine lv_goto (tgt := 147) hx hb dX12_add_143 (by decide) ?_
                have eV : ((((vF 0) (((24 * bn) + 2) + i))).toInt64 : Int64).toInt = la28 (vF 0) (24 * bn + 2) nb_ i := by unfold la28; rw [if_pos (by omega)]; exact i64T _
                have bU := la_bd hna3 i
                have bV := la_bd hnb3 i
                refine lv_lstore hx hb dX12_add_147 hl (by decide) rfl (fun ls (hl : lv_has ls _ ([(14, .long (((vF 0) (((24 * bn) + 2) + i))).toInt64), (12, .long 0), (11, .int (nI i)), (0, .ref h0), (1, .int (nI sn)), (2, .int (nI an)), (3, .int (nI bn)), (5, .int (vF 0 (24 * an))), (6, .int ((vF 0 (24 * bn)) * hw)), (7, .int (nI na)), (8, .int (nI nb_)), (9, .int (nI wn)), (10, .int 0)])) => ?_)
                refine lv_aload_n hx hb dX12_add_149 rfl (lv_at hl 3 rfl) ?_
                refine va_get (D := (dC, dI)) (ci := 12) (v := .ref (a 1)) (C := RX12) (T := TX12) (N := 163) (fs := fM (vS a vi vj)) hx hb hts iwsRX12_add_in12 hown hK hP 0 rfl rfl 2 (by decide) (hts (.fieldLink RX12 13 "OptimaWorksModel" "sum" "[J") (by decide +kernel)) (fun _ h9 => h9) rfl dX12_add_150 ?_
                refine lv_iload hx hb dX12_add_153 (lv_at hl 2 rfl) ?_
                refine lv_iload hx hb dX12_add_155 (lv_at hl 7 rfl) ?_
                refine lv_iload hx hb dX12_add_157 (lv_at hl 8 rfl) ?_
                refine lv_imul hx hb dX12_add_159 ?_
                refine lv_if_lt (tgt := 171) hx hb dX12_add_160 (by decide) (fun c_160 => ?_) (fun c9 => False.elim (by have t9 : ¬ (((vF 0 (24 * an)) * ((vF 0 (24 * bn)) * hw))).toInt < 0 := toI_nlt c9 rfl (by decide); omega))
                have t_160 : (((vF 0 (24 * an)) * ((vF 0 (24 * bn)) * hw))).toInt < 0 := toI_lt c_160 rfl (by decide)
                refine lv_iload hx hb dX12_add_171 (lv_at hl 12 rfl) ?_
                refine lv_if_eq (tgt := 184) hx hb dX12_add_173 (by decide) (fun _ => ?_) (fun c9 => absurd (by decide) c9)
                refine lv_lload hx hb dX12_add_184 (lv_at hl 1 rfl) ?_
                refine lv_lload hx hb dX12_add_186 (lv_at hl 0 rfl) ?_
                refine lv_lsub hx hb dX12_add_188 ?_
                have eS : ((0 - (((vF 0) (((24 * bn) + 2) + i))).toInt64) : Int64).toInt = 1 * la28 (vF 0) (24 * an + 2) na i + (-1) * la28 (vF 0) (24 * bn + 2) nb_ i := by rw [subJ (by omega) (by omega)]; omega
                refine va_last (cA := k 1) (n := 48) (f := gs) hx hb hK hP hD hS 2 1 (WR_get 1 (by decide)) (TR_get 1 (by decide)) (vp_in_nI (show i < 48 by omega) (by omega)) dX12_add_189 (fun H locs hP hD hS => ?_)
                have e9 : fT vG 1 (vp_updL gs ((nI i)).toNatClampNeg (0 - (((vF 0) (((24 * bn) + 2) + i))).toInt64)) = fT (fT vG 1 gs) 1 (vp_updL gs ((nI i)).toNatClampNeg (0 - (((vF 0) (((24 * bn) + 2) + i))).toInt64)) := (fT_sm _ _ _ _).symm
                have hP : va_P (dC, dI) vwCl (WR a k h0 vi vj vF (fT vG 1 (vp_updL gs ((nI i)).toNatClampNeg (0 - (((vF 0) (((24 * bn) + 2) + i))).toInt64)))) H := by rw [e9, ← WR_G 1 (by decide) _ rfl]; exact hP
                have hD : va_D A (WR a k h0 vi vj vF (fT vG 1 (vp_updL gs ((nI i)).toNatClampNeg (0 - (((vF 0) (((24 * bn) + 2) + i))).toInt64)))) := by rw [e9, ← WR_G 1 (by decide) _ rfl]; exact hD
                clear e9
                refine lv_iinc (v := (nI (i + 1))) hx hb dX12_add_190 hl (k := 2) rfl (nI_add i 1) (by decide) rfl (fun ls (hl : lv_has ls _ ([(11, .int (nI (i + 1))), (14, .long (((vF 0) (((24 * bn) + 2) + i))).toInt64), (12, .long 0), (0, .ref h0), (1, .int (nI sn)), (2, .int (nI an)), (3, .int (nI bn)), (5, .int (vF 0 (24 * an))), (6, .int ((vF 0 (24 * bn)) * hw)), (7, .int (nI na)), (8, .int (nI nb_)), (9, .int (nI wn)), (10, .int 0)])) => ?_)
                refine lv_goto (tgt := 86) hx hb dX12_add_193 (by decide) ?_
                have hl : lv_has _ _ ([(11, .int (nI (i + 1))), (0, .ref h0), (1, .int (nI sn)), (2, .int (nI an)), (3, .int (nI bn)), (5, .int (vF 0 (24 * an))), (6, .int ((vF 0 (24 * bn)) * hw)), (7, .int (nI na)), (8, .int (nI nb_)), (9, .int (nI wn)), (10, .int 0)]) := lv_sub hl [0, 3, 4, 5, 6, 7, 8, 9, 10, 11, 12] rfl
                exact ih86_4 (i + 1) (vp_updL gs ((nI i)).toNatClampNeg (0 - (((vF 0) (((24 * bn) + 2) + i))).toInt64)) _ _ _ (by omega) (fun q hq => by rw [updL_at (by omega)]; by_cases e9 : q = i; (rw [if_pos e9, e9]; exact eS); (rw [if_neg e9]; exact hE q (by omega))) (by omega) hP hD hS hl
            · have t_97 : ¬ ((i : Nat) : Int) ≥ ((na : Nat) : Int) := toI_nge c_97 (nI_toInt (by omega)) (nI_toInt (by omega))
              refine lv_aload_n hx hb dX12_add_100 rfl (lv_at hl 1 rfl) ?_
              refine va_get (D := (dC, dI)) (ci := 12) (v := .ref (a 0)) (C := RX12) (T := TX12) (N := 163) (fs := fM (vS a vi vj)) hx hb hts iwsRX12_add_in12 hown hK hP 0 rfl rfl 1 (by decide) (hts (.fieldLink RX12 7 "OptimaWorksModel" "big" "[I") (by decide +kernel)) (fun _ h9 => h9) rfl dX12_add_101 ?_
              refine lv_bipush (v := 24) hx hb dX12_add_104 (by decide) ?_
              refine lv_iload_n hx hb dX12_add_106 rfl (lv_at hl 3 rfl) ?_
              refine lv_imul hx hb dX12_add_107 ?_
              refine lv_topi (fun y68 hy68 => ?_)
              obtain rfl : (nI (24 * an)) = y68 := (hy68.trans (pk_mul 24 an)).symm
              refine lv_iconst (v := 2) hx hb dX12_add_108 (by decide) ?_
              refine lv_iadd hx hb dX12_add_109 ?_
              refine lv_topi (fun y69 hy69 => ?_)
              obtain rfl : (nI ((24 * an) + 2)) = y69 := (hy69.trans (nI_add (24 * an) 2)).symm
              refine lv_iload hx hb dX12_add_110 (lv_at hl 0 rfl) ?_
              refine lv_iadd hx hb dX12_add_112 ?_
              refine lv_topi (fun y70 hy70 => ?_)
              obtain rfl : (nI (((24 * an) + 2) + i)) = y70 := (hy70.trans (nI_add ((24 * an) + 2) i)).symm
              refine va_iald (cA := k 0) (n := 26400) (f := (vF 0)) hx hb hK hP 1 0 (WR_get 0 (by decide)) (TR_get 0 (by decide)) (vp_in_nI (show (((24 * an) + 2) + i) < 26400 by omega) (by omega)) dX12_add_113 ?_
              refine lv_topi (fun y71 hy71 => ?_)
              obtain rfl : ((vF 0) (((24 * an) + 2) + i)) = y71 := (hy71.trans (by rw [nI_clamp (by omega)])).symm
              refine lv_i2l hx hb dX12_add_114 rfl ?_
              refine lv_goto (tgt := 119) hx hb dX12_add_115 (by decide) ?_
              have eU : ((((vF 0) (((24 * an) + 2) + i))).toInt64 : Int64).toInt = la28 (vF 0) (24 * an + 2) na i := by unfold la28; rw [if_pos (by omega)]; exact i64T _
              refine lv_lstore hx hb dX12_add_119 hl (by decide) rfl (fun ls (hl : lv_has ls _ ([(12, .long (((vF 0) (((24 * an) + 2) + i))).toInt64), (11, .int (nI i)), (0, .ref h0), (1, .int (nI sn)), (2, .int (nI an)), (3, .int (nI bn)), (5, .int (vF 0 (24 * an))), (6, .int ((vF 0 (24 * bn)) * hw)), (7, .int (nI na)), (8, .int (nI nb_)), (9, .int (nI wn)), (10, .int 0)])) => ?_)
              refine lv_iload hx hb dX12_add_121 (lv_at hl 1 rfl) ?_
              refine lv_iload hx hb dX12_add_123 (lv_at hl 9 rfl) ?_
              refine lv_icmp_ge (tgt := 146) hx hb dX12_add_125 (by decide) (fun c_125 => ?_) (fun c_125 => ?_)
              · have t_125 : ((i : Nat) : Int) ≥ ((nb_ : Nat) : Int) := toI_ge c_125 (nI_toInt (by omega)) (nI_toInt (by omega))
                refine lv_lconst (v := 0) hx hb dX12_add_146 (by decide) ?_
                have eV : (0 : Int64).toInt = la28 (vF 0) (24 * bn + 2) nb_ i := by unfold la28; rw [if_neg (by omega)]; decide
                have bU := la_bd hna3 i
                have bV := la_bd hnb3 i
                refine lv_lstore hx hb dX12_add_147 hl (by decide) rfl (fun ls (hl : lv_has ls _ ([(14, .long 0), (12, .long (((vF 0) (((24 * an) + 2) + i))).toInt64), (11, .int (nI i)), (0, .ref h0), (1, .int (nI sn)), (2, .int (nI an)), (3, .int (nI bn)), (5, .int (vF 0 (24 * an))), (6, .int ((vF 0 (24 * bn)) * hw)), (7, .int (nI na)), (8, .int (nI nb_)), (9, .int (nI wn)), (10, .int 0)])) => ?_)
                refine lv_aload_n hx hb dX12_add_149 rfl (lv_at hl 3 rfl) ?_
                refine va_get (D := (dC, dI)) (ci := 12) (v := .ref (a 1)) (C := RX12) (T := TX12) (N := 163) (fs := fM (vS a vi vj)) hx hb hts iwsRX12_add_in12 hown hK hP 0 rfl rfl 2 (by decide) (hts (.fieldLink RX12 13 "OptimaWorksModel" "sum" "[J") (by decide +kernel)) (fun _ h9 => h9) rfl dX12_add_150 ?_
                refine lv_iload hx hb dX12_add_153 (lv_at hl 2 rfl) ?_
                refine lv_iload hx hb dX12_add_155 (lv_at hl 7 rfl) ?_
                refine lv_iload hx hb dX12_add_157 (lv_at hl 8 rfl) ?_
                refine lv_imul hx hb dX12_add_159 ?_
                refine lv_if_lt (tgt := 171) hx hb dX12_add_160 (by decide) (fun c_160 => ?_) (fun c9 => False.elim (by have t9 : ¬ (((vF 0 (24 * an)) * ((vF 0 (24 * bn)) * hw))).toInt < 0 := toI_nlt c9 rfl (by decide); omega))
                have t_160 : (((vF 0 (24 * an)) * ((vF 0 (24 * bn)) * hw))).toInt < 0 := toI_lt c_160 rfl (by decide)
                refine lv_iload hx hb dX12_add_171 (lv_at hl 12 rfl) ?_
                refine lv_if_eq (tgt := 184) hx hb dX12_add_173 (by decide) (fun _ => ?_) (fun c9 => absurd (by decide) c9)
                refine lv_lload hx hb dX12_add_184 (lv_at hl 1 rfl) ?_
                refine lv_lload hx hb dX12_add_186 (lv_at hl 0 rfl) ?_
                refine lv_lsub hx hb dX12_add_188 ?_
                have eS : (((((vF 0) (((24 * an) + 2) + i))).toInt64 - 0) : Int64).toInt = 1 * la28 (vF 0) (24 * an + 2) na i + (-1) * la28 (vF 0) (24 * bn + 2) nb_ i := by rw [subJ (by omega) (by omega)]; omega
                refine va_last (cA := k 1) (n := 48) (f := gs) hx hb hK hP hD hS 2 1 (WR_get 1 (by decide)) (TR_get 1 (by decide)) (vp_in_nI (show i < 48 by omega) (by omega)) dX12_add_189 (fun H locs hP hD hS => ?_)
                have e9 : fT vG 1 (vp_updL gs ((nI i)).toNatClampNeg ((((vF 0) (((24 * an) + 2) + i))).toInt64 - 0)) = fT (fT vG 1 gs) 1 (vp_updL gs ((nI i)).toNatClampNeg ((((vF 0) (((24 * an) + 2) + i))).toInt64 - 0)) := (fT_sm _ _ _ _).symm
                have hP : va_P (dC, dI) vwCl (WR a k h0 vi vj vF (fT vG 1 (vp_updL gs ((nI i)).toNatClampNeg ((((vF 0) (((24 * an) + 2) + i))).toInt64 - 0)))) H := by rw [e9, ← WR_G 1 (by decide) _ rfl]; exact hP
                have hD : va_D A (WR a k h0 vi vj vF (fT vG 1 (vp_updL gs ((nI i)).toNatClampNeg ((((vF 0) (((24 * an) + 2) + i))).toInt64 - 0)))) := by rw [e9, ← WR_G 1 (by decide) _ rfl]; exact hD
                clear e9
                refine lv_iinc (v := (nI (i + 1))) hx hb dX12_add_190 hl (k := 2) rfl (nI_add i 1) (by decide) rfl (fun ls (hl : lv_has ls _ ([(11, .int (nI (i + 1))), (14, .long 0), (12, .long (((vF 0) (((24 * an) + 2) + i))).toInt64), (0, .ref h0), (1, .int (nI sn)), (2, .int (nI an)), (3, .int (nI bn)), (5, .int (vF 0 (24 * an))), (6, .int ((vF 0 (24 * bn)) * hw)), (7, .int (nI na)), (8, .int (nI nb_)), (9, .int (nI wn)), (10, .int 0)])) => ?_)
                refine lv_goto (tgt := 86) hx hb dX12_add_193 (by decide) ?_
                have hl : lv_has _ _ ([(11, .int (nI (i + 1))), (0, .ref h0), (1, .int (nI sn)), (2, .int (nI an)), (3, .int (nI bn)), (5, .int (vF 0 (24 * an))), (6, .int ((vF 0 (24 * bn)) * hw)), (7, .int (nI na)), (8, .int (nI nb_)), (9, .int (nI wn)), (10, .int 0)]) := lv_sub hl [0, 3, 4, 5, 6, 7, 8, 9, 10, 11, 12] rfl
                exact ih86_4 (i + 1) (vp_updL gs ((nI i)).toNatClampNeg ((((vF 0) (((24 * an) + 2) + i))).toInt64 - 0)) _ _ _ (by omega) (fun q hq => by rw [updL_at (by omega)]; by_cases e9 : q = i; (rw [if_pos e9, e9]; exact eS); (rw [if_neg e9]; exact hE q (by omega))) (by omega) hP hD hS hl
              · have t_125 : ¬ ((i : Nat) : Int) ≥ ((nb_ : Nat) : Int) := toI_nge c_125 (nI_toInt (by omega)) (nI_toInt (by omega))
                refine lv_aload_n hx hb dX12_add_128 rfl (lv_at hl 2 rfl) ?_
                refine va_get (D := (dC, dI)) (ci := 12) (v := .ref (a 0)) (C := RX12) (T := TX12) (N := 163) (fs := fM (vS a vi vj)) hx hb hts iwsRX12_add_in12 hown hK hP 0 rfl rfl 1 (by decide) (hts (.fieldLink RX12 7 "OptimaWorksModel" "big" "[I") (by decide +kernel)) (fun _ h9 => h9) rfl dX12_add_129 ?_
                refine lv_bipush (v := 24) hx hb dX12_add_132 (by decide) ?_
                refine lv_iload_n hx hb dX12_add_134 rfl (lv_at hl 5 rfl) ?_
                refine lv_imul hx hb dX12_add_135 ?_
                refine lv_topi (fun y72 hy72 => ?_)
                obtain rfl : (nI (24 * bn)) = y72 := (hy72.trans (pk_mul 24 bn)).symm
                refine lv_iconst (v := 2) hx hb dX12_add_136 (by decide) ?_
                refine lv_iadd hx hb dX12_add_137 ?_
                refine lv_topi (fun y73 hy73 => ?_)
                obtain rfl : (nI ((24 * bn) + 2)) = y73 := (hy73.trans (nI_add (24 * bn) 2)).symm
                refine lv_iload hx hb dX12_add_138 (lv_at hl 1 rfl) ?_
                refine lv_iadd hx hb dX12_add_140 ?_
                refine lv_topi (fun y74 hy74 => ?_)
                obtain rfl : (nI (((24 * bn) + 2) + i)) = y74 := (hy74.trans (nI_add ((24 * bn) + 2) i)).symm
                refine va_iald (cA := k 0) (n := 26400) (f := (vF 0)) hx hb hK hP 1 0 (WR_get 0 (by decide)) (TR_get 0 (by decide)) (vp_in_nI (show (((24 * bn) + 2) + i) < 26400 by omega) (by omega)) dX12_add_141 ?_
                refine lv_topi (fun y75 hy75 => ?_)
                obtain rfl : ((vF 0) (((24 * bn) + 2) + i)) = y75 := (hy75.trans (by rw [nI_clamp (by omega)])).symm
                refine lv_i2l hx hb dX12_add_142 rfl ?_
                refine lv_goto (tgt := 147) hx hb dX12_add_143 (by decide) ?_
                have eV : ((((vF 0) (((24 * bn) + 2) + i))).toInt64 : Int64).toInt = la28 (vF 0) (24 * bn + 2) nb_ i := by unfold la28; rw [if_pos (by omega)]; exact i64T _
                have bU := la_bd hna3 i
                have bV := la_bd hnb3 i
                refine lv_lstore hx hb dX12_add_147 hl (by decide) rfl (fun ls (hl : lv_has ls _ ([(14, .long (((vF 0) (((24 * bn) + 2) + i))).toInt64), (12, .long (((vF 0) (((24 * an) + 2) + i))).toInt64), (11, .int (nI i)), (0, .ref h0), (1, .int (nI sn)), (2, .int (nI an)), (3, .int (nI bn)), (5, .int (vF 0 (24 * an))), (6, .int ((vF 0 (24 * bn)) * hw)), (7, .int (nI na)), (8, .int (nI nb_)), (9, .int (nI wn)), (10, .int 0)])) => ?_)
                refine lv_aload_n hx hb dX12_add_149 rfl (lv_at hl 3 rfl) ?_
                refine va_get (D := (dC, dI)) (ci := 12) (v := .ref (a 1)) (C := RX12) (T := TX12) (N := 163) (fs := fM (vS a vi vj)) hx hb hts iwsRX12_add_in12 hown hK hP 0 rfl rfl 2 (by decide) (hts (.fieldLink RX12 13 "OptimaWorksModel" "sum" "[J") (by decide +kernel)) (fun _ h9 => h9) rfl dX12_add_150 ?_
                refine lv_iload hx hb dX12_add_153 (lv_at hl 2 rfl) ?_
                refine lv_iload hx hb dX12_add_155 (lv_at hl 7 rfl) ?_
                refine lv_iload hx hb dX12_add_157 (lv_at hl 8 rfl) ?_
                refine lv_imul hx hb dX12_add_159 ?_
                refine lv_if_lt (tgt := 171) hx hb dX12_add_160 (by decide) (fun c_160 => ?_) (fun c9 => False.elim (by have t9 : ¬ (((vF 0 (24 * an)) * ((vF 0 (24 * bn)) * hw))).toInt < 0 := toI_nlt c9 rfl (by decide); omega))
                have t_160 : (((vF 0 (24 * an)) * ((vF 0 (24 * bn)) * hw))).toInt < 0 := toI_lt c_160 rfl (by decide)
                refine lv_iload hx hb dX12_add_171 (lv_at hl 12 rfl) ?_
                refine lv_if_eq (tgt := 184) hx hb dX12_add_173 (by decide) (fun _ => ?_) (fun c9 => absurd (by decide) c9)
                refine lv_lload hx hb dX12_add_184 (lv_at hl 1 rfl) ?_
                refine lv_lload hx hb dX12_add_186 (lv_at hl 0 rfl) ?_
                refine lv_lsub hx hb dX12_add_188 ?_
                have eS : (((((vF 0) (((24 * an) + 2) + i))).toInt64 - (((vF 0) (((24 * bn) + 2) + i))).toInt64) : Int64).toInt = 1 * la28 (vF 0) (24 * an + 2) na i + (-1) * la28 (vF 0) (24 * bn + 2) nb_ i := by rw [subJ (by omega) (by omega)]; omega
                refine va_last (cA := k 1) (n := 48) (f := gs) hx hb hK hP hD hS 2 1 (WR_get 1 (by decide)) (TR_get 1 (by decide)) (vp_in_nI (show i < 48 by omega) (by omega)) dX12_add_189 (fun H locs hP hD hS => ?_)
                have e9 : fT vG 1 (vp_updL gs ((nI i)).toNatClampNeg ((((vF 0) (((24 * an) + 2) + i))).toInt64 - (((vF 0) (((24 * bn) + 2) + i))).toInt64)) = fT (fT vG 1 gs) 1 (vp_updL gs ((nI i)).toNatClampNeg ((((vF 0) (((24 * an) + 2) + i))).toInt64 - (((vF 0) (((24 * bn) + 2) + i))).toInt64)) := (fT_sm _ _ _ _).symm
                have hP : va_P (dC, dI) vwCl (WR a k h0 vi vj vF (fT vG 1 (vp_updL gs ((nI i)).toNatClampNeg ((((vF 0) (((24 * an) + 2) + i))).toInt64 - (((vF 0) (((24 * bn) + 2) + i))).toInt64)))) H := by rw [e9, ← WR_G 1 (by decide) _ rfl]; exact hP
                have hD : va_D A (WR a k h0 vi vj vF (fT vG 1 (vp_updL gs ((nI i)).toNatClampNeg ((((vF 0) (((24 * an) + 2) + i))).toInt64 - (((vF 0) (((24 * bn) + 2) + i))).toInt64)))) := by rw [e9, ← WR_G 1 (by decide) _ rfl]; exact hD
                clear e9
                refine lv_iinc (v := (nI (i + 1))) hx hb dX12_add_190 hl (k := 2) rfl (nI_add i 1) (by decide) rfl (fun ls (hl : lv_has ls _ ([(11, .int (nI (i + 1))), (14, .long (((vF 0) (((24 * bn) + 2) + i))).toInt64), (12, .long (((vF 0) (((24 * an) + 2) + i))).toInt64), (0, .ref h0), (1, .int (nI sn)), (2, .int (nI an)), (3, .int (nI bn)), (5, .int (vF 0 (24 * an))), (6, .int ((vF 0 (24 * bn)) * hw)), (7, .int (nI na)), (8, .int (nI nb_)), (9, .int (nI wn)), (10, .int 0)])) => ?_)
                refine lv_goto (tgt := 86) hx hb dX12_add_193 (by decide) ?_
                have hl : lv_has _ _ ([(11, .int (nI (i + 1))), (0, .ref h0), (1, .int (nI sn)), (2, .int (nI an)), (3, .int (nI bn)), (5, .int (vF 0 (24 * an))), (6, .int ((vF 0 (24 * bn)) * hw)), (7, .int (nI na)), (8, .int (nI nb_)), (9, .int (nI wn)), (10, .int 0)]) := lv_sub hl [0, 3, 4, 5, 6, 7, 8, 9, 10, 11, 12] rfl
                exact ih86_4 (i + 1) (vp_updL gs ((nI i)).toNatClampNeg ((((vF 0) (((24 * an) + 2) + i))).toInt64 - (((vF 0) (((24 * bn) + 2) + i))).toInt64)) _ _ _ (by omega) (fun q hq => by rw [updL_at (by omega)]; by_cases e9 : q = i; (rw [if_pos e9, e9]; exact eS); (rw [if_neg e9]; exact hE q (by omega))) (by omega) hP hD hS hl
      · have t_73 : ¬ (r70_1).toInt ≥ 0 := toI_nge c_73 rfl (by decide)
        refine lv_iconst (v := 1) hx hb dX12_add_76 (by decide) ?_
        refine lv_goto (tgt := 81) hx hb dX12_add_77 (by decide) ?_
        refine lv_istore hx hb dX12_add_81 hl (by decide) rfl (fun ls (hl : lv_has ls _ ([(10, .int 1), (9, .int (nI wn)), (8, .int (nI nb_)), (7, .int (nI na)), (6, .int ((vF 0 (24 * bn)) * hw)), (5, .int (vF 0 (24 * an))), (0, .ref h0), (1, .int (nI sn)), (2, .int (nI an)), (3, .int (nI bn)), (4, .int hw)])) => ?_)
        refine lv_iconst (v := 0) hx hb dX12_add_83 (by decide) ?_
        refine lv_istore hx hb dX12_add_84 hl (by decide) rfl (fun ls (hl : lv_has ls _ ([(11, .int 0), (10, .int 1), (9, .int (nI wn)), (8, .int (nI nb_)), (7, .int (nI na)), (6, .int ((vF 0 (24 * bn)) * hw)), (5, .int (vF 0 (24 * an))), (0, .ref h0), (1, .int (nI sn)), (2, .int (nI an)), (3, .int (nI bn)), (4, .int hw)])) => ?_)
        have e9 : fT vG 1 (vG 1) = vG := by funext q9; by_cases h9_1 : q9 = 1; (subst h9_1; exact (fT_eq _ _ _).trans (Eq.trans (by first | rfl | assumption | (symm; assumption) | (subst_vars; rfl)) (Eq.refl _).symm)); exact (fT_ne _ _ h9_1).trans (Eq.refl _).symm
        have hP : va_P (dC, dI) vwCl (WR a k h0 vi vj vF (fT vG 1 (vG 1))) H := by rw [e9]; exact hP
        have hD : va_D A (WR a k h0 vi vj vF (fT vG 1 (vG 1))) := by rw [e9]; exact hD
        clear e9
        have hl : lv_has _ _ ([(11, .int (nI 0)), (0, .ref h0), (1, .int (nI sn)), (2, .int (nI an)), (3, .int (nI bn)), (5, .int (vF 0 (24 * an))), (6, .int ((vF 0 (24 * bn)) * hw)), (7, .int (nI na)), (8, .int (nI nb_)), (9, .int (nI wn)), (10, .int 1)]) := lv_sub hl [0, 7, 8, 9, 10, 6, 5, 4, 3, 2, 1] rfl
        refine (fun (loop : ∀ (n9 : Nat) (i : Nat) (gs : Nat → Int64) (H : Heap) (locs : List Loc) (ls : Array Slot), (i ≤ wn) → (∀ q, q < i → (gs q).toInt = (-1) * la28 (vF 0) (24 * an + 2) na q + 1 * la28 (vF 0) (24 * bn + 2) nb_ q) →  (wn < i + n9) → va_P (dC, dI) vwCl (WR a k h0 vi vj vF (fT vG 1 gs)) H → va_D A (WR a k h0 vi vj vF (fT vG 1 gs)) → va_S A s.heap H locs → lv_has ls 16 [(11, .int (nI i)), (0, .ref h0), (1, .int (nI sn)), (2, .int (nI an)), (3, .int (nI bn)), (5, .int (vF 0 (24 * an))), (6, .int ((vF 0 (24 * bn)) * hw)), (7, .int (nI na)), (8, .int (nI nb_)), (9, .int (nI wn)), (10, .int 1)] → W p l e _ s m _ below meth c H locs 0 0 _ (F0 m 86 ls [])) => loop (wn + 1) 0 (vG 1) _ _ _ (by omega) (fun q h => absurd h (by omega)) (by omega) hP hD hS hl) ?_
        intro n9
        induction n9 with
        | zero => intro i gs H locs ls hi hE hf9; exact False.elim (by omega)
        | succ n9 ih86_5 =>
          intro i gs H locs ls hi hE hf86_5 hP hD hS hl
          refine lv_iload hx hb dX12_add_86 (lv_at hl 0 rfl) ?_
          refine lv_iload hx hb dX12_add_88 (lv_at hl 9 rfl) ?_
          refine lv_icmp_ge (tgt := 196) hx hb dX12_add_90 (by decide) (fun c_90 => ?_) (fun c_90 => ?_)
          · have t_90 : ((i : Nat) : Int) ≥ ((wn : Nat) : Int) := toI_ge c_90 (nI_toInt (by omega)) (nI_toInt (by omega))
            refine lv_aload_n hx hb dX12_add_196 rfl (lv_at hl 1 rfl) ?_
            refine lv_iload_n hx hb dX12_add_197 rfl (lv_at hl 2 rfl) ?_
            refine lv_iload hx hb dX12_add_198 (lv_at hl 9 rfl) ?_
            refine lv_iload hx hb dX12_add_200 (lv_at hl 5 rfl) ?_
            refine lv_iload hx hb dX12_add_202 (lv_at hl 6 rfl) ?_
            refine lv_imul hx hb dX12_add_204 ?_
            refine lv_if_lt (tgt := 223) hx hb dX12_add_205 (by decide) (fun c_205 => ?_) (fun c9 => False.elim (by have t9 : ¬ (((vF 0 (24 * an)) * ((vF 0 (24 * bn)) * hw))).toInt < 0 := toI_nlt c9 rfl (by decide); omega))
            have t_205 : (((vF 0 (24 * an)) * ((vF 0 (24 * bn)) * hw))).toInt < 0 := toI_lt c_205 rfl (by decide)
            refine lv_iload hx hb dX12_add_223 (lv_at hl 10 rfl) ?_
            refine lv_if_eq (tgt := 233) hx hb dX12_add_225 (by decide) (fun c9 => absurd c9 (by decide)) (fun _ => ?_)
            refine lv_iload hx hb dX12_add_228 (lv_at hl 6 rfl) ?_
            refine lv_goto (tgt := 235) hx hb dX12_add_230 (by decide) ?_
            have hsv := sum28 hna3 hnb3 hwn2 hwn3 (gs := gs) (ca := (-1)) (cb := 1) (fun q hq => hE q (by omega))
            rw [← hna5, ← hnb5] at hsv
            have hFc := allFree hD hS hA
            refine va_callv (va_runV (As := [.int (nI sn), .int (nI wn), .int ((vF 0 (24 * bn)) * hw)]) (rest := []) ⟨hx, hb, hml, hown, hts⟩ (r_X12_carry l dC dI a k h0 vi vj vF (fT vG 1 gs) sn wn ((vF 0 (24 * bn)) * hw) ((xa + yb).natAbs) (if xa + yb < 0 then -1 else 1) (by first | assumption | decide | omega | rfl) (by first | assumption | decide | omega | rfl) (fun q hq => by show -1152921504606846976 ≤ (gs q).toInt ∧ (gs q).toInt ≤ 1152921504606846976; have := hE q (by omega); have := la_bd hna3 q; have := la_bd hnb3 q; omega) (by show sv28 gs wn = _; rw [hsv]; omega) (by first | assumption | decide | omega | rfl) (fun h9 => by split <;> first | exact Or.inr ⟨rfl, ofm1 (by omega)⟩ | exact Or.inl ⟨rfl, of1 (by omega)⟩) H.size) (cwV 3 hts gwsRX12_add_1 rfl rfl rfl (by decide +kernel) ⟨by decide +kernel, by decide +kernel⟩) ⟨fun a U g mk q => by obtain ⟨q0, q1, qP, qK, qD⟩ := q; exact ⟨q0, q1, qP, va_K.moved (u := U) (U := U.calling g mk a) (Vm.Alike.refl U.vm) qK, qD⟩, va_recv hK hP (ci := 12) (q0 := 0) rfl rfl, fun U hU9 hW => ⟨rfl, by rw [hU9], by rw [hU9]; exact hP, va_K.moved hW.alike hK, hD.weaken (fun _ _ _ _ => trivial)⟩⟩ rfl rfl hl.1 rfl (lv_room (Nat.le_of_ble_eq_true rfl)) dX12_add_235 ⟨by decide +kernel, by decide +kernel⟩) hS (fun q _ h => hFc q h) hFc (fun u t9_ H1 locs ht hvm hw9 hB9 hz1 hk1 hS => ?_)
            obtain ⟨g235_7, hwit235_7⟩ : ∃ w9, w9 = u := ⟨u, rfl⟩
            subst hwit235_7
            obtain ⟨hP1, hD1⟩ := hB9
            rw [ht] at hP1
            have hP := hP1
            have hD := hD1.weaken (fun _ q _ h => hFc q.1 h)
            generalize H1 = H at hP hS ⊢
            have hP : va_P (dC, dI) vwCl (WR a k h0 vi vj (fT vF 0 g235_7) (fT vG 1 gs)) H := hP
            have hD : va_D A (WR a k h0 vi vj (fT vF 0 g235_7) (fT vG 1 gs)) := hD
            obtain ⟨f235_7_0, f235_7_1⟩ := hw9
            refine W.widen (k := 0) (n := 0) (by decide +kernel) (by decide +kernel) ?_
            exact W.vret hx hb hr (fun t9_ ht hW => ⟨⟨(g235_7, gs), rfl, by (try dsimp only); (have e9 : (if xa + yb < 0 then -1 else 1) * (((xa + yb).natAbs : Nat) : Int) = xa + yb := by split <;> omega); rw [e9] at f235_7_0; exact ⟨f235_7_0, f235_7_1⟩, by rw [ht]; exact hP, hD⟩, hS.F ht⟩) hS.2.2 dX12_add_238
          · have t_90 : ¬ ((i : Nat) : Int) ≥ ((wn : Nat) : Int) := toI_nge c_90 (nI_toInt (by omega)) (nI_toInt (by omega))
            refine lv_iload hx hb dX12_add_93 (lv_at hl 0 rfl) ?_
            refine lv_iload hx hb dX12_add_95 (lv_at hl 7 rfl) ?_
            refine lv_icmp_ge (tgt := 118) hx hb dX12_add_97 (by decide) (fun c_97 => ?_) (fun c_97 => ?_)
            · have t_97 : ((i : Nat) : Int) ≥ ((na : Nat) : Int) := toI_ge c_97 (nI_toInt (by omega)) (nI_toInt (by omega))
              refine lv_lconst (v := 0) hx hb dX12_add_118 (by decide) ?_
              have eU : (0 : Int64).toInt = la28 (vF 0) (24 * an + 2) na i := by unfold la28; rw [if_neg (by omega)]; decide
              refine lv_lstore hx hb dX12_add_119 hl (by decide) rfl (fun ls (hl : lv_has ls _ ([(12, .long 0), (11, .int (nI i)), (0, .ref h0), (1, .int (nI sn)), (2, .int (nI an)), (3, .int (nI bn)), (5, .int (vF 0 (24 * an))), (6, .int ((vF 0 (24 * bn)) * hw)), (7, .int (nI na)), (8, .int (nI nb_)), (9, .int (nI wn)), (10, .int 1)])) => ?_)
              refine lv_iload hx hb dX12_add_121 (lv_at hl 1 rfl) ?_
              refine lv_iload hx hb dX12_add_123 (lv_at hl 9 rfl) ?_
              refine lv_icmp_ge (tgt := 146) hx hb dX12_add_125 (by decide) (fun c_125 => ?_) (fun c_125 => ?_)
              · have t_125 : ((i : Nat) : Int) ≥ ((nb_ : Nat) : Int) := toI_ge c_125 (nI_toInt (by omega)) (nI_toInt (by omega))
                refine lv_lconst (v := 0) hx hb dX12_add_146 (by decide) ?_
                have eV : (0 : Int64).toInt = la28 (vF 0) (24 * bn + 2) nb_ i := by unfold la28; rw [if_neg (by omega)]; decide
                have bU := la_bd hna3 i
                have bV := la_bd hnb3 i
                refine lv_lstore hx hb dX12_add_147 hl (by decide) rfl (fun ls (hl : lv_has ls _ ([(14, .long 0), (12, .long 0), (11, .int (nI i)), (0, .ref h0), (1, .int (nI sn)), (2, .int (nI an)), (3, .int (nI bn)), (5, .int (vF 0 (24 * an))), (6, .int ((vF 0 (24 * bn)) * hw)), (7, .int (nI na)), (8, .int (nI nb_)), (9, .int (nI wn)), (10, .int 1)])) => ?_)
                refine lv_aload_n hx hb dX12_add_149 rfl (lv_at hl 3 rfl) ?_
                refine va_get (D := (dC, dI)) (ci := 12) (v := .ref (a 1)) (C := RX12) (T := TX12) (N := 163) (fs := fM (vS a vi vj)) hx hb hts iwsRX12_add_in12 hown hK hP 0 rfl rfl 2 (by decide) (hts (.fieldLink RX12 13 "OptimaWorksModel" "sum" "[J") (by decide +kernel)) (fun _ h9 => h9) rfl dX12_add_150 ?_
                refine lv_iload hx hb dX12_add_153 (lv_at hl 2 rfl) ?_
                refine lv_iload hx hb dX12_add_155 (lv_at hl 7 rfl) ?_
                refine lv_iload hx hb dX12_add_157 (lv_at hl 8 rfl) ?_
                refine lv_imul hx hb dX12_add_159 ?_
                refine lv_if_lt (tgt := 171) hx hb dX12_add_160 (by decide) (fun c_160 => ?_) (fun c9 => False.elim (by have t9 : ¬ (((vF 0 (24 * an)) * ((vF 0 (24 * bn)) * hw))).toInt < 0 := toI_nlt c9 rfl (by decide); omega))
                have t_160 : (((vF 0 (24 * an)) * ((vF 0 (24 * bn)) * hw))).toInt < 0 := toI_lt c_160 rfl (by decide)
                refine lv_iload hx hb dX12_add_171 (lv_at hl 12 rfl) ?_
                refine lv_if_eq (tgt := 184) hx hb dX12_add_173 (by decide) (fun c9 => absurd c9 (by decide)) (fun _ => ?_)
                refine lv_lload hx hb dX12_add_176 (lv_at hl 0 rfl) ?_
                refine lv_lload hx hb dX12_add_178 (lv_at hl 1 rfl) ?_
                refine lv_lsub hx hb dX12_add_180 ?_
                refine lv_topl (fun y76 hy76 => ?_)
                obtain rfl : 0 = y76 := (hy76.trans (by decide)).symm
                refine lv_goto (tgt := 189) hx hb dX12_add_181 (by decide) ?_
                have eS : (0 : Int64).toInt = (-1) * la28 (vF 0) (24 * an + 2) na i + 1 * la28 (vF 0) (24 * bn + 2) nb_ i := by (have e0 : (0 : Int64).toInt = 0 := by decide); rw [e0] at eU eV ⊢; omega
                refine va_last (cA := k 1) (n := 48) (f := gs) hx hb hK hP hD hS 2 1 (WR_get 1 (by decide)) (TR_get 1 (by decide)) (vp_in_nI (show i < 48 by omega) (by omega)) dX12_add_189 (fun H locs hP hD hS => ?_)
                have e9 : fT vG 1 (vp_updL gs ((nI i)).toNatClampNeg 0) = fT (fT vG 1 gs) 1 (vp_updL gs ((nI i)).toNatClampNeg 0) := (fT_sm _ _ _ _).symm
                have hP : va_P (dC, dI) vwCl (WR a k h0 vi vj vF (fT vG 1 (vp_updL gs ((nI i)).toNatClampNeg 0))) H := by rw [e9, ← WR_G 1 (by decide) _ rfl]; exact hP
                have hD : va_D A (WR a k h0 vi vj vF (fT vG 1 (vp_updL gs ((nI i)).toNatClampNeg 0))) := by rw [e9, ← WR_G 1 (by decide) _ rfl]; exact hD
                clear e9
                refine lv_iinc (v := (nI (i + 1))) hx hb dX12_add_190 hl (k := 2) rfl (nI_add i 1) (by decide) rfl (fun ls (hl : lv_has ls _ ([(11, .int (nI (i + 1))), (14, .long 0), (12, .long 0), (0, .ref h0), (1, .int (nI sn)), (2, .int (nI an)), (3, .int (nI bn)), (5, .int (vF 0 (24 * an))), (6, .int ((vF 0 (24 * bn)) * hw)), (7, .int (nI na)), (8, .int (nI nb_)), (9, .int (nI wn)), (10, .int 1)])) => ?_)
                refine lv_goto (tgt := 86) hx hb dX12_add_193 (by decide) ?_
                have hl : lv_has _ _ ([(11, .int (nI (i + 1))), (0, .ref h0), (1, .int (nI sn)), (2, .int (nI an)), (3, .int (nI bn)), (5, .int (vF 0 (24 * an))), (6, .int ((vF 0 (24 * bn)) * hw)), (7, .int (nI na)), (8, .int (nI nb_)), (9, .int (nI wn)), (10, .int 1)]) := lv_sub hl [0, 3, 4, 5, 6, 7, 8, 9, 10, 11, 12] rfl
                exact ih86_5 (i + 1) (vp_updL gs ((nI i)).toNatClampNeg 0) _ _ _ (by omega) (fun q hq => by rw [updL_at (by omega)]; by_cases e9 : q = i; (rw [if_pos e9, e9]; exact eS); (rw [if_neg e9]; exact hE q (by omega))) (by omega) hP hD hS hl
              · have t_125 : ¬ ((i : Nat) : Int) ≥ ((nb_ : Nat) : Int) := toI_nge c_125 (nI_toInt (by omega)) (nI_toInt (by omega))
                refine lv_aload_n hx hb dX12_add_128 rfl (lv_at hl 2 rfl) ?_
                refine va_get (D := (dC, dI)) (ci := 12) (v := .ref (a 0)) (C := RX12) (T := TX12) (N := 163) (fs := fM (vS a vi vj)) hx hb hts iwsRX12_add_in12 hown hK hP 0 rfl rfl 1 (by decide) (hts (.fieldLink RX12 7 "OptimaWorksModel" "big" "[I") (by decide +kernel)) (fun _ h9 => h9) rfl dX12_add_129 ?_
                refine lv_bipush (v := 24) hx hb dX12_add_132 (by decide) ?_
                refine lv_iload_n hx hb dX12_add_134 rfl (lv_at hl 5 rfl) ?_
                refine lv_imul hx hb dX12_add_135 ?_
                refine lv_topi (fun y77 hy77 => ?_)
                obtain rfl : (nI (24 * bn)) = y77 := (hy77.trans (pk_mul 24 bn)).symm
                refine lv_iconst (v := 2) hx hb dX12_add_136 (by decide) ?_
                refine lv_iadd hx hb dX12_add_137 ?_
                refine lv_topi (fun y78 hy78 => ?_)
                obtain rfl : (nI ((24 * bn) + 2)) = y78 := (hy78.trans (nI_add (24 * bn) 2)).symm
                refine lv_iload hx hb dX12_add_138 (lv_at hl 1 rfl) ?_
                refine lv_iadd hx hb dX12_add_140 ?_
                refine lv_topi (fun y79 hy79 => ?_)
                obtain rfl : (nI (((24 * bn) + 2) + i)) = y79 := (hy79.trans (nI_add ((24 * bn) + 2) i)).symm
                refine va_iald (cA := k 0) (n := 26400) (f := (vF 0)) hx hb hK hP 1 0 (WR_get 0 (by decide)) (TR_get 0 (by decide)) (vp_in_nI (show (((24 * bn) + 2) + i) < 26400 by omega) (by omega)) dX12_add_141 ?_
                refine lv_topi (fun y80 hy80 => ?_)
                obtain rfl : ((vF 0) (((24 * bn) + 2) + i)) = y80 := (hy80.trans (by rw [nI_clamp (by omega)])).symm
                refine lv_i2l hx hb dX12_add_142 rfl ?_
                refine lv_goto (tgt := 147) hx hb dX12_add_143 (by decide) ?_
                have eV : ((((vF 0) (((24 * bn) + 2) + i))).toInt64 : Int64).toInt = la28 (vF 0) (24 * bn + 2) nb_ i := by unfold la28; rw [if_pos (by omega)]; exact i64T _
                have bU := la_bd hna3 i
                have bV := la_bd hnb3 i
                refine lv_lstore hx hb dX12_add_147 hl (by decide) rfl (fun ls (hl : lv_has ls _ ([(14, .long (((vF 0) (((24 * bn) + 2) + i))).toInt64), (12, .long 0), (11, .int (nI i)), (0, .ref h0), (1, .int (nI sn)), (2, .int (nI an)), (3, .int (nI bn)), (5, .int (vF 0 (24 * an))), (6, .int ((vF 0 (24 * bn)) * hw)), (7, .int (nI na)), (8, .int (nI nb_)), (9, .int (nI wn)), (10, .int 1)])) => ?_)
                refine lv_aload_n hx hb dX12_add_149 rfl (lv_at hl 3 rfl) ?_
                refine va_get (D := (dC, dI)) (ci := 12) (v := .ref (a 1)) (C := RX12) (T := TX12) (N := 163) (fs := fM (vS a vi vj)) hx hb hts iwsRX12_add_in12 hown hK hP 0 rfl rfl 2 (by decide) (hts (.fieldLink RX12 13 "OptimaWorksModel" "sum" "[J") (by decide +kernel)) (fun _ h9 => h9) rfl dX12_add_150 ?_
                refine lv_iload hx hb dX12_add_153 (lv_at hl 2 rfl) ?_
                refine lv_iload hx hb dX12_add_155 (lv_at hl 7 rfl) ?_
                refine lv_iload hx hb dX12_add_157 (lv_at hl 8 rfl) ?_
                refine lv_imul hx hb dX12_add_159 ?_
                refine lv_if_lt (tgt := 171) hx hb dX12_add_160 (by decide) (fun c_160 => ?_) (fun c9 => False.elim (by have t9 : ¬ (((vF 0 (24 * an)) * ((vF 0 (24 * bn)) * hw))).toInt < 0 := toI_nlt c9 rfl (by decide); omega))
                have t_160 : (((vF 0 (24 * an)) * ((vF 0 (24 * bn)) * hw))).toInt < 0 := toI_lt c_160 rfl (by decide)
                refine lv_iload hx hb dX12_add_171 (lv_at hl 12 rfl) ?_
                refine lv_if_eq (tgt := 184) hx hb dX12_add_173 (by decide) (fun c9 => absurd c9 (by decide)) (fun _ => ?_)
                refine lv_lload hx hb dX12_add_176 (lv_at hl 0 rfl) ?_
                refine lv_lload hx hb dX12_add_178 (lv_at hl 1 rfl) ?_
                refine lv_lsub hx hb dX12_add_180 ?_
                refine lv_goto (tgt := 189) hx hb dX12_add_181 (by decide) ?_
                have eS : (((((vF 0) (((24 * bn) + 2) + i))).toInt64 - 0) : Int64).toInt = (-1) * la28 (vF 0) (24 * an + 2) na i + 1 * la28 (vF 0) (24 * bn + 2) nb_ i := by rw [subJ (by omega) (by omega)]; omega
                refine va_last (cA := k 1) (n := 48) (f := gs) hx hb hK hP hD hS 2 1 (WR_get 1 (by decide)) (TR_get 1 (by decide)) (vp_in_nI (show i < 48 by omega) (by omega)) dX12_add_189 (fun H locs hP hD hS => ?_)
                have e9 : fT vG 1 (vp_updL gs ((nI i)).toNatClampNeg ((((vF 0) (((24 * bn) + 2) + i))).toInt64 - 0)) = fT (fT vG 1 gs) 1 (vp_updL gs ((nI i)).toNatClampNeg ((((vF 0) (((24 * bn) + 2) + i))).toInt64 - 0)) := (fT_sm _ _ _ _).symm
                have hP : va_P (dC, dI) vwCl (WR a k h0 vi vj vF (fT vG 1 (vp_updL gs ((nI i)).toNatClampNeg ((((vF 0) (((24 * bn) + 2) + i))).toInt64 - 0)))) H := by rw [e9, ← WR_G 1 (by decide) _ rfl]; exact hP
                have hD : va_D A (WR a k h0 vi vj vF (fT vG 1 (vp_updL gs ((nI i)).toNatClampNeg ((((vF 0) (((24 * bn) + 2) + i))).toInt64 - 0)))) := by rw [e9, ← WR_G 1 (by decide) _ rfl]; exact hD
                clear e9
                refine lv_iinc (v := (nI (i + 1))) hx hb dX12_add_190 hl (k := 2) rfl (nI_add i 1) (by decide) rfl (fun ls (hl : lv_has ls _ ([(11, .int (nI (i + 1))), (14, .long (((vF 0) (((24 * bn) + 2) + i))).toInt64), (12, .long 0), (0, .ref h0), (1, .int (nI sn)), (2, .int (nI an)), (3, .int (nI bn)), (5, .int (vF 0 (24 * an))), (6, .int ((vF 0 (24 * bn)) * hw)), (7, .int (nI na)), (8, .int (nI nb_)), (9, .int (nI wn)), (10, .int 1)])) => ?_)
                refine lv_goto (tgt := 86) hx hb dX12_add_193 (by decide) ?_
                have hl : lv_has _ _ ([(11, .int (nI (i + 1))), (0, .ref h0), (1, .int (nI sn)), (2, .int (nI an)), (3, .int (nI bn)), (5, .int (vF 0 (24 * an))), (6, .int ((vF 0 (24 * bn)) * hw)), (7, .int (nI na)), (8, .int (nI nb_)), (9, .int (nI wn)), (10, .int 1)]) := lv_sub hl [0, 3, 4, 5, 6, 7, 8, 9, 10, 11, 12] rfl
                exact ih86_5 (i + 1) (vp_updL gs ((nI i)).toNatClampNeg ((((vF 0) (((24 * bn) + 2) + i))).toInt64 - 0)) _ _ _ (by omega) (fun q hq => by rw [updL_at (by omega)]; by_cases e9 : q = i; (rw [if_pos e9, e9]; exact eS); (rw [if_neg e9]; exact hE q (by omega))) (by omega) hP hD hS hl
            · have t_97 : ¬ ((i : Nat) : Int) ≥ ((na : Nat) : Int) := toI_nge c_97 (nI_toInt (by omega)) (nI_toInt (by omega))
              refine lv_aload_n hx hb dX12_add_100 rfl (lv_at hl 1 rfl) ?_
              refine va_get (D := (dC, dI)) (ci := 12) (v := .ref (a 0)) (C := RX12) (T := TX12) (N := 163) (fs := fM (vS a vi vj)) hx hb hts iwsRX12_add_in12 hown hK hP 0 rfl rfl 1 (by decide) (hts (.fieldLink RX12 7 "OptimaWorksModel" "big" "[I") (by decide +kernel)) (fun _ h9 => h9) rfl dX12_add_101 ?_
              refine lv_bipush (v := 24) hx hb dX12_add_104 (by decide) ?_
              refine lv_iload_n hx hb dX12_add_106 rfl (lv_at hl 3 rfl) ?_
              refine lv_imul hx hb dX12_add_107 ?_
              refine lv_topi (fun y81 hy81 => ?_)
              obtain rfl : (nI (24 * an)) = y81 := (hy81.trans (pk_mul 24 an)).symm
              refine lv_iconst (v := 2) hx hb dX12_add_108 (by decide) ?_
              refine lv_iadd hx hb dX12_add_109 ?_
              refine lv_topi (fun y82 hy82 => ?_)
              obtain rfl : (nI ((24 * an) + 2)) = y82 := (hy82.trans (nI_add (24 * an) 2)).symm
              refine lv_iload hx hb dX12_add_110 (lv_at hl 0 rfl) ?_
              refine lv_iadd hx hb dX12_add_112 ?_
              refine lv_topi (fun y83 hy83 => ?_)
              obtain rfl : (nI (((24 * an) + 2) + i)) = y83 := (hy83.trans (nI_add ((24 * an) + 2) i)).symm
              refine va_iald (cA := k 0) (n := 26400) (f := (vF 0)) hx hb hK hP 1 0 (WR_get 0 (by decide)) (TR_get 0 (by decide)) (vp_in_nI (show (((24 * an) + 2) + i) < 26400 by omega) (by omega)) dX12_add_113 ?_
              refine lv_topi (fun y84 hy84 => ?_)
              obtain rfl : ((vF 0) (((24 * an) + 2) + i)) = y84 := (hy84.trans (by rw [nI_clamp (by omega)])).symm
              refine lv_i2l hx hb dX12_add_114 rfl ?_
              refine lv_goto (tgt := 119) hx hb dX12_add_115 (by decide) ?_
              have eU : ((((vF 0) (((24 * an) + 2) + i))).toInt64 : Int64).toInt = la28 (vF 0) (24 * an + 2) na i := by unfold la28; rw [if_pos (by omega)]; exact i64T _
              refine lv_lstore hx hb dX12_add_119 hl (by decide) rfl (fun ls (hl : lv_has ls _ ([(12, .long (((vF 0) (((24 * an) + 2) + i))).toInt64), (11, .int (nI i)), (0, .ref h0), (1, .int (nI sn)), (2, .int (nI an)), (3, .int (nI bn)), (5, .int (vF 0 (24 * an))), (6, .int ((vF 0 (24 * bn)) * hw)), (7, .int (nI na)), (8, .int (nI nb_)), (9, .int (nI wn)), (10, .int 1)])) => ?_)
              refine lv_iload hx hb dX12_add_121 (lv_at hl 1 rfl) ?_
              refine lv_iload hx hb dX12_add_123 (lv_at hl 9 rfl) ?_
              refine lv_icmp_ge (tgt := 146) hx hb dX12_add_125 (by decide) (fun c_125 => ?_) (fun c_125 => ?_)
              · have t_125 : ((i : Nat) : Int) ≥ ((nb_ : Nat) : Int) := toI_ge c_125 (nI_toInt (by omega)) (nI_toInt (by omega))
                refine lv_lconst (v := 0) hx hb dX12_add_146 (by decide) ?_
                have eV : (0 : Int64).toInt = la28 (vF 0) (24 * bn + 2) nb_ i := by unfold la28; rw [if_neg (by omega)]; decide
                have bU := la_bd hna3 i
                have bV := la_bd hnb3 i
                refine lv_lstore hx hb dX12_add_147 hl (by decide) rfl (fun ls (hl : lv_has ls _ ([(14, .long 0), (12, .long (((vF 0) (((24 * an) + 2) + i))).toInt64), (11, .int (nI i)), (0, .ref h0), (1, .int (nI sn)), (2, .int (nI an)), (3, .int (nI bn)), (5, .int (vF 0 (24 * an))), (6, .int ((vF 0 (24 * bn)) * hw)), (7, .int (nI na)), (8, .int (nI nb_)), (9, .int (nI wn)), (10, .int 1)])) => ?_)
                refine lv_aload_n hx hb dX12_add_149 rfl (lv_at hl 3 rfl) ?_
                refine va_get (D := (dC, dI)) (ci := 12) (v := .ref (a 1)) (C := RX12) (T := TX12) (N := 163) (fs := fM (vS a vi vj)) hx hb hts iwsRX12_add_in12 hown hK hP 0 rfl rfl 2 (by decide) (hts (.fieldLink RX12 13 "OptimaWorksModel" "sum" "[J") (by decide +kernel)) (fun _ h9 => h9) rfl dX12_add_150 ?_
                refine lv_iload hx hb dX12_add_153 (lv_at hl 2 rfl) ?_
                refine lv_iload hx hb dX12_add_155 (lv_at hl 7 rfl) ?_
                refine lv_iload hx hb dX12_add_157 (lv_at hl 8 rfl) ?_
                refine lv_imul hx hb dX12_add_159 ?_
                refine lv_if_lt (tgt := 171) hx hb dX12_add_160 (by decide) (fun c_160 => ?_) (fun c9 => False.elim (by have t9 : ¬ (((vF 0 (24 * an)) * ((vF 0 (24 * bn)) * hw))).toInt < 0 := toI_nlt c9 rfl (by decide); omega))
                have t_160 : (((vF 0 (24 * an)) * ((vF 0 (24 * bn)) * hw))).toInt < 0 := toI_lt c_160 rfl (by decide)
                refine lv_iload hx hb dX12_add_171 (lv_at hl 12 rfl) ?_
                refine lv_if_eq (tgt := 184) hx hb dX12_add_173 (by decide) (fun c9 => absurd c9 (by decide)) (fun _ => ?_)
                refine lv_lload hx hb dX12_add_176 (lv_at hl 0 rfl) ?_
                refine lv_lload hx hb dX12_add_178 (lv_at hl 1 rfl) ?_
                refine lv_lsub hx hb dX12_add_180 ?_
                refine lv_goto (tgt := 189) hx hb dX12_add_181 (by decide) ?_
                have eS : ((0 - (((vF 0) (((24 * an) + 2) + i))).toInt64) : Int64).toInt = (-1) * la28 (vF 0) (24 * an + 2) na i + 1 * la28 (vF 0) (24 * bn + 2) nb_ i := by rw [subJ (by omega) (by omega)]; omega
                refine va_last (cA := k 1) (n := 48) (f := gs) hx hb hK hP hD hS 2 1 (WR_get 1 (by decide)) (TR_get 1 (by decide)) (vp_in_nI (show i < 48 by omega) (by omega)) dX12_add_189 (fun H locs hP hD hS => ?_)
                have e9 : fT vG 1 (vp_updL gs ((nI i)).toNatClampNeg (0 - (((vF 0) (((24 * an) + 2) + i))).toInt64)) = fT (fT vG 1 gs) 1 (vp_updL gs ((nI i)).toNatClampNeg (0 - (((vF 0) (((24 * an) + 2) + i))).toInt64)) := (fT_sm _ _ _ _).symm
                have hP : va_P (dC, dI) vwCl (WR a k h0 vi vj vF (fT vG 1 (vp_updL gs ((nI i)).toNatClampNeg (0 - (((vF 0) (((24 * an) + 2) + i))).toInt64)))) H := by rw [e9, ← WR_G 1 (by decide) _ rfl]; exact hP
                have hD : va_D A (WR a k h0 vi vj vF (fT vG 1 (vp_updL gs ((nI i)).toNatClampNeg (0 - (((vF 0) (((24 * an) + 2) + i))).toInt64)))) := by rw [e9, ← WR_G 1 (by decide) _ rfl]; exact hD
                clear e9
                refine lv_iinc (v := (nI (i + 1))) hx hb dX12_add_190 hl (k := 2) rfl (nI_add i 1) (by decide) rfl (fun ls (hl : lv_has ls _ ([(11, .int (nI (i + 1))), (14, .long 0), (12, .long (((vF 0) (((24 * an) + 2) + i))).toInt64), (0, .ref h0), (1, .int (nI sn)), (2, .int (nI an)), (3, .int (nI bn)), (5, .int (vF 0 (24 * an))), (6, .int ((vF 0 (24 * bn)) * hw)), (7, .int (nI na)), (8, .int (nI nb_)), (9, .int (nI wn)), (10, .int 1)])) => ?_)
                refine lv_goto (tgt := 86) hx hb dX12_add_193 (by decide) ?_
                have hl : lv_has _ _ ([(11, .int (nI (i + 1))), (0, .ref h0), (1, .int (nI sn)), (2, .int (nI an)), (3, .int (nI bn)), (5, .int (vF 0 (24 * an))), (6, .int ((vF 0 (24 * bn)) * hw)), (7, .int (nI na)), (8, .int (nI nb_)), (9, .int (nI wn)), (10, .int 1)]) := lv_sub hl [0, 3, 4, 5, 6, 7, 8, 9, 10, 11, 12] rfl
                exact ih86_5 (i + 1) (vp_updL gs ((nI i)).toNatClampNeg (0 - (((vF 0) (((24 * an) + 2) + i))).toInt64)) _ _ _ (by omega) (fun q hq => by rw [updL_at (by omega)]; by_cases e9 : q = i; (rw [if_pos e9, e9]; exact eS); (rw [if_neg e9]; exact hE q (by omega))) (by omega) hP hD hS hl
              · have t_125 : ¬ ((i : Nat) : Int) ≥ ((nb_ : Nat) : Int) := toI_nge c_125 (nI_toInt (by omega)) (nI_toInt (by omega))
                refine lv_aload_n hx hb dX12_add_128 rfl (lv_at hl 2 rfl) ?_
                refine va_get (D := (dC, dI)) (ci := 12) (v := .ref (a 0)) (C := RX12) (T := TX12) (N := 163) (fs := fM (vS a vi vj)) hx hb hts iwsRX12_add_in12 hown hK hP 0 rfl rfl 1 (by decide) (hts (.fieldLink RX12 7 "OptimaWorksModel" "big" "[I") (by decide +kernel)) (fun _ h9 => h9) rfl dX12_add_129 ?_
                refine lv_bipush (v := 24) hx hb dX12_add_132 (by decide) ?_
                refine lv_iload_n hx hb dX12_add_134 rfl (lv_at hl 5 rfl) ?_
                refine lv_imul hx hb dX12_add_135 ?_
                refine lv_topi (fun y85 hy85 => ?_)
                obtain rfl : (nI (24 * bn)) = y85 := (hy85.trans (pk_mul 24 bn)).symm
                refine lv_iconst (v := 2) hx hb dX12_add_136 (by decide) ?_
                refine lv_iadd hx hb dX12_add_137 ?_
                refine lv_topi (fun y86 hy86 => ?_)
                obtain rfl : (nI ((24 * bn) + 2)) = y86 := (hy86.trans (nI_add (24 * bn) 2)).symm
                refine lv_iload hx hb dX12_add_138 (lv_at hl 1 rfl) ?_
                refine lv_iadd hx hb dX12_add_140 ?_
                refine lv_topi (fun y87 hy87 => ?_)
                obtain rfl : (nI (((24 * bn) + 2) + i)) = y87 := (hy87.trans (nI_add ((24 * bn) + 2) i)).symm
                refine va_iald (cA := k 0) (n := 26400) (f := (vF 0)) hx hb hK hP 1 0 (WR_get 0 (by decide)) (TR_get 0 (by decide)) (vp_in_nI (show (((24 * bn) + 2) + i) < 26400 by omega) (by omega)) dX12_add_141 ?_
                refine lv_topi (fun y88 hy88 => ?_)
                obtain rfl : ((vF 0) (((24 * bn) + 2) + i)) = y88 := (hy88.trans (by rw [nI_clamp (by omega)])).symm
                refine lv_i2l hx hb dX12_add_142 rfl ?_
                refine lv_goto (tgt := 147) hx hb dX12_add_143 (by decide) ?_
                have eV : ((((vF 0) (((24 * bn) + 2) + i))).toInt64 : Int64).toInt = la28 (vF 0) (24 * bn + 2) nb_ i := by unfold la28; rw [if_pos (by omega)]; exact i64T _
                have bU := la_bd hna3 i
                have bV := la_bd hnb3 i
                refine lv_lstore hx hb dX12_add_147 hl (by decide) rfl (fun ls (hl : lv_has ls _ ([(14, .long (((vF 0) (((24 * bn) + 2) + i))).toInt64), (12, .long (((vF 0) (((24 * an) + 2) + i))).toInt64), (11, .int (nI i)), (0, .ref h0), (1, .int (nI sn)), (2, .int (nI an)), (3, .int (nI bn)), (5, .int (vF 0 (24 * an))), (6, .int ((vF 0 (24 * bn)) * hw)), (7, .int (nI na)), (8, .int (nI nb_)), (9, .int (nI wn)), (10, .int 1)])) => ?_)
                refine lv_aload_n hx hb dX12_add_149 rfl (lv_at hl 3 rfl) ?_
                refine va_get (D := (dC, dI)) (ci := 12) (v := .ref (a 1)) (C := RX12) (T := TX12) (N := 163) (fs := fM (vS a vi vj)) hx hb hts iwsRX12_add_in12 hown hK hP 0 rfl rfl 2 (by decide) (hts (.fieldLink RX12 13 "OptimaWorksModel" "sum" "[J") (by decide +kernel)) (fun _ h9 => h9) rfl dX12_add_150 ?_
                refine lv_iload hx hb dX12_add_153 (lv_at hl 2 rfl) ?_
                refine lv_iload hx hb dX12_add_155 (lv_at hl 7 rfl) ?_
                refine lv_iload hx hb dX12_add_157 (lv_at hl 8 rfl) ?_
                refine lv_imul hx hb dX12_add_159 ?_
                refine lv_if_lt (tgt := 171) hx hb dX12_add_160 (by decide) (fun c_160 => ?_) (fun c9 => False.elim (by have t9 : ¬ (((vF 0 (24 * an)) * ((vF 0 (24 * bn)) * hw))).toInt < 0 := toI_nlt c9 rfl (by decide); omega))
                have t_160 : (((vF 0 (24 * an)) * ((vF 0 (24 * bn)) * hw))).toInt < 0 := toI_lt c_160 rfl (by decide)
                refine lv_iload hx hb dX12_add_171 (lv_at hl 12 rfl) ?_
                refine lv_if_eq (tgt := 184) hx hb dX12_add_173 (by decide) (fun c9 => absurd c9 (by decide)) (fun _ => ?_)
                refine lv_lload hx hb dX12_add_176 (lv_at hl 0 rfl) ?_
                refine lv_lload hx hb dX12_add_178 (lv_at hl 1 rfl) ?_
                refine lv_lsub hx hb dX12_add_180 ?_
                refine lv_goto (tgt := 189) hx hb dX12_add_181 (by decide) ?_
                have eS : (((((vF 0) (((24 * bn) + 2) + i))).toInt64 - (((vF 0) (((24 * an) + 2) + i))).toInt64) : Int64).toInt = (-1) * la28 (vF 0) (24 * an + 2) na i + 1 * la28 (vF 0) (24 * bn + 2) nb_ i := by rw [subJ (by omega) (by omega)]; omega
                refine va_last (cA := k 1) (n := 48) (f := gs) hx hb hK hP hD hS 2 1 (WR_get 1 (by decide)) (TR_get 1 (by decide)) (vp_in_nI (show i < 48 by omega) (by omega)) dX12_add_189 (fun H locs hP hD hS => ?_)
                have e9 : fT vG 1 (vp_updL gs ((nI i)).toNatClampNeg ((((vF 0) (((24 * bn) + 2) + i))).toInt64 - (((vF 0) (((24 * an) + 2) + i))).toInt64)) = fT (fT vG 1 gs) 1 (vp_updL gs ((nI i)).toNatClampNeg ((((vF 0) (((24 * bn) + 2) + i))).toInt64 - (((vF 0) (((24 * an) + 2) + i))).toInt64)) := (fT_sm _ _ _ _).symm
                have hP : va_P (dC, dI) vwCl (WR a k h0 vi vj vF (fT vG 1 (vp_updL gs ((nI i)).toNatClampNeg ((((vF 0) (((24 * bn) + 2) + i))).toInt64 - (((vF 0) (((24 * an) + 2) + i))).toInt64)))) H := by rw [e9, ← WR_G 1 (by decide) _ rfl]; exact hP
                have hD : va_D A (WR a k h0 vi vj vF (fT vG 1 (vp_updL gs ((nI i)).toNatClampNeg ((((vF 0) (((24 * bn) + 2) + i))).toInt64 - (((vF 0) (((24 * an) + 2) + i))).toInt64)))) := by rw [e9, ← WR_G 1 (by decide) _ rfl]; exact hD
                clear e9
                refine lv_iinc (v := (nI (i + 1))) hx hb dX12_add_190 hl (k := 2) rfl (nI_add i 1) (by decide) rfl (fun ls (hl : lv_has ls _ ([(11, .int (nI (i + 1))), (14, .long (((vF 0) (((24 * bn) + 2) + i))).toInt64), (12, .long (((vF 0) (((24 * an) + 2) + i))).toInt64), (0, .ref h0), (1, .int (nI sn)), (2, .int (nI an)), (3, .int (nI bn)), (5, .int (vF 0 (24 * an))), (6, .int ((vF 0 (24 * bn)) * hw)), (7, .int (nI na)), (8, .int (nI nb_)), (9, .int (nI wn)), (10, .int 1)])) => ?_)
                refine lv_goto (tgt := 86) hx hb dX12_add_193 (by decide) ?_
                have hl : lv_has _ _ ([(11, .int (nI (i + 1))), (0, .ref h0), (1, .int (nI sn)), (2, .int (nI an)), (3, .int (nI bn)), (5, .int (vF 0 (24 * an))), (6, .int ((vF 0 (24 * bn)) * hw)), (7, .int (nI na)), (8, .int (nI nb_)), (9, .int (nI wn)), (10, .int 1)]) := lv_sub hl [0, 3, 4, 5, 6, 7, 8, 9, 10, 11, 12] rfl
                exact ih86_5 (i + 1) (vp_updL gs ((nI i)).toNatClampNeg ((((vF 0) (((24 * bn) + 2) + i))).toInt64 - (((vF 0) (((24 * an) + 2) + i))).toInt64)) _ _ _ (by omega) (fun q hq => by rw [updL_at (by omega)]; by_cases e9 : q = i; (rw [if_pos e9, e9]; exact eS); (rw [if_neg e9]; exact hE q (by omega))) (by omega) hP hD hS hl

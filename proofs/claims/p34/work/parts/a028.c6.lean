theorem dX12_times_0 : decode cX12_times 0 = .ok (.aload_n 0, 1) := dk_42 (by decide +kernel)
theorem dX12_times_1 : decode cX12_times 1 = .ok (.getfield 7, 3) := dk_180 (by decide +kernel)
theorem dX12_times_4 : decode cX12_times 4 = .ok (.bipush 24, 2) := dk_16 (by decide +kernel)
theorem dX12_times_6 : decode cX12_times 6 = .ok (.iload_n 2, 1) := dk_28 (by decide +kernel)
theorem dX12_times_7 : decode cX12_times 7 = .ok (.imul, 1) := dk_104 (by decide +kernel)
theorem dX12_times_8 : decode cX12_times 8 = .ok (.iconst 1, 1) := dk_4 (by decide +kernel)
theorem dX12_times_9 : decode cX12_times 9 = .ok (.iadd, 1) := dk_96 (by decide +kernel)
theorem dX12_times_10 : decode cX12_times 10 = .ok (.iaload, 1) := dk_46 (by decide +kernel)
theorem dX12_times_11 : decode cX12_times 11 = .ok (.istore 4, 2) := dk_54 (by decide +kernel)
theorem dX12_times_13 : decode cX12_times 13 = .ok (.aload_n 0, 1) := dk_42 (by decide +kernel)
theorem dX12_times_14 : decode cX12_times 14 = .ok (.getfield 7, 3) := dk_180 (by decide +kernel)
theorem dX12_times_17 : decode cX12_times 17 = .ok (.bipush 24, 2) := dk_16 (by decide +kernel)
theorem dX12_times_19 : decode cX12_times 19 = .ok (.iload_n 3, 1) := dk_29 (by decide +kernel)
theorem dX12_times_20 : decode cX12_times 20 = .ok (.imul, 1) := dk_104 (by decide +kernel)
theorem dX12_times_21 : decode cX12_times 21 = .ok (.iconst 1, 1) := dk_4 (by decide +kernel)
theorem dX12_times_22 : decode cX12_times 22 = .ok (.iadd, 1) := dk_96 (by decide +kernel)
theorem dX12_times_23 : decode cX12_times 23 = .ok (.iaload, 1) := dk_46 (by decide +kernel)
theorem dX12_times_24 : decode cX12_times 24 = .ok (.istore 5, 2) := dk_54 (by decide +kernel)
theorem dX12_times_26 : decode cX12_times 26 = .ok (.iconst 0, 1) := dk_3 (by decide +kernel)
theorem dX12_times_27 : decode cX12_times 27 = .ok (.istore 6, 2) := dk_54 (by decide +kernel)
theorem dX12_times_29 : decode cX12_times 29 = .ok (.iload 6, 2) := dk_21 (by decide +kernel)
theorem dX12_times_31 : decode cX12_times 31 = .ok (.iload 4, 2) := dk_21 (by decide +kernel)
theorem dX12_times_33 : decode cX12_times 33 = .ok (.iload 5, 2) := dk_21 (by decide +kernel)
theorem dX12_times_35 : decode cX12_times 35 = .ok (.iadd, 1) := dk_96 (by decide +kernel)
theorem dX12_times_36 : decode cX12_times 36 = .ok (.if_icmp .ge 17, 3) := dk_162 (by decide +kernel)
theorem dX12_times_39 : decode cX12_times 39 = .ok (.aload_n 0, 1) := dk_42 (by decide +kernel)
theorem dX12_times_40 : decode cX12_times 40 = .ok (.getfield 13, 3) := dk_180 (by decide +kernel)
theorem dX12_times_43 : decode cX12_times 43 = .ok (.iload 6, 2) := dk_21 (by decide +kernel)
theorem dX12_times_45 : decode cX12_times 45 = .ok (.lconst 0, 1) := dk_9 (by decide +kernel)
theorem dX12_times_46 : decode cX12_times 46 = .ok (.lastore, 1) := dk_80 (by decide +kernel)
theorem dX12_times_47 : decode cX12_times 47 = .ok (.iinc 6 1, 3) := dk_132 (by decide +kernel)
theorem dX12_times_50 : decode cX12_times 50 = .ok (.goto (-21), 3) := dk_167 (by decide +kernel)
theorem dX12_times_53 : decode cX12_times 53 = .ok (.iconst 0, 1) := dk_3 (by decide +kernel)
theorem dX12_times_54 : decode cX12_times 54 = .ok (.istore 6, 2) := dk_54 (by decide +kernel)
theorem dX12_times_56 : decode cX12_times 56 = .ok (.iload 6, 2) := dk_21 (by decide +kernel)
theorem dX12_times_58 : decode cX12_times 58 = .ok (.iload 4, 2) := dk_21 (by decide +kernel)
theorem dX12_times_60 : decode cX12_times 60 = .ok (.if_icmp .ge 113, 3) := dk_162 (by decide +kernel)
theorem dX12_times_63 : decode cX12_times 63 = .ok (.lconst 0, 1) := dk_9 (by decide +kernel)
theorem dX12_times_64 : decode cX12_times 64 = .ok (.lstore 7, 2) := dk_55 (by decide +kernel)
theorem dX12_times_66 : decode cX12_times 66 = .ok (.iconst 0, 1) := dk_3 (by decide +kernel)
theorem dX12_times_67 : decode cX12_times 67 = .ok (.istore 9, 2) := dk_54 (by decide +kernel)
theorem dX12_times_69 : decode cX12_times 69 = .ok (.iload 9, 2) := dk_21 (by decide +kernel)
theorem dX12_times_71 : decode cX12_times 71 = .ok (.iload 5, 2) := dk_21 (by decide +kernel)
theorem dX12_times_73 : decode cX12_times 73 = .ok (.if_icmp .ge 79, 3) := dk_162 (by decide +kernel)
theorem dX12_times_76 : decode cX12_times 76 = .ok (.aload_n 0, 1) := dk_42 (by decide +kernel)
theorem dX12_times_77 : decode cX12_times 77 = .ok (.getfield 13, 3) := dk_180 (by decide +kernel)
theorem dX12_times_80 : decode cX12_times 80 = .ok (.iload 6, 2) := dk_21 (by decide +kernel)
theorem dX12_times_82 : decode cX12_times 82 = .ok (.iload 9, 2) := dk_21 (by decide +kernel)
theorem dX12_times_84 : decode cX12_times 84 = .ok (.iadd, 1) := dk_96 (by decide +kernel)
theorem dX12_times_85 : decode cX12_times 85 = .ok (.laload, 1) := dk_47 (by decide +kernel)
theorem dX12_times_86 : decode cX12_times 86 = .ok (.aload_n 0, 1) := dk_42 (by decide +kernel)
theorem dX12_times_87 : decode cX12_times 87 = .ok (.getfield 7, 3) := dk_180 (by decide +kernel)
theorem dX12_times_90 : decode cX12_times 90 = .ok (.bipush 24, 2) := dk_16 (by decide +kernel)
theorem dX12_times_92 : decode cX12_times 92 = .ok (.iload_n 2, 1) := dk_28 (by decide +kernel)
theorem dX12_times_93 : decode cX12_times 93 = .ok (.imul, 1) := dk_104 (by decide +kernel)
theorem dX12_times_94 : decode cX12_times 94 = .ok (.iconst 2, 1) := dk_5 (by decide +kernel)
theorem dX12_times_95 : decode cX12_times 95 = .ok (.iadd, 1) := dk_96 (by decide +kernel)
theorem dX12_times_96 : decode cX12_times 96 = .ok (.iload 6, 2) := dk_21 (by decide +kernel)
theorem dX12_times_98 : decode cX12_times 98 = .ok (.iadd, 1) := dk_96 (by decide +kernel)
theorem dX12_times_99 : decode cX12_times 99 = .ok (.iaload, 1) := dk_46 (by decide +kernel)
theorem dX12_times_100 : decode cX12_times 100 = .ok (.i2l, 1) := dk_133 (by decide +kernel)
theorem dX12_times_101 : decode cX12_times 101 = .ok (.aload_n 0, 1) := dk_42 (by decide +kernel)
theorem dX12_times_102 : decode cX12_times 102 = .ok (.getfield 7, 3) := dk_180 (by decide +kernel)
theorem dX12_times_105 : decode cX12_times 105 = .ok (.bipush 24, 2) := dk_16 (by decide +kernel)
theorem dX12_times_107 : decode cX12_times 107 = .ok (.iload_n 3, 1) := dk_29 (by decide +kernel)
theorem dX12_times_108 : decode cX12_times 108 = .ok (.imul, 1) := dk_104 (by decide +kernel)
theorem dX12_times_109 : decode cX12_times 109 = .ok (.iconst 2, 1) := dk_5 (by decide +kernel)
theorem dX12_times_110 : decode cX12_times 110 = .ok (.iadd, 1) := dk_96 (by decide +kernel)
theorem dX12_times_111 : decode cX12_times 111 = .ok (.iload 9, 2) := dk_21 (by decide +kernel)
theorem dX12_times_113 : decode cX12_times 113 = .ok (.iadd, 1) := dk_96 (by decide +kernel)
theorem dX12_times_114 : decode cX12_times 114 = .ok (.iaload, 1) := dk_46 (by decide +kernel)
theorem dX12_times_115 : decode cX12_times 115 = .ok (.i2l, 1) := dk_133 (by decide +kernel)
theorem dX12_times_116 : decode cX12_times 116 = .ok (.lmul, 1) := dk_105 (by decide +kernel)
theorem dX12_times_117 : decode cX12_times 117 = .ok (.ladd, 1) := dk_97 (by decide +kernel)
theorem dX12_times_118 : decode cX12_times 118 = .ok (.lload 7, 2) := dk_22 (by decide +kernel)
theorem dX12_times_120 : decode cX12_times 120 = .ok (.ladd, 1) := dk_97 (by decide +kernel)
theorem dX12_times_121 : decode cX12_times 121 = .ok (.lstore 10, 2) := dk_55 (by decide +kernel)
theorem dX12_times_123 : decode cX12_times 123 = .ok (.aload_n 0, 1) := dk_42 (by decide +kernel)
theorem dX12_times_124 : decode cX12_times 124 = .ok (.getfield 13, 3) := dk_180 (by decide +kernel)
theorem dX12_times_127 : decode cX12_times 127 = .ok (.iload 6, 2) := dk_21 (by decide +kernel)
theorem dX12_times_129 : decode cX12_times 129 = .ok (.iload 9, 2) := dk_21 (by decide +kernel)
theorem dX12_times_131 : decode cX12_times 131 = .ok (.iadd, 1) := dk_96 (by decide +kernel)
theorem dX12_times_132 : decode cX12_times 132 = .ok (.lload 10, 2) := dk_22 (by decide +kernel)
theorem dX12_times_134 : decode cX12_times 134 = .ok (.ldc2_w 351, 3) := dk_20 (by decide +kernel)
theorem dX12_times_137 : decode cX12_times 137 = .ok (.land, 1) := dk_127 (by decide +kernel)
theorem dX12_times_138 : decode cX12_times 138 = .ok (.lastore, 1) := dk_80 (by decide +kernel)
theorem dX12_times_139 : decode cX12_times 139 = .ok (.lload 10, 2) := dk_22 (by decide +kernel)
theorem dX12_times_141 : decode cX12_times 141 = .ok (.bipush 28, 2) := dk_16 (by decide +kernel)
theorem dX12_times_143 : decode cX12_times 143 = .ok (.lshr, 1) := dk_123 (by decide +kernel)
theorem dX12_times_144 : decode cX12_times 144 = .ok (.lstore 7, 2) := dk_55 (by decide +kernel)
theorem dX12_times_146 : decode cX12_times 146 = .ok (.iinc 9 1, 3) := dk_132 (by decide +kernel)
theorem dX12_times_149 : decode cX12_times 149 = .ok (.goto (-80), 3) := dk_167 (by decide +kernel)
theorem dX12_times_152 : decode cX12_times 152 = .ok (.aload_n 0, 1) := dk_42 (by decide +kernel)
theorem dX12_times_153 : decode cX12_times 153 = .ok (.getfield 13, 3) := dk_180 (by decide +kernel)
theorem dX12_times_156 : decode cX12_times 156 = .ok (.iload 6, 2) := dk_21 (by decide +kernel)
theorem dX12_times_158 : decode cX12_times 158 = .ok (.iload 5, 2) := dk_21 (by decide +kernel)
theorem dX12_times_160 : decode cX12_times 160 = .ok (.iadd, 1) := dk_96 (by decide +kernel)
theorem dX12_times_161 : decode cX12_times 161 = .ok (.dup2, 1) := dk_92 (by decide +kernel)
theorem dX12_times_162 : decode cX12_times 162 = .ok (.laload, 1) := dk_47 (by decide +kernel)
theorem dX12_times_163 : decode cX12_times 163 = .ok (.lload 7, 2) := dk_22 (by decide +kernel)
theorem dX12_times_165 : decode cX12_times 165 = .ok (.ladd, 1) := dk_97 (by decide +kernel)
theorem dX12_times_166 : decode cX12_times 166 = .ok (.lastore, 1) := dk_80 (by decide +kernel)
theorem dX12_times_167 : decode cX12_times 167 = .ok (.iinc 6 1, 3) := dk_132 (by decide +kernel)
theorem dX12_times_170 : decode cX12_times 170 = .ok (.goto (-114), 3) := dk_167 (by decide +kernel)
theorem dX12_times_173 : decode cX12_times 173 = .ok (.aload_n 0, 1) := dk_42 (by decide +kernel)
theorem dX12_times_174 : decode cX12_times 174 = .ok (.iload_n 1, 1) := dk_27 (by decide +kernel)
theorem dX12_times_175 : decode cX12_times 175 = .ok (.iload 4, 2) := dk_21 (by decide +kernel)
theorem dX12_times_177 : decode cX12_times 177 = .ok (.iload 5, 2) := dk_21 (by decide +kernel)
theorem dX12_times_179 : decode cX12_times 179 = .ok (.iadd, 1) := dk_96 (by decide +kernel)
theorem dX12_times_180 : decode cX12_times 180 = .ok (.aload_n 0, 1) := dk_42 (by decide +kernel)
theorem dX12_times_181 : decode cX12_times 181 = .ok (.iload_n 2, 1) := dk_28 (by decide +kernel)
theorem dX12_times_182 : decode cX12_times 182 = .ok (.invokevirtual 353, 3) := dk_182 (by decide +kernel)
theorem dX12_times_185 : decode cX12_times 185 = .ok (.aload_n 0, 1) := dk_42 (by decide +kernel)
theorem dX12_times_186 : decode cX12_times 186 = .ok (.iload_n 3, 1) := dk_29 (by decide +kernel)
theorem dX12_times_187 : decode cX12_times 187 = .ok (.invokevirtual 353, 3) := dk_182 (by decide +kernel)
theorem dX12_times_190 : decode cX12_times 190 = .ok (.imul, 1) := dk_104 (by decide +kernel)
theorem dX12_times_191 : decode cX12_times 191 = .ok (.invokevirtual 361, 3) := dk_182 (by decide +kernel)
theorem dX12_times_194 : decode cX12_times 194 = .ok (.return_, 1) := dk_177 (by decide +kernel)
def wsRX12_times : List Cond := .code yX12_times cX12_times 12 none :: ([.fieldLink RX12 7 "OptimaWorksModel" "big" "[I", .fieldLink RX12 13 "OptimaWorksModel" "sum" "[J", .constantLong RX12 351 268435455] ++ wsX120 ++ (wsV RX12 353 RX12 yX12_sign wsRX12_sign) ++ (wsV RX12 361 RX12 yX12_carry wsRX12_carry))
theorem iwsRX12_times_in12 : ∀ w ∈ wsX120, w ∈ wsRX12_times := fun _ h => List.mem_cons_of_mem _ (List.mem_append_left _ (List.mem_append_left _ (List.mem_append_right _ h)))
theorem gwsRX12_times_0 : GoodIn wsRX12_times (wsV RX12 353 RX12 yX12_sign wsRX12_sign) := goodIn_sub (fun _ h => List.mem_cons_of_mem _ (List.mem_append_left _ (List.mem_append_right _ h))) (by decide +kernel)
theorem gwsRX12_times_1 : GoodIn wsRX12_times (wsV RX12 361 RX12 yX12_carry wsRX12_carry) := goodIn_sub (fun _ h => List.mem_cons_of_mem _ (List.mem_append_right _ h)) (by decide +kernel)
set_option maxHeartbeats 4000000 in
set_option maxRecDepth 100000 in
/-- times(s, a, b) -/
theorem r_X12_times (l : Launch) (dC : Nat → ClassId) (dI : Nat → Nat → Nat) (a : Nat → Nat) (k : Nat → ClassId) (h0 : Nat) (vi : Nat → Int32) (vj : Nat → Int64) (vF : Nat → Nat → Int32) (vG : Nat → Nat → Int64) (sn : Nat) (hs : sn < 1100) (an : Nat) (bn : Nat) (xa : Int) (xb : Int) (hna : an < 1100) (hnb : bn < 1100) (hxa : Nu (vF 0) an xa) (hxb : Nu (vF 0) bn xb) (hbig : xa.natAbs * xb.natAbs < 2 ^ 588) (sz : Nat) : Met l yX12_times wsRX12_times ({ frames := 1, cells := 0, slots := 0, locals := 28 }) (va_Pc [.ref h0, .int (nI sn), .int (nI an), .int (nI bn)] (fun U => U.heap.size = sz ∧ va_P (dC, dI) vwCl (WR a k h0 vi vj vF vG) U.heap ∧ va_K (dC, dI) vwCl (tX12 k) U ∧ va_D (fun _ => True) (WR a k h0 vi vj vF vG))) (va_Qv (fun (u : (Nat → Int32) × (Nat → Int64)) => (Nu (u.1) sn (xa * xb)) ∧ (∀ q, (q < 24 * sn ∨ 24 * sn + 24 ≤ q) → (u.1) q = vF 0 q)) (fun (u : (Nat → Int32) × (Nat → Int64)) t => va_P (dC, dI) vwCl (WR a k h0 vi vj (fT vF 0 (u.1)) (fT vG 1 (u.2))) t.heap ∧ va_D (va_A (WR a k h0 vi vj vF vG) sz) (WR a k h0 vi vj (fT vF 0 (u.1)) (fT vG 1 (u.2)))) (va_A (WR a k h0 vi vj vF vG) sz)) 0 0 (va_A (WR a k h0 vi vj vF vG) sz) := by
  refine Met.ofW (cc := cX12_times) (maxL := 12) (ret := none) (by decide) rfl ?_
  intro p e s m args below meth c s₁ B hml hv
  obtain ⟨rfl, hsz, hP, hK, hD0⟩ := hv
  have hx := B.exec
  have hb := B.bytes
  have hr := B.returns
  have hts := atoms_spec (ws := wsRX12_times) B.pre
  have hown : s.vm.findClass RX12 = some m.cls := findClass_of_methodNamed B.named
  have hlocks := B.notSynchronized
  subst hsz
  have hD := hD0.self (sz := s.heap.size)
  generalize hAe : va_A (WR a k h0 vi vj vF vG) s.heap.size = A at hD ⊢
  have hA : ∀ q : Nat, s.heap.size ≤ q → A q := fun q h => by rw [← hAe]; exact Or.inr h
  have hS : va_S A s.heap s.heap [] := va_S.rf
  have hl := lv_entry ([.ref h0, .int (nI sn), .int (nI an), .int (nI bn)]) (n := 12) (Nat.le_of_ble_eq_true rfl)
  rw [lg_entry_eq]
  generalize (lg_sl ([.ref h0, .int (nI sn), .int (nI an), .int (nI bn)]) ++ List.replicate (12 - (lg_sl ([.ref h0, .int (nI sn), .int (nI an), .int (nI bn)])).length) Slot.unset).toArray = ls at hl ⊢
  have hl : lv_has ls 12 [(0, .ref h0), (1, .int (nI sn)), (2, .int (nI an)), (3, .int (nI bn))] := hl
  obtain ⟨na, hna1, hna2, hna3, hna4, hna5, hna6⟩ := id hxa
  obtain ⟨nb_, hnb1, hnb2, hnb3, hnb4, hnb5, hnb6⟩ := id hxb
  have sa := sgT hna6
  have sb := sgT hnb6
  have hnm : na + nb_ ≤ 22 := by rcases Nat.eq_zero_or_pos na with h9 | h9; (omega); rcases Nat.eq_zero_or_pos nb_ with h8 | h8; (omega); exact few22 hna3 hnb3 (fun h => by rw [show 24 * an + 2 + (na - 1) = 24 * an + 1 + na by omega]; exact hna4 h) (fun h => by rw [show 24 * bn + 2 + (nb_ - 1) = 24 * bn + 1 + nb_ by omega]; exact hnb4 h) hna1 hnb1 (by rw [← hna5, ← hnb5]; exact hbig) h9 h8
  refine lv_aload_n hx hb dX12_times_0 rfl (lv_at hl 0 rfl) ?_
  refine va_get (D := (dC, dI)) (ci := 12) (v := .ref (a 0)) (C := RX12) (T := TX12) (N := 163) (fs := fM (vS a vi vj)) hx hb hts iwsRX12_times_in12 hown hK hP 0 rfl rfl 1 (by decide) (hts (.fieldLink RX12 7 "OptimaWorksModel" "big" "[I") (by decide +kernel)) (fun _ h9 => h9) rfl dX12_times_1 ?_
  refine lv_bipush (v := 24) hx hb dX12_times_4 (by decide) ?_
  refine lv_iload_n hx hb dX12_times_6 rfl (lv_at hl 2 rfl) ?_
  refine lv_imul hx hb dX12_times_7 ?_
  refine lv_topi (fun y1 hy1 => ?_)
  obtain rfl : (nI (24 * an)) = y1 := (hy1.trans (pk_mul 24 an)).symm
  refine lv_iconst (v := 1) hx hb dX12_times_8 (by decide) ?_
  refine lv_iadd hx hb dX12_times_9 ?_
  refine lv_topi (fun y2 hy2 => ?_)
  obtain rfl : (nI ((24 * an) + 1)) = y2 := (hy2.trans (nI_add (24 * an) 1)).symm
  refine va_iald (cA := k 0) (n := 26400) (f := (vF 0)) hx hb hK hP 1 0 (WR_get 0 (by decide)) (TR_get 0 (by decide)) (vp_in_nI (show ((24 * an) + 1) < 26400 by omega) (by omega)) dX12_times_10 ?_
  refine lv_topi (fun y3 hy3 => ?_)
  obtain rfl : ((vF 0) ((24 * an) + 1)) = y3 := (hy3.trans (by rw [nI_clamp (by omega)])).symm
  refine lv_topi (fun y4 hy4 => ?_)
  obtain rfl : (nI na) = y4 := (hy4.trans (hna2)).symm
  refine lv_istore hx hb dX12_times_11 hl (by decide) rfl (fun ls (hl : lv_has ls _ ([(4, .int (nI na)), (0, .ref h0), (1, .int (nI sn)), (2, .int (nI an)), (3, .int (nI bn))])) => ?_)
  refine lv_aload_n hx hb dX12_times_13 rfl (lv_at hl 1 rfl) ?_
  refine va_get (D := (dC, dI)) (ci := 12) (v := .ref (a 0)) (C := RX12) (T := TX12) (N := 163) (fs := fM (vS a vi vj)) hx hb hts iwsRX12_times_in12 hown hK hP 0 rfl rfl 1 (by decide) (hts (.fieldLink RX12 7 "OptimaWorksModel" "big" "[I") (by decide +kernel)) (fun _ h9 => h9) rfl dX12_times_14 ?_
  refine lv_bipush (v := 24) hx hb dX12_times_17 (by decide) ?_
  refine lv_iload_n hx hb dX12_times_19 rfl (lv_at hl 4 rfl) ?_
  refine lv_imul hx hb dX12_times_20 ?_
  refine lv_topi (fun y5 hy5 => ?_)
  obtain rfl : (nI (24 * bn)) = y5 := (hy5.trans (pk_mul 24 bn)).symm
  refine lv_iconst (v := 1) hx hb dX12_times_21 (by decide) ?_
  refine lv_iadd hx hb dX12_times_22 ?_
  refine lv_topi (fun y6 hy6 => ?_)
  obtain rfl : (nI ((24 * bn) + 1)) = y6 := (hy6.trans (nI_add (24 * bn) 1)).symm
  refine va_iald (cA := k 0) (n := 26400) (f := (vF 0)) hx hb hK hP 1 0 (WR_get 0 (by decide)) (TR_get 0 (by decide)) (vp_in_nI (show ((24 * bn) + 1) < 26400 by omega) (by omega)) dX12_times_23 ?_
  refine lv_topi (fun y7 hy7 => ?_)
  obtain rfl : ((vF 0) ((24 * bn) + 1)) = y7 := (hy7.trans (by rw [nI_clamp (by omega)])).symm
  refine lv_topi (fun y8 hy8 => ?_)
  obtain rfl : (nI nb_) = y8 := (hy8.trans (hnb2)).symm
  refine lv_istore hx hb dX12_times_24 hl (by decide) rfl (fun ls (hl : lv_has ls _ ([(5, .int (nI nb_)), (4, .int (nI na)), (0, .ref h0), (1, .int (nI sn)), (2, .int (nI an)), (3, .int (nI bn))])) => ?_)
  refine lv_iconst (v := 0) hx hb dX12_times_26 (by decide) ?_
  refine lv_istore hx hb dX12_times_27 hl (by decide) rfl (fun ls (hl : lv_has ls _ ([(6, .int 0), (5, .int (nI nb_)), (4, .int (nI na)), (0, .ref h0), (1, .int (nI sn)), (2, .int (nI an)), (3, .int (nI bn))])) => ?_)
  have e9 : fT vG 1 (vG 1) = vG := by funext q9; by_cases h9_1 : q9 = 1; (subst h9_1; exact (fT_eq _ _ _).trans (Eq.trans (by first | rfl | assumption | (symm; assumption) | (subst_vars; rfl)) (Eq.refl _).symm)); exact (fT_ne _ _ h9_1).trans (Eq.refl _).symm
  have hP : va_P (dC, dI) vwCl (WR a k h0 vi vj vF (fT vG 1 (vG 1))) s.heap := by rw [e9]; exact hP
  have hD : va_D A (WR a k h0 vi vj vF (fT vG 1 (vG 1))) := by rw [e9]; exact hD
  clear e9
  have hl : lv_has _ _ ([(6, .int (nI 0)), (0, .ref h0), (1, .int (nI sn)), (2, .int (nI an)), (3, .int (nI bn)), (4, .int (nI na)), (5, .int (nI nb_))]) := lv_sub hl [0, 3, 4, 5, 6, 2, 1] rfl
  refine (fun (loop : ∀ (n9 : Nat) (i : Nat) (gs : Nat → Int64) (H : Heap) (locs : List Loc) (ls : Array Slot), (i ≤ na + nb_) → (∀ q, q < i → gs q = 0) →  (na + nb_ < i + n9) → va_P (dC, dI) vwCl (WR a k h0 vi vj vF (fT vG 1 gs)) H → va_D A (WR a k h0 vi vj vF (fT vG 1 gs)) → va_S A s.heap H locs → lv_has ls 12 [(6, .int (nI i)), (0, .ref h0), (1, .int (nI sn)), (2, .int (nI an)), (3, .int (nI bn)), (4, .int (nI na)), (5, .int (nI nb_))] → W p l e _ s m _ below meth c H locs 0 0 _ (F0 m 29 ls [])) => loop (na + nb_ + 1) 0 (vG 1) _ _ _ (by omega) (fun q h => absurd h (by omega)) (by omega) hP hD hS hl) ?_
  intro n9
  induction n9 with
  | zero => intro i gs H locs ls hi hz hf9; exact False.elim (by omega)
  | succ n9 ih29 =>
    intro i gs H locs ls hi hz hf29 hP hD hS hl
    refine lv_iload hx hb dX12_times_29 (lv_at hl 0 rfl) ?_
    refine lv_iload hx hb dX12_times_31 (lv_at hl 5 rfl) ?_
    refine lv_iload hx hb dX12_times_33 (lv_at hl 6 rfl) ?_
    refine lv_iadd hx hb dX12_times_35 ?_
    refine lv_topi (fun y9 hy9 => ?_)
    obtain rfl : (nI (na + nb_)) = y9 := (hy9.trans (nI_add na nb_)).symm
    refine lv_icmp_ge (tgt := 53) hx hb dX12_times_36 (by decide) (fun c_36 => ?_) (fun c_36 => ?_)
    · have t_36 : ((i : Nat) : Int) ≥ (((na + nb_) : Nat) : Int) := toI_ge c_36 (nI_toInt (by omega)) (nI_toInt (by omega))
      refine lv_iconst (v := 0) hx hb dX12_times_53 (by decide) ?_
      refine lv_istore hx hb dX12_times_54 hl (by decide) rfl (fun ls (hl : lv_has ls _ ([(6, .int 0), (0, .ref h0), (1, .int (nI sn)), (2, .int (nI an)), (3, .int (nI bn)), (4, .int (nI na)), (5, .int (nI nb_))])) => ?_)
      have hl : lv_has _ _ ([(6, .int (nI 0)), (0, .ref h0), (1, .int (nI sn)), (2, .int (nI an)), (3, .int (nI bn)), (4, .int (nI na)), (5, .int (nI nb_))]) := lv_sub hl [0, 1, 2, 3, 4, 5, 6] rfl
      refine (fun (loop : ∀ (n9 : Nat) (i : Nat) (gs1 : Nat → Int64) (H : Heap) (locs : List Loc) (ls : Array Slot), (i ≤ na) → (∀ q, q < na + nb_ → 0 ≤ (gs1 q).toInt ∧ (gs1 q).toInt < 268435456) → (∀ q, i + nb_ ≤ q → q < na + nb_ → gs1 q = 0) → (sv28 gs1 (na + nb_) = ((lv28 (vF 0) (24 * an + 2) i : Nat) : Int) * ((lv28 (vF 0) (24 * bn + 2) nb_ : Nat) : Int)) →  (na < i + n9) → va_P (dC, dI) vwCl (WR a k h0 vi vj vF (fT vG 1 gs1)) H → va_D A (WR a k h0 vi vj vF (fT vG 1 gs1)) → va_S A s.heap H locs → lv_has ls 12 [(6, .int (nI i)), (0, .ref h0), (1, .int (nI sn)), (2, .int (nI an)), (3, .int (nI bn)), (4, .int (nI na)), (5, .int (nI nb_))] → W p l e _ s m _ below meth c H locs 0 0 _ (F0 m 56 ls [])) => loop (na + 1) 0 gs _ _ _ (by omega) (fun q hq => by rw [hz q (by omega)]; decide) (fun q _ hq => hz q (by omega)) (by rw [sv28_zero (fun q hq => hz q (by omega))]; simp [lv28]) (by omega) hP hD hS hl) ?_
      intro n9
      induction n9 with
      | zero => intro i gs1 H locs ls hi1 hent hzz hsv hf9; exact False.elim (by omega)
      | succ n9 ih56_1 =>
        intro i gs1 H locs ls hi1 hent hzz hsv hf56_1 hP hD hS hl
        refine lv_iload hx hb dX12_times_56 (lv_at hl 0 rfl) ?_
        refine lv_iload hx hb dX12_times_58 (lv_at hl 5 rfl) ?_
        refine lv_icmp_ge (tgt := 173) hx hb dX12_times_60 (by decide) (fun c_60 => ?_) (fun c_60 => ?_)
        · have t_60 : ((i : Nat) : Int) ≥ ((na : Nat) : Int) := toI_ge c_60 (nI_toInt (by omega)) (nI_toInt (by omega))
          refine lv_aload_n hx hb dX12_times_173 rfl (lv_at hl 1 rfl) ?_
          refine lv_iload_n hx hb dX12_times_174 rfl (lv_at hl 2 rfl) ?_
          refine lv_iload hx hb dX12_times_175 (lv_at hl 5 rfl) ?_
          refine lv_iload hx hb dX12_times_177 (lv_at hl 6 rfl) ?_
          refine lv_iadd hx hb dX12_times_179 ?_
          refine lv_topi (fun y10 hy10 => ?_)
          obtain rfl : (nI (na + nb_)) = y10 := (hy10.trans (nI_add na nb_)).symm
          refine lv_aload_n hx hb dX12_times_180 rfl (lv_at hl 1 rfl) ?_
          refine lv_iload_n hx hb dX12_times_181 rfl (lv_at hl 3 rfl) ?_
          have hFc := allFree hD hS hA
          refine va_calli (va_runV (As := [.int (nI an)]) (rest := [.int (nI (na + nb_)), .int (nI sn), .ref h0]) ⟨hx, hb, hml, hown, hts⟩ (r_X12_sign l dC dI a k h0 vi vj vF (fT vG 1 gs1) an (by first | assumption | decide | omega | rfl) H.size) (cwV 1 hts gwsRX12_times_0 rfl rfl rfl (by decide +kernel) ⟨by decide +kernel, by decide +kernel⟩) ⟨fun a U g mk q => by obtain ⟨q0, q1, qP, qK, qD⟩ := q; exact ⟨q0, q1, qP, va_K.moved (u := U) (U := U.calling g mk a) (Vm.Alike.refl U.vm) qK, qD⟩, va_recv hK hP (ci := 12) (q0 := 0) rfl rfl, fun U hU9 hW => ⟨rfl, by rw [hU9], by rw [hU9]; exact hP, va_K.moved hW.alike hK, hD.weaken (fun _ _ _ _ => trivial)⟩⟩ rfl rfl hl.1 rfl (lv_room (Nat.le_of_ble_eq_true rfl)) dX12_times_182 ⟨by decide +kernel, by decide +kernel⟩) hS (fun q _ h => hFc q h) hFc (fun r182 u t9_ H1 locs ht hvm hw9 hB9 hz1 hk1 hS => ?_)
          obtain ⟨hP1, hD1⟩ := hB9
          rw [ht] at hP1
          have hP := hP1
          have hD := hD1.weaken (fun _ q _ h => hFc q.1 h)
          generalize H1 = H at hP hS ⊢
          have hP : va_P (dC, dI) vwCl (WR a k h0 vi vj vF (fT vG 1 gs1)) H := hP
          have hD : va_D A (WR a k h0 vi vj vF (fT vG 1 gs1)) := hD
          obtain rfl := hw9
          refine lv_aload_n hx hb dX12_times_185 rfl (lv_at hl 1 rfl) ?_
          refine lv_iload_n hx hb dX12_times_186 rfl (lv_at hl 4 rfl) ?_
          have hFc := allFree hD hS hA
          refine va_calli (va_runV (As := [.int (nI bn)]) (rest := [.int (vF 0 (24 * an)), .int (nI (na + nb_)), .int (nI sn), .ref h0]) ⟨hx, hb, hml, hown, hts⟩ (r_X12_sign l dC dI a k h0 vi vj vF (fT vG 1 gs1) bn (by first | assumption | decide | omega | rfl) H.size) (cwV 1 hts gwsRX12_times_0 rfl rfl rfl (by decide +kernel) ⟨by decide +kernel, by decide +kernel⟩) ⟨fun a U g mk q => by obtain ⟨q0, q1, qP, qK, qD⟩ := q; exact ⟨q0, q1, qP, va_K.moved (u := U) (U := U.calling g mk a) (Vm.Alike.refl U.vm) qK, qD⟩, va_recv hK hP (ci := 12) (q0 := 0) rfl rfl, fun U hU9 hW => ⟨rfl, by rw [hU9], by rw [hU9]; exact hP, va_K.moved hW.alike hK, hD.weaken (fun _ _ _ _ => trivial)⟩⟩ rfl rfl hl.1 rfl (lv_room (Nat.le_of_ble_eq_true rfl)) dX12_times_187 ⟨by decide +kernel, by decide +kernel⟩) hS (fun q _ h => hFc q h) hFc (fun r187 u t9_ H1 locs ht hvm hw9 hB9 hz1 hk1 hS => ?_)
          obtain ⟨hP1, hD1⟩ := hB9
          rw [ht] at hP1
          have hP := hP1
          have hD := hD1.weaken (fun _ q _ h => hFc q.1 h)
          generalize H1 = H at hP hS ⊢
          have hP : va_P (dC, dI) vwCl (WR a k h0 vi vj vF (fT vG 1 gs1)) H := hP
          have hD : va_D A (WR a k h0 vi vj vF (fT vG 1 gs1)) := hD
          obtain rfl := hw9
          refine lv_imul hx hb dX12_times_190 ?_
          have hFc := allFree hD hS hA
          refine va_callv (va_runV (As := [.int (nI sn), .int (nI (na + nb_)), .int ((vF 0 (24 * an)) * (vF 0 (24 * bn)))]) (rest := []) ⟨hx, hb, hml, hown, hts⟩ (r_X12_carry l dC dI a k h0 vi vj vF (fT vG 1 gs1) sn (na + nb_) ((vF 0 (24 * an)) * (vF 0 (24 * bn))) (xa.natAbs * xb.natAbs) (if xa * xb < 0 then -1 else 1) (by first | assumption | decide | omega | rfl) (by omega) (fun q hq => by have := hent q hq; show -1152921504606846976 ≤ (gs1 q).toInt ∧ (gs1 q).toInt ≤ 1152921504606846976; omega) (by show sv28 gs1 (na + nb_) = _; rw [hsv, hna5, hnb5]; (have ei : i = na := by omega); rw [ei, Int.natCast_mul]) (Nat.lt_trans hbig (by decide)) (fun h9 => sgProd sa sb h9) H.size) (cwV 3 hts gwsRX12_times_1 rfl rfl rfl (by decide +kernel) ⟨by decide +kernel, by decide +kernel⟩) ⟨fun a U g mk q => by obtain ⟨q0, q1, qP, qK, qD⟩ := q; exact ⟨q0, q1, qP, va_K.moved (u := U) (U := U.calling g mk a) (Vm.Alike.refl U.vm) qK, qD⟩, va_recv hK hP (ci := 12) (q0 := 0) rfl rfl, fun U hU9 hW => ⟨rfl, by rw [hU9], by rw [hU9]; exact hP, va_K.moved hW.alike hK, hD.weaken (fun _ _ _ _ => trivial)⟩⟩ rfl rfl hl.1 rfl (lv_room (Nat.le_of_ble_eq_true rfl)) dX12_times_191 ⟨by decide +kernel, by decide +kernel⟩) hS (fun q _ h => hFc q h) hFc (fun u t9_ H1 locs ht hvm hw9 hB9 hz1 hk1 hS => ?_)
          obtain ⟨g191, hwit191⟩ : ∃ w9, w9 = u := ⟨u, rfl⟩
          subst hwit191
          obtain ⟨hP1, hD1⟩ := hB9
          rw [ht] at hP1
          have hP := hP1
          have hD := hD1.weaken (fun _ q _ h => hFc q.1 h)
          generalize H1 = H at hP hS ⊢
          have hP : va_P (dC, dI) vwCl (WR a k h0 vi vj (fT vF 0 g191) (fT vG 1 gs1)) H := hP
          have hD : va_D A (WR a k h0 vi vj (fT vF 0 g191) (fT vG 1 gs1)) := hD
          obtain ⟨f191_0, f191_1⟩ := hw9
          refine W.widen (k := 0) (n := 0) (by decide +kernel) (by decide +kernel) ?_
          exact W.vret hx hb hr (fun t9_ ht hW => ⟨⟨(g191, gs1), rfl, by (try dsimp only); (have e9 := sgn_abs xa xb); rw [e9] at f191_0; exact ⟨f191_0, f191_1⟩, by rw [ht]; exact hP, hD⟩, hS.F ht⟩) hS.2.2 dX12_times_194
        · have t_60 : ¬ ((i : Nat) : Int) ≥ ((na : Nat) : Int) := toI_nge c_60 (nI_toInt (by omega)) (nI_toInt (by omega))
          refine lv_lconst (v := 0) hx hb dX12_times_63 (by decide) ?_
          refine lv_lstore hx hb dX12_times_64 hl (by decide) rfl (fun ls (hl : lv_has ls _ ([(7, .long 0), (6, .int (nI i)), (0, .ref h0), (1, .int (nI sn)), (2, .int (nI an)), (3, .int (nI bn)), (4, .int (nI na)), (5, .int (nI nb_))])) => ?_)
          refine lv_iconst (v := 0) hx hb dX12_times_66 (by decide) ?_
          refine lv_istore hx hb dX12_times_67 hl (by decide) rfl (fun ls (hl : lv_has ls _ ([(9, .int 0), (7, .long 0), (6, .int (nI i)), (0, .ref h0), (1, .int (nI sn)), (2, .int (nI an)), (3, .int (nI bn)), (4, .int (nI na)), (5, .int (nI nb_))])) => ?_)
          have hl : lv_has _ _ ([(6, .int (nI i)), (0, .ref h0), (1, .int (nI sn)), (2, .int (nI an)), (3, .int (nI bn)), (4, .int (nI na)), (5, .int (nI nb_)), (9, .int (nI 0)), (7, .long 0)]) := lv_sub hl [2, 3, 4, 5, 6, 7, 8, 0, 1] rfl
          refine (fun (loop : ∀ (n9 : Nat) (j : Nat) (ov : Int64) (gs2 : Nat → Int64) (H : Heap) (locs : List Loc) (ls : Array Slot), (j ≤ nb_) → (0 ≤ ov.toInt ∧ ov.toInt < 268435456) → (∀ q, q < na + nb_ → 0 ≤ (gs2 q).toInt ∧ (gs2 q).toInt < 268435456) → (∀ q, i + nb_ ≤ q → q < na + nb_ → gs2 q = 0) → (sv28 gs2 (na + nb_) + ov.toInt * ((2 ^ (28 * (i + j)) : Nat) : Int) = sv28 gs1 (na + nb_) + (vF 0 (24 * an + 2 + i)).toInt * ((lv28 (vF 0) (24 * bn + 2) j : Nat) : Int) * ((2 ^ (28 * i) : Nat) : Int)) →  (nb_ < j + n9) → va_P (dC, dI) vwCl (WR a k h0 vi vj vF (fT vG 1 gs2)) H → va_D A (WR a k h0 vi vj vF (fT vG 1 gs2)) → va_S A s.heap H locs → lv_has ls 12 [(6, .int (nI i)), (0, .ref h0), (1, .int (nI sn)), (2, .int (nI an)), (3, .int (nI bn)), (4, .int (nI na)), (5, .int (nI nb_)), (9, .int (nI j)), (7, .long ov)] → W p l e _ s m _ below meth c H locs 0 0 _ (F0 m 69 ls [])) => loop (nb_ + 1) 0 0 gs1 _ _ _ (by omega) (by decide) (hent) (fun q h1 hq => hzz q (by omega) hq) (by (have e0 : (0 : Int64).toInt = 0 := by decide); rw [e0]; simp [lv28]) (by omega) hP hD hS hl) ?_
          intro n9
          induction n9 with
          | zero => intro j ov gs2 H locs ls hj hov hent2 hzz2 hsv2 hf9; exact False.elim (by omega)
          | succ n9 ih69_2 =>
            intro j ov gs2 H locs ls hj hov hent2 hzz2 hsv2 hf69_2 hP hD hS hl
            refine lv_iload hx hb dX12_times_69 (lv_at hl 7 rfl) ?_
            refine lv_iload hx hb dX12_times_71 (lv_at hl 6 rfl) ?_
            refine lv_icmp_ge (tgt := 152) hx hb dX12_times_73 (by decide) (fun c_73 => ?_) (fun c_73 => ?_)
            · have t_73 : ((j : Nat) : Int) ≥ ((nb_ : Nat) : Int) := toI_ge c_73 (nI_toInt (by omega)) (nI_toInt (by omega))
              refine lv_aload_n hx hb dX12_times_152 rfl (lv_at hl 1 rfl) ?_
              refine va_get (D := (dC, dI)) (ci := 12) (v := .ref (a 1)) (C := RX12) (T := TX12) (N := 163) (fs := fM (vS a vi vj)) hx hb hts iwsRX12_times_in12 hown hK hP 0 rfl rfl 2 (by decide) (hts (.fieldLink RX12 13 "OptimaWorksModel" "sum" "[J") (by decide +kernel)) (fun _ h9 => h9) rfl dX12_times_153 ?_
              refine lv_iload hx hb dX12_times_156 (lv_at hl 0 rfl) ?_
              refine lv_iload hx hb dX12_times_158 (lv_at hl 6 rfl) ?_
              refine lv_iadd hx hb dX12_times_160 ?_
              refine lv_topi (fun y11 hy11 => ?_)
              obtain rfl : (nI (i + nb_)) = y11 := (hy11.trans (nI_add i nb_)).symm
              refine lv_dup2_11 hx hb dX12_times_161 rfl rfl ?_
              refine va_lald (cA := k 1) (n := 48) (f := gs2) hx hb hK hP 2 1 (WR_get 1 (by decide)) (TR_get 1 (by decide)) (vp_in_nI (show (i + nb_) < 48 by omega) (by omega)) dX12_times_162 ?_
              refine lv_topl (fun y12 hy12 => ?_)
              obtain rfl : (gs2 (i + nb_)) = y12 := (hy12.trans (by rw [nI_clamp (by omega)])).symm
              refine lv_lload hx hb dX12_times_163 (lv_at hl 8 rfl) ?_
              have ez : (gs2 (i + nb_)).toInt = 0 := by rw [hzz2 (i + nb_) (by omega) (by omega)]; decide
              have el : (gs2 (i + nb_) + ov).toInt = ov.toInt := by rw [addJ (by omega) (by omega), ez]; omega
              refine lv_ladd hx hb dX12_times_165 ?_
              refine va_last (cA := k 1) (n := 48) (f := gs2) hx hb hK hP hD hS 2 1 (WR_get 1 (by decide)) (TR_get 1 (by decide)) (vp_in_nI (show (i + nb_) < 48 by omega) (by omega)) dX12_times_166 (fun H locs hP hD hS => ?_)
              have e9 : fT vG 1 (vp_updL gs2 ((nI (i + nb_))).toNatClampNeg ((gs2 (i + nb_)) + ov)) = fT (fT vG 1 gs2) 1 (vp_updL gs2 ((nI (i + nb_))).toNatClampNeg ((gs2 (i + nb_)) + ov)) := (fT_sm _ _ _ _).symm
              have hP : va_P (dC, dI) vwCl (WR a k h0 vi vj vF (fT vG 1 (vp_updL gs2 ((nI (i + nb_))).toNatClampNeg ((gs2 (i + nb_)) + ov)))) H := by rw [e9, ← WR_G 1 (by decide) _ rfl]; exact hP
              have hD : va_D A (WR a k h0 vi vj vF (fT vG 1 (vp_updL gs2 ((nI (i + nb_))).toNatClampNeg ((gs2 (i + nb_)) + ov)))) := by rw [e9, ← WR_G 1 (by decide) _ rfl]; exact hD
              clear e9
              refine lv_iinc (v := (nI (i + 1))) hx hb dX12_times_167 hl (k := 0) rfl (nI_add i 1) (by decide) rfl (fun ls (hl : lv_has ls _ ([(6, .int (nI (i + 1))), (0, .ref h0), (1, .int (nI sn)), (2, .int (nI an)), (3, .int (nI bn)), (4, .int (nI na)), (5, .int (nI nb_)), (9, .int (nI j)), (7, .long ov)])) => ?_)
              refine lv_goto (tgt := 56) hx hb dX12_times_170 (by decide) ?_
              have hl : lv_has _ _ ([(6, .int (nI (i + 1))), (0, .ref h0), (1, .int (nI sn)), (2, .int (nI an)), (3, .int (nI bn)), (4, .int (nI na)), (5, .int (nI nb_))]) := lv_sub hl [0, 1, 2, 3, 4, 5, 6] rfl
              exact ih56_1 (i + 1) (vp_updL gs2 ((nI (i + nb_))).toNatClampNeg ((gs2 (i + nb_)) + ov)) _ _ _ (by omega) (fun q hq => by rw [updL_at (by omega)]; by_cases e9 : q = i + nb_; (rw [if_pos e9, el]; omega); (rw [if_neg e9]; exact hent2 q hq)) (fun q h1 hq => by rw [updL_at (by omega), if_neg (by omega)]; exact hzz2 q (by omega) hq) (by rw [sv28_upd (by omega) (by omega), el, ez, Int.sub_zero, lv28_int (hna3.mono (by omega)), Int.add_mul, ← hsv, Int.mul_right_comm]; (have ej : j = nb_ := by omega); subst ej; rw [← hsv2]) (by omega) hP hD hS hl
            · have t_73 : ¬ ((j : Nat) : Int) ≥ ((nb_ : Nat) : Int) := toI_nge c_73 (nI_toInt (by omega)) (nI_toInt (by omega))
              refine lv_aload_n hx hb dX12_times_76 rfl (lv_at hl 1 rfl) ?_
              refine va_get (D := (dC, dI)) (ci := 12) (v := .ref (a 1)) (C := RX12) (T := TX12) (N := 163) (fs := fM (vS a vi vj)) hx hb hts iwsRX12_times_in12 hown hK hP 0 rfl rfl 2 (by decide) (hts (.fieldLink RX12 13 "OptimaWorksModel" "sum" "[J") (by decide +kernel)) (fun _ h9 => h9) rfl dX12_times_77 ?_
              refine lv_iload hx hb dX12_times_80 (lv_at hl 0 rfl) ?_
              refine lv_iload hx hb dX12_times_82 (lv_at hl 7 rfl) ?_
              refine lv_iadd hx hb dX12_times_84 ?_
              refine lv_topi (fun y13 hy13 => ?_)
              obtain rfl : (nI (i + j)) = y13 := (hy13.trans (nI_add i j)).symm
              refine va_lald (cA := k 1) (n := 48) (f := gs2) hx hb hK hP 2 1 (WR_get 1 (by decide)) (TR_get 1 (by decide)) (vp_in_nI (show (i + j) < 48 by omega) (by omega)) dX12_times_85 ?_
              refine lv_topl (fun y14 hy14 => ?_)
              obtain rfl : (gs2 (i + j)) = y14 := (hy14.trans (by rw [nI_clamp (by omega)])).symm
              refine lv_aload_n hx hb dX12_times_86 rfl (lv_at hl 1 rfl) ?_
              refine va_get (D := (dC, dI)) (ci := 12) (v := .ref (a 0)) (C := RX12) (T := TX12) (N := 163) (fs := fM (vS a vi vj)) hx hb hts iwsRX12_times_in12 hown hK hP 0 rfl rfl 1 (by decide) (hts (.fieldLink RX12 7 "OptimaWorksModel" "big" "[I") (by decide +kernel)) (fun _ h9 => h9) rfl dX12_times_87 ?_
              refine lv_bipush (v := 24) hx hb dX12_times_90 (by decide) ?_
              refine lv_iload_n hx hb dX12_times_92 rfl (lv_at hl 3 rfl) ?_
              refine lv_imul hx hb dX12_times_93 ?_
              refine lv_topi (fun y15 hy15 => ?_)
              obtain rfl : (nI (24 * an)) = y15 := (hy15.trans (pk_mul 24 an)).symm
              refine lv_iconst (v := 2) hx hb dX12_times_94 (by decide) ?_
              refine lv_iadd hx hb dX12_times_95 ?_
              refine lv_topi (fun y16 hy16 => ?_)
              obtain rfl : (nI ((24 * an) + 2)) = y16 := (hy16.trans (nI_add (24 * an) 2)).symm
              refine lv_iload hx hb dX12_times_96 (lv_at hl 0 rfl) ?_
              refine lv_iadd hx hb dX12_times_98 ?_
              refine lv_topi (fun y17 hy17 => ?_)
              obtain rfl : (nI (((24 * an) + 2) + i)) = y17 := (hy17.trans (nI_add ((24 * an) + 2) i)).symm
              refine va_iald (cA := k 0) (n := 26400) (f := (vF 0)) hx hb hK hP 1 0 (WR_get 0 (by decide)) (TR_get 0 (by decide)) (vp_in_nI (show (((24 * an) + 2) + i) < 26400 by omega) (by omega)) dX12_times_99 ?_
              refine lv_topi (fun y18 hy18 => ?_)
              obtain rfl : ((vF 0) (((24 * an) + 2) + i)) = y18 := (hy18.trans (by rw [nI_clamp (by omega)])).symm
              refine lv_i2l hx hb dX12_times_100 rfl ?_
              refine lv_aload_n hx hb dX12_times_101 rfl (lv_at hl 1 rfl) ?_
              refine va_get (D := (dC, dI)) (ci := 12) (v := .ref (a 0)) (C := RX12) (T := TX12) (N := 163) (fs := fM (vS a vi vj)) hx hb hts iwsRX12_times_in12 hown hK hP 0 rfl rfl 1 (by decide) (hts (.fieldLink RX12 7 "OptimaWorksModel" "big" "[I") (by decide +kernel)) (fun _ h9 => h9) rfl dX12_times_102 ?_
              refine lv_bipush (v := 24) hx hb dX12_times_105 (by decide) ?_
              refine lv_iload_n hx hb dX12_times_107 rfl (lv_at hl 4 rfl) ?_
              refine lv_imul hx hb dX12_times_108 ?_
              refine lv_topi (fun y19 hy19 => ?_)
              obtain rfl : (nI (24 * bn)) = y19 := (hy19.trans (pk_mul 24 bn)).symm
              refine lv_iconst (v := 2) hx hb dX12_times_109 (by decide) ?_
              refine lv_iadd hx hb dX12_times_110 ?_
              refine lv_topi (fun y20 hy20 => ?_)
              obtain rfl : (nI ((24 * bn) + 2)) = y20 := (hy20.trans (nI_add (24 * bn) 2)).symm
              refine lv_iload hx hb dX12_times_111 (lv_at hl 7 rfl) ?_
              refine lv_iadd hx hb dX12_times_113 ?_
              refine lv_topi (fun y21 hy21 => ?_)
              obtain rfl : (nI (((24 * bn) + 2) + j)) = y21 := (hy21.trans (nI_add ((24 * bn) + 2) j)).symm
              refine va_iald (cA := k 0) (n := 26400) (f := (vF 0)) hx hb hK hP 1 0 (WR_get 0 (by decide)) (TR_get 0 (by decide)) (vp_in_nI (show (((24 * bn) + 2) + j) < 26400 by omega) (by omega)) dX12_times_114 ?_
              refine lv_topi (fun y22 hy22 => ?_)
              obtain rfl : ((vF 0) (((24 * bn) + 2) + j)) = y22 := (hy22.trans (by rw [nI_clamp (by omega)])).symm
              refine lv_i2l hx hb dX12_times_115 rfl ?_
              refine lv_lmul hx hb dX12_times_116 ?_
              refine lv_ladd hx hb dX12_times_117 ?_
              refine lv_lload hx hb dX12_times_118 (lv_at hl 8 rfl) ?_
              refine lv_ladd hx hb dX12_times_120 ?_
              have la := limb_lt hna3 (q := i) (by omega)
              have lb := limb_lt hnb3 (q := j) (by omega)
              obtain ⟨em, em1, em2⟩ := mulJ (x := (vF 0 (24 * an + 2 + i))) (y := (vF 0 (24 * bn + 2 + j))) ⟨by omega, by omega⟩ ⟨by omega, by omega⟩
              have hx9 := hent2 (i + j) (by omega)
              obtain ⟨vv, hvv⟩ : ∃ vv, vv = (((gs2 (i + j)) + ((((vF 0) (((24 * an) + 2) + i))).toInt64 * (((vF 0) (((24 * bn) + 2) + j))).toInt64)) + ov) := ⟨_, rfl⟩
              have evv : vv.toInt = (gs2 (i + j)).toInt + (vF 0 (24 * an + 2 + i)).toInt * (vF 0 (24 * bn + 2 + j)).toInt + ov.toInt := by rw [hvv, addJ (by rw [addJ (by omega) (by omega)]; omega) (by omega), addJ (by omega) (by omega), em]
              obtain ⟨md, hmd1, hmd2, hmd3⟩ := maskS vv
              have esh := shrS vv
              have emd : (lN md).toInt = (md : Int) := pk_lT (by omega)
              refine lv_topl (fun y23 hy23 => ?_)
              obtain rfl : vv = y23 := (hy23.trans (hvv.symm)).symm
              refine lv_lstore hx hb dX12_times_121 hl (by decide) rfl (fun ls (hl : lv_has ls _ ([(10, .long vv), (6, .int (nI i)), (0, .ref h0), (1, .int (nI sn)), (2, .int (nI an)), (3, .int (nI bn)), (4, .int (nI na)), (5, .int (nI nb_)), (9, .int (nI j)), (7, .long ov)])) => ?_)
              refine lv_aload_n hx hb dX12_times_123 rfl (lv_at hl 2 rfl) ?_
              refine va_get (D := (dC, dI)) (ci := 12) (v := .ref (a 1)) (C := RX12) (T := TX12) (N := 163) (fs := fM (vS a vi vj)) hx hb hts iwsRX12_times_in12 hown hK hP 0 rfl rfl 2 (by decide) (hts (.fieldLink RX12 13 "OptimaWorksModel" "sum" "[J") (by decide +kernel)) (fun _ h9 => h9) rfl dX12_times_124 ?_
              refine lv_iload hx hb dX12_times_127 (lv_at hl 1 rfl) ?_
              refine lv_iload hx hb dX12_times_129 (lv_at hl 8 rfl) ?_
              refine lv_iadd hx hb dX12_times_131 ?_
              refine lv_topi (fun y24 hy24 => ?_)
              obtain rfl : (nI (i + j)) = y24 := (hy24.trans (nI_add i j)).symm
              refine lv_lload hx hb dX12_times_132 (lv_at hl 0 rfl) ?_
              refine lv_ldc2 (v := 268435455) hx hb hown (hts (.constantLong RX12 351 268435455) (by decide +kernel)) dX12_times_134 ?_
              refine lv_land hx hb dX12_times_137 ?_
              refine lv_topl (fun y25 hy25 => ?_)
              obtain rfl : (lN md) = y25 := (hy25.trans (hmd3)).symm
              refine va_last (cA := k 1) (n := 48) (f := gs2) hx hb hK hP hD hS 2 1 (WR_get 1 (by decide)) (TR_get 1 (by decide)) (vp_in_nI (show (i + j) < 48 by omega) (by omega)) dX12_times_138 (fun H locs hP hD hS => ?_)
              have e9 : fT vG 1 (vp_updL gs2 ((nI (i + j))).toNatClampNeg (lN md)) = fT (fT vG 1 gs2) 1 (vp_updL gs2 ((nI (i + j))).toNatClampNeg (lN md)) := (fT_sm _ _ _ _).symm
              have hP : va_P (dC, dI) vwCl (WR a k h0 vi vj vF (fT vG 1 (vp_updL gs2 ((nI (i + j))).toNatClampNeg (lN md)))) H := by rw [e9, ← WR_G 1 (by decide) _ rfl]; exact hP
              have hD : va_D A (WR a k h0 vi vj vF (fT vG 1 (vp_updL gs2 ((nI (i + j))).toNatClampNeg (lN md)))) := by rw [e9, ← WR_G 1 (by decide) _ rfl]; exact hD
              clear e9
              refine lv_lload hx hb dX12_times_139 (lv_at hl 0 rfl) ?_
              refine lv_bipush (v := 28) hx hb dX12_times_141 (by decide) ?_
              refine lv_lshr hx hb dX12_times_143 rfl ?_
              refine lv_lstore hx hb dX12_times_144 hl (by decide) rfl (fun ls (hl : lv_has ls _ ([(7, .long (vv >>> ((28 : Int32).toInt64 &&& 63))), (10, .long vv), (6, .int (nI i)), (0, .ref h0), (1, .int (nI sn)), (2, .int (nI an)), (3, .int (nI bn)), (4, .int (nI na)), (5, .int (nI nb_)), (9, .int (nI j))])) => ?_)
              refine lv_iinc (v := (nI (j + 1))) hx hb dX12_times_146 hl (k := 9) rfl (nI_add j 1) (by decide) rfl (fun ls (hl : lv_has ls _ ([(9, .int (nI (j + 1))), (7, .long (vv >>> ((28 : Int32).toInt64 &&& 63))), (10, .long vv), (6, .int (nI i)), (0, .ref h0), (1, .int (nI sn)), (2, .int (nI an)), (3, .int (nI bn)), (4, .int (nI na)), (5, .int (nI nb_))])) => ?_)
              refine lv_goto (tgt := 69) hx hb dX12_times_149 (by decide) ?_
              have hl : lv_has _ _ ([(6, .int (nI i)), (0, .ref h0), (1, .int (nI sn)), (2, .int (nI an)), (3, .int (nI bn)), (4, .int (nI na)), (5, .int (nI nb_)), (9, .int (nI (j + 1))), (7, .long (vv >>> ((28 : Int32).toInt64 &&& 63)))]) := lv_sub hl [3, 4, 5, 6, 7, 8, 9, 0, 1] rfl
              exact ih69_2 (j + 1) (vv >>> ((28 : Int32).toInt64 &&& 63)) (vp_updL gs2 ((nI (i + j))).toNatClampNeg (lN md)) _ _ _ (by omega) (by rw [esh, evv]; omega) (fun q hq => by rw [updL_at (by omega)]; by_cases e9 : q = i + j; (rw [if_pos e9, emd]; omega); (rw [if_neg e9]; exact hent2 q hq)) (fun q h1 hq => by rw [updL_at (by omega), if_neg (by omega)]; exact hzz2 q (by omega) hq) (by rw [sv28_upd (by omega) (by omega), esh, lv28_int (hnb3.mono (by omega)), emd, hmd2]; exact tm_step (P := 0) evv rfl hsv2) (by omega) hP hD hS hl
    · have t_36 : ¬ ((i : Nat) : Int) ≥ (((na + nb_) : Nat) : Int) := toI_nge c_36 (nI_toInt (by omega)) (nI_toInt (by omega))
      refine lv_aload_n hx hb dX12_times_39 rfl (lv_at hl 1 rfl) ?_
      refine va_get (D := (dC, dI)) (ci := 12) (v := .ref (a 1)) (C := RX12) (T := TX12) (N := 163) (fs := fM (vS a vi vj)) hx hb hts iwsRX12_times_in12 hown hK hP 0 rfl rfl 2 (by decide) (hts (.fieldLink RX12 13 "OptimaWorksModel" "sum" "[J") (by decide +kernel)) (fun _ h9 => h9) rfl dX12_times_40 ?_
      refine lv_iload hx hb dX12_times_43 (lv_at hl 0 rfl) ?_
      refine lv_lconst (v := 0) hx hb dX12_times_45 (by decide) ?_
      refine va_last (cA := k 1) (n := 48) (f := gs) hx hb hK hP hD hS 2 1 (WR_get 1 (by decide)) (TR_get 1 (by decide)) (vp_in_nI (show i < 48 by omega) (by omega)) dX12_times_46 (fun H locs hP hD hS => ?_)
      have e9 : fT vG 1 (vp_updL gs ((nI i)).toNatClampNeg 0) = fT (fT vG 1 gs) 1 (vp_updL gs ((nI i)).toNatClampNeg 0) := (fT_sm _ _ _ _).symm
      have hP : va_P (dC, dI) vwCl (WR a k h0 vi vj vF (fT vG 1 (vp_updL gs ((nI i)).toNatClampNeg 0))) H := by rw [e9, ← WR_G 1 (by decide) _ rfl]; exact hP
      have hD : va_D A (WR a k h0 vi vj vF (fT vG 1 (vp_updL gs ((nI i)).toNatClampNeg 0))) := by rw [e9, ← WR_G 1 (by decide) _ rfl]; exact hD
      clear e9
      refine lv_iinc (v := (nI (i + 1))) hx hb dX12_times_47 hl (k := 0) rfl (nI_add i 1) (by decide) rfl (fun ls (hl : lv_has ls _ ([(6, .int (nI (i + 1))), (0, .ref h0), (1, .int (nI sn)), (2, .int (nI an)), (3, .int (nI bn)), (4, .int (nI na)), (5, .int (nI nb_))])) => ?_)
      refine lv_goto (tgt := 29) hx hb dX12_times_50 (by decide) ?_
      have hl : lv_has _ _ ([(6, .int (nI (i + 1))), (0, .ref h0), (1, .int (nI sn)), (2, .int (nI an)), (3, .int (nI bn)), (4, .int (nI na)), (5, .int (nI nb_))]) := lv_sub hl [0, 1, 2, 3, 4, 5, 6] rfl
      exact ih29 (i + 1) (vp_updL gs ((nI i)).toNatClampNeg 0) _ _ _ (by omega) (fun q hq => by rw [updL_at (by omega)]; by_cases e9 : q = i; (rw [if_pos e9]); (rw [if_neg e9]; exact hz q (by omega))) (by omega) hP hD hS hl

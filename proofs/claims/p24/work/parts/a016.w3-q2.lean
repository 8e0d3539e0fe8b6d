section
theorem dX8_setProduct_0 : decode cX8_setProduct 0 = .ok (.aload_n 1, 1) := dk_43 (by decide +kernel)
theorem dX8_setProduct_1 : decode cX8_setProduct 1 = .ok (.getfield 17, 3) := dk_180 (by decide +kernel)
theorem dX8_setProduct_4 : decode cX8_setProduct 4 = .ok (.aload_n 2, 1) := dk_44 (by decide +kernel)
theorem dX8_setProduct_5 : decode cX8_setProduct 5 = .ok (.getfield 17, 3) := dk_180 (by decide +kernel)
theorem dX8_setProduct_8 : decode cX8_setProduct 8 = .ok (.iadd, 1) := dk_96 (by decide +kernel)
theorem dX8_setProduct_9 : decode cX8_setProduct 9 = .ok (.bipush 14, 2) := dk_16 (by decide +kernel)
theorem dX8_setProduct_11 : decode cX8_setProduct 11 = .ok (.invokestatic 50, 3) := dk_184 (by decide +kernel)
theorem dX8_setProduct_14 : decode cX8_setProduct 14 = .ok (.istore_n 3, 1) := dk_62 (by decide +kernel)
theorem dX8_setProduct_15 : decode cX8_setProduct 15 = .ok (.iconst 0, 1) := dk_3 (by decide +kernel)
theorem dX8_setProduct_16 : decode cX8_setProduct 16 = .ok (.istore 4, 2) := dk_54 (by decide +kernel)
theorem dX8_setProduct_18 : decode cX8_setProduct 18 = .ok (.iload 4, 2) := dk_21 (by decide +kernel)
theorem dX8_setProduct_20 : decode cX8_setProduct 20 = .ok (.iload_n 3, 1) := dk_29 (by decide +kernel)
theorem dX8_setProduct_21 : decode cX8_setProduct 21 = .ok (.if_icmp .ge 17, 3) := dk_162 (by decide +kernel)
theorem dX8_setProduct_24 : decode cX8_setProduct 24 = .ok (.aload_n 0, 1) := dk_42 (by decide +kernel)
theorem dX8_setProduct_25 : decode cX8_setProduct 25 = .ok (.getfield 9, 3) := dk_180 (by decide +kernel)
theorem dX8_setProduct_28 : decode cX8_setProduct 28 = .ok (.iload 4, 2) := dk_21 (by decide +kernel)
theorem dX8_setProduct_30 : decode cX8_setProduct 30 = .ok (.lconst 0, 1) := dk_9 (by decide +kernel)
theorem dX8_setProduct_31 : decode cX8_setProduct 31 = .ok (.lastore, 1) := dk_80 (by decide +kernel)
theorem dX8_setProduct_32 : decode cX8_setProduct 32 = .ok (.iinc 4 1, 3) := dk_132 (by decide +kernel)
theorem dX8_setProduct_35 : decode cX8_setProduct 35 = .ok (.goto (-17), 3) := dk_167 (by decide +kernel)
theorem dX8_setProduct_38 : decode cX8_setProduct 38 = .ok (.iconst 0, 1) := dk_3 (by decide +kernel)
theorem dX8_setProduct_39 : decode cX8_setProduct 39 = .ok (.istore 4, 2) := dk_54 (by decide +kernel)
theorem dX8_setProduct_41 : decode cX8_setProduct 41 = .ok (.iload 4, 2) := dk_21 (by decide +kernel)
theorem dX8_setProduct_43 : decode cX8_setProduct 43 = .ok (.aload_n 1, 1) := dk_43 (by decide +kernel)
theorem dX8_setProduct_44 : decode cX8_setProduct 44 = .ok (.getfield 17, 3) := dk_180 (by decide +kernel)
theorem dX8_setProduct_47 : decode cX8_setProduct 47 = .ok (.if_icmp .ge 124, 3) := dk_162 (by decide +kernel)
theorem dX8_setProduct_50 : decode cX8_setProduct 50 = .ok (.lconst 0, 1) := dk_9 (by decide +kernel)
theorem dX8_setProduct_51 : decode cX8_setProduct 51 = .ok (.lstore 5, 2) := dk_55 (by decide +kernel)
theorem dX8_setProduct_53 : decode cX8_setProduct 53 = .ok (.aload_n 1, 1) := dk_43 (by decide +kernel)
theorem dX8_setProduct_54 : decode cX8_setProduct 54 = .ok (.getfield 9, 3) := dk_180 (by decide +kernel)
theorem dX8_setProduct_57 : decode cX8_setProduct 57 = .ok (.iload 4, 2) := dk_21 (by decide +kernel)
theorem dX8_setProduct_59 : decode cX8_setProduct 59 = .ok (.laload, 1) := dk_47 (by decide +kernel)
theorem dX8_setProduct_60 : decode cX8_setProduct 60 = .ok (.lstore 7, 2) := dk_55 (by decide +kernel)
theorem dX8_setProduct_62 : decode cX8_setProduct 62 = .ok (.iconst 0, 1) := dk_3 (by decide +kernel)
theorem dX8_setProduct_63 : decode cX8_setProduct 63 = .ok (.istore 9, 2) := dk_54 (by decide +kernel)
theorem dX8_setProduct_65 : decode cX8_setProduct 65 = .ok (.iload 9, 2) := dk_21 (by decide +kernel)
theorem dX8_setProduct_67 : decode cX8_setProduct 67 = .ok (.aload_n 2, 1) := dk_44 (by decide +kernel)
theorem dX8_setProduct_68 : decode cX8_setProduct 68 = .ok (.getfield 17, 3) := dk_180 (by decide +kernel)
theorem dX8_setProduct_71 : decode cX8_setProduct 71 = .ok (.if_icmp .ge 68, 3) := dk_162 (by decide +kernel)
theorem dX8_setProduct_74 : decode cX8_setProduct 74 = .ok (.iload 4, 2) := dk_21 (by decide +kernel)
theorem dX8_setProduct_76 : decode cX8_setProduct 76 = .ok (.iload 9, 2) := dk_21 (by decide +kernel)
theorem dX8_setProduct_78 : decode cX8_setProduct 78 = .ok (.iadd, 1) := dk_96 (by decide +kernel)
theorem dX8_setProduct_79 : decode cX8_setProduct 79 = .ok (.bipush 14, 2) := dk_16 (by decide +kernel)
theorem dX8_setProduct_81 : decode cX8_setProduct 81 = .ok (.if_icmp .ge 58, 3) := dk_162 (by decide +kernel)
theorem dX8_setProduct_84 : decode cX8_setProduct 84 = .ok (.lload 7, 2) := dk_22 (by decide +kernel)
theorem dX8_setProduct_86 : decode cX8_setProduct 86 = .ok (.aload_n 2, 1) := dk_44 (by decide +kernel)
theorem dX8_setProduct_87 : decode cX8_setProduct 87 = .ok (.getfield 9, 3) := dk_180 (by decide +kernel)
theorem dX8_setProduct_90 : decode cX8_setProduct 90 = .ok (.iload 9, 2) := dk_21 (by decide +kernel)
theorem dX8_setProduct_92 : decode cX8_setProduct 92 = .ok (.laload, 1) := dk_47 (by decide +kernel)
theorem dX8_setProduct_93 : decode cX8_setProduct 93 = .ok (.lmul, 1) := dk_105 (by decide +kernel)
theorem dX8_setProduct_94 : decode cX8_setProduct 94 = .ok (.aload_n 0, 1) := dk_42 (by decide +kernel)
theorem dX8_setProduct_95 : decode cX8_setProduct 95 = .ok (.getfield 9, 3) := dk_180 (by decide +kernel)
theorem dX8_setProduct_98 : decode cX8_setProduct 98 = .ok (.iload 4, 2) := dk_21 (by decide +kernel)
theorem dX8_setProduct_100 : decode cX8_setProduct 100 = .ok (.iload 9, 2) := dk_21 (by decide +kernel)
theorem dX8_setProduct_102 : decode cX8_setProduct 102 = .ok (.iadd, 1) := dk_96 (by decide +kernel)
theorem dX8_setProduct_103 : decode cX8_setProduct 103 = .ok (.laload, 1) := dk_47 (by decide +kernel)
theorem dX8_setProduct_104 : decode cX8_setProduct 104 = .ok (.ladd, 1) := dk_97 (by decide +kernel)
theorem dX8_setProduct_105 : decode cX8_setProduct 105 = .ok (.lload 5, 2) := dk_22 (by decide +kernel)
theorem dX8_setProduct_107 : decode cX8_setProduct 107 = .ok (.ladd, 1) := dk_97 (by decide +kernel)
theorem dX8_setProduct_108 : decode cX8_setProduct 108 = .ok (.lstore 10, 2) := dk_55 (by decide +kernel)
theorem dX8_setProduct_110 : decode cX8_setProduct 110 = .ok (.aload_n 0, 1) := dk_42 (by decide +kernel)
theorem dX8_setProduct_111 : decode cX8_setProduct 111 = .ok (.getfield 9, 3) := dk_180 (by decide +kernel)
theorem dX8_setProduct_114 : decode cX8_setProduct 114 = .ok (.iload 4, 2) := dk_21 (by decide +kernel)
theorem dX8_setProduct_116 : decode cX8_setProduct 116 = .ok (.iload 9, 2) := dk_21 (by decide +kernel)
theorem dX8_setProduct_118 : decode cX8_setProduct 118 = .ok (.iadd, 1) := dk_96 (by decide +kernel)
theorem dX8_setProduct_119 : decode cX8_setProduct 119 = .ok (.lload 10, 2) := dk_22 (by decide +kernel)
theorem dX8_setProduct_121 : decode cX8_setProduct 121 = .ok (.ldc2_w 21, 3) := dk_20 (by decide +kernel)
theorem dX8_setProduct_124 : decode cX8_setProduct 124 = .ok (.land, 1) := dk_127 (by decide +kernel)
theorem dX8_setProduct_125 : decode cX8_setProduct 125 = .ok (.lastore, 1) := dk_80 (by decide +kernel)
theorem dX8_setProduct_126 : decode cX8_setProduct 126 = .ok (.lload 10, 2) := dk_22 (by decide +kernel)
theorem dX8_setProduct_128 : decode cX8_setProduct 128 = .ok (.bipush 30, 2) := dk_16 (by decide +kernel)
theorem dX8_setProduct_130 : decode cX8_setProduct 130 = .ok (.lushr, 1) := dk_125 (by decide +kernel)
theorem dX8_setProduct_131 : decode cX8_setProduct 131 = .ok (.lstore 5, 2) := dk_55 (by decide +kernel)
theorem dX8_setProduct_133 : decode cX8_setProduct 133 = .ok (.iinc 9 1, 3) := dk_132 (by decide +kernel)
theorem dX8_setProduct_136 : decode cX8_setProduct 136 = .ok (.goto (-71), 3) := dk_167 (by decide +kernel)
theorem dX8_setProduct_139 : decode cX8_setProduct 139 = .ok (.iload 4, 2) := dk_21 (by decide +kernel)
theorem dX8_setProduct_141 : decode cX8_setProduct 141 = .ok (.aload_n 2, 1) := dk_44 (by decide +kernel)
theorem dX8_setProduct_142 : decode cX8_setProduct 142 = .ok (.getfield 17, 3) := dk_180 (by decide +kernel)
theorem dX8_setProduct_145 : decode cX8_setProduct 145 = .ok (.iadd, 1) := dk_96 (by decide +kernel)
theorem dX8_setProduct_146 : decode cX8_setProduct 146 = .ok (.bipush 14, 2) := dk_16 (by decide +kernel)
theorem dX8_setProduct_148 : decode cX8_setProduct 148 = .ok (.if_icmp .ge 17, 3) := dk_162 (by decide +kernel)
theorem dX8_setProduct_151 : decode cX8_setProduct 151 = .ok (.aload_n 0, 1) := dk_42 (by decide +kernel)
theorem dX8_setProduct_152 : decode cX8_setProduct 152 = .ok (.getfield 9, 3) := dk_180 (by decide +kernel)
theorem dX8_setProduct_155 : decode cX8_setProduct 155 = .ok (.iload 4, 2) := dk_21 (by decide +kernel)
theorem dX8_setProduct_157 : decode cX8_setProduct 157 = .ok (.aload_n 2, 1) := dk_44 (by decide +kernel)
theorem dX8_setProduct_158 : decode cX8_setProduct 158 = .ok (.getfield 17, 3) := dk_180 (by decide +kernel)
theorem dX8_setProduct_161 : decode cX8_setProduct 161 = .ok (.iadd, 1) := dk_96 (by decide +kernel)
theorem dX8_setProduct_162 : decode cX8_setProduct 162 = .ok (.lload 5, 2) := dk_22 (by decide +kernel)
theorem dX8_setProduct_164 : decode cX8_setProduct 164 = .ok (.lastore, 1) := dk_80 (by decide +kernel)
theorem dX8_setProduct_165 : decode cX8_setProduct 165 = .ok (.iinc 4 1, 3) := dk_132 (by decide +kernel)
theorem dX8_setProduct_168 : decode cX8_setProduct 168 = .ok (.goto (-127), 3) := dk_167 (by decide +kernel)
theorem dX8_setProduct_171 : decode cX8_setProduct 171 = .ok (.aload_n 0, 1) := dk_42 (by decide +kernel)
theorem dX8_setProduct_172 : decode cX8_setProduct 172 = .ok (.iload_n 3, 1) := dk_29 (by decide +kernel)
theorem dX8_setProduct_173 : decode cX8_setProduct 173 = .ok (.putfield 17, 3) := dk_181 (by decide +kernel)
theorem dX8_setProduct_176 : decode cX8_setProduct 176 = .ok (.aload_n 0, 1) := dk_42 (by decide +kernel)
theorem dX8_setProduct_177 : decode cX8_setProduct 177 = .ok (.aload_n 1, 1) := dk_43 (by decide +kernel)
theorem dX8_setProduct_178 : decode cX8_setProduct 178 = .ok (.getfield 13, 3) := dk_180 (by decide +kernel)
theorem dX8_setProduct_181 : decode cX8_setProduct 181 = .ok (.aload_n 2, 1) := dk_44 (by decide +kernel)
theorem dX8_setProduct_182 : decode cX8_setProduct 182 = .ok (.getfield 13, 3) := dk_180 (by decide +kernel)
theorem dX8_setProduct_185 : decode cX8_setProduct 185 = .ok (.if_icmp .eq 7, 3) := dk_159 (by decide +kernel)
theorem dX8_setProduct_188 : decode cX8_setProduct 188 = .ok (.iconst 1, 1) := dk_4 (by decide +kernel)
theorem dX8_setProduct_189 : decode cX8_setProduct 189 = .ok (.goto 4, 3) := dk_167 (by decide +kernel)
theorem dX8_setProduct_192 : decode cX8_setProduct 192 = .ok (.iconst 0, 1) := dk_3 (by decide +kernel)
theorem dX8_setProduct_193 : decode cX8_setProduct 193 = .ok (.putfield 13, 3) := dk_181 (by decide +kernel)
theorem dX8_setProduct_196 : decode cX8_setProduct 196 = .ok (.aload_n 0, 1) := dk_42 (by decide +kernel)
theorem dX8_setProduct_197 : decode cX8_setProduct 197 = .ok (.invokevirtual 41, 3) := dk_182 (by decide +kernel)
theorem dX8_setProduct_200 : decode cX8_setProduct 200 = .ok (.return_, 1) := dk_177 (by decide +kernel)
def wsMX8_setProduct : List Cond := .code yX8_setProduct cX8_setProduct 12 none :: ([.fieldLink RX8 17 "OptimaWorks$Whole" "length" "I", .methodLink RX8 50 Lib.Math.min.name, .static Lib.Math.min.name, .initialized "java/lang/Math", .code Lib.Math.min.name Lib.Math.min.code 2 (some .int), .fieldLink RX8 9 "OptimaWorks$Whole" "limb" "[J", .constantLong RX8 21 1073741823, .fieldLink RX8 13 "OptimaWorks$Whole" "below" "Z"] ++ wsX80 ++ (wsV RX8 41 RX8 yX8_trim wsMX8_trim))
theorem iwsMX8_setProduct_in8 : ∀ w ∈ wsX80, w ∈ wsMX8_setProduct := fun _ h => List.mem_cons_of_mem _ (List.mem_append_left _ (List.mem_append_right _ h))
theorem gwsMX8_setProduct_0 : GoodIn wsMX8_setProduct (wsV RX8 41 RX8 yX8_trim wsMX8_trim) := goodIn_sub (fun _ h => List.mem_cons_of_mem _ (List.mem_append_right _ h)) (gdV (by decide +kernel) gdwsMX8_trim)
theorem gdwsMX8_setProduct : wsMX8_setProduct.all goodWord = true := gdC rfl (gdA (gdA (by decide +kernel : ([.fieldLink RX8 17 "OptimaWorks$Whole" "length" "I", .methodLink RX8 50 Lib.Math.min.name, .static Lib.Math.min.name, .initialized "java/lang/Math", .code Lib.Math.min.name Lib.Math.min.code 2 (some .int), .fieldLink RX8 9 "OptimaWorks$Whole" "limb" "[J", .constantLong RX8 21 1073741823, .fieldLink RX8 13 "OptimaWorks$Whole" "below" "Z"] : List Cond).all goodWord = true) gdwsX80) (gdV (by decide +kernel) gdwsMX8_trim))
theorem hm_m_X8_setProduct_0 : (.fieldLink RX8 17 "OptimaWorks$Whole" "length" "I" : Cond) ∈ wsMX8_setProduct := by decide +kernel
theorem hm_m_X8_setProduct_1 : (.fieldLink RX8 13 "OptimaWorks$Whole" "below" "Z" : Cond) ∈ wsMX8_setProduct := by decide +kernel
theorem hm_m_X8_setProduct_2 : (.fieldLink RX8 9 "OptimaWorks$Whole" "limb" "[J" : Cond) ∈ wsMX8_setProduct := by decide +kernel
set_option maxHeartbeats 4000000 in
set_option maxRecDepth 100000 in
/-- a product -/
theorem m_X8_setProduct (l : Launch) (dC : Nat → ClassId) (dI : Nat → Nat → Nat) (nW : Nat) (hw : Nat → Nat) (lw : Nat → Nat) (kw : ClassId) (wl : Nat → Int32) (wb : Nat → Int32) (wG : Nat → Nat → Int64) (tt : Nat) (ta : Nat) (tb : Nat) (b_wl : ∀ q : Nat, 0 ≤ (wl q).toInt ∧ (wl q).toInt ≤ 14) (b_wb : ∀ q : Nat, 0 ≤ (wb q).toInt ∧ (wb q).toInt ≤ 1) (htt : tt < nW) (hta : ta < nW) (htb : tb < nW) (sz : Nat) : Met l yX8_setProduct wsMX8_setProduct ({ frames := 1, cells := 0, slots := 0, locals := 20 }) (va_Pc [.ref (hw tt), .ref (hw ta), .ref (hw tb)] (fun U => U.heap.size = sz ∧ va_P (dC, dI) vwCl (WW nW hw lw kw wl wb wG) U.heap ∧ va_K (dC, dI) vwCl (tW kw) U ∧ va_D (fun _ => True) (WW nW hw lw kw wl wb wG))) (va_Qv (fun (u : (Nat → Int32) × (Nat → Int32) × (Nat → Nat → Int64)) => (∀ q : Nat, 0 ≤ ((u.1) q).toInt ∧ ((u.1) q).toInt ≤ 14) ∧ (∀ q : Nat, 0 ≤ ((u.2.1) q).toInt ∧ ((u.2.1) q).toInt ≤ 1)) (fun (u : (Nat → Int32) × (Nat → Int32) × (Nat → Nat → Int64)) t => va_P (dC, dI) vwCl (WW nW hw lw kw (u.1) (u.2.1) (u.2.2)) t.heap ∧ va_D (va_A (WW nW hw lw kw wl wb wG) sz) (WW nW hw lw kw (u.1) (u.2.1) (u.2.2))) (va_A (WW nW hw lw kw wl wb wG) sz)) 0 0 (va_A (WW nW hw lw kw wl wb wG) sz) := by
  refine Met.ofW (cc := cX8_setProduct) (maxL := 12) (ret := none) (by decide) rfl ?_
  intro p e s m args below meth c s₁ B hml hv
  obtain ⟨rfl, hsz, hP, hK, hD0⟩ := hv
  have hx := B.exec
  have hb := B.bytes
  have hr := B.returns
  have hts := atoms_spec (ws := wsMX8_setProduct) B.pre
  have hown : s.vm.findClass RX8 = some m.cls := findClass_of_methodNamed B.named
  have hlocks := B.notSynchronized
  subst hsz
  have hD := hD0.self (sz := s.heap.size)
  generalize hAe : va_A (WW nW hw lw kw wl wb wG) s.heap.size = A at hD ⊢
  have hA : ∀ q : Nat, s.heap.size ≤ q → A q := fun q h => by rw [← hAe]; exact Or.inr h
  have hS : va_S A s.heap s.heap [] := va_S.rf
  have hl := lv_entry ([.ref (hw tt), .ref (hw ta), .ref (hw tb)]) (n := 12) (Nat.le_of_ble_eq_true rfl)
  rw [lg_entry_eq]
  generalize (lg_sl ([.ref (hw tt), .ref (hw ta), .ref (hw tb)]) ++ List.replicate (12 - (lg_sl ([.ref (hw tt), .ref (hw ta), .ref (hw tb)])).length) Slot.unset).toArray = ls at hl ⊢
  have hl : lv_has ls 12 [(0, .ref (hw tt)), (1, .ref (hw ta)), (2, .ref (hw tb))] := hl
  refine lv_aload_n hx hb dX8_setProduct_0 rfl (lv_at hl 1 rfl) ?_
  refine va_get (D := (dC, dI)) (ci := 8) (v := .int (wl ta)) (C := RX8) (T := TX8) (N := 3) hx hb hts iwsMX8_setProduct_in8 hown hK hP (ta) (WW_o (by omega)) rfl 1 (by decide) (hts _ hm_m_X8_setProduct_0) (fun _ h9 => h9) rfl dX8_setProduct_1 ?_
  have br1 := b_wl ta
  refine lv_aload_n hx hb dX8_setProduct_4 rfl (lv_at hl 2 rfl) ?_
  refine va_get (D := (dC, dI)) (ci := 8) (v := .int (wl tb)) (C := RX8) (T := TX8) (N := 3) hx hb hts iwsMX8_setProduct_in8 hown hK hP (tb) (WW_o (by omega)) rfl 1 (by decide) (hts _ hm_m_X8_setProduct_0) (fun _ h9 => h9) rfl dX8_setProduct_5 ?_
  have br5 := b_wl tb
  refine lv_iadd hx hb dX8_setProduct_8 ?_
  refine lv_topi (fun y1 hy1 => ?_)
  obtain rfl : (iI ((wl ta).toInt + (wl tb).toInt)) = y1 := (hy1.trans (iI_add2 (iI_of _) (iI_of _))).symm
  refine lv_bipush (v := 14) hx hb dX8_setProduct_9 (by decide) ?_
  refine va_mmin hx hb (by rw [hml]; exact hl.1.symm) hown (hts (.methodLink RX8 50 Lib.Math.min.name) (by decide +kernel)) (hts (.static Lib.Math.min.name) (by decide +kernel)) (hts (.initialized "java/lang/Math") (by decide +kernel)) (hts (.code Lib.Math.min.name Lib.Math.min.code 2 (some .int)) (by decide +kernel)) (by decide +kernel) (Nat.le_of_ble_eq_true rfl) (by decide +kernel) (by decide +kernel) dX8_setProduct_11 ?_
  refine lv_topi (fun v2 hv2 => ?_)
  first | (have b_v2 : (v2.toInt ≤ ((wl ta).toInt + (wl tb).toInt) ∧ v2.toInt ≤ 14) ∧ (v2.toInt = ((wl ta).toInt + (wl tb).toInt) ∨ v2.toInt = 14) := by rw [hv2]; exact min_t (iI_t (by omega) (by omega)) (by decide : (14 : Int32).toInt = 14)) | skip
  clear hv2
  refine lv_istore_n hx hb dX8_setProduct_14 rfl hl (by decide) rfl (fun ls (hl : lv_has ls _ ([(3, .int v2), (0, .ref (hw tt)), (1, .ref (hw ta)), (2, .ref (hw tb))])) => ?_)
  refine lv_iconst (v := 0) hx hb dX8_setProduct_15 (by decide) ?_
  refine lv_istore hx hb dX8_setProduct_16 hl (by decide) rfl (fun ls (hl : lv_has ls _ ([(4, .int 0), (3, .int v2), (0, .ref (hw tt)), (1, .ref (hw ta)), (2, .ref (hw tb))])) => ?_)
  have hl : lv_has _ _ ([(4, .int 0), (3, .int v2), (0, .ref (hw tt)), (1, .ref (hw ta)), (2, .ref (hw tb))]) := lv_sub hl [0, 1, 2, 3, 4] rfl
  refine (fun (loop : ∀ (n9 : Nat) (wG_x18 : Nat → Nat → Int64) (l4_x18 : Int32) (H : Heap) (locs : List Loc) (ls : Array Slot), (0 ≤ l4_x18.toInt ∧ l4_x18.toInt ≤ 14) → (14 - l4_x18.toInt < ((n9 : Nat) : Int)) → va_P (dC, dI) vwCl (WW nW hw lw kw wl wb wG_x18) H → va_D A (WW nW hw lw kw wl wb wG_x18) → va_S A s.heap H locs → lv_has ls 12 [(4, .int l4_x18), (3, .int v2), (0, .ref (hw tt)), (1, .ref (hw ta)), (2, .ref (hw tb))] → W p l e _ s m _ below meth c H locs 0 0 _ (F0 m 18 ls [])) => loop (15) wG 0 _ _ _ (show 0 ≤ (0 : Int32).toInt ∧ (0 : Int32).toInt ≤ 14 from by decide) ((by have e9 : (0 : Int32).toInt = 0 := (by decide : (0 : Int32).toInt = 0); omega)) hP hD hS hl) ?_
  intro n9
  induction n9 with
  | zero => intro wG_x18 l4_x18 H locs ls b_l4_x18 hf9; exact False.elim (by omega)
  | succ n9 ihx18 =>
    intro wG_x18 l4_x18 H locs ls b_l4_x18 hfx18 hP hD hS hl
    refine lv_iload hx hb dX8_setProduct_18 (lv_at hl 0 rfl) ?_
    refine lv_iload_n hx hb dX8_setProduct_20 rfl (lv_at hl 1 rfl) ?_
    refine lv_icmp_ge (tgt := 38) hx hb dX8_setProduct_21 (by decide) (fun c_21 => ?_) (fun c_21 => ?_)
    · have t_21 : l4_x18.toInt ≥ v2.toInt := toI_ge c_21 rfl rfl
      refine lv_iconst (v := 0) hx hb dX8_setProduct_38 (by decide) ?_
      refine lv_istore hx hb dX8_setProduct_39 hl (by decide) rfl (fun ls (hl : lv_has ls _ ([(4, .int 0), (3, .int v2), (0, .ref (hw tt)), (1, .ref (hw ta)), (2, .ref (hw tb))])) => ?_)
      have hl : lv_has _ _ ([(4, .int 0), (3, .int v2), (0, .ref (hw tt)), (1, .ref (hw ta)), (2, .ref (hw tb))]) := lv_sub hl [0, 1, 2, 3, 4] rfl
      refine (fun (loop : ∀ (n9 : Nat) (wG_x41 : Nat → Nat → Int64) (l4_x41 : Int32) (H : Heap) (locs : List Loc) (ls : Array Slot), (0 ≤ l4_x41.toInt ∧ l4_x41.toInt ≤ 14) → (14 - l4_x41.toInt < ((n9 : Nat) : Int)) → va_P (dC, dI) vwCl (WW nW hw lw kw wl wb wG_x41) H → va_D A (WW nW hw lw kw wl wb wG_x41) → va_S A s.heap H locs → lv_has ls 12 [(4, .int l4_x41), (3, .int v2), (0, .ref (hw tt)), (1, .ref (hw ta)), (2, .ref (hw tb))] → W p l e _ s m _ below meth c H locs 0 0 _ (F0 m 41 ls [])) => loop (15) wG_x18 0 _ _ _ (show 0 ≤ (0 : Int32).toInt ∧ (0 : Int32).toInt ≤ 14 from by decide) ((by have e9 : (0 : Int32).toInt = 0 := (by decide : (0 : Int32).toInt = 0); omega)) hP hD hS hl) ?_
      intro n9
      induction n9 with
      | zero => intro wG_x41 l4_x41 H locs ls b_l4_x41 hf9; exact False.elim (by omega)
      | succ n9 ihx41 =>
        intro wG_x41 l4_x41 H locs ls b_l4_x41 hfx41 hP hD hS hl
        refine lv_iload hx hb dX8_setProduct_41 (lv_at hl 0 rfl) ?_
        refine lv_aload_n hx hb dX8_setProduct_43 rfl (lv_at hl 3 rfl) ?_
        refine va_get (D := (dC, dI)) (ci := 8) (v := .int (wl ta)) (C := RX8) (T := TX8) (N := 3) hx hb hts iwsMX8_setProduct_in8 hown hK hP (ta) (WW_o (by omega)) rfl 1 (by decide) (hts _ hm_m_X8_setProduct_0) (fun _ h9 => h9) rfl dX8_setProduct_44 ?_
        have br44 := b_wl ta
        refine lv_icmp_ge (tgt := 171) hx hb dX8_setProduct_47 (by decide) (fun c_47 => ?_) (fun c_47 => ?_)
        · have t_47 : l4_x41.toInt ≥ (wl ta).toInt := toI_ge c_47 rfl rfl
          refine lv_aload_n hx hb dX8_setProduct_171 rfl (lv_at hl 2 rfl) ?_
          refine lv_iload_n hx hb dX8_setProduct_172 rfl (lv_at hl 1 rfl) ?_
          refine va_put (D := (dC, dI)) (ci := 8) (v := .int v2) (ty := .int) (C := RX8) (T := TX8) (N := 3) hx hb hts iwsMX8_setProduct_in8 tyX8 tyX8_ok nmX8 hown hK hP hD hS (tt) (WW_o (by omega)) rfl 1 (by decide) (hts _ hm_m_X8_setProduct_0) (fun _ h9 => h9) rfl (by decide +kernel) rfl rfl (Nat.le_of_ble_eq_true rfl) dX8_setProduct_173 (fun H locs hP hD hS => ?_)
          obtain ⟨u1426, hu1426⟩ : ∃ f9, f9 = fT wl tt v2 := ⟨_, rfl⟩
          have hP : va_P (dC, dI) vwCl (WW nW hw lw kw u1426 wb wG_x41) H := by rw [hu1426]; exact Eq.mp (congrArg (fun z9 => va_P (dC, dI) vwCl z9 H) (WW_sl (by omega) v2)) hP
          have hD : va_D A (WW nW hw lw kw u1426 wb wG_x41) := by rw [hu1426]; exact Eq.mp (congrArg (fun z9 => va_D A z9) (WW_sl (by omega) v2)) hD
          have b_u1426 : ∀ q : Nat, 0 ≤ (u1426 q).toInt ∧ (u1426 q).toInt ≤ 14 := by rw [hu1426]; exact fT_r b_wl (by first | exact b_v2 | with_reducible assumption | exact ⟨by omega, by omega⟩ | assumption)
          have q_u1426 : (u1426 tt).toInt = v2.toInt := by rw [hu1426, fT_eq]
          clear hu1426
          refine lv_aload_n hx hb dX8_setProduct_176 rfl (lv_at hl 2 rfl) ?_
          refine lv_aload_n hx hb dX8_setProduct_177 rfl (lv_at hl 3 rfl) ?_
          refine va_get (D := (dC, dI)) (ci := 8) (v := .int (wb ta)) (C := RX8) (T := TX8) (N := 3) hx hb hts iwsMX8_setProduct_in8 hown hK hP (ta) (WW_o (by omega)) rfl 2 (by decide) (hts _ hm_m_X8_setProduct_1) (fun _ h9 => h9) rfl dX8_setProduct_178 ?_
          have br178 := b_wb ta
          refine lv_aload_n hx hb dX8_setProduct_181 rfl (lv_at hl 4 rfl) ?_
          refine va_get (D := (dC, dI)) (ci := 8) (v := .int (wb tb)) (C := RX8) (T := TX8) (N := 3) hx hb hts iwsMX8_setProduct_in8 hown hK hP (tb) (WW_o (by omega)) rfl 2 (by decide) (hts _ hm_m_X8_setProduct_1) (fun _ h9 => h9) rfl dX8_setProduct_182 ?_
          have br182 := b_wb tb
          refine W.cut (pc := 193) (fun H locs ls stk => ∃ (k0_j216 : Int32), (0 ≤ k0_j216.toInt ∧ k0_j216.toInt ≤ 1) ∧  stk = [.int k0_j216, .ref (hw tt)] ∧ va_P (dC, dI) vwCl (WW nW hw lw kw u1426 wb wG_x41) H ∧ va_D A (WW nW hw lw kw u1426 wb wG_x41) ∧ va_S A s.heap H locs ∧ lv_has ls 12 [(4, .int l4_x41), (3, .int v2), (0, .ref (hw tt)), (1, .ref (hw ta)), (2, .ref (hw tb))]) (fun join216 => ?_) ?_
          · refine lv_icmp_eq (tgt := 192) hx hb dX8_setProduct_185 (by decide) (fun c_185 => ?_) (fun c_185 => ?_)
            · have t_185 : (wb ta).toInt = (wb tb).toInt := toI_eq c_185 rfl rfl
              refine lv_iconst (v := 0) hx hb dX8_setProduct_192 (by decide) ?_
              have hl : lv_has _ _ ([(4, .int l4_x41), (3, .int v2), (0, .ref (hw tt)), (1, .ref (hw ta)), (2, .ref (hw tb))]) := lv_sub hl [0, 1, 2, 3, 4] rfl
              exact join216 _ _ _ _ ⟨0, (show 0 ≤ (0 : Int32).toInt ∧ (0 : Int32).toInt ≤ 1 from by decide), rfl, hP, hD, hS, hl⟩
            · have t_185 : ¬ (wb ta).toInt = (wb tb).toInt := toI_neq c_185 rfl rfl
              refine lv_iconst (v := 1) hx hb dX8_setProduct_188 (by decide) ?_
              refine lv_goto (tgt := 193) hx hb dX8_setProduct_189 (by decide) ?_
              have hl : lv_has _ _ ([(4, .int l4_x41), (3, .int v2), (0, .ref (hw tt)), (1, .ref (hw ta)), (2, .ref (hw tb))]) := lv_sub hl [0, 1, 2, 3, 4] rfl
              exact join216 _ _ _ _ ⟨1, (show 0 ≤ (1 : Int32).toInt ∧ (1 : Int32).toInt ≤ 1 from by decide), rfl, hP, hD, hS, hl⟩
          · rintro H locs ls stk ⟨k0_j216, b_k0_j216, rfl, hP, hD, hS, hl⟩
            refine va_put (D := (dC, dI)) (ci := 8) (v := .int k0_j216) (ty := .boolean) (C := RX8) (T := TX8) (N := 3) hx hb hts iwsMX8_setProduct_in8 tyX8 tyX8_ok nmX8 hown hK hP hD hS (tt) (WW_o (by omega)) rfl 2 (by decide) (hts _ hm_m_X8_setProduct_1) (fun _ h9 => h9) rfl (by decide +kernel) (by rcases z01 (x := k0_j216) (b_k0_j216) with h9 | h9 <;> rw [h9] <;> rfl) (by rcases z01 (x := k0_j216) (b_k0_j216) with h9 | h9 <;> rw [h9] <;> rfl) (Nat.le_of_ble_eq_true rfl) dX8_setProduct_193 (fun H locs hP hD hS => ?_)
            obtain ⟨u1427, hu1427⟩ : ∃ f9, f9 = fT wb tt k0_j216 := ⟨_, rfl⟩
            have hP : va_P (dC, dI) vwCl (WW nW hw lw kw u1426 u1427 wG_x41) H := by rw [hu1427]; exact Eq.mp (congrArg (fun z9 => va_P (dC, dI) vwCl z9 H) (WW_sb (by omega) k0_j216)) hP
            have hD : va_D A (WW nW hw lw kw u1426 u1427 wG_x41) := by rw [hu1427]; exact Eq.mp (congrArg (fun z9 => va_D A z9) (WW_sb (by omega) k0_j216)) hD
            have b_u1427 : ∀ q : Nat, 0 ≤ (u1427 q).toInt ∧ (u1427 q).toInt ≤ 1 := by rw [hu1427]; exact fT_r b_wb (b_k0_j216)
            have q_u1427 : (u1427 tt).toInt = k0_j216.toInt := by rw [hu1427, fT_eq]
            clear hu1427
            refine lv_aload_n hx hb dX8_setProduct_196 rfl (lv_at hl 2 rfl) ?_
            have hFc := allFree hD hS hA
            refine va_callv (va_runV (As := []) (rest := []) ⟨hx, hb, hml, hown, hts⟩ (m_X8_trim l dC dI nW hw lw kw u1426 u1427 wG_x41 tt b_u1426 b_u1427 (by first | with_reducible assumption | omega | (rw [iI_t (by omega) (by omega)]; omega) | decide | assumption) H.size) (cwV 0 hts gwsMX8_setProduct_0 rfl rfl rfl hd_yX8_trim_RX8 (by decide +kernel)) (fz_pre (va_recv hK hP (ci := 8) (q0 := tt) rfl (WW_o (by omega))) hP hK hD) rfl rfl hl.1 rfl (lv_room (Nat.le_of_ble_eq_true rfl)) dX8_setProduct_197 (by decide +kernel)) hS (fun q _ h => hFc q h) hFc (fun u t9_ H locs ht hvm hw9 hB9 hz1 hk1 hS => ?_)
            revert u hw9 hB9
            refine fz_p2 ?_
            intro wl_1428 wb_1428 hw9 hB9
            try dsimp only at hw9 hB9
            revert hw9
            refine fz_a2 ?_
            intro b_wl_1428 b_wb_1428
            have hP : va_P (dC, dI) vwCl (WW nW hw lw kw wl_1428 wb_1428 wG_x41) H := fz_P ht hB9.1
            have hD := fz_sd hP (hB9.2.weaken (fun _ q _ h => hFc q.1 h)) rfl
            refine W.widen (k := 0) (n := 0) (by decide +kernel) (by decide +kernel) ?_
            exact W.vret hx hb hr (fun t9_ ht hW => ⟨⟨(wl_1428, wb_1428, wG_x41), rfl, ⟨b_wl_1428, b_wb_1428⟩, by rw [ht]; exact hP, hD⟩, hS.F ht⟩) hS.2.2 dX8_setProduct_200
        · have t_47 : ¬ l4_x41.toInt ≥ (wl ta).toInt := toI_nge c_47 rfl rfl
          refine lv_lconst (v := 0) hx hb dX8_setProduct_50 (by decide) ?_
          refine lv_lstore hx hb dX8_setProduct_51 hl (by decide) rfl (fun ls (hl : lv_has ls _ ([(5, .long 0), (4, .int l4_x41), (3, .int v2), (0, .ref (hw tt)), (1, .ref (hw ta)), (2, .ref (hw tb))])) => ?_)
          refine lv_aload_n hx hb dX8_setProduct_53 rfl (lv_at hl 4 rfl) ?_
          refine va_get (D := (dC, dI)) (ci := 8) (v := .ref (lw ta)) (C := RX8) (T := TX8) (N := 3) hx hb hts iwsMX8_setProduct_in8 hown hK hP (ta) (WW_o (by omega)) rfl 0 (by decide) (hts _ hm_m_X8_setProduct_2) (fun _ h9 => h9) rfl dX8_setProduct_54 ?_
          refine lv_iload hx hb dX8_setProduct_57 (lv_at hl 1 rfl) ?_
          refine va_lald (cA := kw) (n := 14) (f := (wG_x41 ta)) hx hb hK hP (nW + ta) 0 (WW_a (by omega)) rfl (vp_in_iff.mpr ⟨b_l4_x41.1, (by omega)⟩) dX8_setProduct_59 ?_
          refine lv_topl (fun v1429 hv1429 => ?_)
          clear hv1429
          refine lv_lstore hx hb dX8_setProduct_60 hl (by decide) rfl (fun ls (hl : lv_has ls _ ([(7, .long v1429), (5, .long 0), (4, .int l4_x41), (3, .int v2), (0, .ref (hw tt)), (1, .ref (hw ta)), (2, .ref (hw tb))])) => ?_)
          refine lv_iconst (v := 0) hx hb dX8_setProduct_62 (by decide) ?_
          refine lv_istore hx hb dX8_setProduct_63 hl (by decide) rfl (fun ls (hl : lv_has ls _ ([(9, .int 0), (7, .long v1429), (5, .long 0), (4, .int l4_x41), (3, .int v2), (0, .ref (hw tt)), (1, .ref (hw ta)), (2, .ref (hw tb))])) => ?_)
          have hl : lv_has _ _ ([(9, .int 0), (7, .long v1429), (5, .long 0), (4, .int l4_x41), (3, .int v2), (0, .ref (hw tt)), (1, .ref (hw ta)), (2, .ref (hw tb))]) := lv_sub hl [0, 1, 2, 3, 4, 5, 6, 7] rfl
          refine (fun (loop : ∀ (n9 : Nat) (wG_x65 : Nat → Nat → Int64) (l9_x65 : Int32) (l5_x65 : Int64) (H : Heap) (locs : List Loc) (ls : Array Slot), (0 ≤ l9_x65.toInt ∧ l9_x65.toInt ≤ 14) → (14 - l9_x65.toInt < ((n9 : Nat) : Int)) → va_P (dC, dI) vwCl (WW nW hw lw kw wl wb wG_x65) H → va_D A (WW nW hw lw kw wl wb wG_x65) → va_S A s.heap H locs → lv_has ls 12 [(9, .int l9_x65), (7, .long v1429), (5, .long l5_x65), (4, .int l4_x41), (3, .int v2), (0, .ref (hw tt)), (1, .ref (hw ta)), (2, .ref (hw tb))] → W p l e _ s m _ below meth c H locs 0 0 _ (F0 m 65 ls [])) => loop (15) wG_x41 0 0 _ _ _ (show 0 ≤ (0 : Int32).toInt ∧ (0 : Int32).toInt ≤ 14 from by decide) ((by have e9 : (0 : Int32).toInt = 0 := (by decide : (0 : Int32).toInt = 0); omega)) hP hD hS hl) ?_
          intro n9
          induction n9 with
          | zero => intro wG_x65 l9_x65 l5_x65 H locs ls b_l9_x65 hf9; exact False.elim (by omega)
          | succ n9 ihx65 =>
            intro wG_x65 l9_x65 l5_x65 H locs ls b_l9_x65 hfx65 hP hD hS hl
            refine lv_iload hx hb dX8_setProduct_65 (lv_at hl 0 rfl) ?_
            refine lv_aload_n hx hb dX8_setProduct_67 rfl (lv_at hl 7 rfl) ?_
            refine va_get (D := (dC, dI)) (ci := 8) (v := .int (wl tb)) (C := RX8) (T := TX8) (N := 3) hx hb hts iwsMX8_setProduct_in8 hown hK hP (tb) (WW_o (by omega)) rfl 1 (by decide) (hts _ hm_m_X8_setProduct_0) (fun _ h9 => h9) rfl dX8_setProduct_68 ?_
            have br68 := b_wl tb
            refine W.cut (pc := 139) (fun H locs ls stk =>  stk = [] ∧ va_P (dC, dI) vwCl (WW nW hw lw kw wl wb wG_x65) H ∧ va_D A (WW nW hw lw kw wl wb wG_x65) ∧ va_S A s.heap H locs ∧ lv_has ls 12 [(9, .int l9_x65), (7, .long v1429), (5, .long l5_x65), (4, .int l4_x41), (3, .int v2), (0, .ref (hw tt)), (1, .ref (hw ta)), (2, .ref (hw tb))]) (fun join221 => ?_) ?_
            · refine lv_icmp_ge (tgt := 139) hx hb dX8_setProduct_71 (by decide) (fun c_71 => ?_) (fun c_71 => ?_)
              · have t_71 : l9_x65.toInt ≥ (wl tb).toInt := toI_ge c_71 rfl rfl
                have hl : lv_has _ _ ([(9, .int l9_x65), (7, .long v1429), (5, .long l5_x65), (4, .int l4_x41), (3, .int v2), (0, .ref (hw tt)), (1, .ref (hw ta)), (2, .ref (hw tb))]) := lv_sub hl [0, 1, 2, 3, 4, 5, 6, 7] rfl
                exact join221 _ _ _ _ ⟨rfl, hP, hD, hS, hl⟩
              · have t_71 : ¬ l9_x65.toInt ≥ (wl tb).toInt := toI_nge c_71 rfl rfl
                refine lv_iload hx hb dX8_setProduct_74 (lv_at hl 3 rfl) ?_
                refine lv_iload hx hb dX8_setProduct_76 (lv_at hl 0 rfl) ?_
                refine lv_iadd hx hb dX8_setProduct_78 ?_
                refine lv_topi (fun y1495 hy1495 => ?_)
                obtain rfl : (iI (l4_x41.toInt + l9_x65.toInt)) = y1495 := (hy1495.trans (iI_add2 (iI_of _) (iI_of _))).symm
                refine lv_bipush (v := 14) hx hb dX8_setProduct_79 (by decide) ?_
                refine lv_icmp_ge (tgt := 139) hx hb dX8_setProduct_81 (by decide) (fun c_81 => ?_) (fun c_81 => ?_)
                · have t_81 : (l4_x41.toInt + l9_x65.toInt) ≥ 14 := toI_ge c_81 (iI_t (Int.le_trans (by decide) (Int.add_le_add (b_l4_x41.1) (b_l9_x65.1))) (Int.le_trans (Int.add_le_add (b_l4_x41.2) (b_l9_x65.2)) (by decide))) (by decide : (14 : Int32).toInt = 14)
                  have hl : lv_has _ _ ([(9, .int l9_x65), (7, .long v1429), (5, .long l5_x65), (4, .int l4_x41), (3, .int v2), (0, .ref (hw tt)), (1, .ref (hw ta)), (2, .ref (hw tb))]) := lv_sub hl [0, 1, 2, 3, 4, 5, 6, 7] rfl
                  exact join221 _ _ _ _ ⟨rfl, hP, hD, hS, hl⟩
                · have t_81 : ¬ (l4_x41.toInt + l9_x65.toInt) ≥ 14 := toI_nge c_81 (iI_t (Int.le_trans (by decide) (Int.add_le_add (b_l4_x41.1) (b_l9_x65.1))) (Int.le_trans (Int.add_le_add (b_l4_x41.2) (b_l9_x65.2)) (by decide))) (by decide : (14 : Int32).toInt = 14)
                  refine lv_lload hx hb dX8_setProduct_84 (lv_at hl 1 rfl) ?_
                  refine lv_aload_n hx hb dX8_setProduct_86 rfl (lv_at hl 7 rfl) ?_
                  refine va_get (D := (dC, dI)) (ci := 8) (v := .ref (lw tb)) (C := RX8) (T := TX8) (N := 3) hx hb hts iwsMX8_setProduct_in8 hown hK hP (tb) (WW_o (by omega)) rfl 0 (by decide) (hts _ hm_m_X8_setProduct_2) (fun _ h9 => h9) rfl dX8_setProduct_87 ?_
                  refine lv_iload hx hb dX8_setProduct_90 (lv_at hl 0 rfl) ?_
                  refine va_lald (cA := kw) (n := 14) (f := (wG_x65 tb)) hx hb hK hP (nW + tb) 0 (WW_a (by omega)) rfl (vp_in_iff.mpr ⟨b_l9_x65.1, (by omega)⟩) dX8_setProduct_92 ?_
                  refine lv_topl (fun v1496 hv1496 => ?_)
                  clear hv1496
                  refine lv_lmul hx hb dX8_setProduct_93 ?_
                  refine lv_topl (fun v1497 hv1497 => ?_)
                  clear hv1497
                  refine lv_aload_n hx hb dX8_setProduct_94 rfl (lv_at hl 5 rfl) ?_
                  refine va_get (D := (dC, dI)) (ci := 8) (v := .ref (lw tt)) (C := RX8) (T := TX8) (N := 3) hx hb hts iwsMX8_setProduct_in8 hown hK hP (tt) (WW_o (by omega)) rfl 0 (by decide) (hts _ hm_m_X8_setProduct_2) (fun _ h9 => h9) rfl dX8_setProduct_95 ?_
                  refine lv_iload hx hb dX8_setProduct_98 (lv_at hl 3 rfl) ?_
                  refine lv_iload hx hb dX8_setProduct_100 (lv_at hl 0 rfl) ?_
                  refine lv_iadd hx hb dX8_setProduct_102 ?_
                  refine lv_topi (fun y1498 hy1498 => ?_)
                  obtain rfl : (iI (l4_x41.toInt + l9_x65.toInt)) = y1498 := (hy1498.trans (iI_add2 (iI_of _) (iI_of _))).symm
                  refine va_lald (cA := kw) (n := 14) (f := (wG_x65 tt)) hx hb hK hP (nW + tt) 0 (WW_a (by omega)) rfl (vp_iI (Int.le_trans (by decide) (Int.add_le_add (b_l4_x41.1) (b_l9_x65.1))) (by omega) (by decide)) dX8_setProduct_103 ?_
                  refine lv_topl (fun v1499 hv1499 => ?_)
                  clear hv1499
                  refine lv_ladd hx hb dX8_setProduct_104 ?_
                  refine lv_topl (fun v1500 hv1500 => ?_)
                  clear hv1500
                  refine lv_lload hx hb dX8_setProduct_105 (lv_at hl 2 rfl) ?_
                  refine lv_ladd hx hb dX8_setProduct_107 ?_
                  refine lv_topl (fun v1501 hv1501 => ?_)
                  clear hv1501
                  refine lv_lstore hx hb dX8_setProduct_108 hl (by decide) rfl (fun ls (hl : lv_has ls _ ([(10, .long v1501), (9, .int l9_x65), (7, .long v1429), (5, .long l5_x65), (4, .int l4_x41), (3, .int v2), (0, .ref (hw tt)), (1, .ref (hw ta)), (2, .ref (hw tb))])) => ?_)
                  refine lv_aload_n hx hb dX8_setProduct_110 rfl (lv_at hl 6 rfl) ?_
                  refine va_get (D := (dC, dI)) (ci := 8) (v := .ref (lw tt)) (C := RX8) (T := TX8) (N := 3) hx hb hts iwsMX8_setProduct_in8 hown hK hP (tt) (WW_o (by omega)) rfl 0 (by decide) (hts _ hm_m_X8_setProduct_2) (fun _ h9 => h9) rfl dX8_setProduct_111 ?_
                  refine lv_iload hx hb dX8_setProduct_114 (lv_at hl 4 rfl) ?_
                  refine lv_iload hx hb dX8_setProduct_116 (lv_at hl 1 rfl) ?_
                  refine lv_iadd hx hb dX8_setProduct_118 ?_
                  refine lv_topi (fun y1502 hy1502 => ?_)
                  obtain rfl : (iI (l4_x41.toInt + l9_x65.toInt)) = y1502 := (hy1502.trans (iI_add2 (iI_of _) (iI_of _))).symm
                  refine lv_lload hx hb dX8_setProduct_119 (lv_at hl 0 rfl) ?_
                  refine lv_ldc2 (v := 1073741823) hx hb hown (hts (.constantLong RX8 21 1073741823) (by decide +kernel)) dX8_setProduct_121 ?_
                  refine lv_land hx hb dX8_setProduct_124 ?_
                  refine lv_topl (fun v1503 hv1503 => ?_)
                  clear hv1503
                  refine va_last (cA := kw) (n := 14) (f := (wG_x65 tt)) hx hb hK hP hD hS (nW + tt) 0 (WW_a (by omega)) rfl (vp_iI (Int.le_trans (by decide) (Int.add_le_add (b_l4_x41.1) (b_l9_x65.1))) (by omega) (by decide)) dX8_setProduct_125 (fun H locs hP hD hS => ?_)
                  obtain ⟨u1504, hu1504⟩ : ∃ f9, f9 = fT wG_x65 tt (vp_updL (wG_x65 tt) ((iI (l4_x41.toInt + l9_x65.toInt))).toNatClampNeg v1503) := ⟨_, rfl⟩
                  have hP : va_P (dC, dI) vwCl (WW nW hw lw kw wl wb u1504) H := by rw [hu1504]; exact Eq.mp (congrArg (fun z9 => va_P (dC, dI) vwCl z9 H) (WW_sg (by omega) (vp_updL (wG_x65 tt) ((iI (l4_x41.toInt + l9_x65.toInt))).toNatClampNeg v1503))) hP
                  have hD : va_D A (WW nW hw lw kw wl wb u1504) := by rw [hu1504]; exact Eq.mp (congrArg (fun z9 => va_D A z9) (WW_sg (by omega) (vp_updL (wG_x65 tt) ((iI (l4_x41.toInt + l9_x65.toInt))).toNatClampNeg v1503))) hD
                  clear hu1504
                  refine lv_lload hx hb dX8_setProduct_126 (lv_at hl 0 rfl) ?_
                  refine lv_bipush (v := 30) hx hb dX8_setProduct_128 (by decide) ?_
                  refine lv_lushr hx hb dX8_setProduct_130 rfl ?_
                  refine lv_topl (fun v1505 hv1505 => ?_)
                  clear hv1505
                  refine lv_lstore hx hb dX8_setProduct_131 hl (by decide) rfl (fun ls (hl : lv_has ls _ ([(5, .long v1505), (10, .long v1501), (9, .int l9_x65), (7, .long v1429), (4, .int l4_x41), (3, .int v2), (0, .ref (hw tt)), (1, .ref (hw ta)), (2, .ref (hw tb))])) => ?_)
                  refine lv_iinc (v := (iI (l9_x65.toInt + 1))) hx hb dX8_setProduct_133 hl (k := 2) rfl (iI_add2 (iI_of _) (by decide : (1 : Int32) = iI 1)) (by decide) rfl (fun ls (hl : lv_has ls _ ([(9, .int (iI (l9_x65.toInt + 1))), (5, .long v1505), (10, .long v1501), (7, .long v1429), (4, .int l4_x41), (3, .int v2), (0, .ref (hw tt)), (1, .ref (hw ta)), (2, .ref (hw tb))])) => ?_)
                  refine lv_goto (tgt := 65) hx hb dX8_setProduct_136 (by decide) ?_
                  have hl : lv_has _ _ ([(9, .int (iI (l9_x65.toInt + 1))), (7, .long v1429), (5, .long v1505), (4, .int l4_x41), (3, .int v2), (0, .ref (hw tt)), (1, .ref (hw ta)), (2, .ref (hw tb))]) := lv_sub hl [0, 3, 1, 4, 5, 6, 7, 8] rfl
                  exact ihx65 u1504 (iI (l9_x65.toInt + 1)) v1505 _ _ _ (iI_rng (Int.le_trans (by decide) (Int.add_le_add (b_l9_x65.1) (Int.le_refl _))) (by omega) (by decide) (by decide)) (by have e9 : ((iI (l9_x65.toInt + 1))).toInt = (l9_x65.toInt + 1) := (iI_t (Int.le_trans (by decide) (Int.add_le_add (b_l9_x65.1) (Int.le_refl _))) (Int.le_trans (Int.add_le_add (b_l9_x65.2) (Int.le_refl _)) (by decide))); omega) hP hD hS hl
            · rintro H locs ls stk ⟨rfl, hP, hD, hS, hl⟩
              refine lv_iload hx hb dX8_setProduct_139 (lv_at hl 3 rfl) ?_
              refine lv_aload_n hx hb dX8_setProduct_141 rfl (lv_at hl 7 rfl) ?_
              refine va_get (D := (dC, dI)) (ci := 8) (v := .int (wl tb)) (C := RX8) (T := TX8) (N := 3) hx hb hts iwsMX8_setProduct_in8 hown hK hP (tb) (WW_o (by omega)) rfl 1 (by decide) (hts _ hm_m_X8_setProduct_0) (fun _ h9 => h9) rfl dX8_setProduct_142 ?_
              have br142 := b_wl tb
              refine lv_iadd hx hb dX8_setProduct_145 ?_
              refine lv_topi (fun y1506 hy1506 => ?_)
              obtain rfl : (iI (l4_x41.toInt + (wl tb).toInt)) = y1506 := (hy1506.trans (iI_add2 (iI_of _) (iI_of _))).symm
              refine lv_bipush (v := 14) hx hb dX8_setProduct_146 (by decide) ?_
              refine W.cut (pc := 165) (fun H locs ls stk => ∃ (wG_j222 : Nat → Nat → Int64),  stk = [] ∧ va_P (dC, dI) vwCl (WW nW hw lw kw wl wb wG_j222) H ∧ va_D A (WW nW hw lw kw wl wb wG_j222) ∧ va_S A s.heap H locs ∧ lv_has ls 12 [(9, .int l9_x65), (7, .long v1429), (5, .long l5_x65), (4, .int l4_x41), (3, .int v2), (0, .ref (hw tt)), (1, .ref (hw ta)), (2, .ref (hw tb))]) (fun join222 => ?_) ?_
              · refine lv_icmp_ge (tgt := 165) hx hb dX8_setProduct_148 (by decide) (fun c_148 => ?_) (fun c_148 => ?_)
                · first | (have t_148 : (l4_x41.toInt + (wl tb).toInt) ≥ 14 := toI_ge c_148 (iI_t (by omega) (by omega)) (by decide : (14 : Int32).toInt = 14)) | skip
                  have hl : lv_has _ _ ([(9, .int l9_x65), (7, .long v1429), (5, .long l5_x65), (4, .int l4_x41), (3, .int v2), (0, .ref (hw tt)), (1, .ref (hw ta)), (2, .ref (hw tb))]) := lv_sub hl [0, 1, 2, 3, 4, 5, 6, 7] rfl
                  exact join222 _ _ _ _ ⟨wG_x65, rfl, hP, hD, hS, hl⟩
                · first | (have t_148 : ¬ (l4_x41.toInt + (wl tb).toInt) ≥ 14 := toI_nge c_148 (iI_t (by omega) (by omega)) (by decide : (14 : Int32).toInt = 14)) | skip
                  refine lv_aload_n hx hb dX8_setProduct_151 rfl (lv_at hl 5 rfl) ?_
                  refine va_get (D := (dC, dI)) (ci := 8) (v := .ref (lw tt)) (C := RX8) (T := TX8) (N := 3) hx hb hts iwsMX8_setProduct_in8 hown hK hP (tt) (WW_o (by omega)) rfl 0 (by decide) (hts _ hm_m_X8_setProduct_2) (fun _ h9 => h9) rfl dX8_setProduct_152 ?_
                  refine lv_iload hx hb dX8_setProduct_155 (lv_at hl 3 rfl) ?_
                  refine lv_aload_n hx hb dX8_setProduct_157 rfl (lv_at hl 7 rfl) ?_
                  refine va_get (D := (dC, dI)) (ci := 8) (v := .int (wl tb)) (C := RX8) (T := TX8) (N := 3) hx hb hts iwsMX8_setProduct_in8 hown hK hP (tb) (WW_o (by omega)) rfl 1 (by decide) (hts _ hm_m_X8_setProduct_0) (fun _ h9 => h9) rfl dX8_setProduct_158 ?_
                  have br158 := b_wl tb
                  refine lv_iadd hx hb dX8_setProduct_161 ?_
                  refine lv_topi (fun y1509 hy1509 => ?_)
                  obtain rfl : (iI (l4_x41.toInt + (wl tb).toInt)) = y1509 := (hy1509.trans (iI_add2 (iI_of _) (iI_of _))).symm
                  refine lv_lload hx hb dX8_setProduct_162 (lv_at hl 2 rfl) ?_
                  refine va_last (cA := kw) (n := 14) (f := (wG_x65 tt)) hx hb hK hP hD hS (nW + tt) 0 (WW_a (by omega)) rfl (vp_iI (by omega) (by omega) (by decide)) dX8_setProduct_164 (fun H locs hP hD hS => ?_)
                  obtain ⟨u1510, hu1510⟩ : ∃ f9, f9 = fT wG_x65 tt (vp_updL (wG_x65 tt) ((iI (l4_x41.toInt + (wl tb).toInt))).toNatClampNeg l5_x65) := ⟨_, rfl⟩
                  have hP : va_P (dC, dI) vwCl (WW nW hw lw kw wl wb u1510) H := by rw [hu1510]; exact Eq.mp (congrArg (fun z9 => va_P (dC, dI) vwCl z9 H) (WW_sg (by omega) (vp_updL (wG_x65 tt) ((iI (l4_x41.toInt + (wl tb).toInt))).toNatClampNeg l5_x65))) hP
                  have hD : va_D A (WW nW hw lw kw wl wb u1510) := by rw [hu1510]; exact Eq.mp (congrArg (fun z9 => va_D A z9) (WW_sg (by omega) (vp_updL (wG_x65 tt) ((iI (l4_x41.toInt + (wl tb).toInt))).toNatClampNeg l5_x65))) hD
                  clear hu1510
                  have hl : lv_has _ _ ([(9, .int l9_x65), (7, .long v1429), (5, .long l5_x65), (4, .int l4_x41), (3, .int v2), (0, .ref (hw tt)), (1, .ref (hw ta)), (2, .ref (hw tb))]) := lv_sub hl [0, 1, 2, 3, 4, 5, 6, 7] rfl
                  exact join222 _ _ _ _ ⟨u1510, rfl, hP, hD, hS, hl⟩
              · rintro H locs ls stk ⟨wG_j222, rfl, hP, hD, hS, hl⟩
                refine lv_iinc (v := (iI (l4_x41.toInt + 1))) hx hb dX8_setProduct_165 hl (k := 3) rfl (iI_add2 (iI_of _) (by decide : (1 : Int32) = iI 1)) (by decide) rfl (fun ls (hl : lv_has ls _ ([(4, .int (iI (l4_x41.toInt + 1))), (9, .int l9_x65), (7, .long v1429), (5, .long l5_x65), (3, .int v2), (0, .ref (hw tt)), (1, .ref (hw ta)), (2, .ref (hw tb))])) => ?_)
                refine lv_goto (tgt := 41) hx hb dX8_setProduct_168 (by decide) ?_
                have hl : lv_has _ _ ([(4, .int (iI (l4_x41.toInt + 1))), (3, .int v2), (0, .ref (hw tt)), (1, .ref (hw ta)), (2, .ref (hw tb))]) := lv_sub hl [0, 4, 5, 6, 7] rfl
                exact ihx41 wG_j222 (iI (l4_x41.toInt + 1)) _ _ _ (iI_rng (Int.le_trans (by decide) (Int.add_le_add (b_l4_x41.1) (Int.le_refl _))) (by omega) (by decide) (by decide)) (by have e9 : ((iI (l4_x41.toInt + 1))).toInt = (l4_x41.toInt + 1) := (iI_t (Int.le_trans (by decide) (Int.add_le_add (b_l4_x41.1) (Int.le_refl _))) (Int.le_trans (Int.add_le_add (b_l4_x41.2) (Int.le_refl _)) (by decide))); omega) hP hD hS hl
    · have t_21 : ¬ l4_x18.toInt ≥ v2.toInt := toI_nge c_21 rfl rfl
      refine lv_aload_n hx hb dX8_setProduct_24 rfl (lv_at hl 2 rfl) ?_
      refine va_get (D := (dC, dI)) (ci := 8) (v := .ref (lw tt)) (C := RX8) (T := TX8) (N := 3) hx hb hts iwsMX8_setProduct_in8 hown hK hP (tt) (WW_o (by omega)) rfl 0 (by decide) (hts _ hm_m_X8_setProduct_2) (fun _ h9 => h9) rfl dX8_setProduct_25 ?_
      refine lv_iload hx hb dX8_setProduct_28 (lv_at hl 0 rfl) ?_
      refine lv_lconst (v := 0) hx hb dX8_setProduct_30 (by decide) ?_
      refine va_last (cA := kw) (n := 14) (f := (wG_x18 tt)) hx hb hK hP hD hS (nW + tt) 0 (WW_a (by omega)) rfl (vp_in_iff.mpr ⟨b_l4_x18.1, (by omega)⟩) dX8_setProduct_31 (fun H locs hP hD hS => ?_)
      obtain ⟨u1511, hu1511⟩ : ∃ f9, f9 = fT wG_x18 tt (vp_updL (wG_x18 tt) (l4_x18).toNatClampNeg (0 : Int64)) := ⟨_, rfl⟩
      have hP : va_P (dC, dI) vwCl (WW nW hw lw kw wl wb u1511) H := by rw [hu1511]; exact Eq.mp (congrArg (fun z9 => va_P (dC, dI) vwCl z9 H) (WW_sg (by omega) (vp_updL (wG_x18 tt) (l4_x18).toNatClampNeg (0 : Int64)))) hP
      have hD : va_D A (WW nW hw lw kw wl wb u1511) := by rw [hu1511]; exact Eq.mp (congrArg (fun z9 => va_D A z9) (WW_sg (by omega) (vp_updL (wG_x18 tt) (l4_x18).toNatClampNeg (0 : Int64)))) hD
      clear hu1511
      refine lv_iinc (v := (iI (l4_x18.toInt + 1))) hx hb dX8_setProduct_32 hl (k := 0) rfl (iI_add2 (iI_of _) (by decide : (1 : Int32) = iI 1)) (by decide) rfl (fun ls (hl : lv_has ls _ ([(4, .int (iI (l4_x18.toInt + 1))), (3, .int v2), (0, .ref (hw tt)), (1, .ref (hw ta)), (2, .ref (hw tb))])) => ?_)
      refine lv_goto (tgt := 18) hx hb dX8_setProduct_35 (by decide) ?_
      have hl : lv_has _ _ ([(4, .int (iI (l4_x18.toInt + 1))), (3, .int v2), (0, .ref (hw tt)), (1, .ref (hw ta)), (2, .ref (hw tb))]) := lv_sub hl [0, 1, 2, 3, 4] rfl
      exact ihx18 u1511 (iI (l4_x18.toInt + 1)) _ _ _ (iI_rng (Int.le_trans (by decide) (Int.add_le_add (b_l4_x18.1) (Int.le_refl _))) (by omega) (by decide) (by decide)) (by have e9 : ((iI (l4_x18.toInt + 1))).toInt = (l4_x18.toInt + 1) := (iI_t (Int.le_trans (by decide) (Int.add_le_add (b_l4_x18.1) (Int.le_refl _))) (Int.le_trans (Int.add_le_add (b_l4_x18.2) (Int.le_refl _)) (by decide))); omega) hP hD hS hl
theorem dX8_divideSmall_0 : decode cX8_divideSmall 0 = .ok (.lload_n 1, 1) := dk_31 (by decide +kernel)
theorem dX8_divideSmall_1 : decode cX8_divideSmall 1 = .ok (.lconst 0, 1) := dk_9 (by decide +kernel)
theorem dX8_divideSmall_2 : decode cX8_divideSmall 2 = .ok (.lcmp, 1) := dk_148 (by decide +kernel)
theorem dX8_divideSmall_3 : decode cX8_divideSmall 3 = .ok (.ifCond .gt 5, 3) := dk_157 (by decide +kernel)
theorem dX8_divideSmall_6 : decode cX8_divideSmall 6 = .ok (.lconst 0, 1) := dk_9 (by decide +kernel)
theorem dX8_divideSmall_7 : decode cX8_divideSmall 7 = .ok (.lreturn, 1) := dk_173 (by decide +kernel)
theorem dX8_divideSmall_8 : decode cX8_divideSmall 8 = .ok (.lconst 0, 1) := dk_9 (by decide +kernel)
theorem dX8_divideSmall_9 : decode cX8_divideSmall 9 = .ok (.lstore_n 3, 1) := dk_66 (by decide +kernel)
theorem dX8_divideSmall_10 : decode cX8_divideSmall 10 = .ok (.iconst 0, 1) := dk_3 (by decide +kernel)
theorem dX8_divideSmall_11 : decode cX8_divideSmall 11 = .ok (.istore 5, 2) := dk_54 (by decide +kernel)
theorem dX8_divideSmall_13 : decode cX8_divideSmall 13 = .ok (.aload_n 0, 1) := dk_42 (by decide +kernel)
theorem dX8_divideSmall_14 : decode cX8_divideSmall 14 = .ok (.getfield 17, 3) := dk_180 (by decide +kernel)
theorem dX8_divideSmall_17 : decode cX8_divideSmall 17 = .ok (.iconst 1, 1) := dk_4 (by decide +kernel)
theorem dX8_divideSmall_18 : decode cX8_divideSmall 18 = .ok (.isub, 1) := dk_100 (by decide +kernel)
theorem dX8_divideSmall_19 : decode cX8_divideSmall 19 = .ok (.istore 6, 2) := dk_54 (by decide +kernel)
theorem dX8_divideSmall_21 : decode cX8_divideSmall 21 = .ok (.iload 6, 2) := dk_21 (by decide +kernel)
theorem dX8_divideSmall_23 : decode cX8_divideSmall 23 = .ok (.ifCond .lt 67, 3) := dk_155 (by decide +kernel)
theorem dX8_divideSmall_26 : decode cX8_divideSmall 26 = .ok (.lload_n 3, 1) := dk_33 (by decide +kernel)
theorem dX8_divideSmall_27 : decode cX8_divideSmall 27 = .ok (.bipush 30, 2) := dk_16 (by decide +kernel)
theorem dX8_divideSmall_29 : decode cX8_divideSmall 29 = .ok (.lshl, 1) := dk_121 (by decide +kernel)
theorem dX8_divideSmall_30 : decode cX8_divideSmall 30 = .ok (.aload_n 0, 1) := dk_42 (by decide +kernel)
theorem dX8_divideSmall_31 : decode cX8_divideSmall 31 = .ok (.getfield 9, 3) := dk_180 (by decide +kernel)
theorem dX8_divideSmall_34 : decode cX8_divideSmall 34 = .ok (.iload 6, 2) := dk_21 (by decide +kernel)
theorem dX8_divideSmall_36 : decode cX8_divideSmall 36 = .ok (.laload, 1) := dk_47 (by decide +kernel)
theorem dX8_divideSmall_37 : decode cX8_divideSmall 37 = .ok (.lor, 1) := dk_129 (by decide +kernel)
theorem dX8_divideSmall_38 : decode cX8_divideSmall 38 = .ok (.lstore 7, 2) := dk_55 (by decide +kernel)
theorem dX8_divideSmall_40 : decode cX8_divideSmall 40 = .ok (.aload_n 0, 1) := dk_42 (by decide +kernel)
theorem dX8_divideSmall_41 : decode cX8_divideSmall 41 = .ok (.getfield 9, 3) := dk_180 (by decide +kernel)
theorem dX8_divideSmall_44 : decode cX8_divideSmall 44 = .ok (.iload 6, 2) := dk_21 (by decide +kernel)
theorem dX8_divideSmall_46 : decode cX8_divideSmall 46 = .ok (.lload 7, 2) := dk_22 (by decide +kernel)
theorem dX8_divideSmall_48 : decode cX8_divideSmall 48 = .ok (.lload_n 1, 1) := dk_31 (by decide +kernel)
theorem dX8_divideSmall_49 : decode cX8_divideSmall 49 = .ok (.ldiv, 1) := dk_109 (by decide +kernel)
theorem dX8_divideSmall_50 : decode cX8_divideSmall 50 = .ok (.lastore, 1) := dk_80 (by decide +kernel)
theorem dX8_divideSmall_51 : decode cX8_divideSmall 51 = .ok (.lload 7, 2) := dk_22 (by decide +kernel)
theorem dX8_divideSmall_53 : decode cX8_divideSmall 53 = .ok (.lload_n 1, 1) := dk_31 (by decide +kernel)
theorem dX8_divideSmall_54 : decode cX8_divideSmall 54 = .ok (.lrem, 1) := dk_113 (by decide +kernel)
theorem dX8_divideSmall_55 : decode cX8_divideSmall 55 = .ok (.lstore_n 3, 1) := dk_66 (by decide +kernel)
theorem dX8_divideSmall_56 : decode cX8_divideSmall 56 = .ok (.iload 5, 2) := dk_21 (by decide +kernel)
theorem dX8_divideSmall_58 : decode cX8_divideSmall 58 = .ok (.ifCond .ne 22, 3) := dk_154 (by decide +kernel)
theorem dX8_divideSmall_61 : decode cX8_divideSmall 61 = .ok (.aload_n 0, 1) := dk_42 (by decide +kernel)
theorem dX8_divideSmall_62 : decode cX8_divideSmall 62 = .ok (.getfield 9, 3) := dk_180 (by decide +kernel)
theorem dX8_divideSmall_65 : decode cX8_divideSmall 65 = .ok (.iload 6, 2) := dk_21 (by decide +kernel)
theorem dX8_divideSmall_67 : decode cX8_divideSmall 67 = .ok (.laload, 1) := dk_47 (by decide +kernel)
theorem dX8_divideSmall_68 : decode cX8_divideSmall 68 = .ok (.lconst 0, 1) := dk_9 (by decide +kernel)
theorem dX8_divideSmall_69 : decode cX8_divideSmall 69 = .ok (.lcmp, 1) := dk_148 (by decide +kernel)
theorem dX8_divideSmall_70 : decode cX8_divideSmall 70 = .ok (.ifCond .eq 10, 3) := dk_153 (by decide +kernel)
theorem dX8_divideSmall_73 : decode cX8_divideSmall 73 = .ok (.iload 6, 2) := dk_21 (by decide +kernel)
theorem dX8_divideSmall_75 : decode cX8_divideSmall 75 = .ok (.iconst 1, 1) := dk_4 (by decide +kernel)
theorem dX8_divideSmall_76 : decode cX8_divideSmall 76 = .ok (.iadd, 1) := dk_96 (by decide +kernel)
theorem dX8_divideSmall_77 : decode cX8_divideSmall 77 = .ok (.goto 5, 3) := dk_167 (by decide +kernel)
theorem dX8_divideSmall_80 : decode cX8_divideSmall 80 = .ok (.iload 5, 2) := dk_21 (by decide +kernel)
theorem dX8_divideSmall_82 : decode cX8_divideSmall 82 = .ok (.istore 5, 2) := dk_54 (by decide +kernel)
theorem dX8_divideSmall_84 : decode cX8_divideSmall 84 = .ok (.iinc 6 (-1), 3) := dk_132 (by decide +kernel)
theorem dX8_divideSmall_87 : decode cX8_divideSmall 87 = .ok (.goto (-66), 3) := dk_167 (by decide +kernel)
theorem dX8_divideSmall_90 : decode cX8_divideSmall 90 = .ok (.aload_n 0, 1) := dk_42 (by decide +kernel)
theorem dX8_divideSmall_91 : decode cX8_divideSmall 91 = .ok (.iload 5, 2) := dk_21 (by decide +kernel)
theorem dX8_divideSmall_93 : decode cX8_divideSmall 93 = .ok (.putfield 17, 3) := dk_181 (by decide +kernel)
theorem dX8_divideSmall_96 : decode cX8_divideSmall 96 = .ok (.lload_n 3, 1) := dk_33 (by decide +kernel)
theorem dX8_divideSmall_97 : decode cX8_divideSmall 97 = .ok (.lreturn, 1) := dk_173 (by decide +kernel)
def wsMX8_divideSmall : List Cond := .code yX8_divideSmall cX8_divideSmall 9 (some .long) :: ([.fieldLink RX8 17 "OptimaWorks$Whole" "length" "I", .fieldLink RX8 9 "OptimaWorks$Whole" "limb" "[J"] ++ wsX80)
theorem iwsMX8_divideSmall_in8 : ∀ w ∈ wsX80, w ∈ wsMX8_divideSmall := fun _ h => List.mem_cons_of_mem _ (List.mem_append_right _ h)
theorem gdwsMX8_divideSmall : wsMX8_divideSmall.all goodWord = true := gdC rfl (gdA (by decide +kernel : ([.fieldLink RX8 17 "OptimaWorks$Whole" "length" "I", .fieldLink RX8 9 "OptimaWorks$Whole" "limb" "[J"] : List Cond).all goodWord = true) gdwsX80)
theorem hm_m_X8_divideSmall_0 : (.fieldLink RX8 17 "OptimaWorks$Whole" "length" "I" : Cond) ∈ wsMX8_divideSmall := by decide +kernel
theorem hm_m_X8_divideSmall_1 : (.fieldLink RX8 9 "OptimaWorks$Whole" "limb" "[J" : Cond) ∈ wsMX8_divideSmall := by decide +kernel
set_option maxHeartbeats 4000000 in
set_option maxRecDepth 100000 in
/-- by a small one -/
theorem m_X8_divideSmall (l : Launch) (dC : Nat → ClassId) (dI : Nat → Nat → Nat) (nW : Nat) (hw : Nat → Nat) (lw : Nat → Nat) (kw : ClassId) (wl : Nat → Int32) (wb : Nat → Int32) (wG : Nat → Nat → Int64) (tt : Nat) (xv : Int64) (b_wl : ∀ q : Nat, 0 ≤ (wl q).toInt ∧ (wl q).toInt ≤ 14) (b_wb : ∀ q : Nat, 0 ≤ (wb q).toInt ∧ (wb q).toInt ≤ 1) (htt : tt < nW) (sz : Nat) : Met l yX8_divideSmall wsMX8_divideSmall ({ frames := 0, cells := 0, slots := 0, locals := 0 }) (va_Pc [.ref (hw tt), .long xv] (fun U => U.heap.size = sz ∧ va_P (dC, dI) vwCl (WW nW hw lw kw wl wb wG) U.heap ∧ va_K (dC, dI) vwCl (tW kw) U ∧ va_D (fun _ => True) (WW nW hw lw kw wl wb wG))) (va_Ql (fun (r : Int64) (u : (Nat → Int32) × (Nat → Nat → Int64)) => (∀ q : Nat, 0 ≤ ((u.1) q).toInt ∧ ((u.1) q).toInt ≤ 14)) (fun (u : (Nat → Int32) × (Nat → Nat → Int64)) t => va_P (dC, dI) vwCl (WW nW hw lw kw (u.1) wb (u.2)) t.heap ∧ va_D (va_A (WW nW hw lw kw wl wb wG) sz) (WW nW hw lw kw (u.1) wb (u.2))) (va_A (WW nW hw lw kw wl wb wG) sz)) 0 0 (va_A (WW nW hw lw kw wl wb wG) sz) := by
  refine Met.ofW (cc := cX8_divideSmall) (maxL := 9) (ret := (some .long)) (by decide) rfl ?_
  intro p e s m args below meth c s₁ B hml hv
  obtain ⟨rfl, hsz, hP, hK, hD0⟩ := hv
  have hx := B.exec
  have hb := B.bytes
  have hr := B.returns
  have hts := atoms_spec (ws := wsMX8_divideSmall) B.pre
  have hown : s.vm.findClass RX8 = some m.cls := findClass_of_methodNamed B.named
  have hlocks := B.notSynchronized
  subst hsz
  have hD := hD0.self (sz := s.heap.size)
  generalize hAe : va_A (WW nW hw lw kw wl wb wG) s.heap.size = A at hD ⊢
  have hA : ∀ q : Nat, s.heap.size ≤ q → A q := fun q h => by rw [← hAe]; exact Or.inr h
  have hS : va_S A s.heap s.heap [] := va_S.rf
  have hl := lv_entry ([.ref (hw tt), .long xv]) (n := 9) (Nat.le_of_ble_eq_true rfl)
  rw [lg_entry_eq]
  generalize (lg_sl ([.ref (hw tt), .long xv]) ++ List.replicate (9 - (lg_sl ([.ref (hw tt), .long xv])).length) Slot.unset).toArray = ls at hl ⊢
  have hl : lv_has ls 9 [(0, .ref (hw tt)), (1, .long xv)] := hl
  refine lv_lload_n hx hb dX8_divideSmall_0 rfl (lv_at hl 1 rfl) ?_
  refine lv_lconst (v := 0) hx hb dX8_divideSmall_1 (by decide) ?_
  refine W.lcmp hx hb dX8_divideSmall_2 ?_
  refine lv_if_gt (tgt := 8) hx hb dX8_divideSmall_3 (by decide) (fun c_3 => ?_) (fun c_3 => ?_)
  · have t_3 : xv.toInt > 0 := toL_gt c_3 rfl (by decide : (0 : Int64).toInt = 0)
    refine lv_lconst (v := 0) hx hb dX8_divideSmall_8 (by decide) ?_
    refine lv_lstore_n hx hb dX8_divideSmall_9 rfl hl (by decide) rfl (fun ls (hl : lv_has ls _ ([(3, .long 0), (0, .ref (hw tt)), (1, .long xv)])) => ?_)
    refine lv_iconst (v := 0) hx hb dX8_divideSmall_10 (by decide) ?_
    refine lv_istore hx hb dX8_divideSmall_11 hl (by decide) rfl (fun ls (hl : lv_has ls _ ([(5, .int 0), (3, .long 0), (0, .ref (hw tt)), (1, .long xv)])) => ?_)
    refine lv_aload_n hx hb dX8_divideSmall_13 rfl (lv_at hl 2 rfl) ?_
    refine va_get (D := (dC, dI)) (ci := 8) (v := .int (wl tt)) (C := RX8) (T := TX8) (N := 3) hx hb hts iwsMX8_divideSmall_in8 hown hK hP (tt) (WW_o (by omega)) rfl 1 (by decide) (hts _ hm_m_X8_divideSmall_0) (fun _ h9 => h9) rfl dX8_divideSmall_14 ?_
    have br14 := b_wl tt
    refine lv_iconst (v := 1) hx hb dX8_divideSmall_17 (by decide) ?_
    refine lv_isub hx hb dX8_divideSmall_18 ?_
    refine lv_topi (fun y1 hy1 => ?_)
    obtain rfl : (iI ((wl tt).toInt - 1)) = y1 := (hy1.trans (iI_sub2 (iI_of _) (by decide : (1 : Int32) = iI 1))).symm
    refine lv_istore hx hb dX8_divideSmall_19 hl (by decide) rfl (fun ls (hl : lv_has ls _ ([(6, .int (iI ((wl tt).toInt - 1))), (5, .int 0), (3, .long 0), (0, .ref (hw tt)), (1, .long xv)])) => ?_)
    have hl : lv_has _ _ ([(6, .int (iI ((wl tt).toInt - 1))), (5, .int 0), (3, .long 0), (0, .ref (hw tt)), (1, .long xv)]) := lv_sub hl [0, 1, 2, 3, 4] rfl
    refine (fun (loop : ∀ (n9 : Nat) (wG_x21 : Nat → Nat → Int64) (l6_x21 : Int32) (l5_x21 : Int32) (l3_x21 : Int64) (H : Heap) (locs : List Loc) (ls : Array Slot), ((-1) ≤ l6_x21.toInt ∧ l6_x21.toInt ≤ 13) → (0 ≤ l5_x21.toInt ∧ l5_x21.toInt ≤ 14) → (l6_x21.toInt - (-1) < ((n9 : Nat) : Int)) → va_P (dC, dI) vwCl (WW nW hw lw kw wl wb wG_x21) H → va_D A (WW nW hw lw kw wl wb wG_x21) → va_S A s.heap H locs → lv_has ls 9 [(6, .int l6_x21), (5, .int l5_x21), (3, .long l3_x21), (0, .ref (hw tt)), (1, .long xv)] → W p l e _ s m _ below meth c H locs 0 0 _ (F0 m 21 ls [])) => loop (15) wG (iI ((wl tt).toInt - 1)) 0 0 _ _ _ (iI_rng (by omega) (by omega) (by decide) (by decide)) (show 0 ≤ (0 : Int32).toInt ∧ (0 : Int32).toInt ≤ 14 from by decide) ((by have e9 : ((iI ((wl tt).toInt - 1))).toInt = ((wl tt).toInt - 1) := (iI_t (by omega) (by omega)); omega)) hP hD hS hl) ?_
    intro n9
    induction n9 with
    | zero => intro wG_x21 l6_x21 l5_x21 l3_x21 H locs ls b_l6_x21 b_l5_x21 hf9; exact False.elim (by omega)
    | succ n9 ihx21 =>
      intro wG_x21 l6_x21 l5_x21 l3_x21 H locs ls b_l6_x21 b_l5_x21 hfx21 hP hD hS hl
      refine lv_iload hx hb dX8_divideSmall_21 (lv_at hl 0 rfl) ?_
      refine lv_if_lt (tgt := 90) hx hb dX8_divideSmall_23 (by decide) (fun c_23 => ?_) (fun c_23 => ?_)
      · have t_23 : l6_x21.toInt < 0 := toI_lt c_23 rfl (by decide : (0 : Int32).toInt = 0)
        refine lv_aload_n hx hb dX8_divideSmall_90 rfl (lv_at hl 3 rfl) ?_
        refine lv_iload hx hb dX8_divideSmall_91 (lv_at hl 1 rfl) ?_
        refine va_put (D := (dC, dI)) (ci := 8) (v := .int l5_x21) (ty := .int) (C := RX8) (T := TX8) (N := 3) hx hb hts iwsMX8_divideSmall_in8 tyX8 tyX8_ok nmX8 hown hK hP hD hS (tt) (WW_o (by omega)) rfl 1 (by decide) (hts _ hm_m_X8_divideSmall_0) (fun _ h9 => h9) rfl (by decide +kernel) rfl rfl (Nat.le_of_ble_eq_true rfl) dX8_divideSmall_93 (fun H locs hP hD hS => ?_)
        obtain ⟨u52, hu52⟩ : ∃ f9, f9 = fT wl tt l5_x21 := ⟨_, rfl⟩
        have hP : va_P (dC, dI) vwCl (WW nW hw lw kw u52 wb wG_x21) H := by rw [hu52]; exact Eq.mp (congrArg (fun z9 => va_P (dC, dI) vwCl z9 H) (WW_sl (by omega) l5_x21)) hP
        have hD : va_D A (WW nW hw lw kw u52 wb wG_x21) := by rw [hu52]; exact Eq.mp (congrArg (fun z9 => va_D A z9) (WW_sl (by omega) l5_x21)) hD
        have b_u52 : ∀ q : Nat, 0 ≤ (u52 q).toInt ∧ (u52 q).toInt ≤ 14 := by rw [hu52]; exact fT_r b_wl (b_l5_x21)
        have q_u52 : (u52 tt).toInt = l5_x21.toInt := by rw [hu52, fT_eq]
        clear hu52
        refine lv_lload_n hx hb dX8_divideSmall_96 rfl (lv_at hl 2 rfl) ?_
        refine W.widen (k := 0) (n := 0) (by decide +kernel) (by decide +kernel) ?_
        exact W.lret (v := l3_x21) hx hb hr (fun t9_ ht hW => ⟨⟨l3_x21, (u52, wG_x21), rfl, b_u52, by rw [ht]; exact hP, hD⟩, hS.F ht⟩) hS.2.2 dX8_divideSmall_97
      · have t_23 : ¬ l6_x21.toInt < 0 := toI_nlt c_23 rfl (by decide : (0 : Int32).toInt = 0)
        refine lv_lload_n hx hb dX8_divideSmall_26 rfl (lv_at hl 2 rfl) ?_
        refine lv_bipush (v := 30) hx hb dX8_divideSmall_27 (by decide) ?_
        refine lv_lshl hx hb dX8_divideSmall_29 rfl ?_
        refine lv_topl (fun v53 hv53 => ?_)
        clear hv53
        refine lv_aload_n hx hb dX8_divideSmall_30 rfl (lv_at hl 3 rfl) ?_
        refine va_get (D := (dC, dI)) (ci := 8) (v := .ref (lw tt)) (C := RX8) (T := TX8) (N := 3) hx hb hts iwsMX8_divideSmall_in8 hown hK hP (tt) (WW_o (by omega)) rfl 0 (by decide) (hts _ hm_m_X8_divideSmall_1) (fun _ h9 => h9) rfl dX8_divideSmall_31 ?_
        refine lv_iload hx hb dX8_divideSmall_34 (lv_at hl 0 rfl) ?_
        refine va_lald (cA := kw) (n := 14) (f := (wG_x21 tt)) hx hb hK hP (nW + tt) 0 (WW_a (by omega)) rfl (vp_in_iff.mpr ⟨(by omega), (Int.lt_of_le_of_lt (b_l6_x21.2) (by decide))⟩) dX8_divideSmall_36 ?_
        refine lv_topl (fun v54 hv54 => ?_)
        clear hv54
        refine lv_lor hx hb dX8_divideSmall_37 ?_
        refine lv_topl (fun v55 hv55 => ?_)
        clear hv55
        refine lv_lstore hx hb dX8_divideSmall_38 hl (by decide) rfl (fun ls (hl : lv_has ls _ ([(7, .long v55), (6, .int l6_x21), (5, .int l5_x21), (3, .long l3_x21), (0, .ref (hw tt)), (1, .long xv)])) => ?_)
        refine lv_aload_n hx hb dX8_divideSmall_40 rfl (lv_at hl 4 rfl) ?_
        refine va_get (D := (dC, dI)) (ci := 8) (v := .ref (lw tt)) (C := RX8) (T := TX8) (N := 3) hx hb hts iwsMX8_divideSmall_in8 hown hK hP (tt) (WW_o (by omega)) rfl 0 (by decide) (hts _ hm_m_X8_divideSmall_1) (fun _ h9 => h9) rfl dX8_divideSmall_41 ?_
        refine lv_iload hx hb dX8_divideSmall_44 (lv_at hl 1 rfl) ?_
        refine lv_lload hx hb dX8_divideSmall_46 (lv_at hl 0 rfl) ?_
        refine lv_lload_n hx hb dX8_divideSmall_48 rfl (lv_at hl 5 rfl) ?_
        refine lv_ldiv hx hb dX8_divideSmall_49 (nz_l (x := xv) rfl (by omega)) ?_
        refine lv_topl (fun v56 hv56 => ?_)
        clear hv56
        refine va_last (cA := kw) (n := 14) (f := (wG_x21 tt)) hx hb hK hP hD hS (nW + tt) 0 (WW_a (by omega)) rfl (vp_in_iff.mpr ⟨(by omega), (Int.lt_of_le_of_lt (b_l6_x21.2) (by decide))⟩) dX8_divideSmall_50 (fun H locs hP hD hS => ?_)
        obtain ⟨u57, hu57⟩ : ∃ f9, f9 = fT wG_x21 tt (vp_updL (wG_x21 tt) (l6_x21).toNatClampNeg v56) := ⟨_, rfl⟩
        have hP : va_P (dC, dI) vwCl (WW nW hw lw kw wl wb u57) H := by rw [hu57]; exact Eq.mp (congrArg (fun z9 => va_P (dC, dI) vwCl z9 H) (WW_sg (by omega) (vp_updL (wG_x21 tt) (l6_x21).toNatClampNeg v56))) hP
        have hD : va_D A (WW nW hw lw kw wl wb u57) := by rw [hu57]; exact Eq.mp (congrArg (fun z9 => va_D A z9) (WW_sg (by omega) (vp_updL (wG_x21 tt) (l6_x21).toNatClampNeg v56))) hD
        clear hu57
        refine lv_lload hx hb dX8_divideSmall_51 (lv_at hl 0 rfl) ?_
        refine lv_lload_n hx hb dX8_divideSmall_53 rfl (lv_at hl 5 rfl) ?_
        refine lv_lrem hx hb dX8_divideSmall_54 (nz_l (x := xv) rfl (by omega)) ?_
        refine lv_topl (fun v58 hv58 => ?_)
        clear hv58
        refine lv_lstore_n hx hb dX8_divideSmall_55 rfl hl (by decide) rfl (fun ls (hl : lv_has ls _ ([(3, .long v58), (7, .long v55), (6, .int l6_x21), (5, .int l5_x21), (0, .ref (hw tt)), (1, .long xv)])) => ?_)
        refine lv_iload hx hb dX8_divideSmall_56 (lv_at hl 3 rfl) ?_
        refine W.cut (pc := 82) (fun H locs ls stk => ∃ (k0_j12 : Int32), (0 ≤ k0_j12.toInt ∧ k0_j12.toInt ≤ 14) ∧  stk = [.int k0_j12] ∧ va_P (dC, dI) vwCl (WW nW hw lw kw wl wb u57) H ∧ va_D A (WW nW hw lw kw wl wb u57) ∧ va_S A s.heap H locs ∧ lv_has ls 9 [(3, .long v58), (7, .long v55), (6, .int l6_x21), (5, .int l5_x21), (0, .ref (hw tt)), (1, .long xv)]) (fun join12 => ?_) ?_
        · refine lv_if_ne (tgt := 80) hx hb dX8_divideSmall_58 (by decide) (fun c_58 => ?_) (fun c_58 => ?_)
          · have t_58 : l5_x21.toInt ≠ 0 := toI_ne c_58 rfl (by decide : (0 : Int32).toInt = 0)
            refine lv_iload hx hb dX8_divideSmall_80 (lv_at hl 3 rfl) ?_
            have hl : lv_has _ _ ([(3, .long v58), (7, .long v55), (6, .int l6_x21), (5, .int l5_x21), (0, .ref (hw tt)), (1, .long xv)]) := lv_sub hl [0, 1, 2, 3, 4, 5] rfl
            exact join12 _ _ _ _ ⟨l5_x21, (b_l5_x21), rfl, hP, hD, hS, hl⟩
          · have t_58 : l5_x21.toInt = 0 := toI_nne c_58 rfl (by decide : (0 : Int32).toInt = 0)
            refine lv_aload_n hx hb dX8_divideSmall_61 rfl (lv_at hl 4 rfl) ?_
            refine va_get (D := (dC, dI)) (ci := 8) (v := .ref (lw tt)) (C := RX8) (T := TX8) (N := 3) hx hb hts iwsMX8_divideSmall_in8 hown hK hP (tt) (WW_o (by omega)) rfl 0 (by decide) (hts _ hm_m_X8_divideSmall_1) (fun _ h9 => h9) rfl dX8_divideSmall_62 ?_
            refine lv_iload hx hb dX8_divideSmall_65 (lv_at hl 2 rfl) ?_
            refine va_lald (cA := kw) (n := 14) (f := (u57 tt)) hx hb hK hP (nW + tt) 0 (WW_a (by omega)) rfl (vp_in_iff.mpr ⟨(by omega), (Int.lt_of_le_of_lt (b_l6_x21.2) (by decide))⟩) dX8_divideSmall_67 ?_
            refine lv_topl (fun v61 hv61 => ?_)
            clear hv61
            refine lv_lconst (v := 0) hx hb dX8_divideSmall_68 (by decide) ?_
            refine W.lcmp hx hb dX8_divideSmall_69 ?_
            refine lv_if_eq (tgt := 80) hx hb dX8_divideSmall_70 (by decide) (fun c_70 => ?_) (fun c_70 => ?_)
            · have t_70 : v61.toInt = 0 := toL_eq c_70 rfl (by decide : (0 : Int64).toInt = 0)
              refine lv_iload hx hb dX8_divideSmall_80 (lv_at hl 3 rfl) ?_
              have hl : lv_has _ _ ([(3, .long v58), (7, .long v55), (6, .int l6_x21), (5, .int l5_x21), (0, .ref (hw tt)), (1, .long xv)]) := lv_sub hl [0, 1, 2, 3, 4, 5] rfl
              exact join12 _ _ _ _ ⟨l5_x21, (b_l5_x21), rfl, hP, hD, hS, hl⟩
            · have t_70 : ¬ v61.toInt = 0 := toL_neq c_70 rfl (by decide : (0 : Int64).toInt = 0)
              refine lv_iload hx hb dX8_divideSmall_73 (lv_at hl 2 rfl) ?_
              refine lv_iconst (v := 1) hx hb dX8_divideSmall_75 (by decide) ?_
              refine lv_iadd hx hb dX8_divideSmall_76 ?_
              refine lv_topi (fun y62 hy62 => ?_)
              obtain rfl : (iI (l6_x21.toInt + 1)) = y62 := (hy62.trans (iI_add2 (iI_of _) (by decide : (1 : Int32) = iI 1))).symm
              refine lv_goto (tgt := 82) hx hb dX8_divideSmall_77 (by decide) ?_
              have hl : lv_has _ _ ([(3, .long v58), (7, .long v55), (6, .int l6_x21), (5, .int l5_x21), (0, .ref (hw tt)), (1, .long xv)]) := lv_sub hl [0, 1, 2, 3, 4, 5] rfl
              exact join12 _ _ _ _ ⟨(iI (l6_x21.toInt + 1)), (iI_rng (Int.le_trans (by decide) (Int.add_le_add (b_l6_x21.1) (Int.le_refl _))) (Int.le_trans (Int.add_le_add (b_l6_x21.2) (Int.le_refl _)) (by decide)) (by decide) (by decide)), rfl, hP, hD, hS, hl⟩
        · rintro H locs ls stk ⟨k0_j12, b_k0_j12, rfl, hP, hD, hS, hl⟩
          refine lv_istore hx hb dX8_divideSmall_82 hl (by decide) rfl (fun ls (hl : lv_has ls _ ([(5, .int k0_j12), (3, .long v58), (7, .long v55), (6, .int l6_x21), (0, .ref (hw tt)), (1, .long xv)])) => ?_)
          refine lv_iinc (v := (iI (l6_x21.toInt + (-1)))) hx hb dX8_divideSmall_84 hl (k := 3) rfl (iI_add2 (iI_of _) (by decide : ((-1) : Int32) = iI (-1))) (by decide) rfl (fun ls (hl : lv_has ls _ ([(6, .int (iI (l6_x21.toInt + (-1)))), (5, .int k0_j12), (3, .long v58), (7, .long v55), (0, .ref (hw tt)), (1, .long xv)])) => ?_)
          refine lv_goto (tgt := 21) hx hb dX8_divideSmall_87 (by decide) ?_
          have hl : lv_has _ _ ([(6, .int (iI (l6_x21.toInt + (-1)))), (5, .int k0_j12), (3, .long v58), (0, .ref (hw tt)), (1, .long xv)]) := lv_sub hl [0, 1, 2, 4, 5] rfl
          exact ihx21 u57 (iI (l6_x21.toInt + (-1))) k0_j12 v58 _ _ _ (iI_rng (by omega) (Int.le_trans (Int.add_le_add (b_l6_x21.2) (Int.le_refl _)) (by decide)) (by decide) (by decide)) (b_k0_j12) (by have e9 : ((iI (l6_x21.toInt + (-1)))).toInt = (l6_x21.toInt + (-1)) := (iI_t (Int.le_trans (by decide) (Int.add_le_add (b_l6_x21.1) (Int.le_refl _))) (Int.le_trans (Int.add_le_add (b_l6_x21.2) (Int.le_refl _)) (by decide))); omega) hP hD hS hl
  · have t_3 : ¬ xv.toInt > 0 := toL_ngt c_3 rfl (by decide : (0 : Int64).toInt = 0)
    refine lv_lconst (v := 0) hx hb dX8_divideSmall_6 (by decide) ?_
    refine W.widen (k := 0) (n := 0) (by decide +kernel) (by decide +kernel) ?_
    exact W.lret (v := 0) hx hb hr (fun t9_ ht hW => ⟨⟨(0 : Int64), (wl, wG), rfl, b_wl, by rw [ht]; exact hP, hD⟩, hS.F ht⟩) hS.2.2 dX8_divideSmall_7
theorem dX8_setShifted_0 : decode cX8_setShifted 0 = .ok (.lconst 0, 1) := dk_9 (by decide +kernel)
theorem dX8_setShifted_1 : decode cX8_setShifted 1 = .ok (.lstore_n 3, 1) := dk_66 (by decide +kernel)
theorem dX8_setShifted_2 : decode cX8_setShifted 2 = .ok (.iconst 0, 1) := dk_3 (by decide +kernel)
theorem dX8_setShifted_3 : decode cX8_setShifted 3 = .ok (.istore 5, 2) := dk_54 (by decide +kernel)
theorem dX8_setShifted_5 : decode cX8_setShifted 5 = .ok (.iload 5, 2) := dk_21 (by decide +kernel)
theorem dX8_setShifted_7 : decode cX8_setShifted 7 = .ok (.aload_n 1, 1) := dk_43 (by decide +kernel)
theorem dX8_setShifted_8 : decode cX8_setShifted 8 = .ok (.getfield 17, 3) := dk_180 (by decide +kernel)
theorem dX8_setShifted_11 : decode cX8_setShifted 11 = .ok (.if_icmp .ge 41, 3) := dk_162 (by decide +kernel)
theorem dX8_setShifted_14 : decode cX8_setShifted 14 = .ok (.aload_n 1, 1) := dk_43 (by decide +kernel)
theorem dX8_setShifted_15 : decode cX8_setShifted 15 = .ok (.getfield 9, 3) := dk_180 (by decide +kernel)
theorem dX8_setShifted_18 : decode cX8_setShifted 18 = .ok (.iload 5, 2) := dk_21 (by decide +kernel)
theorem dX8_setShifted_20 : decode cX8_setShifted 20 = .ok (.laload, 1) := dk_47 (by decide +kernel)
theorem dX8_setShifted_21 : decode cX8_setShifted 21 = .ok (.iload_n 2, 1) := dk_28 (by decide +kernel)
theorem dX8_setShifted_22 : decode cX8_setShifted 22 = .ok (.lshl, 1) := dk_121 (by decide +kernel)
theorem dX8_setShifted_23 : decode cX8_setShifted 23 = .ok (.lload_n 3, 1) := dk_33 (by decide +kernel)
theorem dX8_setShifted_24 : decode cX8_setShifted 24 = .ok (.lor, 1) := dk_129 (by decide +kernel)
theorem dX8_setShifted_25 : decode cX8_setShifted 25 = .ok (.lstore 6, 2) := dk_55 (by decide +kernel)
theorem dX8_setShifted_27 : decode cX8_setShifted 27 = .ok (.aload_n 0, 1) := dk_42 (by decide +kernel)
theorem dX8_setShifted_28 : decode cX8_setShifted 28 = .ok (.getfield 9, 3) := dk_180 (by decide +kernel)
theorem dX8_setShifted_31 : decode cX8_setShifted 31 = .ok (.iload 5, 2) := dk_21 (by decide +kernel)
theorem dX8_setShifted_33 : decode cX8_setShifted 33 = .ok (.lload 6, 2) := dk_22 (by decide +kernel)
theorem dX8_setShifted_35 : decode cX8_setShifted 35 = .ok (.ldc2_w 21, 3) := dk_20 (by decide +kernel)
theorem dX8_setShifted_38 : decode cX8_setShifted 38 = .ok (.land, 1) := dk_127 (by decide +kernel)
theorem dX8_setShifted_39 : decode cX8_setShifted 39 = .ok (.lastore, 1) := dk_80 (by decide +kernel)
theorem dX8_setShifted_40 : decode cX8_setShifted 40 = .ok (.lload 6, 2) := dk_22 (by decide +kernel)
theorem dX8_setShifted_42 : decode cX8_setShifted 42 = .ok (.bipush 30, 2) := dk_16 (by decide +kernel)
theorem dX8_setShifted_44 : decode cX8_setShifted 44 = .ok (.lushr, 1) := dk_125 (by decide +kernel)
theorem dX8_setShifted_45 : decode cX8_setShifted 45 = .ok (.lstore_n 3, 1) := dk_66 (by decide +kernel)
theorem dX8_setShifted_46 : decode cX8_setShifted 46 = .ok (.iinc 5 1, 3) := dk_132 (by decide +kernel)
theorem dX8_setShifted_49 : decode cX8_setShifted 49 = .ok (.goto (-44), 3) := dk_167 (by decide +kernel)
theorem dX8_setShifted_52 : decode cX8_setShifted 52 = .ok (.aload_n 0, 1) := dk_42 (by decide +kernel)
theorem dX8_setShifted_53 : decode cX8_setShifted 53 = .ok (.getfield 9, 3) := dk_180 (by decide +kernel)
theorem dX8_setShifted_56 : decode cX8_setShifted 56 = .ok (.aload_n 1, 1) := dk_43 (by decide +kernel)
theorem dX8_setShifted_57 : decode cX8_setShifted 57 = .ok (.getfield 17, 3) := dk_180 (by decide +kernel)
theorem dX8_setShifted_60 : decode cX8_setShifted 60 = .ok (.lload_n 3, 1) := dk_33 (by decide +kernel)
theorem dX8_setShifted_61 : decode cX8_setShifted 61 = .ok (.lastore, 1) := dk_80 (by decide +kernel)
theorem dX8_setShifted_62 : decode cX8_setShifted 62 = .ok (.aload_n 0, 1) := dk_42 (by decide +kernel)
theorem dX8_setShifted_63 : decode cX8_setShifted 63 = .ok (.aload_n 1, 1) := dk_43 (by decide +kernel)
theorem dX8_setShifted_64 : decode cX8_setShifted 64 = .ok (.getfield 17, 3) := dk_180 (by decide +kernel)
theorem dX8_setShifted_67 : decode cX8_setShifted 67 = .ok (.iconst 1, 1) := dk_4 (by decide +kernel)
theorem dX8_setShifted_68 : decode cX8_setShifted 68 = .ok (.iadd, 1) := dk_96 (by decide +kernel)
theorem dX8_setShifted_69 : decode cX8_setShifted 69 = .ok (.putfield 17, 3) := dk_181 (by decide +kernel)
theorem dX8_setShifted_72 : decode cX8_setShifted 72 = .ok (.return_, 1) := dk_177 (by decide +kernel)
def wsMX8_setShifted : List Cond := .code yX8_setShifted cX8_setShifted 8 none :: ([.fieldLink RX8 17 "OptimaWorks$Whole" "length" "I", .fieldLink RX8 9 "OptimaWorks$Whole" "limb" "[J", .constantLong RX8 21 1073741823] ++ wsX80)
theorem iwsMX8_setShifted_in8 : ∀ w ∈ wsX80, w ∈ wsMX8_setShifted := fun _ h => List.mem_cons_of_mem _ (List.mem_append_right _ h)
theorem gdwsMX8_setShifted : wsMX8_setShifted.all goodWord = true := gdC rfl (gdA (by decide +kernel : ([.fieldLink RX8 17 "OptimaWorks$Whole" "length" "I", .fieldLink RX8 9 "OptimaWorks$Whole" "limb" "[J", .constantLong RX8 21 1073741823] : List Cond).all goodWord = true) gdwsX80)
theorem hm_m_X8_setShifted_0 : (.fieldLink RX8 17 "OptimaWorks$Whole" "length" "I" : Cond) ∈ wsMX8_setShifted := by decide +kernel
theorem hm_m_X8_setShifted_1 : (.fieldLink RX8 9 "OptimaWorks$Whole" "limb" "[J" : Cond) ∈ wsMX8_setShifted := by decide +kernel
set_option maxHeartbeats 4000000 in
set_option maxRecDepth 100000 in
/-- shifted -/
theorem m_X8_setShifted (l : Launch) (dC : Nat → ClassId) (dI : Nat → Nat → Nat) (nW : Nat) (hw : Nat → Nat) (lw : Nat → Nat) (kw : ClassId) (wl : Nat → Int32) (wb : Nat → Int32) (wG : Nat → Nat → Int64) (tt : Nat) (ta : Nat) (p1 : Int32) (b_wl : ∀ q : Nat, 0 ≤ (wl q).toInt ∧ (wl q).toInt ≤ 14) (b_wb : ∀ q : Nat, 0 ≤ (wb q).toInt ∧ (wb q).toInt ≤ 1) (htt : tt < nW) (hta : ta < nW) (hl13 : (wl ta).toInt ≤ 13) (sz : Nat) : Met l yX8_setShifted wsMX8_setShifted ({ frames := 0, cells := 0, slots := 0, locals := 0 }) (va_Pc [.ref (hw tt), .ref (hw ta), .int p1] (fun U => U.heap.size = sz ∧ va_P (dC, dI) vwCl (WW nW hw lw kw wl wb wG) U.heap ∧ va_K (dC, dI) vwCl (tW kw) U ∧ va_D (fun _ => True) (WW nW hw lw kw wl wb wG))) (va_Qv (fun (u : (Nat → Int32) × (Nat → Nat → Int64)) => (∀ q : Nat, 0 ≤ ((u.1) q).toInt ∧ ((u.1) q).toInt ≤ 14) ∧ (∀ q : Nat, q ≠ tt → (u.1) q = wl q)) (fun (u : (Nat → Int32) × (Nat → Nat → Int64)) t => va_P (dC, dI) vwCl (WW nW hw lw kw (u.1) wb (u.2)) t.heap ∧ va_D (va_A (WW nW hw lw kw wl wb wG) sz) (WW nW hw lw kw (u.1) wb (u.2))) (va_A (WW nW hw lw kw wl wb wG) sz)) 0 0 (va_A (WW nW hw lw kw wl wb wG) sz) := by
  refine Met.ofW (cc := cX8_setShifted) (maxL := 8) (ret := none) (by decide) rfl ?_
  intro p e s m args below meth c s₁ B hml hv
  obtain ⟨rfl, hsz, hP, hK, hD0⟩ := hv
  have hx := B.exec
  have hb := B.bytes
  have hr := B.returns
  have hts := atoms_spec (ws := wsMX8_setShifted) B.pre
  have hown : s.vm.findClass RX8 = some m.cls := findClass_of_methodNamed B.named
  have hlocks := B.notSynchronized
  subst hsz
  have hD := hD0.self (sz := s.heap.size)
  generalize hAe : va_A (WW nW hw lw kw wl wb wG) s.heap.size = A at hD ⊢
  have hA : ∀ q : Nat, s.heap.size ≤ q → A q := fun q h => by rw [← hAe]; exact Or.inr h
  have hS : va_S A s.heap s.heap [] := va_S.rf
  have hl := lv_entry ([.ref (hw tt), .ref (hw ta), .int p1]) (n := 8) (Nat.le_of_ble_eq_true rfl)
  rw [lg_entry_eq]
  generalize (lg_sl ([.ref (hw tt), .ref (hw ta), .int p1]) ++ List.replicate (8 - (lg_sl ([.ref (hw tt), .ref (hw ta), .int p1])).length) Slot.unset).toArray = ls at hl ⊢
  have hl : lv_has ls 8 [(0, .ref (hw tt)), (1, .ref (hw ta)), (2, .int p1)] := hl
  refine lv_lconst (v := 0) hx hb dX8_setShifted_0 (by decide) ?_
  refine lv_lstore_n hx hb dX8_setShifted_1 rfl hl (by decide) rfl (fun ls (hl : lv_has ls _ ([(3, .long 0), (0, .ref (hw tt)), (1, .ref (hw ta)), (2, .int p1)])) => ?_)
  refine lv_iconst (v := 0) hx hb dX8_setShifted_2 (by decide) ?_
  refine lv_istore hx hb dX8_setShifted_3 hl (by decide) rfl (fun ls (hl : lv_has ls _ ([(5, .int 0), (3, .long 0), (0, .ref (hw tt)), (1, .ref (hw ta)), (2, .int p1)])) => ?_)
  have hl : lv_has _ _ ([(5, .int 0), (3, .long 0), (0, .ref (hw tt)), (1, .ref (hw ta)), (2, .int p1)]) := lv_sub hl [0, 1, 2, 3, 4] rfl
  refine (fun (loop : ∀ (n9 : Nat) (wG_x5 : Nat → Nat → Int64) (l5_x5 : Int32) (l3_x5 : Int64) (H : Heap) (locs : List Loc) (ls : Array Slot), (0 ≤ l5_x5.toInt ∧ l5_x5.toInt ≤ 13) → (13 - l5_x5.toInt < ((n9 : Nat) : Int)) → va_P (dC, dI) vwCl (WW nW hw lw kw wl wb wG_x5) H → va_D A (WW nW hw lw kw wl wb wG_x5) → va_S A s.heap H locs → lv_has ls 8 [(5, .int l5_x5), (3, .long l3_x5), (0, .ref (hw tt)), (1, .ref (hw ta)), (2, .int p1)] → W p l e _ s m _ below meth c H locs 0 0 _ (F0 m 5 ls [])) => loop (14) wG 0 0 _ _ _ (show 0 ≤ (0 : Int32).toInt ∧ (0 : Int32).toInt ≤ 13 from by decide) ((by have e9 : (0 : Int32).toInt = 0 := (by decide : (0 : Int32).toInt = 0); omega)) hP hD hS hl) ?_
  intro n9
  induction n9 with
  | zero => intro wG_x5 l5_x5 l3_x5 H locs ls b_l5_x5 hf9; exact False.elim (by omega)
  | succ n9 ihx5 =>
    intro wG_x5 l5_x5 l3_x5 H locs ls b_l5_x5 hfx5 hP hD hS hl
    refine lv_iload hx hb dX8_setShifted_5 (lv_at hl 0 rfl) ?_
    refine lv_aload_n hx hb dX8_setShifted_7 rfl (lv_at hl 3 rfl) ?_
    refine va_get (D := (dC, dI)) (ci := 8) (v := .int (wl ta)) (C := RX8) (T := TX8) (N := 3) hx hb hts iwsMX8_setShifted_in8 hown hK hP (ta) (WW_o (by omega)) rfl 1 (by decide) (hts _ hm_m_X8_setShifted_0) (fun _ h9 => h9) rfl dX8_setShifted_8 ?_
    have br8 := b_wl ta
    refine lv_icmp_ge (tgt := 52) hx hb dX8_setShifted_11 (by decide) (fun c_11 => ?_) (fun c_11 => ?_)
    · have t_11 : l5_x5.toInt ≥ (wl ta).toInt := toI_ge c_11 rfl rfl
      refine lv_aload_n hx hb dX8_setShifted_52 rfl (lv_at hl 2 rfl) ?_
      refine va_get (D := (dC, dI)) (ci := 8) (v := .ref (lw tt)) (C := RX8) (T := TX8) (N := 3) hx hb hts iwsMX8_setShifted_in8 hown hK hP (tt) (WW_o (by omega)) rfl 0 (by decide) (hts _ hm_m_X8_setShifted_1) (fun _ h9 => h9) rfl dX8_setShifted_53 ?_
      refine lv_aload_n hx hb dX8_setShifted_56 rfl (lv_at hl 3 rfl) ?_
      refine va_get (D := (dC, dI)) (ci := 8) (v := .int (wl ta)) (C := RX8) (T := TX8) (N := 3) hx hb hts iwsMX8_setShifted_in8 hown hK hP (ta) (WW_o (by omega)) rfl 1 (by decide) (hts _ hm_m_X8_setShifted_0) (fun _ h9 => h9) rfl dX8_setShifted_57 ?_
      have br57 := b_wl ta
      refine lv_lload_n hx hb dX8_setShifted_60 rfl (lv_at hl 1 rfl) ?_
      refine va_last (cA := kw) (n := 14) (f := (wG_x5 tt)) hx hb hK hP hD hS (nW + tt) 0 (WW_a (by omega)) rfl (vp_in_iff.mpr ⟨(by omega), (by omega)⟩) dX8_setShifted_61 (fun H locs hP hD hS => ?_)
      obtain ⟨u37, hu37⟩ : ∃ f9, f9 = fT wG_x5 tt (vp_updL (wG_x5 tt) ((wl ta)).toNatClampNeg l3_x5) := ⟨_, rfl⟩
      have hP : va_P (dC, dI) vwCl (WW nW hw lw kw wl wb u37) H := by rw [hu37]; exact Eq.mp (congrArg (fun z9 => va_P (dC, dI) vwCl z9 H) (WW_sg (by omega) (vp_updL (wG_x5 tt) ((wl ta)).toNatClampNeg l3_x5))) hP
      have hD : va_D A (WW nW hw lw kw wl wb u37) := by rw [hu37]; exact Eq.mp (congrArg (fun z9 => va_D A z9) (WW_sg (by omega) (vp_updL (wG_x5 tt) ((wl ta)).toNatClampNeg l3_x5))) hD
      clear hu37
      refine lv_aload_n hx hb dX8_setShifted_62 rfl (lv_at hl 2 rfl) ?_
      refine lv_aload_n hx hb dX8_setShifted_63 rfl (lv_at hl 3 rfl) ?_
      refine va_get (D := (dC, dI)) (ci := 8) (v := .int (wl ta)) (C := RX8) (T := TX8) (N := 3) hx hb hts iwsMX8_setShifted_in8 hown hK hP (ta) (WW_o (by omega)) rfl 1 (by decide) (hts _ hm_m_X8_setShifted_0) (fun _ h9 => h9) rfl dX8_setShifted_64 ?_
      have br64 := b_wl ta
      refine lv_iconst (v := 1) hx hb dX8_setShifted_67 (by decide) ?_
      refine lv_iadd hx hb dX8_setShifted_68 ?_
      refine lv_topi (fun y38 hy38 => ?_)
      obtain rfl : (iI ((wl ta).toInt + 1)) = y38 := (hy38.trans (iI_add2 (iI_of _) (by decide : (1 : Int32) = iI 1))).symm
      refine va_put (D := (dC, dI)) (ci := 8) (v := .int (iI ((wl ta).toInt + 1))) (ty := .int) (C := RX8) (T := TX8) (N := 3) hx hb hts iwsMX8_setShifted_in8 tyX8 tyX8_ok nmX8 hown hK hP hD hS (tt) (WW_o (by omega)) rfl 1 (by decide) (hts _ hm_m_X8_setShifted_0) (fun _ h9 => h9) rfl (by decide +kernel) rfl rfl (Nat.le_of_ble_eq_true rfl) dX8_setShifted_69 (fun H locs hP hD hS => ?_)
      obtain ⟨u39, hu39⟩ : ∃ f9, f9 = fT wl tt (iI ((wl ta).toInt + 1)) := ⟨_, rfl⟩
      have hP : va_P (dC, dI) vwCl (WW nW hw lw kw u39 wb u37) H := by rw [hu39]; exact Eq.mp (congrArg (fun z9 => va_P (dC, dI) vwCl z9 H) (WW_sl (by omega) (iI ((wl ta).toInt + 1)))) hP
      have hD : va_D A (WW nW hw lw kw u39 wb u37) := by rw [hu39]; exact Eq.mp (congrArg (fun z9 => va_D A z9) (WW_sl (by omega) (iI ((wl ta).toInt + 1)))) hD
      have fr_u39 : ∀ q9 : Nat, q9 ≠ tt → u39 q9 = wl q9 := fun q9 h9 => by rw [hu39, fT_ne _ _ h9]
      have b_u39 : ∀ q : Nat, 0 ≤ (u39 q).toInt ∧ (u39 q).toInt ≤ 14 := by rw [hu39]; exact fT_r b_wl (iI_rng (by omega) (by omega) (by decide) (by decide))
      have q_u39 : (u39 tt).toInt = ((wl ta).toInt + 1) := by rw [hu39, fT_eq]; exact (iI_t (by omega) (by omega))
      clear hu39
      refine W.widen (k := 0) (n := 0) (by decide +kernel) (by decide +kernel) ?_
      exact W.vret hx hb hr (fun t9_ ht hW => ⟨⟨(u39, u37), rfl, ⟨b_u39, (by (try dsimp only); exact (fun q hq => by rw [fr_u39 q hq]))⟩, by rw [ht]; exact hP, hD⟩, hS.F ht⟩) hS.2.2 dX8_setShifted_72
    · have t_11 : ¬ l5_x5.toInt ≥ (wl ta).toInt := toI_nge c_11 rfl rfl
      refine lv_aload_n hx hb dX8_setShifted_14 rfl (lv_at hl 3 rfl) ?_
      refine va_get (D := (dC, dI)) (ci := 8) (v := .ref (lw ta)) (C := RX8) (T := TX8) (N := 3) hx hb hts iwsMX8_setShifted_in8 hown hK hP (ta) (WW_o (by omega)) rfl 0 (by decide) (hts _ hm_m_X8_setShifted_1) (fun _ h9 => h9) rfl dX8_setShifted_15 ?_
      refine lv_iload hx hb dX8_setShifted_18 (lv_at hl 0 rfl) ?_
      refine va_lald (cA := kw) (n := 14) (f := (wG_x5 ta)) hx hb hK hP (nW + ta) 0 (WW_a (by omega)) rfl (vp_in_iff.mpr ⟨b_l5_x5.1, (Int.lt_of_le_of_lt (b_l5_x5.2) (by decide))⟩) dX8_setShifted_20 ?_
      refine lv_topl (fun v40 hv40 => ?_)
      clear hv40
      refine lv_iload_n hx hb dX8_setShifted_21 rfl (lv_at hl 4 rfl) ?_
      refine lv_lshl hx hb dX8_setShifted_22 rfl ?_
      refine lv_topl (fun v41 hv41 => ?_)
      clear hv41
      refine lv_lload_n hx hb dX8_setShifted_23 rfl (lv_at hl 1 rfl) ?_
      refine lv_lor hx hb dX8_setShifted_24 ?_
      refine lv_topl (fun v42 hv42 => ?_)
      clear hv42
      refine lv_lstore hx hb dX8_setShifted_25 hl (by decide) rfl (fun ls (hl : lv_has ls _ ([(6, .long v42), (5, .int l5_x5), (3, .long l3_x5), (0, .ref (hw tt)), (1, .ref (hw ta)), (2, .int p1)])) => ?_)
      refine lv_aload_n hx hb dX8_setShifted_27 rfl (lv_at hl 3 rfl) ?_
      refine va_get (D := (dC, dI)) (ci := 8) (v := .ref (lw tt)) (C := RX8) (T := TX8) (N := 3) hx hb hts iwsMX8_setShifted_in8 hown hK hP (tt) (WW_o (by omega)) rfl 0 (by decide) (hts _ hm_m_X8_setShifted_1) (fun _ h9 => h9) rfl dX8_setShifted_28 ?_
      refine lv_iload hx hb dX8_setShifted_31 (lv_at hl 1 rfl) ?_
      refine lv_lload hx hb dX8_setShifted_33 (lv_at hl 0 rfl) ?_
      refine lv_ldc2 (v := 1073741823) hx hb hown (hts (.constantLong RX8 21 1073741823) (by decide +kernel)) dX8_setShifted_35 ?_
      refine lv_land hx hb dX8_setShifted_38 ?_
      refine lv_topl (fun v43 hv43 => ?_)
      clear hv43
      refine va_last (cA := kw) (n := 14) (f := (wG_x5 tt)) hx hb hK hP hD hS (nW + tt) 0 (WW_a (by omega)) rfl (vp_in_iff.mpr ⟨b_l5_x5.1, (Int.lt_of_le_of_lt (b_l5_x5.2) (by decide))⟩) dX8_setShifted_39 (fun H locs hP hD hS => ?_)
      obtain ⟨u44, hu44⟩ : ∃ f9, f9 = fT wG_x5 tt (vp_updL (wG_x5 tt) (l5_x5).toNatClampNeg v43) := ⟨_, rfl⟩
      have hP : va_P (dC, dI) vwCl (WW nW hw lw kw wl wb u44) H := by rw [hu44]; exact Eq.mp (congrArg (fun z9 => va_P (dC, dI) vwCl z9 H) (WW_sg (by omega) (vp_updL (wG_x5 tt) (l5_x5).toNatClampNeg v43))) hP
      have hD : va_D A (WW nW hw lw kw wl wb u44) := by rw [hu44]; exact Eq.mp (congrArg (fun z9 => va_D A z9) (WW_sg (by omega) (vp_updL (wG_x5 tt) (l5_x5).toNatClampNeg v43))) hD
      clear hu44
      refine lv_lload hx hb dX8_setShifted_40 (lv_at hl 0 rfl) ?_
      refine lv_bipush (v := 30) hx hb dX8_setShifted_42 (by decide) ?_
      refine lv_lushr hx hb dX8_setShifted_44 rfl ?_
      refine lv_topl (fun v45 hv45 => ?_)
      clear hv45
      refine lv_lstore_n hx hb dX8_setShifted_45 rfl hl (by decide) rfl (fun ls (hl : lv_has ls _ ([(3, .long v45), (6, .long v42), (5, .int l5_x5), (0, .ref (hw tt)), (1, .ref (hw ta)), (2, .int p1)])) => ?_)
      refine lv_iinc (v := (iI (l5_x5.toInt + 1))) hx hb dX8_setShifted_46 hl (k := 2) rfl (iI_add2 (iI_of _) (by decide : (1 : Int32) = iI 1)) (by decide) rfl (fun ls (hl : lv_has ls _ ([(5, .int (iI (l5_x5.toInt + 1))), (3, .long v45), (6, .long v42), (0, .ref (hw tt)), (1, .ref (hw ta)), (2, .int p1)])) => ?_)
      refine lv_goto (tgt := 5) hx hb dX8_setShifted_49 (by decide) ?_
      have hl : lv_has _ _ ([(5, .int (iI (l5_x5.toInt + 1))), (3, .long v45), (0, .ref (hw tt)), (1, .ref (hw ta)), (2, .int p1)]) := lv_sub hl [0, 1, 3, 4, 5] rfl
      exact ihx5 u44 (iI (l5_x5.toInt + 1)) v45 _ _ _ (iI_rng (Int.le_trans (by decide) (Int.add_le_add (b_l5_x5.1) (Int.le_refl _))) (by omega) (by decide) (by decide)) (by have e9 : ((iI (l5_x5.toInt + 1))).toInt = (l5_x5.toInt + 1) := (iI_t (Int.le_trans (by decide) (Int.add_le_add (b_l5_x5.1) (Int.le_refl _))) (Int.le_trans (Int.add_le_add (b_l5_x5.2) (Int.le_refl _)) (by decide))); omega) hP hD hS hl
theorem dX8_shiftBack_0 : decode cX8_shiftBack 0 = .ok (.lconst 0, 1) := dk_9 (by decide +kernel)
theorem dX8_shiftBack_1 : decode cX8_shiftBack 1 = .ok (.lstore_n 2, 1) := dk_65 (by decide +kernel)
theorem dX8_shiftBack_2 : decode cX8_shiftBack 2 = .ok (.aload_n 0, 1) := dk_42 (by decide +kernel)
theorem dX8_shiftBack_3 : decode cX8_shiftBack 3 = .ok (.getfield 17, 3) := dk_180 (by decide +kernel)
theorem dX8_shiftBack_6 : decode cX8_shiftBack 6 = .ok (.iconst 1, 1) := dk_4 (by decide +kernel)
theorem dX8_shiftBack_7 : decode cX8_shiftBack 7 = .ok (.isub, 1) := dk_100 (by decide +kernel)
theorem dX8_shiftBack_8 : decode cX8_shiftBack 8 = .ok (.istore 4, 2) := dk_54 (by decide +kernel)
theorem dX8_shiftBack_10 : decode cX8_shiftBack 10 = .ok (.iload 4, 2) := dk_21 (by decide +kernel)
theorem dX8_shiftBack_12 : decode cX8_shiftBack 12 = .ok (.ifCond .lt 43, 3) := dk_155 (by decide +kernel)
theorem dX8_shiftBack_15 : decode cX8_shiftBack 15 = .ok (.lload_n 2, 1) := dk_32 (by decide +kernel)
theorem dX8_shiftBack_16 : decode cX8_shiftBack 16 = .ok (.bipush 30, 2) := dk_16 (by decide +kernel)
theorem dX8_shiftBack_18 : decode cX8_shiftBack 18 = .ok (.lshl, 1) := dk_121 (by decide +kernel)
theorem dX8_shiftBack_19 : decode cX8_shiftBack 19 = .ok (.aload_n 0, 1) := dk_42 (by decide +kernel)
theorem dX8_shiftBack_20 : decode cX8_shiftBack 20 = .ok (.getfield 9, 3) := dk_180 (by decide +kernel)
theorem dX8_shiftBack_23 : decode cX8_shiftBack 23 = .ok (.iload 4, 2) := dk_21 (by decide +kernel)
theorem dX8_shiftBack_25 : decode cX8_shiftBack 25 = .ok (.laload, 1) := dk_47 (by decide +kernel)
theorem dX8_shiftBack_26 : decode cX8_shiftBack 26 = .ok (.lor, 1) := dk_129 (by decide +kernel)
theorem dX8_shiftBack_27 : decode cX8_shiftBack 27 = .ok (.lstore 5, 2) := dk_55 (by decide +kernel)
theorem dX8_shiftBack_29 : decode cX8_shiftBack 29 = .ok (.aload_n 0, 1) := dk_42 (by decide +kernel)
theorem dX8_shiftBack_30 : decode cX8_shiftBack 30 = .ok (.getfield 9, 3) := dk_180 (by decide +kernel)
theorem dX8_shiftBack_33 : decode cX8_shiftBack 33 = .ok (.iload 4, 2) := dk_21 (by decide +kernel)
theorem dX8_shiftBack_35 : decode cX8_shiftBack 35 = .ok (.lload 5, 2) := dk_22 (by decide +kernel)
theorem dX8_shiftBack_37 : decode cX8_shiftBack 37 = .ok (.iload_n 1, 1) := dk_27 (by decide +kernel)
theorem dX8_shiftBack_38 : decode cX8_shiftBack 38 = .ok (.lushr, 1) := dk_125 (by decide +kernel)
theorem dX8_shiftBack_39 : decode cX8_shiftBack 39 = .ok (.lastore, 1) := dk_80 (by decide +kernel)
theorem dX8_shiftBack_40 : decode cX8_shiftBack 40 = .ok (.lload 5, 2) := dk_22 (by decide +kernel)
theorem dX8_shiftBack_42 : decode cX8_shiftBack 42 = .ok (.lconst 1, 1) := dk_10 (by decide +kernel)
theorem dX8_shiftBack_43 : decode cX8_shiftBack 43 = .ok (.iload_n 1, 1) := dk_27 (by decide +kernel)
theorem dX8_shiftBack_44 : decode cX8_shiftBack 44 = .ok (.lshl, 1) := dk_121 (by decide +kernel)
theorem dX8_shiftBack_45 : decode cX8_shiftBack 45 = .ok (.lconst 1, 1) := dk_10 (by decide +kernel)
theorem dX8_shiftBack_46 : decode cX8_shiftBack 46 = .ok (.lsub, 1) := dk_101 (by decide +kernel)
theorem dX8_shiftBack_47 : decode cX8_shiftBack 47 = .ok (.land, 1) := dk_127 (by decide +kernel)
theorem dX8_shiftBack_48 : decode cX8_shiftBack 48 = .ok (.lstore_n 2, 1) := dk_65 (by decide +kernel)
theorem dX8_shiftBack_49 : decode cX8_shiftBack 49 = .ok (.iinc 4 (-1), 3) := dk_132 (by decide +kernel)
theorem dX8_shiftBack_52 : decode cX8_shiftBack 52 = .ok (.goto (-42), 3) := dk_167 (by decide +kernel)
theorem dX8_shiftBack_55 : decode cX8_shiftBack 55 = .ok (.return_, 1) := dk_177 (by decide +kernel)
def wsMX8_shiftBack : List Cond := .code yX8_shiftBack cX8_shiftBack 7 none :: ([.fieldLink RX8 17 "OptimaWorks$Whole" "length" "I", .fieldLink RX8 9 "OptimaWorks$Whole" "limb" "[J"] ++ wsX80)
theorem iwsMX8_shiftBack_in8 : ∀ w ∈ wsX80, w ∈ wsMX8_shiftBack := fun _ h => List.mem_cons_of_mem _ (List.mem_append_right _ h)
theorem gdwsMX8_shiftBack : wsMX8_shiftBack.all goodWord = true := gdC rfl (gdA (by decide +kernel : ([.fieldLink RX8 17 "OptimaWorks$Whole" "length" "I", .fieldLink RX8 9 "OptimaWorks$Whole" "limb" "[J"] : List Cond).all goodWord = true) gdwsX80)
theorem hm_m_X8_shiftBack_0 : (.fieldLink RX8 9 "OptimaWorks$Whole" "limb" "[J" : Cond) ∈ wsMX8_shiftBack := by decide +kernel
set_option maxHeartbeats 4000000 in
set_option maxRecDepth 100000 in
/-- shifted back -/
theorem m_X8_shiftBack (l : Launch) (dC : Nat → ClassId) (dI : Nat → Nat → Nat) (nW : Nat) (hw : Nat → Nat) (lw : Nat → Nat) (kw : ClassId) (wl : Nat → Int32) (wb : Nat → Int32) (wG : Nat → Nat → Int64) (tt : Nat) (p1 : Int32) (b_wl : ∀ q : Nat, 0 ≤ (wl q).toInt ∧ (wl q).toInt ≤ 14) (b_wb : ∀ q : Nat, 0 ≤ (wb q).toInt ∧ (wb q).toInt ≤ 1) (htt : tt < nW) (sz : Nat) : Met l yX8_shiftBack wsMX8_shiftBack ({ frames := 0, cells := 0, slots := 0, locals := 0 }) (va_Pc [.ref (hw tt), .int p1] (fun U => U.heap.size = sz ∧ va_P (dC, dI) vwCl (WW nW hw lw kw wl wb wG) U.heap ∧ va_K (dC, dI) vwCl (tW kw) U ∧ va_D (fun _ => True) (WW nW hw lw kw wl wb wG))) (va_Qv (fun (u : Nat → Nat → Int64) => True) (fun (u : Nat → Nat → Int64) t => va_P (dC, dI) vwCl (WW nW hw lw kw wl wb u) t.heap ∧ va_D (va_A (WW nW hw lw kw wl wb wG) sz) (WW nW hw lw kw wl wb u)) (va_A (WW nW hw lw kw wl wb wG) sz)) 0 0 (va_A (WW nW hw lw kw wl wb wG) sz) := by
  refine Met.ofW (cc := cX8_shiftBack) (maxL := 7) (ret := none) (by decide) rfl ?_
  intro p e s m args below meth c s₁ B hml hv
  obtain ⟨rfl, hsz, hP, hK, hD0⟩ := hv
  have hx := B.exec
  have hb := B.bytes
  have hr := B.returns
  have hts := atoms_spec (ws := wsMX8_shiftBack) B.pre
  have hown : s.vm.findClass RX8 = some m.cls := findClass_of_methodNamed B.named
  have hlocks := B.notSynchronized
  subst hsz
  have hD := hD0.self (sz := s.heap.size)
  generalize hAe : va_A (WW nW hw lw kw wl wb wG) s.heap.size = A at hD ⊢
  have hA : ∀ q : Nat, s.heap.size ≤ q → A q := fun q h => by rw [← hAe]; exact Or.inr h
  have hS : va_S A s.heap s.heap [] := va_S.rf
  have hl := lv_entry ([.ref (hw tt), .int p1]) (n := 7) (Nat.le_of_ble_eq_true rfl)
  rw [lg_entry_eq]
  generalize (lg_sl ([.ref (hw tt), .int p1]) ++ List.replicate (7 - (lg_sl ([.ref (hw tt), .int p1])).length) Slot.unset).toArray = ls at hl ⊢
  have hl : lv_has ls 7 [(0, .ref (hw tt)), (1, .int p1)] := hl
  refine lv_lconst (v := 0) hx hb dX8_shiftBack_0 (by decide) ?_
  refine lv_lstore_n hx hb dX8_shiftBack_1 rfl hl (by decide) rfl (fun ls (hl : lv_has ls _ ([(2, .long 0), (0, .ref (hw tt)), (1, .int p1)])) => ?_)
  refine lv_aload_n hx hb dX8_shiftBack_2 rfl (lv_at hl 1 rfl) ?_
  refine va_get (D := (dC, dI)) (ci := 8) (v := .int (wl tt)) (C := RX8) (T := TX8) (N := 3) hx hb hts iwsMX8_shiftBack_in8 hown hK hP (tt) (WW_o (by omega)) rfl 1 (by decide) (hts (.fieldLink RX8 17 "OptimaWorks$Whole" "length" "I") (by decide +kernel)) (fun _ h9 => h9) rfl dX8_shiftBack_3 ?_
  have br3 := b_wl tt
  refine lv_iconst (v := 1) hx hb dX8_shiftBack_6 (by decide) ?_
  refine lv_isub hx hb dX8_shiftBack_7 ?_
  refine lv_topi (fun y1 hy1 => ?_)
  obtain rfl : (iI ((wl tt).toInt - 1)) = y1 := (hy1.trans (iI_sub2 (iI_of _) (by decide : (1 : Int32) = iI 1))).symm
  refine lv_istore hx hb dX8_shiftBack_8 hl (by decide) rfl (fun ls (hl : lv_has ls _ ([(4, .int (iI ((wl tt).toInt - 1))), (2, .long 0), (0, .ref (hw tt)), (1, .int p1)])) => ?_)
  have hl : lv_has _ _ ([(4, .int (iI ((wl tt).toInt - 1))), (2, .long 0), (0, .ref (hw tt)), (1, .int p1)]) := lv_sub hl [0, 1, 2, 3] rfl
  refine (fun (loop : ∀ (n9 : Nat) (wG_x10 : Nat → Nat → Int64) (l4_x10 : Int32) (l2_x10 : Int64) (H : Heap) (locs : List Loc) (ls : Array Slot), ((-1) ≤ l4_x10.toInt ∧ l4_x10.toInt ≤ 13) → (l4_x10.toInt - (-1) < ((n9 : Nat) : Int)) → va_P (dC, dI) vwCl (WW nW hw lw kw wl wb wG_x10) H → va_D A (WW nW hw lw kw wl wb wG_x10) → va_S A s.heap H locs → lv_has ls 7 [(4, .int l4_x10), (2, .long l2_x10), (0, .ref (hw tt)), (1, .int p1)] → W p l e _ s m _ below meth c H locs 0 0 _ (F0 m 10 ls [])) => loop (15) wG (iI ((wl tt).toInt - 1)) 0 _ _ _ (iI_rng (by omega) (by omega) (by decide) (by decide)) ((by have e9 : ((iI ((wl tt).toInt - 1))).toInt = ((wl tt).toInt - 1) := (iI_t (by omega) (by omega)); omega)) hP hD hS hl) ?_
  intro n9
  induction n9 with
  | zero => intro wG_x10 l4_x10 l2_x10 H locs ls b_l4_x10 hf9; exact False.elim (by omega)
  | succ n9 ihx10 =>
    intro wG_x10 l4_x10 l2_x10 H locs ls b_l4_x10 hfx10 hP hD hS hl
    refine lv_iload hx hb dX8_shiftBack_10 (lv_at hl 0 rfl) ?_
    refine lv_if_lt (tgt := 55) hx hb dX8_shiftBack_12 (by decide) (fun c_12 => ?_) (fun c_12 => ?_)
    · have t_12 : l4_x10.toInt < 0 := toI_lt c_12 rfl (by decide : (0 : Int32).toInt = 0)
      refine W.widen (k := 0) (n := 0) (by decide +kernel) (by decide +kernel) ?_
      exact W.vret hx hb hr (fun t9_ ht hW => ⟨⟨wG_x10, rfl, trivial, by rw [ht]; exact hP, hD⟩, hS.F ht⟩) hS.2.2 dX8_shiftBack_55
    · have t_12 : ¬ l4_x10.toInt < 0 := toI_nlt c_12 rfl (by decide : (0 : Int32).toInt = 0)
      refine lv_lload_n hx hb dX8_shiftBack_15 rfl (lv_at hl 1 rfl) ?_
      refine lv_bipush (v := 30) hx hb dX8_shiftBack_16 (by decide) ?_
      refine lv_lshl hx hb dX8_shiftBack_18 rfl ?_
      refine lv_topl (fun v42 hv42 => ?_)
      clear hv42
      refine lv_aload_n hx hb dX8_shiftBack_19 rfl (lv_at hl 2 rfl) ?_
      refine va_get (D := (dC, dI)) (ci := 8) (v := .ref (lw tt)) (C := RX8) (T := TX8) (N := 3) hx hb hts iwsMX8_shiftBack_in8 hown hK hP (tt) (WW_o (by omega)) rfl 0 (by decide) (hts _ hm_m_X8_shiftBack_0) (fun _ h9 => h9) rfl dX8_shiftBack_20 ?_
      refine lv_iload hx hb dX8_shiftBack_23 (lv_at hl 0 rfl) ?_
      refine va_lald (cA := kw) (n := 14) (f := (wG_x10 tt)) hx hb hK hP (nW + tt) 0 (WW_a (by omega)) rfl (vp_in_iff.mpr ⟨(by omega), (Int.lt_of_le_of_lt (b_l4_x10.2) (by decide))⟩) dX8_shiftBack_25 ?_
      refine lv_topl (fun v43 hv43 => ?_)
      clear hv43
      refine lv_lor hx hb dX8_shiftBack_26 ?_
      refine lv_topl (fun v44 hv44 => ?_)
      clear hv44
      refine lv_lstore hx hb dX8_shiftBack_27 hl (by decide) rfl (fun ls (hl : lv_has ls _ ([(5, .long v44), (4, .int l4_x10), (2, .long l2_x10), (0, .ref (hw tt)), (1, .int p1)])) => ?_)
      refine lv_aload_n hx hb dX8_shiftBack_29 rfl (lv_at hl 3 rfl) ?_
      refine va_get (D := (dC, dI)) (ci := 8) (v := .ref (lw tt)) (C := RX8) (T := TX8) (N := 3) hx hb hts iwsMX8_shiftBack_in8 hown hK hP (tt) (WW_o (by omega)) rfl 0 (by decide) (hts _ hm_m_X8_shiftBack_0) (fun _ h9 => h9) rfl dX8_shiftBack_30 ?_
      refine lv_iload hx hb dX8_shiftBack_33 (lv_at hl 1 rfl) ?_
      refine lv_lload hx hb dX8_shiftBack_35 (lv_at hl 0 rfl) ?_
      refine lv_iload_n hx hb dX8_shiftBack_37 rfl (lv_at hl 4 rfl) ?_
      refine lv_lushr hx hb dX8_shiftBack_38 rfl ?_
      refine lv_topl (fun v45 hv45 => ?_)
      clear hv45
      refine va_last (cA := kw) (n := 14) (f := (wG_x10 tt)) hx hb hK hP hD hS (nW + tt) 0 (WW_a (by omega)) rfl (vp_in_iff.mpr ⟨(by omega), (Int.lt_of_le_of_lt (b_l4_x10.2) (by decide))⟩) dX8_shiftBack_39 (fun H locs hP hD hS => ?_)
      obtain ⟨u46, hu46⟩ : ∃ f9, f9 = fT wG_x10 tt (vp_updL (wG_x10 tt) (l4_x10).toNatClampNeg v45) := ⟨_, rfl⟩
      have hP : va_P (dC, dI) vwCl (WW nW hw lw kw wl wb u46) H := by rw [hu46]; exact Eq.mp (congrArg (fun z9 => va_P (dC, dI) vwCl z9 H) (WW_sg (by omega) (vp_updL (wG_x10 tt) (l4_x10).toNatClampNeg v45))) hP
      have hD : va_D A (WW nW hw lw kw wl wb u46) := by rw [hu46]; exact Eq.mp (congrArg (fun z9 => va_D A z9) (WW_sg (by omega) (vp_updL (wG_x10 tt) (l4_x10).toNatClampNeg v45))) hD
      clear hu46
      refine lv_lload hx hb dX8_shiftBack_40 (lv_at hl 0 rfl) ?_
      refine lv_lconst (v := 1) hx hb dX8_shiftBack_42 (by decide) ?_
      refine lv_iload_n hx hb dX8_shiftBack_43 rfl (lv_at hl 4 rfl) ?_
      refine lv_lshl hx hb dX8_shiftBack_44 rfl ?_
      refine lv_topl (fun v47 hv47 => ?_)
      clear hv47
      refine lv_lconst (v := 1) hx hb dX8_shiftBack_45 (by decide) ?_
      refine lv_lsub hx hb dX8_shiftBack_46 ?_
      refine lv_topl (fun v48 hv48 => ?_)
      clear hv48
      refine lv_land hx hb dX8_shiftBack_47 ?_
      refine lv_topl (fun v49 hv49 => ?_)
      clear hv49
      refine lv_lstore_n hx hb dX8_shiftBack_48 rfl hl (by decide) rfl (fun ls (hl : lv_has ls _ ([(2, .long v49), (5, .long v44), (4, .int l4_x10), (0, .ref (hw tt)), (1, .int p1)])) => ?_)
      refine lv_iinc (v := (iI (l4_x10.toInt + (-1)))) hx hb dX8_shiftBack_49 hl (k := 2) rfl (iI_add2 (iI_of _) (by decide : ((-1) : Int32) = iI (-1))) (by decide) rfl (fun ls (hl : lv_has ls _ ([(4, .int (iI (l4_x10.toInt + (-1)))), (2, .long v49), (5, .long v44), (0, .ref (hw tt)), (1, .int p1)])) => ?_)
      refine lv_goto (tgt := 10) hx hb dX8_shiftBack_52 (by decide) ?_
      have hl : lv_has _ _ ([(4, .int (iI (l4_x10.toInt + (-1)))), (2, .long v49), (0, .ref (hw tt)), (1, .int p1)]) := lv_sub hl [0, 1, 3, 4] rfl
      exact ihx10 u46 (iI (l4_x10.toInt + (-1))) v49 _ _ _ (iI_rng (by omega) (Int.le_trans (Int.add_le_add (b_l4_x10.2) (Int.le_refl _)) (by decide)) (by decide) (by decide)) (by have e9 : ((iI (l4_x10.toInt + (-1)))).toInt = (l4_x10.toInt + (-1)) := (iI_t (Int.le_trans (by decide) (Int.add_le_add (b_l4_x10.1) (Int.le_refl _))) (Int.le_trans (Int.add_le_add (b_l4_x10.2) (Int.le_refl _)) (by decide))); omega) hP hD hS hl
theorem dX8_takeTimes_0 : decode cX8_takeTimes 0 = .ok (.aload_n 1, 1) := dk_43 (by decide +kernel)
theorem dX8_takeTimes_1 : decode cX8_takeTimes 1 = .ok (.getfield 9, 3) := dk_180 (by decide +kernel)
theorem dX8_takeTimes_4 : decode cX8_takeTimes 4 = .ok (.iload_n 2, 1) := dk_28 (by decide +kernel)
theorem dX8_takeTimes_5 : decode cX8_takeTimes 5 = .ok (.iconst 1, 1) := dk_4 (by decide +kernel)
theorem dX8_takeTimes_6 : decode cX8_takeTimes 6 = .ok (.isub, 1) := dk_100 (by decide +kernel)
theorem dX8_takeTimes_7 : decode cX8_takeTimes 7 = .ok (.laload, 1) := dk_47 (by decide +kernel)
theorem dX8_takeTimes_8 : decode cX8_takeTimes 8 = .ok (.lstore 4, 2) := dk_55 (by decide +kernel)
theorem dX8_takeTimes_10 : decode cX8_takeTimes 10 = .ok (.lload 4, 2) := dk_22 (by decide +kernel)
theorem dX8_takeTimes_12 : decode cX8_takeTimes 12 = .ok (.lconst 0, 1) := dk_9 (by decide +kernel)
theorem dX8_takeTimes_13 : decode cX8_takeTimes 13 = .ok (.lcmp, 1) := dk_148 (by decide +kernel)
theorem dX8_takeTimes_14 : decode cX8_takeTimes 14 = .ok (.ifCond .ne 5, 3) := dk_154 (by decide +kernel)
theorem dX8_takeTimes_17 : decode cX8_takeTimes 17 = .ok (.lconst 0, 1) := dk_9 (by decide +kernel)
theorem dX8_takeTimes_18 : decode cX8_takeTimes 18 = .ok (.lreturn, 1) := dk_173 (by decide +kernel)
theorem dX8_takeTimes_19 : decode cX8_takeTimes 19 = .ok (.aload_n 0, 1) := dk_42 (by decide +kernel)
theorem dX8_takeTimes_20 : decode cX8_takeTimes 20 = .ok (.getfield 9, 3) := dk_180 (by decide +kernel)
theorem dX8_takeTimes_23 : decode cX8_takeTimes 23 = .ok (.iload_n 2, 1) := dk_28 (by decide +kernel)
theorem dX8_takeTimes_24 : decode cX8_takeTimes 24 = .ok (.iload_n 3, 1) := dk_29 (by decide +kernel)
theorem dX8_takeTimes_25 : decode cX8_takeTimes 25 = .ok (.iadd, 1) := dk_96 (by decide +kernel)
theorem dX8_takeTimes_26 : decode cX8_takeTimes 26 = .ok (.laload, 1) := dk_47 (by decide +kernel)
theorem dX8_takeTimes_27 : decode cX8_takeTimes 27 = .ok (.bipush 30, 2) := dk_16 (by decide +kernel)
theorem dX8_takeTimes_29 : decode cX8_takeTimes 29 = .ok (.lshl, 1) := dk_121 (by decide +kernel)
theorem dX8_takeTimes_30 : decode cX8_takeTimes 30 = .ok (.aload_n 0, 1) := dk_42 (by decide +kernel)
theorem dX8_takeTimes_31 : decode cX8_takeTimes 31 = .ok (.getfield 9, 3) := dk_180 (by decide +kernel)
theorem dX8_takeTimes_34 : decode cX8_takeTimes 34 = .ok (.iload_n 2, 1) := dk_28 (by decide +kernel)
theorem dX8_takeTimes_35 : decode cX8_takeTimes 35 = .ok (.iload_n 3, 1) := dk_29 (by decide +kernel)
theorem dX8_takeTimes_36 : decode cX8_takeTimes 36 = .ok (.iadd, 1) := dk_96 (by decide +kernel)
theorem dX8_takeTimes_37 : decode cX8_takeTimes 37 = .ok (.iconst 1, 1) := dk_4 (by decide +kernel)
theorem dX8_takeTimes_38 : decode cX8_takeTimes 38 = .ok (.isub, 1) := dk_100 (by decide +kernel)
theorem dX8_takeTimes_39 : decode cX8_takeTimes 39 = .ok (.laload, 1) := dk_47 (by decide +kernel)
theorem dX8_takeTimes_40 : decode cX8_takeTimes 40 = .ok (.lor, 1) := dk_129 (by decide +kernel)
theorem dX8_takeTimes_41 : decode cX8_takeTimes 41 = .ok (.lstore 6, 2) := dk_55 (by decide +kernel)
theorem dX8_takeTimes_43 : decode cX8_takeTimes 43 = .ok (.lload 6, 2) := dk_22 (by decide +kernel)
theorem dX8_takeTimes_45 : decode cX8_takeTimes 45 = .ok (.lload 4, 2) := dk_22 (by decide +kernel)
theorem dX8_takeTimes_47 : decode cX8_takeTimes 47 = .ok (.ldiv, 1) := dk_109 (by decide +kernel)
theorem dX8_takeTimes_48 : decode cX8_takeTimes 48 = .ok (.lstore 8, 2) := dk_55 (by decide +kernel)
theorem dX8_takeTimes_50 : decode cX8_takeTimes 50 = .ok (.lload 6, 2) := dk_22 (by decide +kernel)
theorem dX8_takeTimes_52 : decode cX8_takeTimes 52 = .ok (.lload 4, 2) := dk_22 (by decide +kernel)
theorem dX8_takeTimes_54 : decode cX8_takeTimes 54 = .ok (.lrem, 1) := dk_113 (by decide +kernel)
theorem dX8_takeTimes_55 : decode cX8_takeTimes 55 = .ok (.lstore 10, 2) := dk_55 (by decide +kernel)
theorem dX8_takeTimes_57 : decode cX8_takeTimes 57 = .ok (.iconst 0, 1) := dk_3 (by decide +kernel)
theorem dX8_takeTimes_58 : decode cX8_takeTimes 58 = .ok (.istore 12, 2) := dk_54 (by decide +kernel)
theorem dX8_takeTimes_60 : decode cX8_takeTimes 60 = .ok (.iload 12, 2) := dk_21 (by decide +kernel)
theorem dX8_takeTimes_62 : decode cX8_takeTimes 62 = .ok (.iconst 3, 1) := dk_6 (by decide +kernel)
theorem dX8_takeTimes_63 : decode cX8_takeTimes 63 = .ok (.if_icmp .ge 74, 3) := dk_162 (by decide +kernel)
theorem dX8_takeTimes_66 : decode cX8_takeTimes 66 = .ok (.lload 10, 2) := dk_22 (by decide +kernel)
theorem dX8_takeTimes_68 : decode cX8_takeTimes 68 = .ok (.ldc2_w 21, 3) := dk_20 (by decide +kernel)
theorem dX8_takeTimes_71 : decode cX8_takeTimes 71 = .ok (.lcmp, 1) := dk_148 (by decide +kernel)
theorem dX8_takeTimes_72 : decode cX8_takeTimes 72 = .ok (.ifCond .gt 65, 3) := dk_157 (by decide +kernel)
theorem dX8_takeTimes_75 : decode cX8_takeTimes 75 = .ok (.lload 8, 2) := dk_22 (by decide +kernel)
theorem dX8_takeTimes_77 : decode cX8_takeTimes 77 = .ok (.ldc2_w 21, 3) := dk_20 (by decide +kernel)
theorem dX8_takeTimes_80 : decode cX8_takeTimes 80 = .ok (.lcmp, 1) := dk_148 (by decide +kernel)
theorem dX8_takeTimes_81 : decode cX8_takeTimes 81 = .ok (.ifCond .gt 37, 3) := dk_157 (by decide +kernel)
theorem dX8_takeTimes_84 : decode cX8_takeTimes 84 = .ok (.lload 8, 2) := dk_22 (by decide +kernel)
theorem dX8_takeTimes_86 : decode cX8_takeTimes 86 = .ok (.aload_n 1, 1) := dk_43 (by decide +kernel)
theorem dX8_takeTimes_87 : decode cX8_takeTimes 87 = .ok (.getfield 9, 3) := dk_180 (by decide +kernel)
theorem dX8_takeTimes_90 : decode cX8_takeTimes 90 = .ok (.iload_n 2, 1) := dk_28 (by decide +kernel)
theorem dX8_takeTimes_91 : decode cX8_takeTimes 91 = .ok (.iconst 2, 1) := dk_5 (by decide +kernel)
theorem dX8_takeTimes_92 : decode cX8_takeTimes 92 = .ok (.isub, 1) := dk_100 (by decide +kernel)
theorem dX8_takeTimes_93 : decode cX8_takeTimes 93 = .ok (.laload, 1) := dk_47 (by decide +kernel)
theorem dX8_takeTimes_94 : decode cX8_takeTimes 94 = .ok (.lmul, 1) := dk_105 (by decide +kernel)
theorem dX8_takeTimes_95 : decode cX8_takeTimes 95 = .ok (.lload 10, 2) := dk_22 (by decide +kernel)
theorem dX8_takeTimes_97 : decode cX8_takeTimes 97 = .ok (.bipush 30, 2) := dk_16 (by decide +kernel)
theorem dX8_takeTimes_99 : decode cX8_takeTimes 99 = .ok (.lshl, 1) := dk_121 (by decide +kernel)
theorem dX8_takeTimes_100 : decode cX8_takeTimes 100 = .ok (.aload_n 0, 1) := dk_42 (by decide +kernel)
theorem dX8_takeTimes_101 : decode cX8_takeTimes 101 = .ok (.getfield 9, 3) := dk_180 (by decide +kernel)
theorem dX8_takeTimes_104 : decode cX8_takeTimes 104 = .ok (.iload_n 2, 1) := dk_28 (by decide +kernel)
theorem dX8_takeTimes_105 : decode cX8_takeTimes 105 = .ok (.iload_n 3, 1) := dk_29 (by decide +kernel)
theorem dX8_takeTimes_106 : decode cX8_takeTimes 106 = .ok (.iadd, 1) := dk_96 (by decide +kernel)
theorem dX8_takeTimes_107 : decode cX8_takeTimes 107 = .ok (.iconst 2, 1) := dk_5 (by decide +kernel)
theorem dX8_takeTimes_108 : decode cX8_takeTimes 108 = .ok (.isub, 1) := dk_100 (by decide +kernel)
theorem dX8_takeTimes_109 : decode cX8_takeTimes 109 = .ok (.laload, 1) := dk_47 (by decide +kernel)
theorem dX8_takeTimes_110 : decode cX8_takeTimes 110 = .ok (.lor, 1) := dk_129 (by decide +kernel)
theorem dX8_takeTimes_111 : decode cX8_takeTimes 111 = .ok (.lcmp, 1) := dk_148 (by decide +kernel)
theorem dX8_takeTimes_112 : decode cX8_takeTimes 112 = .ok (.ifCond .gt 6, 3) := dk_157 (by decide +kernel)
theorem dX8_takeTimes_115 : decode cX8_takeTimes 115 = .ok (.goto 22, 3) := dk_167 (by decide +kernel)
theorem dX8_takeTimes_118 : decode cX8_takeTimes 118 = .ok (.lload 8, 2) := dk_22 (by decide +kernel)
theorem dX8_takeTimes_120 : decode cX8_takeTimes 120 = .ok (.lconst 1, 1) := dk_10 (by decide +kernel)
theorem dX8_takeTimes_121 : decode cX8_takeTimes 121 = .ok (.lsub, 1) := dk_101 (by decide +kernel)
theorem dX8_takeTimes_122 : decode cX8_takeTimes 122 = .ok (.lstore 8, 2) := dk_55 (by decide +kernel)
theorem dX8_takeTimes_124 : decode cX8_takeTimes 124 = .ok (.lload 10, 2) := dk_22 (by decide +kernel)
theorem dX8_takeTimes_126 : decode cX8_takeTimes 126 = .ok (.lload 4, 2) := dk_22 (by decide +kernel)
theorem dX8_takeTimes_128 : decode cX8_takeTimes 128 = .ok (.ladd, 1) := dk_97 (by decide +kernel)
theorem dX8_takeTimes_129 : decode cX8_takeTimes 129 = .ok (.lstore 10, 2) := dk_55 (by decide +kernel)
theorem dX8_takeTimes_131 : decode cX8_takeTimes 131 = .ok (.iinc 12 1, 3) := dk_132 (by decide +kernel)
theorem dX8_takeTimes_134 : decode cX8_takeTimes 134 = .ok (.goto (-74), 3) := dk_167 (by decide +kernel)
theorem dX8_takeTimes_137 : decode cX8_takeTimes 137 = .ok (.lconst 0, 1) := dk_9 (by decide +kernel)
theorem dX8_takeTimes_138 : decode cX8_takeTimes 138 = .ok (.lstore 12, 2) := dk_55 (by decide +kernel)
theorem dX8_takeTimes_140 : decode cX8_takeTimes 140 = .ok (.iconst 0, 1) := dk_3 (by decide +kernel)
theorem dX8_takeTimes_141 : decode cX8_takeTimes 141 = .ok (.istore 14, 2) := dk_54 (by decide +kernel)
theorem dX8_takeTimes_143 : decode cX8_takeTimes 143 = .ok (.iload 14, 2) := dk_21 (by decide +kernel)
theorem dX8_takeTimes_145 : decode cX8_takeTimes 145 = .ok (.iload_n 2, 1) := dk_28 (by decide +kernel)
theorem dX8_takeTimes_146 : decode cX8_takeTimes 146 = .ok (.if_icmp .ge 57, 3) := dk_162 (by decide +kernel)
theorem dX8_takeTimes_149 : decode cX8_takeTimes 149 = .ok (.aload_n 0, 1) := dk_42 (by decide +kernel)
theorem dX8_takeTimes_150 : decode cX8_takeTimes 150 = .ok (.getfield 9, 3) := dk_180 (by decide +kernel)
theorem dX8_takeTimes_153 : decode cX8_takeTimes 153 = .ok (.iload 14, 2) := dk_21 (by decide +kernel)
theorem dX8_takeTimes_155 : decode cX8_takeTimes 155 = .ok (.iload_n 3, 1) := dk_29 (by decide +kernel)
theorem dX8_takeTimes_156 : decode cX8_takeTimes 156 = .ok (.iadd, 1) := dk_96 (by decide +kernel)
theorem dX8_takeTimes_157 : decode cX8_takeTimes 157 = .ok (.laload, 1) := dk_47 (by decide +kernel)
theorem dX8_takeTimes_158 : decode cX8_takeTimes 158 = .ok (.lload 8, 2) := dk_22 (by decide +kernel)
theorem dX8_takeTimes_160 : decode cX8_takeTimes 160 = .ok (.aload_n 1, 1) := dk_43 (by decide +kernel)
theorem dX8_takeTimes_161 : decode cX8_takeTimes 161 = .ok (.getfield 9, 3) := dk_180 (by decide +kernel)
theorem dX8_takeTimes_164 : decode cX8_takeTimes 164 = .ok (.iload 14, 2) := dk_21 (by decide +kernel)
theorem dX8_takeTimes_166 : decode cX8_takeTimes 166 = .ok (.laload, 1) := dk_47 (by decide +kernel)
theorem dX8_takeTimes_167 : decode cX8_takeTimes 167 = .ok (.lmul, 1) := dk_105 (by decide +kernel)
theorem dX8_takeTimes_168 : decode cX8_takeTimes 168 = .ok (.lsub, 1) := dk_101 (by decide +kernel)
theorem dX8_takeTimes_169 : decode cX8_takeTimes 169 = .ok (.lload 12, 2) := dk_22 (by decide +kernel)
theorem dX8_takeTimes_171 : decode cX8_takeTimes 171 = .ok (.lsub, 1) := dk_101 (by decide +kernel)
theorem dX8_takeTimes_172 : decode cX8_takeTimes 172 = .ok (.lstore 15, 2) := dk_55 (by decide +kernel)
theorem dX8_takeTimes_174 : decode cX8_takeTimes 174 = .ok (.aload_n 0, 1) := dk_42 (by decide +kernel)
theorem dX8_takeTimes_175 : decode cX8_takeTimes 175 = .ok (.getfield 9, 3) := dk_180 (by decide +kernel)
theorem dX8_takeTimes_178 : decode cX8_takeTimes 178 = .ok (.iload 14, 2) := dk_21 (by decide +kernel)
theorem dX8_takeTimes_180 : decode cX8_takeTimes 180 = .ok (.iload_n 3, 1) := dk_29 (by decide +kernel)
theorem dX8_takeTimes_181 : decode cX8_takeTimes 181 = .ok (.iadd, 1) := dk_96 (by decide +kernel)
theorem dX8_takeTimes_182 : decode cX8_takeTimes 182 = .ok (.lload 15, 2) := dk_22 (by decide +kernel)
theorem dX8_takeTimes_184 : decode cX8_takeTimes 184 = .ok (.ldc2_w 21, 3) := dk_20 (by decide +kernel)
theorem dX8_takeTimes_187 : decode cX8_takeTimes 187 = .ok (.land, 1) := dk_127 (by decide +kernel)
theorem dX8_takeTimes_188 : decode cX8_takeTimes 188 = .ok (.lastore, 1) := dk_80 (by decide +kernel)
theorem dX8_takeTimes_189 : decode cX8_takeTimes 189 = .ok (.lload 15, 2) := dk_22 (by decide +kernel)
theorem dX8_takeTimes_191 : decode cX8_takeTimes 191 = .ok (.bipush 30, 2) := dk_16 (by decide +kernel)
theorem dX8_takeTimes_193 : decode cX8_takeTimes 193 = .ok (.lshr, 1) := dk_123 (by decide +kernel)
theorem dX8_takeTimes_194 : decode cX8_takeTimes 194 = .ok (.lneg, 1) := dk_117 (by decide +kernel)
theorem dX8_takeTimes_195 : decode cX8_takeTimes 195 = .ok (.lstore 12, 2) := dk_55 (by decide +kernel)
theorem dX8_takeTimes_197 : decode cX8_takeTimes 197 = .ok (.iinc 14 1, 3) := dk_132 (by decide +kernel)
theorem dX8_takeTimes_200 : decode cX8_takeTimes 200 = .ok (.goto (-57), 3) := dk_167 (by decide +kernel)
theorem dX8_takeTimes_203 : decode cX8_takeTimes 203 = .ok (.aload_n 0, 1) := dk_42 (by decide +kernel)
theorem dX8_takeTimes_204 : decode cX8_takeTimes 204 = .ok (.getfield 9, 3) := dk_180 (by decide +kernel)
theorem dX8_takeTimes_207 : decode cX8_takeTimes 207 = .ok (.iload_n 2, 1) := dk_28 (by decide +kernel)
theorem dX8_takeTimes_208 : decode cX8_takeTimes 208 = .ok (.iload_n 3, 1) := dk_29 (by decide +kernel)
theorem dX8_takeTimes_209 : decode cX8_takeTimes 209 = .ok (.iadd, 1) := dk_96 (by decide +kernel)
theorem dX8_takeTimes_210 : decode cX8_takeTimes 210 = .ok (.laload, 1) := dk_47 (by decide +kernel)
theorem dX8_takeTimes_211 : decode cX8_takeTimes 211 = .ok (.lload 12, 2) := dk_22 (by decide +kernel)
theorem dX8_takeTimes_213 : decode cX8_takeTimes 213 = .ok (.lsub, 1) := dk_101 (by decide +kernel)
theorem dX8_takeTimes_214 : decode cX8_takeTimes 214 = .ok (.lstore 14, 2) := dk_55 (by decide +kernel)
theorem dX8_takeTimes_216 : decode cX8_takeTimes 216 = .ok (.aload_n 0, 1) := dk_42 (by decide +kernel)
theorem dX8_takeTimes_217 : decode cX8_takeTimes 217 = .ok (.getfield 9, 3) := dk_180 (by decide +kernel)
theorem dX8_takeTimes_220 : decode cX8_takeTimes 220 = .ok (.iload_n 2, 1) := dk_28 (by decide +kernel)
theorem dX8_takeTimes_221 : decode cX8_takeTimes 221 = .ok (.iload_n 3, 1) := dk_29 (by decide +kernel)
theorem dX8_takeTimes_222 : decode cX8_takeTimes 222 = .ok (.iadd, 1) := dk_96 (by decide +kernel)
theorem dX8_takeTimes_223 : decode cX8_takeTimes 223 = .ok (.lload 14, 2) := dk_22 (by decide +kernel)
theorem dX8_takeTimes_225 : decode cX8_takeTimes 225 = .ok (.ldc2_w 21, 3) := dk_20 (by decide +kernel)
theorem dX8_takeTimes_228 : decode cX8_takeTimes 228 = .ok (.land, 1) := dk_127 (by decide +kernel)
theorem dX8_takeTimes_229 : decode cX8_takeTimes 229 = .ok (.lastore, 1) := dk_80 (by decide +kernel)
theorem dX8_takeTimes_230 : decode cX8_takeTimes 230 = .ok (.lload 14, 2) := dk_22 (by decide +kernel)
theorem dX8_takeTimes_232 : decode cX8_takeTimes 232 = .ok (.lconst 0, 1) := dk_9 (by decide +kernel)
theorem dX8_takeTimes_233 : decode cX8_takeTimes 233 = .ok (.lcmp, 1) := dk_148 (by decide +kernel)
theorem dX8_takeTimes_234 : decode cX8_takeTimes 234 = .ok (.ifCond .lt 6, 3) := dk_155 (by decide +kernel)
theorem dX8_takeTimes_237 : decode cX8_takeTimes 237 = .ok (.lload 8, 2) := dk_22 (by decide +kernel)
theorem dX8_takeTimes_239 : decode cX8_takeTimes 239 = .ok (.lreturn, 1) := dk_173 (by decide +kernel)
theorem dX8_takeTimes_240 : decode cX8_takeTimes 240 = .ok (.lconst 0, 1) := dk_9 (by decide +kernel)
theorem dX8_takeTimes_241 : decode cX8_takeTimes 241 = .ok (.lstore 12, 2) := dk_55 (by decide +kernel)
theorem dX8_takeTimes_243 : decode cX8_takeTimes 243 = .ok (.iconst 0, 1) := dk_3 (by decide +kernel)
theorem dX8_takeTimes_244 : decode cX8_takeTimes 244 = .ok (.istore 16, 2) := dk_54 (by decide +kernel)
theorem dX8_takeTimes_246 : decode cX8_takeTimes 246 = .ok (.iload 16, 2) := dk_21 (by decide +kernel)
theorem dX8_takeTimes_248 : decode cX8_takeTimes 248 = .ok (.iload_n 2, 1) := dk_28 (by decide +kernel)
theorem dX8_takeTimes_249 : decode cX8_takeTimes 249 = .ok (.if_icmp .ge 53, 3) := dk_162 (by decide +kernel)
theorem dX8_takeTimes_252 : decode cX8_takeTimes 252 = .ok (.aload_n 0, 1) := dk_42 (by decide +kernel)
theorem dX8_takeTimes_253 : decode cX8_takeTimes 253 = .ok (.getfield 9, 3) := dk_180 (by decide +kernel)
theorem dX8_takeTimes_256 : decode cX8_takeTimes 256 = .ok (.iload 16, 2) := dk_21 (by decide +kernel)
theorem dX8_takeTimes_258 : decode cX8_takeTimes 258 = .ok (.iload_n 3, 1) := dk_29 (by decide +kernel)
theorem dX8_takeTimes_259 : decode cX8_takeTimes 259 = .ok (.iadd, 1) := dk_96 (by decide +kernel)
theorem dX8_takeTimes_260 : decode cX8_takeTimes 260 = .ok (.laload, 1) := dk_47 (by decide +kernel)
theorem dX8_takeTimes_261 : decode cX8_takeTimes 261 = .ok (.aload_n 1, 1) := dk_43 (by decide +kernel)
theorem dX8_takeTimes_262 : decode cX8_takeTimes 262 = .ok (.getfield 9, 3) := dk_180 (by decide +kernel)
theorem dX8_takeTimes_265 : decode cX8_takeTimes 265 = .ok (.iload 16, 2) := dk_21 (by decide +kernel)
theorem dX8_takeTimes_267 : decode cX8_takeTimes 267 = .ok (.laload, 1) := dk_47 (by decide +kernel)
theorem dX8_takeTimes_268 : decode cX8_takeTimes 268 = .ok (.ladd, 1) := dk_97 (by decide +kernel)
theorem dX8_takeTimes_269 : decode cX8_takeTimes 269 = .ok (.lload 12, 2) := dk_22 (by decide +kernel)
theorem dX8_takeTimes_271 : decode cX8_takeTimes 271 = .ok (.ladd, 1) := dk_97 (by decide +kernel)
theorem dX8_takeTimes_272 : decode cX8_takeTimes 272 = .ok (.lstore 17, 2) := dk_55 (by decide +kernel)
theorem dX8_takeTimes_274 : decode cX8_takeTimes 274 = .ok (.aload_n 0, 1) := dk_42 (by decide +kernel)
theorem dX8_takeTimes_275 : decode cX8_takeTimes 275 = .ok (.getfield 9, 3) := dk_180 (by decide +kernel)
theorem dX8_takeTimes_278 : decode cX8_takeTimes 278 = .ok (.iload 16, 2) := dk_21 (by decide +kernel)
theorem dX8_takeTimes_280 : decode cX8_takeTimes 280 = .ok (.iload_n 3, 1) := dk_29 (by decide +kernel)
theorem dX8_takeTimes_281 : decode cX8_takeTimes 281 = .ok (.iadd, 1) := dk_96 (by decide +kernel)
theorem dX8_takeTimes_282 : decode cX8_takeTimes 282 = .ok (.lload 17, 2) := dk_22 (by decide +kernel)
theorem dX8_takeTimes_284 : decode cX8_takeTimes 284 = .ok (.ldc2_w 21, 3) := dk_20 (by decide +kernel)
theorem dX8_takeTimes_287 : decode cX8_takeTimes 287 = .ok (.land, 1) := dk_127 (by decide +kernel)
theorem dX8_takeTimes_288 : decode cX8_takeTimes 288 = .ok (.lastore, 1) := dk_80 (by decide +kernel)
theorem dX8_takeTimes_289 : decode cX8_takeTimes 289 = .ok (.lload 17, 2) := dk_22 (by decide +kernel)
theorem dX8_takeTimes_291 : decode cX8_takeTimes 291 = .ok (.bipush 30, 2) := dk_16 (by decide +kernel)
theorem dX8_takeTimes_293 : decode cX8_takeTimes 293 = .ok (.lushr, 1) := dk_125 (by decide +kernel)
theorem dX8_takeTimes_294 : decode cX8_takeTimes 294 = .ok (.lstore 12, 2) := dk_55 (by decide +kernel)
theorem dX8_takeTimes_296 : decode cX8_takeTimes 296 = .ok (.iinc 16 1, 3) := dk_132 (by decide +kernel)
theorem dX8_takeTimes_299 : decode cX8_takeTimes 299 = .ok (.goto (-53), 3) := dk_167 (by decide +kernel)
theorem dX8_takeTimes_302 : decode cX8_takeTimes 302 = .ok (.aload_n 0, 1) := dk_42 (by decide +kernel)
theorem dX8_takeTimes_303 : decode cX8_takeTimes 303 = .ok (.getfield 9, 3) := dk_180 (by decide +kernel)
theorem dX8_takeTimes_306 : decode cX8_takeTimes 306 = .ok (.iload_n 2, 1) := dk_28 (by decide +kernel)
theorem dX8_takeTimes_307 : decode cX8_takeTimes 307 = .ok (.iload_n 3, 1) := dk_29 (by decide +kernel)
theorem dX8_takeTimes_308 : decode cX8_takeTimes 308 = .ok (.iadd, 1) := dk_96 (by decide +kernel)
theorem dX8_takeTimes_309 : decode cX8_takeTimes 309 = .ok (.aload_n 0, 1) := dk_42 (by decide +kernel)
theorem dX8_takeTimes_310 : decode cX8_takeTimes 310 = .ok (.getfield 9, 3) := dk_180 (by decide +kernel)
theorem dX8_takeTimes_313 : decode cX8_takeTimes 313 = .ok (.iload_n 2, 1) := dk_28 (by decide +kernel)
theorem dX8_takeTimes_314 : decode cX8_takeTimes 314 = .ok (.iload_n 3, 1) := dk_29 (by decide +kernel)
theorem dX8_takeTimes_315 : decode cX8_takeTimes 315 = .ok (.iadd, 1) := dk_96 (by decide +kernel)
theorem dX8_takeTimes_316 : decode cX8_takeTimes 316 = .ok (.laload, 1) := dk_47 (by decide +kernel)
theorem dX8_takeTimes_317 : decode cX8_takeTimes 317 = .ok (.lload 12, 2) := dk_22 (by decide +kernel)
theorem dX8_takeTimes_319 : decode cX8_takeTimes 319 = .ok (.ladd, 1) := dk_97 (by decide +kernel)
theorem dX8_takeTimes_320 : decode cX8_takeTimes 320 = .ok (.ldc2_w 21, 3) := dk_20 (by decide +kernel)
theorem dX8_takeTimes_323 : decode cX8_takeTimes 323 = .ok (.land, 1) := dk_127 (by decide +kernel)
theorem dX8_takeTimes_324 : decode cX8_takeTimes 324 = .ok (.lastore, 1) := dk_80 (by decide +kernel)
theorem dX8_takeTimes_325 : decode cX8_takeTimes 325 = .ok (.lload 8, 2) := dk_22 (by decide +kernel)
theorem dX8_takeTimes_327 : decode cX8_takeTimes 327 = .ok (.lconst 1, 1) := dk_10 (by decide +kernel)
theorem dX8_takeTimes_328 : decode cX8_takeTimes 328 = .ok (.lsub, 1) := dk_101 (by decide +kernel)
theorem dX8_takeTimes_329 : decode cX8_takeTimes 329 = .ok (.lreturn, 1) := dk_173 (by decide +kernel)
def wsMX8_takeTimes : List Cond := .code yX8_takeTimes cX8_takeTimes 19 (some .long) :: ([.fieldLink RX8 9 "OptimaWorks$Whole" "limb" "[J", .constantLong RX8 21 1073741823] ++ wsX80)
theorem iwsMX8_takeTimes_in8 : ∀ w ∈ wsX80, w ∈ wsMX8_takeTimes := fun _ h => List.mem_cons_of_mem _ (List.mem_append_right _ h)
theorem gdwsMX8_takeTimes : wsMX8_takeTimes.all goodWord = true := gdC rfl (gdA (by decide +kernel : ([.fieldLink RX8 9 "OptimaWorks$Whole" "limb" "[J", .constantLong RX8 21 1073741823] : List Cond).all goodWord = true) gdwsX80)
theorem hm_m_X8_takeTimes_0 : (.fieldLink RX8 9 "OptimaWorks$Whole" "limb" "[J" : Cond) ∈ wsMX8_takeTimes := by decide +kernel
theorem hm_m_X8_takeTimes_1 : (.constantLong RX8 21 1073741823 : Cond) ∈ wsMX8_takeTimes := by decide +kernel
set_option maxHeartbeats 4000000 in
set_option maxRecDepth 100000 in
/-- how many times -/
theorem m_X8_takeTimes (l : Launch) (dC : Nat → ClassId) (dI : Nat → Nat → Nat) (nW : Nat) (hw : Nat → Nat) (lw : Nat → Nat) (kw : ClassId) (wl : Nat → Int32) (wb : Nat → Int32) (wG : Nat → Nat → Int64) (tt : Nat) (ta : Nat) (p1 : Int32) (p2 : Int32) (b_wl : ∀ q : Nat, 0 ≤ (wl q).toInt ∧ (wl q).toInt ≤ 14) (b_wb : ∀ q : Nat, 0 ≤ (wb q).toInt ∧ (wb q).toInt ≤ 1) (b_p1 : 2 ≤ p1.toInt ∧ p1.toInt ≤ 13) (b_p2 : 0 ≤ p2.toInt ∧ p2.toInt ≤ 13) (htt : tt < nW) (hta : ta < nW) (hs13 : p1.toInt + p2.toInt ≤ 13) (sz : Nat) : Met l yX8_takeTimes wsMX8_takeTimes ({ frames := 0, cells := 0, slots := 0, locals := 0 }) (va_Pc [.ref (hw tt), .ref (hw ta), .int p1, .int p2] (fun U => U.heap.size = sz ∧ va_P (dC, dI) vwCl (WW nW hw lw kw wl wb wG) U.heap ∧ va_K (dC, dI) vwCl (tW kw) U ∧ va_D (fun _ => True) (WW nW hw lw kw wl wb wG))) (va_Ql (fun (r : Int64) (u : Nat → Nat → Int64) => True) (fun (u : Nat → Nat → Int64) t => va_P (dC, dI) vwCl (WW nW hw lw kw wl wb u) t.heap ∧ va_D (va_A (WW nW hw lw kw wl wb wG) sz) (WW nW hw lw kw wl wb u)) (va_A (WW nW hw lw kw wl wb wG) sz)) 0 0 (va_A (WW nW hw lw kw wl wb wG) sz) := by
  refine Met.ofW (cc := cX8_takeTimes) (maxL := 19) (ret := (some .long)) (by decide) rfl ?_
  intro p e s m args below meth c s₁ B hml hv
  obtain ⟨rfl, hsz, hP, hK, hD0⟩ := hv
  have hx := B.exec
  have hb := B.bytes
  have hr := B.returns
  have hts := atoms_spec (ws := wsMX8_takeTimes) B.pre
  have hown : s.vm.findClass RX8 = some m.cls := findClass_of_methodNamed B.named
  have hlocks := B.notSynchronized
  subst hsz
  have hD := hD0.self (sz := s.heap.size)
  generalize hAe : va_A (WW nW hw lw kw wl wb wG) s.heap.size = A at hD ⊢
  have hA : ∀ q : Nat, s.heap.size ≤ q → A q := fun q h => by rw [← hAe]; exact Or.inr h
  have hS : va_S A s.heap s.heap [] := va_S.rf
  have hl := lv_entry ([.ref (hw tt), .ref (hw ta), .int p1, .int p2]) (n := 19) (Nat.le_of_ble_eq_true rfl)
  rw [lg_entry_eq]
  generalize (lg_sl ([.ref (hw tt), .ref (hw ta), .int p1, .int p2]) ++ List.replicate (19 - (lg_sl ([.ref (hw tt), .ref (hw ta), .int p1, .int p2])).length) Slot.unset).toArray = ls at hl ⊢
  have hl : lv_has ls 19 [(0, .ref (hw tt)), (1, .ref (hw ta)), (2, .int p1), (3, .int p2)] := hl
  refine lv_aload_n hx hb dX8_takeTimes_0 rfl (lv_at hl 1 rfl) ?_
  refine va_get (D := (dC, dI)) (ci := 8) (v := .ref (lw ta)) (C := RX8) (T := TX8) (N := 3) hx hb hts iwsMX8_takeTimes_in8 hown hK hP (ta) (WW_o (by omega)) rfl 0 (by decide) (hts _ hm_m_X8_takeTimes_0) (fun _ h9 => h9) rfl dX8_takeTimes_1 ?_
  refine lv_iload_n hx hb dX8_takeTimes_4 rfl (lv_at hl 2 rfl) ?_
  refine lv_iconst (v := 1) hx hb dX8_takeTimes_5 (by decide) ?_
  refine lv_isub hx hb dX8_takeTimes_6 ?_
  refine lv_topi (fun y1 hy1 => ?_)
  obtain rfl : (iI (p1.toInt - 1)) = y1 := (hy1.trans (iI_sub2 (iI_of _) (by decide : (1 : Int32) = iI 1))).symm
  refine va_lald (cA := kw) (n := 14) (f := (wG ta)) hx hb hK hP (nW + ta) 0 (WW_a (by omega)) rfl (vp_iI (Int.le_trans (by decide) (Int.sub_le_sub (b_p1.1) (Int.le_refl _))) (Int.lt_of_le_of_lt (Int.sub_le_sub (b_p1.2) (Int.le_refl _)) (by decide)) (by decide)) dX8_takeTimes_7 ?_
  refine lv_topl (fun v2 hv2 => ?_)
  clear hv2
  refine lv_lstore hx hb dX8_takeTimes_8 hl (by decide) rfl (fun ls (hl : lv_has ls _ ([(4, .long v2), (0, .ref (hw tt)), (1, .ref (hw ta)), (2, .int p1), (3, .int p2)])) => ?_)
  refine lv_lload hx hb dX8_takeTimes_10 (lv_at hl 0 rfl) ?_
  refine lv_lconst (v := 0) hx hb dX8_takeTimes_12 (by decide) ?_
  refine W.lcmp hx hb dX8_takeTimes_13 ?_
  refine lv_if_ne (tgt := 19) hx hb dX8_takeTimes_14 (by decide) (fun c_14 => ?_) (fun c_14 => ?_)
  · have t_14 : v2.toInt ≠ 0 := toL_ne c_14 rfl (by decide : (0 : Int64).toInt = 0)
    refine lv_aload_n hx hb dX8_takeTimes_19 rfl (lv_at hl 1 rfl) ?_
    refine va_get (D := (dC, dI)) (ci := 8) (v := .ref (lw tt)) (C := RX8) (T := TX8) (N := 3) hx hb hts iwsMX8_takeTimes_in8 hown hK hP (tt) (WW_o (by omega)) rfl 0 (by decide) (hts _ hm_m_X8_takeTimes_0) (fun _ h9 => h9) rfl dX8_takeTimes_20 ?_
    refine lv_iload_n hx hb dX8_takeTimes_23 rfl (lv_at hl 3 rfl) ?_
    refine lv_iload_n hx hb dX8_takeTimes_24 rfl (lv_at hl 4 rfl) ?_
    refine lv_iadd hx hb dX8_takeTimes_25 ?_
    refine lv_topi (fun y3 hy3 => ?_)
    obtain rfl : (iI (p1.toInt + p2.toInt)) = y3 := (hy3.trans (iI_add2 (iI_of _) (iI_of _))).symm
    refine va_lald (cA := kw) (n := 14) (f := (wG tt)) hx hb hK hP (nW + tt) 0 (WW_a (by omega)) rfl (vp_iI (Int.le_trans (by decide) (Int.add_le_add (b_p1.1) (b_p2.1))) (by omega) (by decide)) dX8_takeTimes_26 ?_
    refine lv_topl (fun v4 hv4 => ?_)
    clear hv4
    refine lv_bipush (v := 30) hx hb dX8_takeTimes_27 (by decide) ?_
    refine lv_lshl hx hb dX8_takeTimes_29 rfl ?_
    refine lv_topl (fun v5 hv5 => ?_)
    clear hv5
    refine lv_aload_n hx hb dX8_takeTimes_30 rfl (lv_at hl 1 rfl) ?_
    refine va_get (D := (dC, dI)) (ci := 8) (v := .ref (lw tt)) (C := RX8) (T := TX8) (N := 3) hx hb hts iwsMX8_takeTimes_in8 hown hK hP (tt) (WW_o (by omega)) rfl 0 (by decide) (hts _ hm_m_X8_takeTimes_0) (fun _ h9 => h9) rfl dX8_takeTimes_31 ?_
    refine lv_iload_n hx hb dX8_takeTimes_34 rfl (lv_at hl 3 rfl) ?_
    refine lv_iload_n hx hb dX8_takeTimes_35 rfl (lv_at hl 4 rfl) ?_
    refine lv_iadd hx hb dX8_takeTimes_36 ?_
    refine lv_topi (fun y6 hy6 => ?_)
    obtain rfl : (iI (p1.toInt + p2.toInt)) = y6 := (hy6.trans (iI_add2 (iI_of _) (iI_of _))).symm
    refine lv_iconst (v := 1) hx hb dX8_takeTimes_37 (by decide) ?_
    refine lv_isub hx hb dX8_takeTimes_38 ?_
    refine lv_topi (fun y7 hy7 => ?_)
    obtain rfl : (iI ((p1.toInt + p2.toInt) - 1)) = y7 := (hy7.trans (iI_sub2 rfl (by decide : (1 : Int32) = iI 1))).symm
    refine va_lald (cA := kw) (n := 14) (f := (wG tt)) hx hb hK hP (nW + tt) 0 (WW_a (by omega)) rfl (vp_iI (Int.le_trans (by decide) (Int.sub_le_sub (Int.add_le_add (b_p1.1) (b_p2.1)) (Int.le_refl _))) (by omega) (by decide)) dX8_takeTimes_39 ?_
    refine lv_topl (fun v8 hv8 => ?_)
    clear hv8
    refine lv_lor hx hb dX8_takeTimes_40 ?_
    refine lv_topl (fun v9 hv9 => ?_)
    clear hv9
    refine lv_lstore hx hb dX8_takeTimes_41 hl (by decide) rfl (fun ls (hl : lv_has ls _ ([(6, .long v9), (4, .long v2), (0, .ref (hw tt)), (1, .ref (hw ta)), (2, .int p1), (3, .int p2)])) => ?_)
    refine lv_lload hx hb dX8_takeTimes_43 (lv_at hl 0 rfl) ?_
    refine lv_lload hx hb dX8_takeTimes_45 (lv_at hl 1 rfl) ?_
    refine lv_ldiv hx hb dX8_takeTimes_47 (nz_l (x := v2) rfl (by omega)) ?_
    refine lv_topl (fun v10 hv10 => ?_)
    clear hv10
    refine lv_lstore hx hb dX8_takeTimes_48 hl (by decide) rfl (fun ls (hl : lv_has ls _ ([(8, .long v10), (6, .long v9), (4, .long v2), (0, .ref (hw tt)), (1, .ref (hw ta)), (2, .int p1), (3, .int p2)])) => ?_)
    refine lv_lload hx hb dX8_takeTimes_50 (lv_at hl 1 rfl) ?_
    refine lv_lload hx hb dX8_takeTimes_52 (lv_at hl 2 rfl) ?_
    refine lv_lrem hx hb dX8_takeTimes_54 (nz_l (x := v2) rfl (by omega)) ?_
    refine lv_topl (fun v11 hv11 => ?_)
    clear hv11
    refine lv_lstore hx hb dX8_takeTimes_55 hl (by decide) rfl (fun ls (hl : lv_has ls _ ([(10, .long v11), (8, .long v10), (6, .long v9), (4, .long v2), (0, .ref (hw tt)), (1, .ref (hw ta)), (2, .int p1), (3, .int p2)])) => ?_)
    refine lv_iconst (v := 0) hx hb dX8_takeTimes_57 (by decide) ?_
    refine lv_istore hx hb dX8_takeTimes_58 hl (by decide) rfl (fun ls (hl : lv_has ls _ ([(12, .int 0), (10, .long v11), (8, .long v10), (6, .long v9), (4, .long v2), (0, .ref (hw tt)), (1, .ref (hw ta)), (2, .int p1), (3, .int p2)])) => ?_)
    have hl : lv_has _ _ ([(12, .int 0), (10, .long v11), (8, .long v10), (6, .long v9), (4, .long v2), (0, .ref (hw tt)), (1, .ref (hw ta)), (2, .int p1), (3, .int p2)]) := lv_sub hl [0, 1, 2, 3, 4, 5, 6, 7, 8] rfl
    refine (fun (loop : ∀ (n9 : Nat) (l12_x60 : Int32) (l10_x60 : Int64) (l8_x60 : Int64) (H : Heap) (locs : List Loc) (ls : Array Slot), (0 ≤ l12_x60.toInt ∧ l12_x60.toInt ≤ 3) → (3 - l12_x60.toInt < ((n9 : Nat) : Int)) → va_P (dC, dI) vwCl (WW nW hw lw kw wl wb wG) H → va_D A (WW nW hw lw kw wl wb wG) → va_S A s.heap H locs → lv_has ls 19 [(12, .int l12_x60), (10, .long l10_x60), (8, .long l8_x60), (6, .long v9), (4, .long v2), (0, .ref (hw tt)), (1, .ref (hw ta)), (2, .int p1), (3, .int p2)] → W p l e _ s m _ below meth c H locs 0 0 _ (F0 m 60 ls [])) => loop (4) 0 v11 v10 _ _ _ (show 0 ≤ (0 : Int32).toInt ∧ (0 : Int32).toInt ≤ 3 from by decide) ((by have e9 : (0 : Int32).toInt = 0 := (by decide : (0 : Int32).toInt = 0); omega)) hP hD hS hl) ?_
    intro n9
    induction n9 with
    | zero => intro l12_x60 l10_x60 l8_x60 H locs ls b_l12_x60 hf9; exact False.elim (by omega)
    | succ n9 ihx60 =>
      intro l12_x60 l10_x60 l8_x60 H locs ls b_l12_x60 hfx60 hP hD hS hl
      refine lv_iload hx hb dX8_takeTimes_60 (lv_at hl 0 rfl) ?_
      refine lv_iconst (v := 3) hx hb dX8_takeTimes_62 (by decide) ?_
      refine W.cut (pc := 137) (fun H locs ls stk =>  stk = [] ∧ va_P (dC, dI) vwCl (WW nW hw lw kw wl wb wG) H ∧ va_D A (WW nW hw lw kw wl wb wG) ∧ va_S A s.heap H locs ∧ lv_has ls 19 [(12, .int l12_x60), (10, .long l10_x60), (8, .long l8_x60), (6, .long v9), (4, .long v2), (0, .ref (hw tt)), (1, .ref (hw ta)), (2, .int p1), (3, .int p2)]) (fun join6 => ?_) ?_
      · refine lv_icmp_ge (tgt := 137) hx hb dX8_takeTimes_63 (by decide) (fun c_63 => ?_) (fun c_63 => ?_)
        · have t_63 : l12_x60.toInt ≥ 3 := toI_ge c_63 rfl (by decide : (3 : Int32).toInt = 3)
          have hl : lv_has _ _ ([(12, .int l12_x60), (10, .long l10_x60), (8, .long l8_x60), (6, .long v9), (4, .long v2), (0, .ref (hw tt)), (1, .ref (hw ta)), (2, .int p1), (3, .int p2)]) := lv_sub hl [0, 1, 2, 3, 4, 5, 6, 7, 8] rfl
          exact join6 _ _ _ _ ⟨rfl, hP, hD, hS, hl⟩
        · have t_63 : ¬ l12_x60.toInt ≥ 3 := toI_nge c_63 rfl (by decide : (3 : Int32).toInt = 3)
          refine lv_lload hx hb dX8_takeTimes_66 (lv_at hl 1 rfl) ?_
          refine lv_ldc2 (v := 1073741823) hx hb hown (hts _ hm_m_X8_takeTimes_1) dX8_takeTimes_68 ?_
          refine W.lcmp hx hb dX8_takeTimes_71 ?_
          refine lv_if_gt (tgt := 137) hx hb dX8_takeTimes_72 (by decide) (fun c_72 => ?_) (fun c_72 => ?_)
          · have t_72 : l10_x60.toInt > 1073741823 := toL_gt c_72 rfl (by decide : (1073741823 : Int64).toInt = 1073741823)
            have hl : lv_has _ _ ([(12, .int l12_x60), (10, .long l10_x60), (8, .long l8_x60), (6, .long v9), (4, .long v2), (0, .ref (hw tt)), (1, .ref (hw ta)), (2, .int p1), (3, .int p2)]) := lv_sub hl [0, 1, 2, 3, 4, 5, 6, 7, 8] rfl
            exact join6 _ _ _ _ ⟨rfl, hP, hD, hS, hl⟩
          · have t_72 : ¬ l10_x60.toInt > 1073741823 := toL_ngt c_72 rfl (by decide : (1073741823 : Int64).toInt = 1073741823)
            refine lv_lload hx hb dX8_takeTimes_75 (lv_at hl 2 rfl) ?_
            refine lv_ldc2 (v := 1073741823) hx hb hown (hts _ hm_m_X8_takeTimes_1) dX8_takeTimes_77 ?_
            refine W.lcmp hx hb dX8_takeTimes_80 ?_
            refine lv_if_gt (tgt := 118) hx hb dX8_takeTimes_81 (by decide) (fun c_81 => ?_) (fun c_81 => ?_)
            · have t_81 : l8_x60.toInt > 1073741823 := toL_gt c_81 rfl (by decide : (1073741823 : Int64).toInt = 1073741823)
              refine lv_lload hx hb dX8_takeTimes_118 (lv_at hl 2 rfl) ?_
              refine lv_lconst (v := 1) hx hb dX8_takeTimes_120 (by decide) ?_
              refine lv_lsub hx hb dX8_takeTimes_121 ?_
              refine lv_topl (fun v690 hv690 => ?_)
              clear hv690
              refine lv_lstore hx hb dX8_takeTimes_122 hl (by decide) rfl (fun ls (hl : lv_has ls _ ([(8, .long v690), (12, .int l12_x60), (10, .long l10_x60), (6, .long v9), (4, .long v2), (0, .ref (hw tt)), (1, .ref (hw ta)), (2, .int p1), (3, .int p2)])) => ?_)
              refine lv_lload hx hb dX8_takeTimes_124 (lv_at hl 2 rfl) ?_
              refine lv_lload hx hb dX8_takeTimes_126 (lv_at hl 4 rfl) ?_
              refine lv_ladd hx hb dX8_takeTimes_128 ?_
              refine lv_topl (fun v691 hv691 => ?_)
              clear hv691
              refine lv_lstore hx hb dX8_takeTimes_129 hl (by decide) rfl (fun ls (hl : lv_has ls _ ([(10, .long v691), (8, .long v690), (12, .int l12_x60), (6, .long v9), (4, .long v2), (0, .ref (hw tt)), (1, .ref (hw ta)), (2, .int p1), (3, .int p2)])) => ?_)
              refine lv_iinc (v := (iI (l12_x60.toInt + 1))) hx hb dX8_takeTimes_131 hl (k := 2) rfl (iI_add2 (iI_of _) (by decide : (1 : Int32) = iI 1)) (by decide) rfl (fun ls (hl : lv_has ls _ ([(12, .int (iI (l12_x60.toInt + 1))), (10, .long v691), (8, .long v690), (6, .long v9), (4, .long v2), (0, .ref (hw tt)), (1, .ref (hw ta)), (2, .int p1), (3, .int p2)])) => ?_)
              refine lv_goto (tgt := 60) hx hb dX8_takeTimes_134 (by decide) ?_
              have hl : lv_has _ _ ([(12, .int (iI (l12_x60.toInt + 1))), (10, .long v691), (8, .long v690), (6, .long v9), (4, .long v2), (0, .ref (hw tt)), (1, .ref (hw ta)), (2, .int p1), (3, .int p2)]) := lv_sub hl [0, 1, 2, 3, 4, 5, 6, 7, 8] rfl
              exact ihx60 (iI (l12_x60.toInt + 1)) v691 v690 _ _ _ (iI_rng (Int.le_trans (by decide) (Int.add_le_add (b_l12_x60.1) (Int.le_refl _))) (by omega) (by decide) (by decide)) (by have e9 : ((iI (l12_x60.toInt + 1))).toInt = (l12_x60.toInt + 1) := (iI_t (Int.le_trans (by decide) (Int.add_le_add (b_l12_x60.1) (Int.le_refl _))) (Int.le_trans (Int.add_le_add (b_l12_x60.2) (Int.le_refl _)) (by decide))); omega) hP hD hS hl
            · have t_81 : ¬ l8_x60.toInt > 1073741823 := toL_ngt c_81 rfl (by decide : (1073741823 : Int64).toInt = 1073741823)
              refine lv_lload hx hb dX8_takeTimes_84 (lv_at hl 2 rfl) ?_
              refine lv_aload_n hx hb dX8_takeTimes_86 rfl (lv_at hl 6 rfl) ?_
              refine va_get (D := (dC, dI)) (ci := 8) (v := .ref (lw ta)) (C := RX8) (T := TX8) (N := 3) hx hb hts iwsMX8_takeTimes_in8 hown hK hP (ta) (WW_o (by omega)) rfl 0 (by decide) (hts _ hm_m_X8_takeTimes_0) (fun _ h9 => h9) rfl dX8_takeTimes_87 ?_
              refine lv_iload_n hx hb dX8_takeTimes_90 rfl (lv_at hl 7 rfl) ?_
              refine lv_iconst (v := 2) hx hb dX8_takeTimes_91 (by decide) ?_
              refine lv_isub hx hb dX8_takeTimes_92 ?_
              refine lv_topi (fun y692 hy692 => ?_)
              obtain rfl : (iI (p1.toInt - 2)) = y692 := (hy692.trans (iI_sub2 (iI_of _) (by decide : (2 : Int32) = iI 2))).symm
              refine va_lald (cA := kw) (n := 14) (f := (wG ta)) hx hb hK hP (nW + ta) 0 (WW_a (by omega)) rfl (vp_iI (Int.le_trans (by decide) (Int.sub_le_sub (b_p1.1) (Int.le_refl _))) (Int.lt_of_le_of_lt (Int.sub_le_sub (b_p1.2) (Int.le_refl _)) (by decide)) (by decide)) dX8_takeTimes_93 ?_
              refine lv_topl (fun v693 hv693 => ?_)
              clear hv693
              refine lv_lmul hx hb dX8_takeTimes_94 ?_
              refine lv_topl (fun v694 hv694 => ?_)
              clear hv694
              refine lv_lload hx hb dX8_takeTimes_95 (lv_at hl 1 rfl) ?_
              refine lv_bipush (v := 30) hx hb dX8_takeTimes_97 (by decide) ?_
              refine lv_lshl hx hb dX8_takeTimes_99 rfl ?_
              refine lv_topl (fun v695 hv695 => ?_)
              clear hv695
              refine lv_aload_n hx hb dX8_takeTimes_100 rfl (lv_at hl 5 rfl) ?_
              refine va_get (D := (dC, dI)) (ci := 8) (v := .ref (lw tt)) (C := RX8) (T := TX8) (N := 3) hx hb hts iwsMX8_takeTimes_in8 hown hK hP (tt) (WW_o (by omega)) rfl 0 (by decide) (hts _ hm_m_X8_takeTimes_0) (fun _ h9 => h9) rfl dX8_takeTimes_101 ?_
              refine lv_iload_n hx hb dX8_takeTimes_104 rfl (lv_at hl 7 rfl) ?_
              refine lv_iload_n hx hb dX8_takeTimes_105 rfl (lv_at hl 8 rfl) ?_
              refine lv_iadd hx hb dX8_takeTimes_106 ?_
              refine lv_topi (fun y696 hy696 => ?_)
              obtain rfl : (iI (p1.toInt + p2.toInt)) = y696 := (hy696.trans (iI_add2 (iI_of _) (iI_of _))).symm
              refine lv_iconst (v := 2) hx hb dX8_takeTimes_107 (by decide) ?_
              refine lv_isub hx hb dX8_takeTimes_108 ?_
              refine lv_topi (fun y697 hy697 => ?_)
              obtain rfl : (iI ((p1.toInt + p2.toInt) - 2)) = y697 := (hy697.trans (iI_sub2 rfl (by decide : (2 : Int32) = iI 2))).symm
              refine va_lald (cA := kw) (n := 14) (f := (wG tt)) hx hb hK hP (nW + tt) 0 (WW_a (by omega)) rfl (vp_iI (Int.le_trans (by decide) (Int.sub_le_sub (Int.add_le_add (b_p1.1) (b_p2.1)) (Int.le_refl _))) (by omega) (by decide)) dX8_takeTimes_109 ?_
              refine lv_topl (fun v698 hv698 => ?_)
              clear hv698
              refine lv_lor hx hb dX8_takeTimes_110 ?_
              refine lv_topl (fun v699 hv699 => ?_)
              clear hv699
              refine W.lcmp hx hb dX8_takeTimes_111 ?_
              refine lv_if_gt (tgt := 118) hx hb dX8_takeTimes_112 (by decide) (fun c_112 => ?_) (fun c_112 => ?_)
              · have t_112 : v694.toInt > v699.toInt := toL_gt c_112 rfl rfl
                refine lv_lload hx hb dX8_takeTimes_118 (lv_at hl 2 rfl) ?_
                refine lv_lconst (v := 1) hx hb dX8_takeTimes_120 (by decide) ?_
                refine lv_lsub hx hb dX8_takeTimes_121 ?_
                refine lv_topl (fun v700 hv700 => ?_)
                clear hv700
                refine lv_lstore hx hb dX8_takeTimes_122 hl (by decide) rfl (fun ls (hl : lv_has ls _ ([(8, .long v700), (12, .int l12_x60), (10, .long l10_x60), (6, .long v9), (4, .long v2), (0, .ref (hw tt)), (1, .ref (hw ta)), (2, .int p1), (3, .int p2)])) => ?_)
                refine lv_lload hx hb dX8_takeTimes_124 (lv_at hl 2 rfl) ?_
                refine lv_lload hx hb dX8_takeTimes_126 (lv_at hl 4 rfl) ?_
                refine lv_ladd hx hb dX8_takeTimes_128 ?_
                refine lv_topl (fun v701 hv701 => ?_)
                clear hv701
                refine lv_lstore hx hb dX8_takeTimes_129 hl (by decide) rfl (fun ls (hl : lv_has ls _ ([(10, .long v701), (8, .long v700), (12, .int l12_x60), (6, .long v9), (4, .long v2), (0, .ref (hw tt)), (1, .ref (hw ta)), (2, .int p1), (3, .int p2)])) => ?_)
                refine lv_iinc (v := (iI (l12_x60.toInt + 1))) hx hb dX8_takeTimes_131 hl (k := 2) rfl (iI_add2 (iI_of _) (by decide : (1 : Int32) = iI 1)) (by decide) rfl (fun ls (hl : lv_has ls _ ([(12, .int (iI (l12_x60.toInt + 1))), (10, .long v701), (8, .long v700), (6, .long v9), (4, .long v2), (0, .ref (hw tt)), (1, .ref (hw ta)), (2, .int p1), (3, .int p2)])) => ?_)
                refine lv_goto (tgt := 60) hx hb dX8_takeTimes_134 (by decide) ?_
                have hl : lv_has _ _ ([(12, .int (iI (l12_x60.toInt + 1))), (10, .long v701), (8, .long v700), (6, .long v9), (4, .long v2), (0, .ref (hw tt)), (1, .ref (hw ta)), (2, .int p1), (3, .int p2)]) := lv_sub hl [0, 1, 2, 3, 4, 5, 6, 7, 8] rfl
                exact ihx60 (iI (l12_x60.toInt + 1)) v701 v700 _ _ _ (iI_rng (Int.le_trans (by decide) (Int.add_le_add (b_l12_x60.1) (Int.le_refl _))) (by omega) (by decide) (by decide)) (by have e9 : ((iI (l12_x60.toInt + 1))).toInt = (l12_x60.toInt + 1) := (iI_t (Int.le_trans (by decide) (Int.add_le_add (b_l12_x60.1) (Int.le_refl _))) (Int.le_trans (Int.add_le_add (b_l12_x60.2) (Int.le_refl _)) (by decide))); omega) hP hD hS hl
              · have t_112 : ¬ v694.toInt > v699.toInt := toL_ngt c_112 rfl rfl
                refine lv_goto (tgt := 137) hx hb dX8_takeTimes_115 (by decide) ?_
                have hl : lv_has _ _ ([(12, .int l12_x60), (10, .long l10_x60), (8, .long l8_x60), (6, .long v9), (4, .long v2), (0, .ref (hw tt)), (1, .ref (hw ta)), (2, .int p1), (3, .int p2)]) := lv_sub hl [0, 1, 2, 3, 4, 5, 6, 7, 8] rfl
                exact join6 _ _ _ _ ⟨rfl, hP, hD, hS, hl⟩
      · rintro H locs ls stk ⟨rfl, hP, hD, hS, hl⟩
        refine lv_lconst (v := 0) hx hb dX8_takeTimes_137 (by decide) ?_
        refine lv_lstore hx hb dX8_takeTimes_138 hl (by decide) rfl (fun ls (hl : lv_has ls _ ([(12, .long 0), (10, .long l10_x60), (8, .long l8_x60), (6, .long v9), (4, .long v2), (0, .ref (hw tt)), (1, .ref (hw ta)), (2, .int p1), (3, .int p2)])) => ?_)
        refine lv_iconst (v := 0) hx hb dX8_takeTimes_140 (by decide) ?_
        refine lv_istore hx hb dX8_takeTimes_141 hl (by decide) rfl (fun ls (hl : lv_has ls _ ([(14, .int 0), (12, .long 0), (10, .long l10_x60), (8, .long l8_x60), (6, .long v9), (4, .long v2), (0, .ref (hw tt)), (1, .ref (hw ta)), (2, .int p1), (3, .int p2)])) => ?_)
        have hl : lv_has _ _ ([(14, .int 0), (12, .long 0), (10, .long l10_x60), (8, .long l8_x60), (6, .long v9), (4, .long v2), (0, .ref (hw tt)), (1, .ref (hw ta)), (2, .int p1), (3, .int p2)]) := lv_sub hl [0, 1, 2, 3, 4, 5, 6, 7, 8, 9] rfl
        refine (fun (loop : ∀ (n9 : Nat) (wG_x143 : Nat → Nat → Int64) (l14_x143 : Int32) (l12_x143 : Int64) (H : Heap) (locs : List Loc) (ls : Array Slot), (0 ≤ l14_x143.toInt ∧ l14_x143.toInt ≤ 13) → (13 - l14_x143.toInt < ((n9 : Nat) : Int)) → va_P (dC, dI) vwCl (WW nW hw lw kw wl wb wG_x143) H → va_D A (WW nW hw lw kw wl wb wG_x143) → va_S A s.heap H locs → lv_has ls 19 [(14, .int l14_x143), (12, .long l12_x143), (10, .long l10_x60), (8, .long l8_x60), (6, .long v9), (4, .long v2), (0, .ref (hw tt)), (1, .ref (hw ta)), (2, .int p1), (3, .int p2)] → W p l e _ s m _ below meth c H locs 0 0 _ (F0 m 143 ls [])) => loop (14) wG 0 0 _ _ _ (show 0 ≤ (0 : Int32).toInt ∧ (0 : Int32).toInt ≤ 13 from by decide) ((by have e9 : (0 : Int32).toInt = 0 := (by decide : (0 : Int32).toInt = 0); omega)) hP hD hS hl) ?_
        intro n9
        induction n9 with
        | zero => intro wG_x143 l14_x143 l12_x143 H locs ls b_l14_x143 hf9; exact False.elim (by omega)
        | succ n9 ihx143 =>
          intro wG_x143 l14_x143 l12_x143 H locs ls b_l14_x143 hfx143 hP hD hS hl
          refine lv_iload hx hb dX8_takeTimes_143 (lv_at hl 0 rfl) ?_
          refine lv_iload_n hx hb dX8_takeTimes_145 rfl (lv_at hl 8 rfl) ?_
          refine lv_icmp_ge (tgt := 203) hx hb dX8_takeTimes_146 (by decide) (fun c_146 => ?_) (fun c_146 => ?_)
          · have t_146 : l14_x143.toInt ≥ p1.toInt := toI_ge c_146 rfl rfl
            refine lv_aload_n hx hb dX8_takeTimes_203 rfl (lv_at hl 6 rfl) ?_
            refine va_get (D := (dC, dI)) (ci := 8) (v := .ref (lw tt)) (C := RX8) (T := TX8) (N := 3) hx hb hts iwsMX8_takeTimes_in8 hown hK hP (tt) (WW_o (by omega)) rfl 0 (by decide) (hts _ hm_m_X8_takeTimes_0) (fun _ h9 => h9) rfl dX8_takeTimes_204 ?_
            refine lv_iload_n hx hb dX8_takeTimes_207 rfl (lv_at hl 8 rfl) ?_
            refine lv_iload_n hx hb dX8_takeTimes_208 rfl (lv_at hl 9 rfl) ?_
            refine lv_iadd hx hb dX8_takeTimes_209 ?_
            refine lv_topi (fun y919 hy919 => ?_)
            obtain rfl : (iI (p1.toInt + p2.toInt)) = y919 := (hy919.trans (iI_add2 (iI_of _) (iI_of _))).symm
            refine va_lald (cA := kw) (n := 14) (f := (wG_x143 tt)) hx hb hK hP (nW + tt) 0 (WW_a (by omega)) rfl (vp_iI (Int.le_trans (by decide) (Int.add_le_add (b_p1.1) (b_p2.1))) (by omega) (by decide)) dX8_takeTimes_210 ?_
            refine lv_topl (fun v920 hv920 => ?_)
            clear hv920
            refine lv_lload hx hb dX8_takeTimes_211 (lv_at hl 1 rfl) ?_
            refine lv_lsub hx hb dX8_takeTimes_213 ?_
            refine lv_topl (fun v921 hv921 => ?_)
            clear hv921
            refine lv_lstore hx hb dX8_takeTimes_214 hl (by decide) rfl (fun ls (hl : lv_has ls _ ([(14, .long v921), (12, .long l12_x143), (10, .long l10_x60), (8, .long l8_x60), (6, .long v9), (4, .long v2), (0, .ref (hw tt)), (1, .ref (hw ta)), (2, .int p1), (3, .int p2)])) => ?_)
            refine lv_aload_n hx hb dX8_takeTimes_216 rfl (lv_at hl 6 rfl) ?_
            refine va_get (D := (dC, dI)) (ci := 8) (v := .ref (lw tt)) (C := RX8) (T := TX8) (N := 3) hx hb hts iwsMX8_takeTimes_in8 hown hK hP (tt) (WW_o (by omega)) rfl 0 (by decide) (hts _ hm_m_X8_takeTimes_0) (fun _ h9 => h9) rfl dX8_takeTimes_217 ?_
            refine lv_iload_n hx hb dX8_takeTimes_220 rfl (lv_at hl 8 rfl) ?_
            refine lv_iload_n hx hb dX8_takeTimes_221 rfl (lv_at hl 9 rfl) ?_
            refine lv_iadd hx hb dX8_takeTimes_222 ?_
            refine lv_topi (fun y922 hy922 => ?_)
            obtain rfl : (iI (p1.toInt + p2.toInt)) = y922 := (hy922.trans (iI_add2 (iI_of _) (iI_of _))).symm
            refine lv_lload hx hb dX8_takeTimes_223 (lv_at hl 0 rfl) ?_
            refine lv_ldc2 (v := 1073741823) hx hb hown (hts _ hm_m_X8_takeTimes_1) dX8_takeTimes_225 ?_
            refine lv_land hx hb dX8_takeTimes_228 ?_
            refine lv_topl (fun v923 hv923 => ?_)
            clear hv923
            refine va_last (cA := kw) (n := 14) (f := (wG_x143 tt)) hx hb hK hP hD hS (nW + tt) 0 (WW_a (by omega)) rfl (vp_iI (Int.le_trans (by decide) (Int.add_le_add (b_p1.1) (b_p2.1))) (by omega) (by decide)) dX8_takeTimes_229 (fun H locs hP hD hS => ?_)
            obtain ⟨u924, hu924⟩ : ∃ f9, f9 = fT wG_x143 tt (vp_updL (wG_x143 tt) ((iI (p1.toInt + p2.toInt))).toNatClampNeg v923) := ⟨_, rfl⟩
            have hP : va_P (dC, dI) vwCl (WW nW hw lw kw wl wb u924) H := by rw [hu924]; exact Eq.mp (congrArg (fun z9 => va_P (dC, dI) vwCl z9 H) (WW_sg (by omega) (vp_updL (wG_x143 tt) ((iI (p1.toInt + p2.toInt))).toNatClampNeg v923))) hP
            have hD : va_D A (WW nW hw lw kw wl wb u924) := by rw [hu924]; exact Eq.mp (congrArg (fun z9 => va_D A z9) (WW_sg (by omega) (vp_updL (wG_x143 tt) ((iI (p1.toInt + p2.toInt))).toNatClampNeg v923))) hD
            clear hu924
            refine lv_lload hx hb dX8_takeTimes_230 (lv_at hl 0 rfl) ?_
            refine lv_lconst (v := 0) hx hb dX8_takeTimes_232 (by decide) ?_
            refine W.lcmp hx hb dX8_takeTimes_233 ?_
            refine lv_if_lt (tgt := 240) hx hb dX8_takeTimes_234 (by decide) (fun c_234 => ?_) (fun c_234 => ?_)
            · have t_234 : v921.toInt < 0 := toL_lt c_234 rfl (by decide : (0 : Int64).toInt = 0)
              refine lv_lconst (v := 0) hx hb dX8_takeTimes_240 (by decide) ?_
              refine lv_lstore hx hb dX8_takeTimes_241 hl (by decide) rfl (fun ls (hl : lv_has ls _ ([(12, .long 0), (14, .long v921), (10, .long l10_x60), (8, .long l8_x60), (6, .long v9), (4, .long v2), (0, .ref (hw tt)), (1, .ref (hw ta)), (2, .int p1), (3, .int p2)])) => ?_)
              refine lv_iconst (v := 0) hx hb dX8_takeTimes_243 (by decide) ?_
              refine lv_istore hx hb dX8_takeTimes_244 hl (by decide) rfl (fun ls (hl : lv_has ls _ ([(16, .int 0), (12, .long 0), (14, .long v921), (10, .long l10_x60), (8, .long l8_x60), (6, .long v9), (4, .long v2), (0, .ref (hw tt)), (1, .ref (hw ta)), (2, .int p1), (3, .int p2)])) => ?_)
              have hl : lv_has _ _ ([(16, .int 0), (12, .long 0), (14, .long v921), (10, .long l10_x60), (8, .long l8_x60), (6, .long v9), (4, .long v2), (0, .ref (hw tt)), (1, .ref (hw ta)), (2, .int p1), (3, .int p2)]) := lv_sub hl [0, 1, 2, 3, 4, 5, 6, 7, 8, 9, 10] rfl
              refine (fun (loop : ∀ (n9 : Nat) (wG_x246 : Nat → Nat → Int64) (l16_x246 : Int32) (l12_x246 : Int64) (H : Heap) (locs : List Loc) (ls : Array Slot), (0 ≤ l16_x246.toInt ∧ l16_x246.toInt ≤ 13) → (13 - l16_x246.toInt < ((n9 : Nat) : Int)) → va_P (dC, dI) vwCl (WW nW hw lw kw wl wb wG_x246) H → va_D A (WW nW hw lw kw wl wb wG_x246) → va_S A s.heap H locs → lv_has ls 19 [(16, .int l16_x246), (12, .long l12_x246), (14, .long v921), (10, .long l10_x60), (8, .long l8_x60), (6, .long v9), (4, .long v2), (0, .ref (hw tt)), (1, .ref (hw ta)), (2, .int p1), (3, .int p2)] → W p l e _ s m _ below meth c H locs 0 0 _ (F0 m 246 ls [])) => loop (14) u924 0 0 _ _ _ (show 0 ≤ (0 : Int32).toInt ∧ (0 : Int32).toInt ≤ 13 from by decide) ((by have e9 : (0 : Int32).toInt = 0 := (by decide : (0 : Int32).toInt = 0); omega)) hP hD hS hl) ?_
              intro n9
              induction n9 with
              | zero => intro wG_x246 l16_x246 l12_x246 H locs ls b_l16_x246 hf9; exact False.elim (by omega)
              | succ n9 ihx246 =>
                intro wG_x246 l16_x246 l12_x246 H locs ls b_l16_x246 hfx246 hP hD hS hl
                refine lv_iload hx hb dX8_takeTimes_246 (lv_at hl 0 rfl) ?_
                refine lv_iload_n hx hb dX8_takeTimes_248 rfl (lv_at hl 9 rfl) ?_
                refine lv_icmp_ge (tgt := 302) hx hb dX8_takeTimes_249 (by decide) (fun c_249 => ?_) (fun c_249 => ?_)
                · have t_249 : l16_x246.toInt ≥ p1.toInt := toI_ge c_249 rfl rfl
                  refine lv_aload_n hx hb dX8_takeTimes_302 rfl (lv_at hl 7 rfl) ?_
                  refine va_get (D := (dC, dI)) (ci := 8) (v := .ref (lw tt)) (C := RX8) (T := TX8) (N := 3) hx hb hts iwsMX8_takeTimes_in8 hown hK hP (tt) (WW_o (by omega)) rfl 0 (by decide) (hts _ hm_m_X8_takeTimes_0) (fun _ h9 => h9) rfl dX8_takeTimes_303 ?_
                  refine lv_iload_n hx hb dX8_takeTimes_306 rfl (lv_at hl 9 rfl) ?_
                  refine lv_iload_n hx hb dX8_takeTimes_307 rfl (lv_at hl 10 rfl) ?_
                  refine lv_iadd hx hb dX8_takeTimes_308 ?_
                  refine lv_topi (fun y984 hy984 => ?_)
                  obtain rfl : (iI (p1.toInt + p2.toInt)) = y984 := (hy984.trans (iI_add2 (iI_of _) (iI_of _))).symm
                  refine lv_aload_n hx hb dX8_takeTimes_309 rfl (lv_at hl 7 rfl) ?_
                  refine va_get (D := (dC, dI)) (ci := 8) (v := .ref (lw tt)) (C := RX8) (T := TX8) (N := 3) hx hb hts iwsMX8_takeTimes_in8 hown hK hP (tt) (WW_o (by omega)) rfl 0 (by decide) (hts _ hm_m_X8_takeTimes_0) (fun _ h9 => h9) rfl dX8_takeTimes_310 ?_
                  refine lv_iload_n hx hb dX8_takeTimes_313 rfl (lv_at hl 9 rfl) ?_
                  refine lv_iload_n hx hb dX8_takeTimes_314 rfl (lv_at hl 10 rfl) ?_
                  refine lv_iadd hx hb dX8_takeTimes_315 ?_
                  refine lv_topi (fun y985 hy985 => ?_)
                  obtain rfl : (iI (p1.toInt + p2.toInt)) = y985 := (hy985.trans (iI_add2 (iI_of _) (iI_of _))).symm
                  refine va_lald (cA := kw) (n := 14) (f := (wG_x246 tt)) hx hb hK hP (nW + tt) 0 (WW_a (by omega)) rfl (vp_iI (Int.le_trans (by decide) (Int.add_le_add (b_p1.1) (b_p2.1))) (by omega) (by decide)) dX8_takeTimes_316 ?_
                  refine lv_topl (fun v986 hv986 => ?_)
                  clear hv986
                  refine lv_lload hx hb dX8_takeTimes_317 (lv_at hl 1 rfl) ?_
                  refine lv_ladd hx hb dX8_takeTimes_319 ?_
                  refine lv_topl (fun v987 hv987 => ?_)
                  clear hv987
                  refine lv_ldc2 (v := 1073741823) hx hb hown (hts _ hm_m_X8_takeTimes_1) dX8_takeTimes_320 ?_
                  refine lv_land hx hb dX8_takeTimes_323 ?_
                  refine lv_topl (fun v988 hv988 => ?_)
                  clear hv988
                  refine va_last (cA := kw) (n := 14) (f := (wG_x246 tt)) hx hb hK hP hD hS (nW + tt) 0 (WW_a (by omega)) rfl (vp_iI (Int.le_trans (by decide) (Int.add_le_add (b_p1.1) (b_p2.1))) (by omega) (by decide)) dX8_takeTimes_324 (fun H locs hP hD hS => ?_)
                  obtain ⟨u989, hu989⟩ : ∃ f9, f9 = fT wG_x246 tt (vp_updL (wG_x246 tt) ((iI (p1.toInt + p2.toInt))).toNatClampNeg v988) := ⟨_, rfl⟩
                  have hP : va_P (dC, dI) vwCl (WW nW hw lw kw wl wb u989) H := by rw [hu989]; exact Eq.mp (congrArg (fun z9 => va_P (dC, dI) vwCl z9 H) (WW_sg (by omega) (vp_updL (wG_x246 tt) ((iI (p1.toInt + p2.toInt))).toNatClampNeg v988))) hP
                  have hD : va_D A (WW nW hw lw kw wl wb u989) := by rw [hu989]; exact Eq.mp (congrArg (fun z9 => va_D A z9) (WW_sg (by omega) (vp_updL (wG_x246 tt) ((iI (p1.toInt + p2.toInt))).toNatClampNeg v988))) hD
                  clear hu989
                  refine lv_lload hx hb dX8_takeTimes_325 (lv_at hl 4 rfl) ?_
                  refine lv_lconst (v := 1) hx hb dX8_takeTimes_327 (by decide) ?_
                  refine lv_lsub hx hb dX8_takeTimes_328 ?_
                  refine lv_topl (fun v990 hv990 => ?_)
                  clear hv990
                  refine W.widen (k := 0) (n := 0) (by decide +kernel) (by decide +kernel) ?_
                  exact W.lret (v := v990) hx hb hr (fun t9_ ht hW => ⟨⟨v990, u989, rfl, trivial, by rw [ht]; exact hP, hD⟩, hS.F ht⟩) hS.2.2 dX8_takeTimes_329
                · have t_249 : ¬ l16_x246.toInt ≥ p1.toInt := toI_nge c_249 rfl rfl
                  refine lv_aload_n hx hb dX8_takeTimes_252 rfl (lv_at hl 7 rfl) ?_
                  refine va_get (D := (dC, dI)) (ci := 8) (v := .ref (lw tt)) (C := RX8) (T := TX8) (N := 3) hx hb hts iwsMX8_takeTimes_in8 hown hK hP (tt) (WW_o (by omega)) rfl 0 (by decide) (hts _ hm_m_X8_takeTimes_0) (fun _ h9 => h9) rfl dX8_takeTimes_253 ?_
                  refine lv_iload hx hb dX8_takeTimes_256 (lv_at hl 0 rfl) ?_
                  refine lv_iload_n hx hb dX8_takeTimes_258 rfl (lv_at hl 10 rfl) ?_
                  refine lv_iadd hx hb dX8_takeTimes_259 ?_
                  refine lv_topi (fun y991 hy991 => ?_)
                  obtain rfl : (iI (l16_x246.toInt + p2.toInt)) = y991 := (hy991.trans (iI_add2 (iI_of _) (iI_of _))).symm
                  refine va_lald (cA := kw) (n := 14) (f := (wG_x246 tt)) hx hb hK hP (nW + tt) 0 (WW_a (by omega)) rfl (vp_iI (Int.le_trans (by decide) (Int.add_le_add (b_l16_x246.1) (b_p2.1))) (by omega) (by decide)) dX8_takeTimes_260 ?_
                  refine lv_topl (fun v992 hv992 => ?_)
                  clear hv992
                  refine lv_aload_n hx hb dX8_takeTimes_261 rfl (lv_at hl 8 rfl) ?_
                  refine va_get (D := (dC, dI)) (ci := 8) (v := .ref (lw ta)) (C := RX8) (T := TX8) (N := 3) hx hb hts iwsMX8_takeTimes_in8 hown hK hP (ta) (WW_o (by omega)) rfl 0 (by decide) (hts _ hm_m_X8_takeTimes_0) (fun _ h9 => h9) rfl dX8_takeTimes_262 ?_
                  refine lv_iload hx hb dX8_takeTimes_265 (lv_at hl 0 rfl) ?_
                  refine va_lald (cA := kw) (n := 14) (f := (wG_x246 ta)) hx hb hK hP (nW + ta) 0 (WW_a (by omega)) rfl (vp_in_iff.mpr ⟨b_l16_x246.1, (Int.lt_of_le_of_lt (b_l16_x246.2) (by decide))⟩) dX8_takeTimes_267 ?_
                  refine lv_topl (fun v993 hv993 => ?_)
                  clear hv993
                  refine lv_ladd hx hb dX8_takeTimes_268 ?_
                  refine lv_topl (fun v994 hv994 => ?_)
                  clear hv994
                  refine lv_lload hx hb dX8_takeTimes_269 (lv_at hl 1 rfl) ?_
                  refine lv_ladd hx hb dX8_takeTimes_271 ?_
                  refine lv_topl (fun v995 hv995 => ?_)
                  clear hv995
                  refine lv_lstore hx hb dX8_takeTimes_272 hl (by decide) rfl (fun ls (hl : lv_has ls _ ([(17, .long v995), (16, .int l16_x246), (12, .long l12_x246), (14, .long v921), (10, .long l10_x60), (8, .long l8_x60), (6, .long v9), (4, .long v2), (0, .ref (hw tt)), (1, .ref (hw ta)), (2, .int p1), (3, .int p2)])) => ?_)
                  refine lv_aload_n hx hb dX8_takeTimes_274 rfl (lv_at hl 8 rfl) ?_
                  refine va_get (D := (dC, dI)) (ci := 8) (v := .ref (lw tt)) (C := RX8) (T := TX8) (N := 3) hx hb hts iwsMX8_takeTimes_in8 hown hK hP (tt) (WW_o (by omega)) rfl 0 (by decide) (hts _ hm_m_X8_takeTimes_0) (fun _ h9 => h9) rfl dX8_takeTimes_275 ?_
                  refine lv_iload hx hb dX8_takeTimes_278 (lv_at hl 1 rfl) ?_
                  refine lv_iload_n hx hb dX8_takeTimes_280 rfl (lv_at hl 11 rfl) ?_
                  refine lv_iadd hx hb dX8_takeTimes_281 ?_
                  refine lv_topi (fun y996 hy996 => ?_)
                  obtain rfl : (iI (l16_x246.toInt + p2.toInt)) = y996 := (hy996.trans (iI_add2 (iI_of _) (iI_of _))).symm
                  refine lv_lload hx hb dX8_takeTimes_282 (lv_at hl 0 rfl) ?_
                  refine lv_ldc2 (v := 1073741823) hx hb hown (hts _ hm_m_X8_takeTimes_1) dX8_takeTimes_284 ?_
                  refine lv_land hx hb dX8_takeTimes_287 ?_
                  refine lv_topl (fun v997 hv997 => ?_)
                  clear hv997
                  refine va_last (cA := kw) (n := 14) (f := (wG_x246 tt)) hx hb hK hP hD hS (nW + tt) 0 (WW_a (by omega)) rfl (vp_iI (Int.le_trans (by decide) (Int.add_le_add (b_l16_x246.1) (b_p2.1))) (by omega) (by decide)) dX8_takeTimes_288 (fun H locs hP hD hS => ?_)
                  obtain ⟨u998, hu998⟩ : ∃ f9, f9 = fT wG_x246 tt (vp_updL (wG_x246 tt) ((iI (l16_x246.toInt + p2.toInt))).toNatClampNeg v997) := ⟨_, rfl⟩
                  have hP : va_P (dC, dI) vwCl (WW nW hw lw kw wl wb u998) H := by rw [hu998]; exact Eq.mp (congrArg (fun z9 => va_P (dC, dI) vwCl z9 H) (WW_sg (by omega) (vp_updL (wG_x246 tt) ((iI (l16_x246.toInt + p2.toInt))).toNatClampNeg v997))) hP
                  have hD : va_D A (WW nW hw lw kw wl wb u998) := by rw [hu998]; exact Eq.mp (congrArg (fun z9 => va_D A z9) (WW_sg (by omega) (vp_updL (wG_x246 tt) ((iI (l16_x246.toInt + p2.toInt))).toNatClampNeg v997))) hD
                  clear hu998
                  refine lv_lload hx hb dX8_takeTimes_289 (lv_at hl 0 rfl) ?_
                  refine lv_bipush (v := 30) hx hb dX8_takeTimes_291 (by decide) ?_
                  refine lv_lushr hx hb dX8_takeTimes_293 rfl ?_
                  refine lv_topl (fun v999 hv999 => ?_)
                  clear hv999
                  refine lv_lstore hx hb dX8_takeTimes_294 hl (by decide) rfl (fun ls (hl : lv_has ls _ ([(12, .long v999), (17, .long v995), (16, .int l16_x246), (14, .long v921), (10, .long l10_x60), (8, .long l8_x60), (6, .long v9), (4, .long v2), (0, .ref (hw tt)), (1, .ref (hw ta)), (2, .int p1), (3, .int p2)])) => ?_)
                  refine lv_iinc (v := (iI (l16_x246.toInt + 1))) hx hb dX8_takeTimes_296 hl (k := 2) rfl (iI_add2 (iI_of _) (by decide : (1 : Int32) = iI 1)) (by decide) rfl (fun ls (hl : lv_has ls _ ([(16, .int (iI (l16_x246.toInt + 1))), (12, .long v999), (17, .long v995), (14, .long v921), (10, .long l10_x60), (8, .long l8_x60), (6, .long v9), (4, .long v2), (0, .ref (hw tt)), (1, .ref (hw ta)), (2, .int p1), (3, .int p2)])) => ?_)
                  refine lv_goto (tgt := 246) hx hb dX8_takeTimes_299 (by decide) ?_
                  have hl : lv_has _ _ ([(16, .int (iI (l16_x246.toInt + 1))), (12, .long v999), (14, .long v921), (10, .long l10_x60), (8, .long l8_x60), (6, .long v9), (4, .long v2), (0, .ref (hw tt)), (1, .ref (hw ta)), (2, .int p1), (3, .int p2)]) := lv_sub hl [0, 1, 3, 4, 5, 6, 7, 8, 9, 10, 11] rfl
                  exact ihx246 u998 (iI (l16_x246.toInt + 1)) v999 _ _ _ (iI_rng (Int.le_trans (by decide) (Int.add_le_add (b_l16_x246.1) (Int.le_refl _))) (by omega) (by decide) (by decide)) (by have e9 : ((iI (l16_x246.toInt + 1))).toInt = (l16_x246.toInt + 1) := (iI_t (Int.le_trans (by decide) (Int.add_le_add (b_l16_x246.1) (Int.le_refl _))) (Int.le_trans (Int.add_le_add (b_l16_x246.2) (Int.le_refl _)) (by decide))); omega) hP hD hS hl
            · have t_234 : ¬ v921.toInt < 0 := toL_nlt c_234 rfl (by decide : (0 : Int64).toInt = 0)
              refine lv_lload hx hb dX8_takeTimes_237 (lv_at hl 3 rfl) ?_
              refine W.widen (k := 0) (n := 0) (by decide +kernel) (by decide +kernel) ?_
              exact W.lret (v := l8_x60) hx hb hr (fun t9_ ht hW => ⟨⟨l8_x60, u924, rfl, trivial, by rw [ht]; exact hP, hD⟩, hS.F ht⟩) hS.2.2 dX8_takeTimes_239
          · have t_146 : ¬ l14_x143.toInt ≥ p1.toInt := toI_nge c_146 rfl rfl
            refine lv_aload_n hx hb dX8_takeTimes_149 rfl (lv_at hl 6 rfl) ?_
            refine va_get (D := (dC, dI)) (ci := 8) (v := .ref (lw tt)) (C := RX8) (T := TX8) (N := 3) hx hb hts iwsMX8_takeTimes_in8 hown hK hP (tt) (WW_o (by omega)) rfl 0 (by decide) (hts _ hm_m_X8_takeTimes_0) (fun _ h9 => h9) rfl dX8_takeTimes_150 ?_
            refine lv_iload hx hb dX8_takeTimes_153 (lv_at hl 0 rfl) ?_
            refine lv_iload_n hx hb dX8_takeTimes_155 rfl (lv_at hl 9 rfl) ?_
            refine lv_iadd hx hb dX8_takeTimes_156 ?_
            refine lv_topi (fun y1000 hy1000 => ?_)
            obtain rfl : (iI (l14_x143.toInt + p2.toInt)) = y1000 := (hy1000.trans (iI_add2 (iI_of _) (iI_of _))).symm
            refine va_lald (cA := kw) (n := 14) (f := (wG_x143 tt)) hx hb hK hP (nW + tt) 0 (WW_a (by omega)) rfl (vp_iI (Int.le_trans (by decide) (Int.add_le_add (b_l14_x143.1) (b_p2.1))) (by omega) (by decide)) dX8_takeTimes_157 ?_
            refine lv_topl (fun v1001 hv1001 => ?_)
            clear hv1001
            refine lv_lload hx hb dX8_takeTimes_158 (lv_at hl 3 rfl) ?_
            refine lv_aload_n hx hb dX8_takeTimes_160 rfl (lv_at hl 7 rfl) ?_
            refine va_get (D := (dC, dI)) (ci := 8) (v := .ref (lw ta)) (C := RX8) (T := TX8) (N := 3) hx hb hts iwsMX8_takeTimes_in8 hown hK hP (ta) (WW_o (by omega)) rfl 0 (by decide) (hts _ hm_m_X8_takeTimes_0) (fun _ h9 => h9) rfl dX8_takeTimes_161 ?_
            refine lv_iload hx hb dX8_takeTimes_164 (lv_at hl 0 rfl) ?_
            refine va_lald (cA := kw) (n := 14) (f := (wG_x143 ta)) hx hb hK hP (nW + ta) 0 (WW_a (by omega)) rfl (vp_in_iff.mpr ⟨b_l14_x143.1, (Int.lt_of_le_of_lt (b_l14_x143.2) (by decide))⟩) dX8_takeTimes_166 ?_
            refine lv_topl (fun v1002 hv1002 => ?_)
            clear hv1002
            refine lv_lmul hx hb dX8_takeTimes_167 ?_
            refine lv_topl (fun v1003 hv1003 => ?_)
            clear hv1003
            refine lv_lsub hx hb dX8_takeTimes_168 ?_
            refine lv_topl (fun v1004 hv1004 => ?_)
            clear hv1004
            refine lv_lload hx hb dX8_takeTimes_169 (lv_at hl 1 rfl) ?_
            refine lv_lsub hx hb dX8_takeTimes_171 ?_
            refine lv_topl (fun v1005 hv1005 => ?_)
            clear hv1005
            refine lv_lstore hx hb dX8_takeTimes_172 hl (by decide) rfl (fun ls (hl : lv_has ls _ ([(15, .long v1005), (14, .int l14_x143), (12, .long l12_x143), (10, .long l10_x60), (8, .long l8_x60), (6, .long v9), (4, .long v2), (0, .ref (hw tt)), (1, .ref (hw ta)), (2, .int p1), (3, .int p2)])) => ?_)
            refine lv_aload_n hx hb dX8_takeTimes_174 rfl (lv_at hl 7 rfl) ?_
            refine va_get (D := (dC, dI)) (ci := 8) (v := .ref (lw tt)) (C := RX8) (T := TX8) (N := 3) hx hb hts iwsMX8_takeTimes_in8 hown hK hP (tt) (WW_o (by omega)) rfl 0 (by decide) (hts _ hm_m_X8_takeTimes_0) (fun _ h9 => h9) rfl dX8_takeTimes_175 ?_
            refine lv_iload hx hb dX8_takeTimes_178 (lv_at hl 1 rfl) ?_
            refine lv_iload_n hx hb dX8_takeTimes_180 rfl (lv_at hl 10 rfl) ?_
            refine lv_iadd hx hb dX8_takeTimes_181 ?_
            refine lv_topi (fun y1006 hy1006 => ?_)
            obtain rfl : (iI (l14_x143.toInt + p2.toInt)) = y1006 := (hy1006.trans (iI_add2 (iI_of _) (iI_of _))).symm
            refine lv_lload hx hb dX8_takeTimes_182 (lv_at hl 0 rfl) ?_
            refine lv_ldc2 (v := 1073741823) hx hb hown (hts _ hm_m_X8_takeTimes_1) dX8_takeTimes_184 ?_
            refine lv_land hx hb dX8_takeTimes_187 ?_
            refine lv_topl (fun v1007 hv1007 => ?_)
            clear hv1007
            refine va_last (cA := kw) (n := 14) (f := (wG_x143 tt)) hx hb hK hP hD hS (nW + tt) 0 (WW_a (by omega)) rfl (vp_iI (Int.le_trans (by decide) (Int.add_le_add (b_l14_x143.1) (b_p2.1))) (by omega) (by decide)) dX8_takeTimes_188 (fun H locs hP hD hS => ?_)
            obtain ⟨u1008, hu1008⟩ : ∃ f9, f9 = fT wG_x143 tt (vp_updL (wG_x143 tt) ((iI (l14_x143.toInt + p2.toInt))).toNatClampNeg v1007) := ⟨_, rfl⟩
            have hP : va_P (dC, dI) vwCl (WW nW hw lw kw wl wb u1008) H := by rw [hu1008]; exact Eq.mp (congrArg (fun z9 => va_P (dC, dI) vwCl z9 H) (WW_sg (by omega) (vp_updL (wG_x143 tt) ((iI (l14_x143.toInt + p2.toInt))).toNatClampNeg v1007))) hP
            have hD : va_D A (WW nW hw lw kw wl wb u1008) := by rw [hu1008]; exact Eq.mp (congrArg (fun z9 => va_D A z9) (WW_sg (by omega) (vp_updL (wG_x143 tt) ((iI (l14_x143.toInt + p2.toInt))).toNatClampNeg v1007))) hD
            clear hu1008
            refine lv_lload hx hb dX8_takeTimes_189 (lv_at hl 0 rfl) ?_
            refine lv_bipush (v := 30) hx hb dX8_takeTimes_191 (by decide) ?_
            refine lv_lshr hx hb dX8_takeTimes_193 rfl ?_
            refine lv_topl (fun v1009 hv1009 => ?_)
            clear hv1009
            refine lv_lneg hx hb dX8_takeTimes_194 ?_
            refine lv_topl (fun v1010 hv1010 => ?_)
            clear hv1010
            refine lv_lstore hx hb dX8_takeTimes_195 hl (by decide) rfl (fun ls (hl : lv_has ls _ ([(12, .long v1010), (15, .long v1005), (14, .int l14_x143), (10, .long l10_x60), (8, .long l8_x60), (6, .long v9), (4, .long v2), (0, .ref (hw tt)), (1, .ref (hw ta)), (2, .int p1), (3, .int p2)])) => ?_)
            refine lv_iinc (v := (iI (l14_x143.toInt + 1))) hx hb dX8_takeTimes_197 hl (k := 2) rfl (iI_add2 (iI_of _) (by decide : (1 : Int32) = iI 1)) (by decide) rfl (fun ls (hl : lv_has ls _ ([(14, .int (iI (l14_x143.toInt + 1))), (12, .long v1010), (15, .long v1005), (10, .long l10_x60), (8, .long l8_x60), (6, .long v9), (4, .long v2), (0, .ref (hw tt)), (1, .ref (hw ta)), (2, .int p1), (3, .int p2)])) => ?_)
            refine lv_goto (tgt := 143) hx hb dX8_takeTimes_200 (by decide) ?_
            have hl : lv_has _ _ ([(14, .int (iI (l14_x143.toInt + 1))), (12, .long v1010), (10, .long l10_x60), (8, .long l8_x60), (6, .long v9), (4, .long v2), (0, .ref (hw tt)), (1, .ref (hw ta)), (2, .int p1), (3, .int p2)]) := lv_sub hl [0, 1, 3, 4, 5, 6, 7, 8, 9, 10] rfl
            exact ihx143 u1008 (iI (l14_x143.toInt + 1)) v1010 _ _ _ (iI_rng (Int.le_trans (by decide) (Int.add_le_add (b_l14_x143.1) (Int.le_refl _))) (by omega) (by decide) (by decide)) (by have e9 : ((iI (l14_x143.toInt + 1))).toInt = (l14_x143.toInt + 1) := (iI_t (Int.le_trans (by decide) (Int.add_le_add (b_l14_x143.1) (Int.le_refl _))) (Int.le_trans (Int.add_le_add (b_l14_x143.2) (Int.le_refl _)) (by decide))); omega) hP hD hS hl
  · have t_14 : v2.toInt = 0 := toL_nne c_14 rfl (by decide : (0 : Int64).toInt = 0)
    refine lv_lconst (v := 0) hx hb dX8_takeTimes_17 (by decide) ?_
    refine W.widen (k := 0) (n := 0) (by decide +kernel) (by decide +kernel) ?_
    exact W.lret (v := 0) hx hb hr (fun t9_ ht hW => ⟨⟨(0 : Int64), wG, rfl, trivial, by rw [ht]; exact hP, hD⟩, hS.F ht⟩) hS.2.2 dX8_takeTimes_18
end
section
theorem hd_yX8_setShifted_RX8 : yX8_setShifted.cls = RX8 ∧ yX8_setShifted.cls ≠ "java/lang/invoke/MethodHandle" ∧ yX8_setShifted.cls ≠ "java/lang/invoke/VarHandle" ∧ (parseMethodDescriptor yX8_setShifted.desc).map (fun d => d.parameters.length) = some 2 := by decide +kernel
theorem hd_yX8_shiftBack_RX8 : yX8_shiftBack.cls = RX8 ∧ yX8_shiftBack.cls ≠ "java/lang/invoke/MethodHandle" ∧ yX8_shiftBack.cls ≠ "java/lang/invoke/VarHandle" ∧ (parseMethodDescriptor yX8_shiftBack.desc).map (fun d => d.parameters.length) = some 1 := by decide +kernel
theorem hd_yX8_takeTimes_RX8 : yX8_takeTimes.cls = RX8 ∧ yX8_takeTimes.cls ≠ "java/lang/invoke/MethodHandle" ∧ yX8_takeTimes.cls ≠ "java/lang/invoke/VarHandle" ∧ (parseMethodDescriptor yX8_takeTimes.desc).map (fun d => d.parameters.length) = some 3 := by decide +kernel
theorem hd_yX8_copy_RX8 : yX8_copy.cls = RX8 ∧ yX8_copy.cls ≠ "java/lang/invoke/MethodHandle" ∧ yX8_copy.cls ≠ "java/lang/invoke/VarHandle" ∧ (parseMethodDescriptor yX8_copy.desc).map (fun d => d.parameters.length) = some 1 := by decide +kernel
theorem hd_yX8_divideSmall_RX8 : yX8_divideSmall.cls = RX8 ∧ yX8_divideSmall.cls ≠ "java/lang/invoke/MethodHandle" ∧ yX8_divideSmall.cls ≠ "java/lang/invoke/VarHandle" ∧ (parseMethodDescriptor yX8_divideSmall.desc).map (fun d => d.parameters.length) = some 1 := by decide +kernel
theorem hd_yX8_setLong_RX8 : yX8_setLong.cls = RX8 ∧ yX8_setLong.cls ≠ "java/lang/invoke/MethodHandle" ∧ yX8_setLong.cls ≠ "java/lang/invoke/VarHandle" ∧ (parseMethodDescriptor yX8_setLong.desc).map (fun d => d.parameters.length) = some 1 := by decide +kernel
theorem dX8_divide_0 : decode cX8_divide 0 = .ok (.aload_n 1, 1) := dk_43 (by decide +kernel)
theorem dX8_divide_1 : decode cX8_divide 1 = .ok (.getfield 17, 3) := dk_180 (by decide +kernel)
theorem dX8_divide_4 : decode cX8_divide 4 = .ok (.istore 4, 2) := dk_54 (by decide +kernel)
theorem dX8_divide_6 : decode cX8_divide 6 = .ok (.aload_n 0, 1) := dk_42 (by decide +kernel)
theorem dX8_divide_7 : decode cX8_divide 7 = .ok (.getfield 17, 3) := dk_180 (by decide +kernel)
theorem dX8_divide_10 : decode cX8_divide 10 = .ok (.iload 4, 2) := dk_21 (by decide +kernel)
theorem dX8_divide_12 : decode cX8_divide 12 = .ok (.isub, 1) := dk_100 (by decide +kernel)
theorem dX8_divide_13 : decode cX8_divide 13 = .ok (.istore 5, 2) := dk_54 (by decide +kernel)
theorem dX8_divide_15 : decode cX8_divide 15 = .ok (.iload 4, 2) := dk_21 (by decide +kernel)
theorem dX8_divide_17 : decode cX8_divide 17 = .ok (.ifCond .eq 12, 3) := dk_153 (by decide +kernel)
theorem dX8_divide_20 : decode cX8_divide 20 = .ok (.aload_n 0, 1) := dk_42 (by decide +kernel)
theorem dX8_divide_21 : decode cX8_divide 21 = .ok (.getfield 17, 3) := dk_180 (by decide +kernel)
theorem dX8_divide_24 : decode cX8_divide 24 = .ok (.bipush 14, 2) := dk_16 (by decide +kernel)
theorem dX8_divide_26 : decode cX8_divide 26 = .ok (.if_icmp .lt 4, 3) := dk_161 (by decide +kernel)
theorem dX8_divide_29 : decode cX8_divide 29 = .ok (.return_, 1) := dk_177 (by decide +kernel)
theorem dX8_divide_30 : decode cX8_divide 30 = .ok (.aload_n 0, 1) := dk_42 (by decide +kernel)
theorem dX8_divide_31 : decode cX8_divide 31 = .ok (.getfield 13, 3) := dk_180 (by decide +kernel)
theorem dX8_divide_34 : decode cX8_divide 34 = .ok (.aload_n 1, 1) := dk_43 (by decide +kernel)
theorem dX8_divide_35 : decode cX8_divide 35 = .ok (.getfield 13, 3) := dk_180 (by decide +kernel)
theorem dX8_divide_38 : decode cX8_divide 38 = .ok (.if_icmp .eq 7, 3) := dk_159 (by decide +kernel)
theorem dX8_divide_41 : decode cX8_divide 41 = .ok (.iconst 1, 1) := dk_4 (by decide +kernel)
theorem dX8_divide_42 : decode cX8_divide 42 = .ok (.goto 4, 3) := dk_167 (by decide +kernel)
theorem dX8_divide_45 : decode cX8_divide 45 = .ok (.iconst 0, 1) := dk_3 (by decide +kernel)
theorem dX8_divide_46 : decode cX8_divide 46 = .ok (.istore 6, 2) := dk_54 (by decide +kernel)
theorem dX8_divide_48 : decode cX8_divide 48 = .ok (.aload_n 0, 1) := dk_42 (by decide +kernel)
theorem dX8_divide_49 : decode cX8_divide 49 = .ok (.getfield 13, 3) := dk_180 (by decide +kernel)
theorem dX8_divide_52 : decode cX8_divide 52 = .ok (.istore 7, 2) := dk_54 (by decide +kernel)
theorem dX8_divide_54 : decode cX8_divide 54 = .ok (.iload 4, 2) := dk_21 (by decide +kernel)
theorem dX8_divide_56 : decode cX8_divide 56 = .ok (.iconst 1, 1) := dk_4 (by decide +kernel)
theorem dX8_divide_57 : decode cX8_divide 57 = .ok (.if_icmp .ne 20, 3) := dk_160 (by decide +kernel)
theorem dX8_divide_60 : decode cX8_divide 60 = .ok (.aload_n 2, 1) := dk_44 (by decide +kernel)
theorem dX8_divide_61 : decode cX8_divide 61 = .ok (.aload_n 0, 1) := dk_42 (by decide +kernel)
theorem dX8_divide_62 : decode cX8_divide 62 = .ok (.aload_n 1, 1) := dk_43 (by decide +kernel)
theorem dX8_divide_63 : decode cX8_divide 63 = .ok (.getfield 9, 3) := dk_180 (by decide +kernel)
theorem dX8_divide_66 : decode cX8_divide 66 = .ok (.iconst 0, 1) := dk_3 (by decide +kernel)
theorem dX8_divide_67 : decode cX8_divide 67 = .ok (.laload, 1) := dk_47 (by decide +kernel)
theorem dX8_divide_68 : decode cX8_divide 68 = .ok (.invokevirtual 53, 3) := dk_182 (by decide +kernel)
theorem dX8_divide_71 : decode cX8_divide 71 = .ok (.invokevirtual 57, 3) := dk_182 (by decide +kernel)
theorem dX8_divide_74 : decode cX8_divide 74 = .ok (.goto 129, 3) := dk_167 (by decide +kernel)
theorem dX8_divide_77 : decode cX8_divide 77 = .ok (.iload 5, 2) := dk_21 (by decide +kernel)
theorem dX8_divide_79 : decode cX8_divide 79 = .ok (.ifCond .ge 16, 3) := dk_156 (by decide +kernel)
theorem dX8_divide_82 : decode cX8_divide 82 = .ok (.aload_n 2, 1) := dk_44 (by decide +kernel)
theorem dX8_divide_83 : decode cX8_divide 83 = .ok (.aload_n 0, 1) := dk_42 (by decide +kernel)
theorem dX8_divide_84 : decode cX8_divide 84 = .ok (.invokevirtual 61, 3) := dk_182 (by decide +kernel)
theorem dX8_divide_87 : decode cX8_divide 87 = .ok (.aload_n 0, 1) := dk_42 (by decide +kernel)
theorem dX8_divide_88 : decode cX8_divide 88 = .ok (.iconst 0, 1) := dk_3 (by decide +kernel)
theorem dX8_divide_89 : decode cX8_divide 89 = .ok (.putfield 17, 3) := dk_181 (by decide +kernel)
theorem dX8_divide_92 : decode cX8_divide 92 = .ok (.goto 111, 3) := dk_167 (by decide +kernel)
theorem dX8_divide_95 : decode cX8_divide 95 = .ok (.iconst 0, 1) := dk_3 (by decide +kernel)
theorem dX8_divide_96 : decode cX8_divide 96 = .ok (.istore 8, 2) := dk_54 (by decide +kernel)
theorem dX8_divide_98 : decode cX8_divide 98 = .ok (.iload 8, 2) := dk_21 (by decide +kernel)
theorem dX8_divide_100 : decode cX8_divide 100 = .ok (.bipush 30, 2) := dk_16 (by decide +kernel)
theorem dX8_divide_102 : decode cX8_divide 102 = .ok (.if_icmp .ge 28, 3) := dk_162 (by decide +kernel)
theorem dX8_divide_105 : decode cX8_divide 105 = .ok (.aload_n 1, 1) := dk_43 (by decide +kernel)
theorem dX8_divide_106 : decode cX8_divide 106 = .ok (.getfield 9, 3) := dk_180 (by decide +kernel)
theorem dX8_divide_109 : decode cX8_divide 109 = .ok (.iload 4, 2) := dk_21 (by decide +kernel)
theorem dX8_divide_111 : decode cX8_divide 111 = .ok (.iconst 1, 1) := dk_4 (by decide +kernel)
theorem dX8_divide_112 : decode cX8_divide 112 = .ok (.isub, 1) := dk_100 (by decide +kernel)
theorem dX8_divide_113 : decode cX8_divide 113 = .ok (.laload, 1) := dk_47 (by decide +kernel)
theorem dX8_divide_114 : decode cX8_divide 114 = .ok (.iload 8, 2) := dk_21 (by decide +kernel)
theorem dX8_divide_116 : decode cX8_divide 116 = .ok (.lshl, 1) := dk_121 (by decide +kernel)
theorem dX8_divide_117 : decode cX8_divide 117 = .ok (.ldc2_w 64, 3) := dk_20 (by decide +kernel)
theorem dX8_divide_120 : decode cX8_divide 120 = .ok (.lcmp, 1) := dk_148 (by decide +kernel)
theorem dX8_divide_121 : decode cX8_divide 121 = .ok (.ifCond .gt 9, 3) := dk_157 (by decide +kernel)
theorem dX8_divide_124 : decode cX8_divide 124 = .ok (.iinc 8 1, 3) := dk_132 (by decide +kernel)
theorem dX8_divide_127 : decode cX8_divide 127 = .ok (.goto (-29), 3) := dk_167 (by decide +kernel)
theorem dX8_divide_130 : decode cX8_divide 130 = .ok (.aload_n 3, 1) := dk_45 (by decide +kernel)
theorem dX8_divide_131 : decode cX8_divide 131 = .ok (.aload_n 1, 1) := dk_43 (by decide +kernel)
theorem dX8_divide_132 : decode cX8_divide 132 = .ok (.iload 8, 2) := dk_21 (by decide +kernel)
theorem dX8_divide_134 : decode cX8_divide 134 = .ok (.invokevirtual 66, 3) := dk_182 (by decide +kernel)
theorem dX8_divide_137 : decode cX8_divide 137 = .ok (.aload_n 2, 1) := dk_44 (by decide +kernel)
theorem dX8_divide_138 : decode cX8_divide 138 = .ok (.aload_n 0, 1) := dk_42 (by decide +kernel)
theorem dX8_divide_139 : decode cX8_divide 139 = .ok (.iload 8, 2) := dk_21 (by decide +kernel)
theorem dX8_divide_141 : decode cX8_divide 141 = .ok (.invokevirtual 66, 3) := dk_182 (by decide +kernel)
theorem dX8_divide_144 : decode cX8_divide 144 = .ok (.iload 5, 2) := dk_21 (by decide +kernel)
theorem dX8_divide_146 : decode cX8_divide 146 = .ok (.istore 9, 2) := dk_54 (by decide +kernel)
theorem dX8_divide_148 : decode cX8_divide 148 = .ok (.iload 9, 2) := dk_21 (by decide +kernel)
theorem dX8_divide_150 : decode cX8_divide 150 = .ok (.ifCond .lt 25, 3) := dk_155 (by decide +kernel)
theorem dX8_divide_153 : decode cX8_divide 153 = .ok (.aload_n 0, 1) := dk_42 (by decide +kernel)
theorem dX8_divide_154 : decode cX8_divide 154 = .ok (.getfield 9, 3) := dk_180 (by decide +kernel)
theorem dX8_divide_157 : decode cX8_divide 157 = .ok (.iload 9, 2) := dk_21 (by decide +kernel)
theorem dX8_divide_159 : decode cX8_divide 159 = .ok (.aload_n 2, 1) := dk_44 (by decide +kernel)
theorem dX8_divide_160 : decode cX8_divide 160 = .ok (.aload_n 3, 1) := dk_45 (by decide +kernel)
theorem dX8_divide_161 : decode cX8_divide 161 = .ok (.iload 4, 2) := dk_21 (by decide +kernel)
theorem dX8_divide_163 : decode cX8_divide 163 = .ok (.iload 9, 2) := dk_21 (by decide +kernel)
theorem dX8_divide_165 : decode cX8_divide 165 = .ok (.invokevirtual 70, 3) := dk_182 (by decide +kernel)
theorem dX8_divide_168 : decode cX8_divide 168 = .ok (.lastore, 1) := dk_80 (by decide +kernel)
theorem dX8_divide_169 : decode cX8_divide 169 = .ok (.iinc 9 (-1), 3) := dk_132 (by decide +kernel)
theorem dX8_divide_172 : decode cX8_divide 172 = .ok (.goto (-24), 3) := dk_167 (by decide +kernel)
theorem dX8_divide_175 : decode cX8_divide 175 = .ok (.aload_n 0, 1) := dk_42 (by decide +kernel)
theorem dX8_divide_176 : decode cX8_divide 176 = .ok (.iload 5, 2) := dk_21 (by decide +kernel)
theorem dX8_divide_178 : decode cX8_divide 178 = .ok (.iconst 1, 1) := dk_4 (by decide +kernel)
theorem dX8_divide_179 : decode cX8_divide 179 = .ok (.iadd, 1) := dk_96 (by decide +kernel)
theorem dX8_divide_180 : decode cX8_divide 180 = .ok (.putfield 17, 3) := dk_181 (by decide +kernel)
theorem dX8_divide_183 : decode cX8_divide 183 = .ok (.aload_n 0, 1) := dk_42 (by decide +kernel)
theorem dX8_divide_184 : decode cX8_divide 184 = .ok (.invokevirtual 41, 3) := dk_182 (by decide +kernel)
theorem dX8_divide_187 : decode cX8_divide 187 = .ok (.aload_n 2, 1) := dk_44 (by decide +kernel)
theorem dX8_divide_188 : decode cX8_divide 188 = .ok (.iload 4, 2) := dk_21 (by decide +kernel)
theorem dX8_divide_190 : decode cX8_divide 190 = .ok (.putfield 17, 3) := dk_181 (by decide +kernel)
theorem dX8_divide_193 : decode cX8_divide 193 = .ok (.aload_n 2, 1) := dk_44 (by decide +kernel)
theorem dX8_divide_194 : decode cX8_divide 194 = .ok (.iload 8, 2) := dk_21 (by decide +kernel)
theorem dX8_divide_196 : decode cX8_divide 196 = .ok (.invokevirtual 74, 3) := dk_182 (by decide +kernel)
theorem dX8_divide_199 : decode cX8_divide 199 = .ok (.aload_n 2, 1) := dk_44 (by decide +kernel)
theorem dX8_divide_200 : decode cX8_divide 200 = .ok (.invokevirtual 41, 3) := dk_182 (by decide +kernel)
theorem dX8_divide_203 : decode cX8_divide 203 = .ok (.aload_n 0, 1) := dk_42 (by decide +kernel)
theorem dX8_divide_204 : decode cX8_divide 204 = .ok (.iload 6, 2) := dk_21 (by decide +kernel)
theorem dX8_divide_206 : decode cX8_divide 206 = .ok (.ifCond .eq 14, 3) := dk_153 (by decide +kernel)
theorem dX8_divide_209 : decode cX8_divide 209 = .ok (.aload_n 0, 1) := dk_42 (by decide +kernel)
theorem dX8_divide_210 : decode cX8_divide 210 = .ok (.getfield 17, 3) := dk_180 (by decide +kernel)
theorem dX8_divide_213 : decode cX8_divide 213 = .ok (.ifCond .eq 7, 3) := dk_153 (by decide +kernel)
theorem dX8_divide_216 : decode cX8_divide 216 = .ok (.iconst 1, 1) := dk_4 (by decide +kernel)
theorem dX8_divide_217 : decode cX8_divide 217 = .ok (.goto 4, 3) := dk_167 (by decide +kernel)
theorem dX8_divide_220 : decode cX8_divide 220 = .ok (.iconst 0, 1) := dk_3 (by decide +kernel)
theorem dX8_divide_221 : decode cX8_divide 221 = .ok (.putfield 13, 3) := dk_181 (by decide +kernel)
theorem dX8_divide_224 : decode cX8_divide 224 = .ok (.aload_n 2, 1) := dk_44 (by decide +kernel)
theorem dX8_divide_225 : decode cX8_divide 225 = .ok (.iload 7, 2) := dk_21 (by decide +kernel)
theorem dX8_divide_227 : decode cX8_divide 227 = .ok (.ifCond .eq 14, 3) := dk_153 (by decide +kernel)
theorem dX8_divide_230 : decode cX8_divide 230 = .ok (.aload_n 2, 1) := dk_44 (by decide +kernel)
theorem dX8_divide_231 : decode cX8_divide 231 = .ok (.getfield 17, 3) := dk_180 (by decide +kernel)
theorem dX8_divide_234 : decode cX8_divide 234 = .ok (.ifCond .eq 7, 3) := dk_153 (by decide +kernel)
theorem dX8_divide_237 : decode cX8_divide 237 = .ok (.iconst 1, 1) := dk_4 (by decide +kernel)
theorem dX8_divide_238 : decode cX8_divide 238 = .ok (.goto 4, 3) := dk_167 (by decide +kernel)
theorem dX8_divide_241 : decode cX8_divide 241 = .ok (.iconst 0, 1) := dk_3 (by decide +kernel)
theorem dX8_divide_242 : decode cX8_divide 242 = .ok (.putfield 13, 3) := dk_181 (by decide +kernel)
theorem dX8_divide_245 : decode cX8_divide 245 = .ok (.return_, 1) := dk_177 (by decide +kernel)
def wsMX8_divide : List Cond := .code yX8_divide cX8_divide 10 none :: ([.fieldLink RX8 17 "OptimaWorks$Whole" "length" "I", .fieldLink RX8 13 "OptimaWorks$Whole" "below" "Z", .fieldLink RX8 9 "OptimaWorks$Whole" "limb" "[J", .constantLong RX8 64 536870911] ++ wsX80 ++ (wsV RX8 66 RX8 yX8_setShifted wsMX8_setShifted) ++ (wsV RX8 70 RX8 yX8_takeTimes wsMX8_takeTimes) ++ (wsV RX8 41 RX8 yX8_trim wsMX8_trim) ++ (wsV RX8 74 RX8 yX8_shiftBack wsMX8_shiftBack) ++ (wsV RX8 61 RX8 yX8_copy wsMX8_copy) ++ (wsV RX8 53 RX8 yX8_divideSmall wsMX8_divideSmall) ++ (wsV RX8 57 RX8 yX8_setLong wsMX8_setLong))
theorem iwsMX8_divide_in8 : ∀ w ∈ wsX80, w ∈ wsMX8_divide := fun _ h => List.mem_cons_of_mem _ (List.mem_append_left _ (List.mem_append_left _ (List.mem_append_left _ (List.mem_append_left _ (List.mem_append_left _ (List.mem_append_left _ (List.mem_append_left _ (List.mem_append_right _ h))))))))
theorem gwsMX8_divide_0 : GoodIn wsMX8_divide (wsV RX8 66 RX8 yX8_setShifted wsMX8_setShifted) := goodIn_sub (fun _ h => List.mem_cons_of_mem _ (List.mem_append_left _ (List.mem_append_left _ (List.mem_append_left _ (List.mem_append_left _ (List.mem_append_left _ (List.mem_append_left _ (List.mem_append_right _ h)))))))) (gdV (by decide +kernel) gdwsMX8_setShifted)
theorem gwsMX8_divide_1 : GoodIn wsMX8_divide (wsV RX8 70 RX8 yX8_takeTimes wsMX8_takeTimes) := goodIn_sub (fun _ h => List.mem_cons_of_mem _ (List.mem_append_left _ (List.mem_append_left _ (List.mem_append_left _ (List.mem_append_left _ (List.mem_append_left _ (List.mem_append_right _ h))))))) (gdV (by decide +kernel) gdwsMX8_takeTimes)
theorem gwsMX8_divide_2 : GoodIn wsMX8_divide (wsV RX8 41 RX8 yX8_trim wsMX8_trim) := goodIn_sub (fun _ h => List.mem_cons_of_mem _ (List.mem_append_left _ (List.mem_append_left _ (List.mem_append_left _ (List.mem_append_left _ (List.mem_append_right _ h)))))) (gdV (by decide +kernel) gdwsMX8_trim)
theorem gwsMX8_divide_3 : GoodIn wsMX8_divide (wsV RX8 74 RX8 yX8_shiftBack wsMX8_shiftBack) := goodIn_sub (fun _ h => List.mem_cons_of_mem _ (List.mem_append_left _ (List.mem_append_left _ (List.mem_append_left _ (List.mem_append_right _ h))))) (gdV (by decide +kernel) gdwsMX8_shiftBack)
theorem gwsMX8_divide_4 : GoodIn wsMX8_divide (wsV RX8 61 RX8 yX8_copy wsMX8_copy) := goodIn_sub (fun _ h => List.mem_cons_of_mem _ (List.mem_append_left _ (List.mem_append_left _ (List.mem_append_right _ h)))) (gdV (by decide +kernel) gdwsMX8_copy)
theorem gwsMX8_divide_5 : GoodIn wsMX8_divide (wsV RX8 53 RX8 yX8_divideSmall wsMX8_divideSmall) := goodIn_sub (fun _ h => List.mem_cons_of_mem _ (List.mem_append_left _ (List.mem_append_right _ h))) (gdV (by decide +kernel) gdwsMX8_divideSmall)
theorem gwsMX8_divide_6 : GoodIn wsMX8_divide (wsV RX8 57 RX8 yX8_setLong wsMX8_setLong) := goodIn_sub (fun _ h => List.mem_cons_of_mem _ (List.mem_append_right _ h)) (gdV (by decide +kernel) gdwsMX8_setLong)
theorem gdwsMX8_divide : wsMX8_divide.all goodWord = true := gdC rfl (gdA (gdA (gdA (gdA (gdA (gdA (gdA (gdA (by decide +kernel : ([.fieldLink RX8 17 "OptimaWorks$Whole" "length" "I", .fieldLink RX8 13 "OptimaWorks$Whole" "below" "Z", .fieldLink RX8 9 "OptimaWorks$Whole" "limb" "[J", .constantLong RX8 64 536870911] : List Cond).all goodWord = true) gdwsX80) (gdV (by decide +kernel) gdwsMX8_setShifted)) (gdV (by decide +kernel) gdwsMX8_takeTimes)) (gdV (by decide +kernel) gdwsMX8_trim)) (gdV (by decide +kernel) gdwsMX8_shiftBack)) (gdV (by decide +kernel) gdwsMX8_copy)) (gdV (by decide +kernel) gdwsMX8_divideSmall)) (gdV (by decide +kernel) gdwsMX8_setLong))
theorem hm_m_X8_divide_0 : (.fieldLink RX8 17 "OptimaWorks$Whole" "length" "I" : Cond) ∈ wsMX8_divide := by decide +kernel
theorem hm_m_X8_divide_1 : (.fieldLink RX8 13 "OptimaWorks$Whole" "below" "Z" : Cond) ∈ wsMX8_divide := by decide +kernel
theorem hm_m_X8_divide_2 : (.fieldLink RX8 9 "OptimaWorks$Whole" "limb" "[J" : Cond) ∈ wsMX8_divide := by decide +kernel
set_option maxHeartbeats 4000000 in
set_option maxRecDepth 100000 in
/-- a division -/
theorem m_X8_divide (l : Launch) (dC : Nat → ClassId) (dI : Nat → Nat → Nat) (nW : Nat) (hw : Nat → Nat) (lw : Nat → Nat) (kw : ClassId) (wl : Nat → Int32) (wb : Nat → Int32) (wG : Nat → Nat → Int64) (tt : Nat) (ta : Nat) (tb : Nat) (tc : Nat) (b_wl : ∀ q : Nat, 0 ≤ (wl q).toInt ∧ (wl q).toInt ≤ 14) (b_wb : ∀ q : Nat, 0 ≤ (wb q).toInt ∧ (wb q).toInt ≤ 1) (htt : tt < nW) (hta : ta < nW) (htb : tb < nW) (htc : tc < nW) (hne : tt ≠ tc) (sz : Nat) : Met l yX8_divide wsMX8_divide ({ frames := 2, cells := 0, slots := 0, locals := 39 }) (va_Pc [.ref (hw tt), .ref (hw ta), .ref (hw tb), .ref (hw tc)] (fun U => U.heap.size = sz ∧ va_P (dC, dI) vwCl (WW nW hw lw kw wl wb wG) U.heap ∧ va_K (dC, dI) vwCl (tW kw) U ∧ va_D (fun _ => True) (WW nW hw lw kw wl wb wG))) (va_Qv (fun (u : (Nat → Int32) × (Nat → Int32) × (Nat → Nat → Int64)) => (∀ q : Nat, 0 ≤ ((u.1) q).toInt ∧ ((u.1) q).toInt ≤ 14) ∧ (∀ q : Nat, 0 ≤ ((u.2.1) q).toInt ∧ ((u.2.1) q).toInt ≤ 1)) (fun (u : (Nat → Int32) × (Nat → Int32) × (Nat → Nat → Int64)) t => va_P (dC, dI) vwCl (WW nW hw lw kw (u.1) (u.2.1) (u.2.2)) t.heap ∧ va_D (va_A (WW nW hw lw kw wl wb wG) sz) (WW nW hw lw kw (u.1) (u.2.1) (u.2.2))) (va_A (WW nW hw lw kw wl wb wG) sz)) 0 0 (va_A (WW nW hw lw kw wl wb wG) sz) := by
  refine Met.ofW (cc := cX8_divide) (maxL := 10) (ret := none) (by decide) rfl ?_
  intro p e s m args below meth c s₁ B hml hv
  obtain ⟨rfl, hsz, hP, hK, hD0⟩ := hv
  have hx := B.exec
  have hb := B.bytes
  have hr := B.returns
  have hts := atoms_spec (ws := wsMX8_divide) B.pre
  have hown : s.vm.findClass RX8 = some m.cls := findClass_of_methodNamed B.named
  have hlocks := B.notSynchronized
  subst hsz
  have hD := hD0.self (sz := s.heap.size)
  generalize hAe : va_A (WW nW hw lw kw wl wb wG) s.heap.size = A at hD ⊢
  have hA : ∀ q : Nat, s.heap.size ≤ q → A q := fun q h => by rw [← hAe]; exact Or.inr h
  have hS : va_S A s.heap s.heap [] := va_S.rf
  have hl := lv_entry ([.ref (hw tt), .ref (hw ta), .ref (hw tb), .ref (hw tc)]) (n := 10) (Nat.le_of_ble_eq_true rfl)
  rw [lg_entry_eq]
  generalize (lg_sl ([.ref (hw tt), .ref (hw ta), .ref (hw tb), .ref (hw tc)]) ++ List.replicate (10 - (lg_sl ([.ref (hw tt), .ref (hw ta), .ref (hw tb), .ref (hw tc)])).length) Slot.unset).toArray = ls at hl ⊢
  have hl : lv_has ls 10 [(0, .ref (hw tt)), (1, .ref (hw ta)), (2, .ref (hw tb)), (3, .ref (hw tc))] := hl
  refine lv_aload_n hx hb dX8_divide_0 rfl (lv_at hl 1 rfl) ?_
  refine va_get (D := (dC, dI)) (ci := 8) (v := .int (wl ta)) (C := RX8) (T := TX8) (N := 3) hx hb hts iwsMX8_divide_in8 hown hK hP (ta) (WW_o (by omega)) rfl 1 (by decide) (hts _ hm_m_X8_divide_0) (fun _ h9 => h9) rfl dX8_divide_1 ?_
  have br1 := b_wl ta
  refine lv_istore hx hb dX8_divide_4 hl (by decide) rfl (fun ls (hl : lv_has ls _ ([(4, .int (wl ta)), (0, .ref (hw tt)), (1, .ref (hw ta)), (2, .ref (hw tb)), (3, .ref (hw tc))])) => ?_)
  refine lv_aload_n hx hb dX8_divide_6 rfl (lv_at hl 1 rfl) ?_
  refine va_get (D := (dC, dI)) (ci := 8) (v := .int (wl tt)) (C := RX8) (T := TX8) (N := 3) hx hb hts iwsMX8_divide_in8 hown hK hP (tt) (WW_o (by omega)) rfl 1 (by decide) (hts _ hm_m_X8_divide_0) (fun _ h9 => h9) rfl dX8_divide_7 ?_
  have br7 := b_wl tt
  refine lv_iload hx hb dX8_divide_10 (lv_at hl 0 rfl) ?_
  refine lv_isub hx hb dX8_divide_12 ?_
  refine lv_topi (fun y1 hy1 => ?_)
  obtain rfl : (iI ((wl tt).toInt - (wl ta).toInt)) = y1 := (hy1.trans (iI_sub2 (iI_of _) (iI_of _))).symm
  refine lv_istore hx hb dX8_divide_13 hl (by decide) rfl (fun ls (hl : lv_has ls _ ([(5, .int (iI ((wl tt).toInt - (wl ta).toInt))), (4, .int (wl ta)), (0, .ref (hw tt)), (1, .ref (hw ta)), (2, .ref (hw tb)), (3, .ref (hw tc))])) => ?_)
  refine lv_iload hx hb dX8_divide_15 (lv_at hl 1 rfl) ?_
  refine lv_if_eq (tgt := 29) hx hb dX8_divide_17 (by decide) (fun c_17 => ?_) (fun c_17 => ?_)
  · have t_17 : (wl ta).toInt = 0 := toI_eq c_17 rfl (by decide : (0 : Int32).toInt = 0)
    refine W.widen (k := 0) (n := 0) (by decide +kernel) (by decide +kernel) ?_
    exact W.vret hx hb hr (fun t9_ ht hW => ⟨⟨(wl, wb, wG), rfl, ⟨b_wl, b_wb⟩, by rw [ht]; exact hP, hD⟩, hS.F ht⟩) hS.2.2 dX8_divide_29
  · have t_17 : ¬ (wl ta).toInt = 0 := toI_neq c_17 rfl (by decide : (0 : Int32).toInt = 0)
    refine lv_aload_n hx hb dX8_divide_20 rfl (lv_at hl 2 rfl) ?_
    refine va_get (D := (dC, dI)) (ci := 8) (v := .int (wl tt)) (C := RX8) (T := TX8) (N := 3) hx hb hts iwsMX8_divide_in8 hown hK hP (tt) (WW_o (by omega)) rfl 1 (by decide) (hts _ hm_m_X8_divide_0) (fun _ h9 => h9) rfl dX8_divide_21 ?_
    have br21 := b_wl tt
    refine lv_bipush (v := 14) hx hb dX8_divide_24 (by decide) ?_
    refine lv_icmp_lt (tgt := 30) hx hb dX8_divide_26 (by decide) (fun c_26 => ?_) (fun c_26 => ?_)
    · have t_26 : (wl tt).toInt < 14 := toI_lt c_26 rfl (by decide : (14 : Int32).toInt = 14)
      refine lv_aload_n hx hb dX8_divide_30 rfl (lv_at hl 2 rfl) ?_
      refine va_get (D := (dC, dI)) (ci := 8) (v := .int (wb tt)) (C := RX8) (T := TX8) (N := 3) hx hb hts iwsMX8_divide_in8 hown hK hP (tt) (WW_o (by omega)) rfl 2 (by decide) (hts _ hm_m_X8_divide_1) (fun _ h9 => h9) rfl dX8_divide_31 ?_
      have br31 := b_wb tt
      refine lv_aload_n hx hb dX8_divide_34 rfl (lv_at hl 3 rfl) ?_
      refine va_get (D := (dC, dI)) (ci := 8) (v := .int (wb ta)) (C := RX8) (T := TX8) (N := 3) hx hb hts iwsMX8_divide_in8 hown hK hP (ta) (WW_o (by omega)) rfl 2 (by decide) (hts _ hm_m_X8_divide_1) (fun _ h9 => h9) rfl dX8_divide_35 ?_
      have br35 := b_wb ta
      refine W.cut (pc := 46) (fun H locs ls stk => ∃ (k0_j9 : Int32), (0 ≤ k0_j9.toInt ∧ k0_j9.toInt ≤ 1) ∧  stk = [.int k0_j9] ∧ va_P (dC, dI) vwCl (WW nW hw lw kw wl wb wG) H ∧ va_D A (WW nW hw lw kw wl wb wG) ∧ va_S A s.heap H locs ∧ lv_has ls 10 [(5, .int (iI ((wl tt).toInt - (wl ta).toInt))), (4, .int (wl ta)), (0, .ref (hw tt)), (1, .ref (hw ta)), (2, .ref (hw tb)), (3, .ref (hw tc))]) (fun join9 => ?_) ?_
      · refine lv_icmp_eq (tgt := 45) hx hb dX8_divide_38 (by decide) (fun c_38 => ?_) (fun c_38 => ?_)
        · have t_38 : (wb tt).toInt = (wb ta).toInt := toI_eq c_38 rfl rfl
          refine lv_iconst (v := 0) hx hb dX8_divide_45 (by decide) ?_
          have hl : lv_has _ _ ([(5, .int (iI ((wl tt).toInt - (wl ta).toInt))), (4, .int (wl ta)), (0, .ref (hw tt)), (1, .ref (hw ta)), (2, .ref (hw tb)), (3, .ref (hw tc))]) := lv_sub hl [0, 1, 2, 3, 4, 5] rfl
          exact join9 _ _ _ _ ⟨0, (show 0 ≤ (0 : Int32).toInt ∧ (0 : Int32).toInt ≤ 1 from by decide), rfl, hP, hD, hS, hl⟩
        · have t_38 : ¬ (wb tt).toInt = (wb ta).toInt := toI_neq c_38 rfl rfl
          refine lv_iconst (v := 1) hx hb dX8_divide_41 (by decide) ?_
          refine lv_goto (tgt := 46) hx hb dX8_divide_42 (by decide) ?_
          have hl : lv_has _ _ ([(5, .int (iI ((wl tt).toInt - (wl ta).toInt))), (4, .int (wl ta)), (0, .ref (hw tt)), (1, .ref (hw ta)), (2, .ref (hw tb)), (3, .ref (hw tc))]) := lv_sub hl [0, 1, 2, 3, 4, 5] rfl
          exact join9 _ _ _ _ ⟨1, (show 0 ≤ (1 : Int32).toInt ∧ (1 : Int32).toInt ≤ 1 from by decide), rfl, hP, hD, hS, hl⟩
      · rintro H locs ls stk ⟨k0_j9, b_k0_j9, rfl, hP, hD, hS, hl⟩
        refine lv_istore hx hb dX8_divide_46 hl (by decide) rfl (fun ls (hl : lv_has ls _ ([(6, .int k0_j9), (5, .int (iI ((wl tt).toInt - (wl ta).toInt))), (4, .int (wl ta)), (0, .ref (hw tt)), (1, .ref (hw ta)), (2, .ref (hw tb)), (3, .ref (hw tc))])) => ?_)
        refine lv_aload_n hx hb dX8_divide_48 rfl (lv_at hl 3 rfl) ?_
        refine va_get (D := (dC, dI)) (ci := 8) (v := .int (wb tt)) (C := RX8) (T := TX8) (N := 3) hx hb hts iwsMX8_divide_in8 hown hK hP (tt) (WW_o (by omega)) rfl 2 (by decide) (hts _ hm_m_X8_divide_1) (fun _ h9 => h9) rfl dX8_divide_49 ?_
        have br49 := b_wb tt
        refine lv_istore hx hb dX8_divide_52 hl (by decide) rfl (fun ls (hl : lv_has ls _ ([(7, .int (wb tt)), (6, .int k0_j9), (5, .int (iI ((wl tt).toInt - (wl ta).toInt))), (4, .int (wl ta)), (0, .ref (hw tt)), (1, .ref (hw ta)), (2, .ref (hw tb)), (3, .ref (hw tc))])) => ?_)
        refine lv_iload hx hb dX8_divide_54 (lv_at hl 3 rfl) ?_
        refine lv_iconst (v := 1) hx hb dX8_divide_56 (by decide) ?_
        refine W.cut (pc := 203) (fun H locs ls stk => ∃ (wl_j12 : Nat → Int32) (wb_j12 : Nat → Int32) (wG_j12 : Nat → Nat → Int64), (∀ q : Nat, 0 ≤ (wl_j12 q).toInt ∧ (wl_j12 q).toInt ≤ 14) ∧ (∀ q : Nat, 0 ≤ (wb_j12 q).toInt ∧ (wb_j12 q).toInt ≤ 1) ∧  stk = [] ∧ va_P (dC, dI) vwCl (WW nW hw lw kw wl_j12 wb_j12 wG_j12) H ∧ va_D A (WW nW hw lw kw wl_j12 wb_j12 wG_j12) ∧ va_S A s.heap H locs ∧ lv_has ls 10 [(7, .int (wb tt)), (6, .int k0_j9), (5, .int (iI ((wl tt).toInt - (wl ta).toInt))), (4, .int (wl ta)), (0, .ref (hw tt)), (1, .ref (hw ta)), (2, .ref (hw tb)), (3, .ref (hw tc))]) (fun join12 => ?_) ?_
        · refine lv_icmp_ne (tgt := 77) hx hb dX8_divide_57 (by decide) (fun c_57 => ?_) (fun c_57 => ?_)
          · have t_57 : (wl ta).toInt ≠ 1 := toI_ne c_57 rfl (by decide : (1 : Int32).toInt = 1)
            refine lv_iload hx hb dX8_divide_77 (lv_at hl 2 rfl) ?_
            refine lv_if_ge (tgt := 95) hx hb dX8_divide_79 (by decide) (fun c_79 => ?_) (fun c_79 => ?_)
            · first | (have t_79 : ((wl tt).toInt - (wl ta).toInt) ≥ 0 := toI_ge c_79 (iI_t (by omega) (by omega)) (by decide : (0 : Int32).toInt = 0)) | skip
              refine lv_iconst (v := 0) hx hb dX8_divide_95 (by decide) ?_
              refine lv_istore hx hb dX8_divide_96 hl (by decide) rfl (fun ls (hl : lv_has ls _ ([(8, .int 0), (7, .int (wb tt)), (6, .int k0_j9), (5, .int (iI ((wl tt).toInt - (wl ta).toInt))), (4, .int (wl ta)), (0, .ref (hw tt)), (1, .ref (hw ta)), (2, .ref (hw tb)), (3, .ref (hw tc))])) => ?_)
              have hl : lv_has _ _ ([(8, .int 0), (7, .int (wb tt)), (6, .int k0_j9), (5, .int (iI ((wl tt).toInt - (wl ta).toInt))), (4, .int (wl ta)), (0, .ref (hw tt)), (1, .ref (hw ta)), (2, .ref (hw tb)), (3, .ref (hw tc))]) := lv_sub hl [0, 1, 2, 3, 4, 5, 6, 7, 8] rfl
              refine (fun (loop : ∀ (n9 : Nat) (l8_x98 : Int32) (H : Heap) (locs : List Loc) (ls : Array Slot), (0 ≤ l8_x98.toInt ∧ l8_x98.toInt ≤ 30) → (30 - l8_x98.toInt < ((n9 : Nat) : Int)) → va_P (dC, dI) vwCl (WW nW hw lw kw wl wb wG) H → va_D A (WW nW hw lw kw wl wb wG) → va_S A s.heap H locs → lv_has ls 10 [(8, .int l8_x98), (7, .int (wb tt)), (6, .int k0_j9), (5, .int (iI ((wl tt).toInt - (wl ta).toInt))), (4, .int (wl ta)), (0, .ref (hw tt)), (1, .ref (hw ta)), (2, .ref (hw tb)), (3, .ref (hw tc))] → W p l e _ s m _ below meth c H locs 0 0 _ (F0 m 98 ls [])) => loop (31) 0 _ _ _ (show 0 ≤ (0 : Int32).toInt ∧ (0 : Int32).toInt ≤ 30 from by decide) ((by have e9 : (0 : Int32).toInt = 0 := (by decide : (0 : Int32).toInt = 0); omega)) hP hD hS hl) ?_
              intro n9
              induction n9 with
              | zero => intro l8_x98 H locs ls b_l8_x98 hf9; exact False.elim (by omega)
              | succ n9 ihx98 =>
                intro l8_x98 H locs ls b_l8_x98 hfx98 hP hD hS hl
                refine lv_iload hx hb dX8_divide_98 (lv_at hl 0 rfl) ?_
                refine lv_bipush (v := 30) hx hb dX8_divide_100 (by decide) ?_
                refine W.cut (pc := 130) (fun H locs ls stk =>  stk = [] ∧ va_P (dC, dI) vwCl (WW nW hw lw kw wl wb wG) H ∧ va_D A (WW nW hw lw kw wl wb wG) ∧ va_S A s.heap H locs ∧ lv_has ls 10 [(8, .int l8_x98), (7, .int (wb tt)), (6, .int k0_j9), (5, .int (iI ((wl tt).toInt - (wl ta).toInt))), (4, .int (wl ta)), (0, .ref (hw tt)), (1, .ref (hw ta)), (2, .ref (hw tb)), (3, .ref (hw tc))]) (fun join14 => ?_) ?_
                · refine lv_icmp_ge (tgt := 130) hx hb dX8_divide_102 (by decide) (fun c_102 => ?_) (fun c_102 => ?_)
                  · have t_102 : l8_x98.toInt ≥ 30 := toI_ge c_102 rfl (by decide : (30 : Int32).toInt = 30)
                    have hl : lv_has _ _ ([(8, .int l8_x98), (7, .int (wb tt)), (6, .int k0_j9), (5, .int (iI ((wl tt).toInt - (wl ta).toInt))), (4, .int (wl ta)), (0, .ref (hw tt)), (1, .ref (hw ta)), (2, .ref (hw tb)), (3, .ref (hw tc))]) := lv_sub hl [0, 1, 2, 3, 4, 5, 6, 7, 8] rfl
                    exact join14 _ _ _ _ ⟨rfl, hP, hD, hS, hl⟩
                  · have t_102 : ¬ l8_x98.toInt ≥ 30 := toI_nge c_102 rfl (by decide : (30 : Int32).toInt = 30)
                    refine lv_aload_n hx hb dX8_divide_105 rfl (lv_at hl 6 rfl) ?_
                    refine va_get (D := (dC, dI)) (ci := 8) (v := .ref (lw ta)) (C := RX8) (T := TX8) (N := 3) hx hb hts iwsMX8_divide_in8 hown hK hP (ta) (WW_o (by omega)) rfl 0 (by decide) (hts _ hm_m_X8_divide_2) (fun _ h9 => h9) rfl dX8_divide_106 ?_
                    refine lv_iload hx hb dX8_divide_109 (lv_at hl 4 rfl) ?_
                    refine lv_iconst (v := 1) hx hb dX8_divide_111 (by decide) ?_
                    refine lv_isub hx hb dX8_divide_112 ?_
                    refine lv_topi (fun y194 hy194 => ?_)
                    obtain rfl : (iI ((wl ta).toInt - 1)) = y194 := (hy194.trans (iI_sub2 (iI_of _) (by decide : (1 : Int32) = iI 1))).symm
                    refine va_lald (cA := kw) (n := 14) (f := (wG ta)) hx hb hK hP (nW + ta) 0 (WW_a (by omega)) rfl (vp_iI (by omega) (by omega) (by decide)) dX8_divide_113 ?_
                    refine lv_topl (fun v195 hv195 => ?_)
                    clear hv195
                    refine lv_iload hx hb dX8_divide_114 (lv_at hl 0 rfl) ?_
                    refine lv_lshl hx hb dX8_divide_116 rfl ?_
                    refine lv_topl (fun v196 hv196 => ?_)
                    clear hv196
                    refine lv_ldc2 (v := 536870911) hx hb hown (hts (.constantLong RX8 64 536870911) (by decide +kernel)) dX8_divide_117 ?_
                    refine W.lcmp hx hb dX8_divide_120 ?_
                    refine lv_if_gt (tgt := 130) hx hb dX8_divide_121 (by decide) (fun c_121 => ?_) (fun c_121 => ?_)
                    · have t_121 : v196.toInt > 536870911 := toL_gt c_121 rfl (by decide : (536870911 : Int64).toInt = 536870911)
                      have hl : lv_has _ _ ([(8, .int l8_x98), (7, .int (wb tt)), (6, .int k0_j9), (5, .int (iI ((wl tt).toInt - (wl ta).toInt))), (4, .int (wl ta)), (0, .ref (hw tt)), (1, .ref (hw ta)), (2, .ref (hw tb)), (3, .ref (hw tc))]) := lv_sub hl [0, 1, 2, 3, 4, 5, 6, 7, 8] rfl
                      exact join14 _ _ _ _ ⟨rfl, hP, hD, hS, hl⟩
                    · have t_121 : ¬ v196.toInt > 536870911 := toL_ngt c_121 rfl (by decide : (536870911 : Int64).toInt = 536870911)
                      refine lv_iinc (v := (iI (l8_x98.toInt + 1))) hx hb dX8_divide_124 hl (k := 0) rfl (iI_add2 (iI_of _) (by decide : (1 : Int32) = iI 1)) (by decide) rfl (fun ls (hl : lv_has ls _ ([(8, .int (iI (l8_x98.toInt + 1))), (7, .int (wb tt)), (6, .int k0_j9), (5, .int (iI ((wl tt).toInt - (wl ta).toInt))), (4, .int (wl ta)), (0, .ref (hw tt)), (1, .ref (hw ta)), (2, .ref (hw tb)), (3, .ref (hw tc))])) => ?_)
                      refine lv_goto (tgt := 98) hx hb dX8_divide_127 (by decide) ?_
                      have hl : lv_has _ _ ([(8, .int (iI (l8_x98.toInt + 1))), (7, .int (wb tt)), (6, .int k0_j9), (5, .int (iI ((wl tt).toInt - (wl ta).toInt))), (4, .int (wl ta)), (0, .ref (hw tt)), (1, .ref (hw ta)), (2, .ref (hw tb)), (3, .ref (hw tc))]) := lv_sub hl [0, 1, 2, 3, 4, 5, 6, 7, 8] rfl
                      exact ihx98 (iI (l8_x98.toInt + 1)) _ _ _ (iI_rng (Int.le_trans (by decide) (Int.add_le_add (b_l8_x98.1) (Int.le_refl _))) (by omega) (by decide) (by decide)) (by have e9 : ((iI (l8_x98.toInt + 1))).toInt = (l8_x98.toInt + 1) := (iI_t (Int.le_trans (by decide) (Int.add_le_add (b_l8_x98.1) (Int.le_refl _))) (Int.le_trans (Int.add_le_add (b_l8_x98.2) (Int.le_refl _)) (by decide))); omega) hP hD hS hl
                · rintro H locs ls stk ⟨rfl, hP, hD, hS, hl⟩
                  refine lv_aload_n hx hb dX8_divide_130 rfl (lv_at hl 8 rfl) ?_
                  refine lv_aload_n hx hb dX8_divide_131 rfl (lv_at hl 6 rfl) ?_
                  refine lv_iload hx hb dX8_divide_132 (lv_at hl 0 rfl) ?_
                  have hFc := allFree hD hS hA
                  refine va_callv (va_runV (As := [.ref (hw ta), .int l8_x98]) (rest := []) ⟨hx, hb, hml, hown, hts⟩ (m_X8_setShifted l dC dI nW hw lw kw wl wb wG tc ta l8_x98 b_wl b_wb (by first | with_reducible assumption | omega | (rw [iI_t (by omega) (by omega)]; omega) | decide | assumption) (by first | with_reducible assumption | omega | (rw [iI_t (by omega) (by omega)]; omega) | decide | assumption) (by first | with_reducible assumption | omega | (rw [iI_t (by omega) (by omega)]; omega) | decide | assumption) H.size) (cwV 2 hts gwsMX8_divide_0 rfl rfl rfl hd_yX8_setShifted_RX8 (by decide +kernel)) (fz_pre (va_recv hK hP (ci := 8) (q0 := tc) rfl (WW_o (by omega))) hP hK hD) rfl rfl hl.1 rfl (lv_room (Nat.le_of_ble_eq_true rfl)) dX8_divide_134 (by decide +kernel)) hS (fun q _ h => hFc q h) hFc (fun u t9_ H locs ht hvm hw9 hB9 hz1 hk1 hS => ?_)
                  revert u hw9 hB9
                  refine fz_p2 ?_
                  intro wl_197 wG_197 hw9 hB9
                  try dsimp only at hw9 hB9
                  revert hw9
                  refine fz_a2 ?_
                  intro b_wl_197 f197_0
                  have hP : va_P (dC, dI) vwCl (WW nW hw lw kw wl_197 wb wG_197) H := fz_P ht hB9.1
                  have hD := fz_sd hP (hB9.2.weaken (fun _ q _ h => hFc q.1 h)) rfl
                  refine lv_aload_n hx hb dX8_divide_137 rfl (lv_at hl 7 rfl) ?_
                  refine lv_aload_n hx hb dX8_divide_138 rfl (lv_at hl 5 rfl) ?_
                  refine lv_iload hx hb dX8_divide_139 (lv_at hl 0 rfl) ?_
                  have hFc := allFree hD hS hA
                  refine va_callv (va_runV (As := [.ref (hw tt), .int l8_x98]) (rest := []) ⟨hx, hb, hml, hown, hts⟩ (m_X8_setShifted l dC dI nW hw lw kw wl_197 wb wG_197 tb tt l8_x98 b_wl_197 b_wb (by first | with_reducible assumption | omega | (rw [iI_t (by omega) (by omega)]; omega) | decide | assumption) (by first | with_reducible assumption | omega | (rw [iI_t (by omega) (by omega)]; omega) | decide | assumption) (by rw [f197_0 tt hne]; omega) H.size) (cwV 2 hts gwsMX8_divide_0 rfl rfl rfl hd_yX8_setShifted_RX8 (by decide +kernel)) (fz_pre (va_recv hK hP (ci := 8) (q0 := tb) rfl (WW_o (by omega))) hP hK hD) rfl rfl hl.1 rfl (lv_room (Nat.le_of_ble_eq_true rfl)) dX8_divide_141 (by decide +kernel)) hS (fun q _ h => hFc q h) hFc (fun u t9_ H locs ht hvm hw9 hB9 hz1 hk1 hS => ?_)
                  revert u hw9 hB9
                  refine fz_p2 ?_
                  intro wl_198 wG_198 hw9 hB9
                  try dsimp only at hw9 hB9
                  revert hw9
                  refine fz_a2 ?_
                  intro b_wl_198 f198_0
                  have hP : va_P (dC, dI) vwCl (WW nW hw lw kw wl_198 wb wG_198) H := fz_P ht hB9.1
                  have hD := fz_sd hP (hB9.2.weaken (fun _ q _ h => hFc q.1 h)) rfl
                  refine lv_iload hx hb dX8_divide_144 (lv_at hl 3 rfl) ?_
                  refine lv_istore hx hb dX8_divide_146 hl (by decide) rfl (fun ls (hl : lv_has ls _ ([(9, .int (iI ((wl tt).toInt - (wl ta).toInt))), (8, .int l8_x98), (7, .int (wb tt)), (6, .int k0_j9), (5, .int (iI ((wl tt).toInt - (wl ta).toInt))), (4, .int (wl ta)), (0, .ref (hw tt)), (1, .ref (hw ta)), (2, .ref (hw tb)), (3, .ref (hw tc))])) => ?_)
                  have hl : lv_has _ _ ([(9, .int (iI ((wl tt).toInt - (wl ta).toInt))), (8, .int l8_x98), (7, .int (wb tt)), (6, .int k0_j9), (5, .int (iI ((wl tt).toInt - (wl ta).toInt))), (4, .int (wl ta)), (0, .ref (hw tt)), (1, .ref (hw ta)), (2, .ref (hw tb)), (3, .ref (hw tc))]) := lv_sub hl [0, 1, 2, 3, 4, 5, 6, 7, 8, 9] rfl
                  refine (fun (loop : ∀ (n9 : Nat) (wG_x148 : Nat → Nat → Int64) (l9_x148 : Int32) (H : Heap) (locs : List Loc) (ls : Array Slot), ((-1) ≤ l9_x148.toInt ∧ l9_x148.toInt ≤ 13) → ((wl ta).toInt + l9_x148.toInt ≤ 13) → (l9_x148.toInt - (-1) < ((n9 : Nat) : Int)) → va_P (dC, dI) vwCl (WW nW hw lw kw wl_198 wb wG_x148) H → va_D A (WW nW hw lw kw wl_198 wb wG_x148) → va_S A s.heap H locs → lv_has ls 10 [(9, .int l9_x148), (8, .int l8_x98), (7, .int (wb tt)), (6, .int k0_j9), (5, .int (iI ((wl tt).toInt - (wl ta).toInt))), (4, .int (wl ta)), (0, .ref (hw tt)), (1, .ref (hw ta)), (2, .ref (hw tb)), (3, .ref (hw tc))] → W p l e _ s m _ below meth c H locs 0 0 _ (F0 m 148 ls [])) => loop (15) wG_198 (iI ((wl tt).toInt - (wl ta).toInt)) _ _ _ (iI_rng (by omega) (by omega) (by decide) (by decide)) (show (wl ta).toInt + (iI ((wl tt).toInt - (wl ta).toInt)).toInt ≤ 13 from by (try rw [iI_t (by omega) (by omega)]); omega) ((by have e9 : ((iI ((wl tt).toInt - (wl ta).toInt))).toInt = ((wl tt).toInt - (wl ta).toInt) := (iI_t (by omega) (by omega)); omega)) hP hD hS hl) ?_
                  intro n9
                  induction n9 with
                  | zero => intro wG_x148 l9_x148 H locs ls b_l9_x148 hsj hf9; exact False.elim (by omega)
                  | succ n9 ihx148 =>
                    intro wG_x148 l9_x148 H locs ls b_l9_x148 hsj hfx148 hP hD hS hl
                    refine lv_iload hx hb dX8_divide_148 (lv_at hl 0 rfl) ?_
                    refine lv_if_lt (tgt := 175) hx hb dX8_divide_150 (by decide) (fun c_150 => ?_) (fun c_150 => ?_)
                    · have t_150 : l9_x148.toInt < 0 := toI_lt c_150 rfl (by decide : (0 : Int32).toInt = 0)
                      refine lv_aload_n hx hb dX8_divide_175 rfl (lv_at hl 6 rfl) ?_
                      refine lv_iload hx hb dX8_divide_176 (lv_at hl 4 rfl) ?_
                      refine lv_iconst (v := 1) hx hb dX8_divide_178 (by decide) ?_
                      refine lv_iadd hx hb dX8_divide_179 ?_
                      refine lv_topi (fun y221 hy221 => ?_)
                      obtain rfl : (iI (((wl tt).toInt - (wl ta).toInt) + 1)) = y221 := (hy221.trans (iI_add2 rfl (by decide : (1 : Int32) = iI 1))).symm
                      refine va_put (D := (dC, dI)) (ci := 8) (v := .int (iI (((wl tt).toInt - (wl ta).toInt) + 1))) (ty := .int) (C := RX8) (T := TX8) (N := 3) hx hb hts iwsMX8_divide_in8 tyX8 tyX8_ok nmX8 hown hK hP hD hS (tt) (WW_o (by omega)) rfl 1 (by decide) (hts _ hm_m_X8_divide_0) (fun _ h9 => h9) rfl (by decide +kernel) rfl rfl (Nat.le_of_ble_eq_true rfl) dX8_divide_180 (fun H locs hP hD hS => ?_)
                      obtain ⟨u222, hu222⟩ : ∃ f9, f9 = fT wl_198 tt (iI (((wl tt).toInt - (wl ta).toInt) + 1)) := ⟨_, rfl⟩
                      have hP : va_P (dC, dI) vwCl (WW nW hw lw kw u222 wb wG_x148) H := by rw [hu222]; exact Eq.mp (congrArg (fun z9 => va_P (dC, dI) vwCl z9 H) (WW_sl (by omega) (iI (((wl tt).toInt - (wl ta).toInt) + 1)))) hP
                      have hD : va_D A (WW nW hw lw kw u222 wb wG_x148) := by rw [hu222]; exact Eq.mp (congrArg (fun z9 => va_D A z9) (WW_sl (by omega) (iI (((wl tt).toInt - (wl ta).toInt) + 1)))) hD
                      have b_u222 : ∀ q : Nat, 0 ≤ (u222 q).toInt ∧ (u222 q).toInt ≤ 14 := by rw [hu222]; exact fT_r b_wl_198 (iI_rng (by omega) (by omega) (by decide) (by decide))
                      have q_u222 : (u222 tt).toInt = (((wl tt).toInt - (wl ta).toInt) + 1) := by rw [hu222, fT_eq]; exact (iI_t (by omega) (by omega))
                      clear hu222
                      refine lv_aload_n hx hb dX8_divide_183 rfl (lv_at hl 6 rfl) ?_
                      have hFc := allFree hD hS hA
                      refine va_callv (va_runV (As := []) (rest := []) ⟨hx, hb, hml, hown, hts⟩ (m_X8_trim l dC dI nW hw lw kw u222 wb wG_x148 tt b_u222 b_wb (by first | with_reducible assumption | omega | (rw [iI_t (by omega) (by omega)]; omega) | decide | assumption) H.size) (cwV 0 hts gwsMX8_divide_2 rfl rfl rfl hd_yX8_trim_RX8 (by decide +kernel)) (fz_pre (va_recv hK hP (ci := 8) (q0 := tt) rfl (WW_o (by omega))) hP hK hD) rfl rfl hl.1 rfl (lv_room (Nat.le_of_ble_eq_true rfl)) dX8_divide_184 (by decide +kernel)) hS (fun q _ h => hFc q h) hFc (fun u t9_ H locs ht hvm hw9 hB9 hz1 hk1 hS => ?_)
                      revert u hw9 hB9
                      refine fz_p2 ?_
                      intro wl_223 wb_223 hw9 hB9
                      try dsimp only at hw9 hB9
                      revert hw9
                      refine fz_a2 ?_
                      intro b_wl_223 b_wb_223
                      have hP : va_P (dC, dI) vwCl (WW nW hw lw kw wl_223 wb_223 wG_x148) H := fz_P ht hB9.1
                      have hD := fz_sd hP (hB9.2.weaken (fun _ q _ h => hFc q.1 h)) rfl
                      refine lv_aload_n hx hb dX8_divide_187 rfl (lv_at hl 8 rfl) ?_
                      refine lv_iload hx hb dX8_divide_188 (lv_at hl 5 rfl) ?_
                      refine va_put (D := (dC, dI)) (ci := 8) (v := .int (wl ta)) (ty := .int) (C := RX8) (T := TX8) (N := 3) hx hb hts iwsMX8_divide_in8 tyX8 tyX8_ok nmX8 hown hK hP hD hS (tb) (WW_o (by omega)) rfl 1 (by decide) (hts _ hm_m_X8_divide_0) (fun _ h9 => h9) rfl (by decide +kernel) rfl rfl (Nat.le_of_ble_eq_true rfl) dX8_divide_190 (fun H locs hP hD hS => ?_)
                      obtain ⟨u224, hu224⟩ : ∃ f9, f9 = fT wl_223 tb (wl ta) := ⟨_, rfl⟩
                      have hP : va_P (dC, dI) vwCl (WW nW hw lw kw u224 wb_223 wG_x148) H := by rw [hu224]; exact Eq.mp (congrArg (fun z9 => va_P (dC, dI) vwCl z9 H) (WW_sl (by omega) (wl ta))) hP
                      have hD : va_D A (WW nW hw lw kw u224 wb_223 wG_x148) := by rw [hu224]; exact Eq.mp (congrArg (fun z9 => va_D A z9) (WW_sl (by omega) (wl ta))) hD
                      have b_u224 : ∀ q : Nat, 0 ≤ (u224 q).toInt ∧ (u224 q).toInt ≤ 14 := by rw [hu224]; exact fT_r b_wl_223 (by first | assumption | exact ⟨by omega, by omega⟩)
                      have q_u224 : (u224 tb).toInt = (wl ta).toInt := by rw [hu224, fT_eq]
                      clear hu224
                      refine lv_aload_n hx hb dX8_divide_193 rfl (lv_at hl 8 rfl) ?_
                      refine lv_iload hx hb dX8_divide_194 (lv_at hl 1 rfl) ?_
                      have hFc := allFree hD hS hA
                      refine va_callv (va_runV (As := [.int l8_x98]) (rest := []) ⟨hx, hb, hml, hown, hts⟩ (m_X8_shiftBack l dC dI nW hw lw kw u224 wb_223 wG_x148 tb l8_x98 b_u224 b_wb_223 (by first | with_reducible assumption | omega | (rw [iI_t (by omega) (by omega)]; omega) | decide | assumption) H.size) (cwV 1 hts gwsMX8_divide_3 rfl rfl rfl hd_yX8_shiftBack_RX8 (by decide +kernel)) (fz_pre (va_recv hK hP (ci := 8) (q0 := tb) rfl (WW_o (by omega))) hP hK hD) rfl rfl hl.1 rfl (lv_room (Nat.le_of_ble_eq_true rfl)) dX8_divide_196 (by decide +kernel)) hS (fun q _ h => hFc q h) hFc (fun wG_225 t9_ H locs ht hvm hw9 hB9 hz1 hk1 hS => ?_)
                      clear hw9
                      have hP : va_P (dC, dI) vwCl (WW nW hw lw kw u224 wb_223 wG_225) H := fz_P ht hB9.1
                      have hD := fz_sd hP (hB9.2.weaken (fun _ q _ h => hFc q.1 h)) rfl
                      refine lv_aload_n hx hb dX8_divide_199 rfl (lv_at hl 8 rfl) ?_
                      have hFc := allFree hD hS hA
                      refine va_callv (va_runV (As := []) (rest := []) ⟨hx, hb, hml, hown, hts⟩ (m_X8_trim l dC dI nW hw lw kw u224 wb_223 wG_225 tb b_u224 b_wb_223 (by first | with_reducible assumption | omega | (rw [iI_t (by omega) (by omega)]; omega) | decide | assumption) H.size) (cwV 0 hts gwsMX8_divide_2 rfl rfl rfl hd_yX8_trim_RX8 (by decide +kernel)) (fz_pre (va_recv hK hP (ci := 8) (q0 := tb) rfl (WW_o (by omega))) hP hK hD) rfl rfl hl.1 rfl (lv_room (Nat.le_of_ble_eq_true rfl)) dX8_divide_200 (by decide +kernel)) hS (fun q _ h => hFc q h) hFc (fun u t9_ H locs ht hvm hw9 hB9 hz1 hk1 hS => ?_)
                      revert u hw9 hB9
                      refine fz_p2 ?_
                      intro wl_226 wb_226 hw9 hB9
                      try dsimp only at hw9 hB9
                      revert hw9
                      refine fz_a2 ?_
                      intro b_wl_226 b_wb_226
                      have hP : va_P (dC, dI) vwCl (WW nW hw lw kw wl_226 wb_226 wG_225) H := fz_P ht hB9.1
                      have hD := fz_sd hP (hB9.2.weaken (fun _ q _ h => hFc q.1 h)) rfl
                      have hl : lv_has _ _ ([(7, .int (wb tt)), (6, .int k0_j9), (5, .int (iI ((wl tt).toInt - (wl ta).toInt))), (4, .int (wl ta)), (0, .ref (hw tt)), (1, .ref (hw ta)), (2, .ref (hw tb)), (3, .ref (hw tc))]) := lv_sub hl [2, 3, 4, 5, 6, 7, 8, 9] rfl
                      exact join12 _ _ _ _ ⟨wl_226, wb_226, wG_225, b_wl_226, b_wb_226, rfl, hP, hD, hS, hl⟩
                    · have t_150 : ¬ l9_x148.toInt < 0 := toI_nlt c_150 rfl (by decide : (0 : Int32).toInt = 0)
                      refine lv_aload_n hx hb dX8_divide_153 rfl (lv_at hl 6 rfl) ?_
                      refine va_get (D := (dC, dI)) (ci := 8) (v := .ref (lw tt)) (C := RX8) (T := TX8) (N := 3) hx hb hts iwsMX8_divide_in8 hown hK hP (tt) (WW_o (by omega)) rfl 0 (by decide) (hts _ hm_m_X8_divide_2) (fun _ h9 => h9) rfl dX8_divide_154 ?_
                      refine lv_iload hx hb dX8_divide_157 (lv_at hl 0 rfl) ?_
                      refine lv_aload_n hx hb dX8_divide_159 rfl (lv_at hl 8 rfl) ?_
                      refine lv_aload_n hx hb dX8_divide_160 rfl (lv_at hl 9 rfl) ?_
                      refine lv_iload hx hb dX8_divide_161 (lv_at hl 5 rfl) ?_
                      refine lv_iload hx hb dX8_divide_163 (lv_at hl 0 rfl) ?_
                      have hFc := allFree hD hS hA
                      refine va_calll (va_runV (As := [.ref (hw tc), .int (wl ta), .int l9_x148]) (rest := [.int l9_x148, .ref (lw tt)]) ⟨hx, hb, hml, hown, hts⟩ (m_X8_takeTimes l dC dI nW hw lw kw wl_198 wb wG_x148 tb tc (wl ta) l9_x148 b_wl_198 b_wb (by first | assumption | exact ⟨by omega, by omega⟩) (by first | exact b_l9_x148 | with_reducible assumption | exact ⟨by omega, by omega⟩ | assumption) (by first | with_reducible assumption | omega | (rw [iI_t (by omega) (by omega)]; omega) | decide | assumption) (by first | with_reducible assumption | omega | (rw [iI_t (by omega) (by omega)]; omega) | decide | assumption) (by first | with_reducible assumption | omega | (rw [iI_t (by omega) (by omega)]; omega) | decide | assumption) H.size) (cwV 3 hts gwsMX8_divide_1 rfl rfl rfl hd_yX8_takeTimes_RX8 (by decide +kernel)) (fz_pre (va_recv hK hP (ci := 8) (q0 := tb) rfl (WW_o (by omega))) hP hK hD) rfl rfl hl.1 rfl (lv_room (Nat.le_of_ble_eq_true rfl)) dX8_divide_165 (by decide +kernel)) hS (fun q _ h => hFc q h) hFc (fun r227 wG_227 t9_ H locs ht hvm hw9 hB9 hz1 hk1 hS => ?_)
                      clear hw9
                      have hP : va_P (dC, dI) vwCl (WW nW hw lw kw wl_198 wb wG_227) H := fz_P ht hB9.1
                      have hD := fz_sd hP (hB9.2.weaken (fun _ q _ h => hFc q.1 h)) rfl
                      refine va_last (cA := kw) (n := 14) (f := (wG_227 tt)) hx hb hK hP hD hS (nW + tt) 0 (WW_a (by omega)) rfl (vp_in_iff.mpr ⟨(by omega), (Int.lt_of_le_of_lt (b_l9_x148.2) (by decide))⟩) dX8_divide_168 (fun H locs hP hD hS => ?_)
                      obtain ⟨u228, hu228⟩ : ∃ f9, f9 = fT wG_227 tt (vp_updL (wG_227 tt) (l9_x148).toNatClampNeg r227) := ⟨_, rfl⟩
                      have hP : va_P (dC, dI) vwCl (WW nW hw lw kw wl_198 wb u228) H := by rw [hu228]; exact Eq.mp (congrArg (fun z9 => va_P (dC, dI) vwCl z9 H) (WW_sg (by omega) (vp_updL (wG_227 tt) (l9_x148).toNatClampNeg r227))) hP
                      have hD : va_D A (WW nW hw lw kw wl_198 wb u228) := by rw [hu228]; exact Eq.mp (congrArg (fun z9 => va_D A z9) (WW_sg (by omega) (vp_updL (wG_227 tt) (l9_x148).toNatClampNeg r227))) hD
                      clear hu228
                      refine lv_iinc (v := (iI (l9_x148.toInt + (-1)))) hx hb dX8_divide_169 hl (k := 0) rfl (iI_add2 (iI_of _) (by decide : ((-1) : Int32) = iI (-1))) (by decide) rfl (fun ls (hl : lv_has ls _ ([(9, .int (iI (l9_x148.toInt + (-1)))), (8, .int l8_x98), (7, .int (wb tt)), (6, .int k0_j9), (5, .int (iI ((wl tt).toInt - (wl ta).toInt))), (4, .int (wl ta)), (0, .ref (hw tt)), (1, .ref (hw ta)), (2, .ref (hw tb)), (3, .ref (hw tc))])) => ?_)
                      refine lv_goto (tgt := 148) hx hb dX8_divide_172 (by decide) ?_
                      have hl : lv_has _ _ ([(9, .int (iI (l9_x148.toInt + (-1)))), (8, .int l8_x98), (7, .int (wb tt)), (6, .int k0_j9), (5, .int (iI ((wl tt).toInt - (wl ta).toInt))), (4, .int (wl ta)), (0, .ref (hw tt)), (1, .ref (hw ta)), (2, .ref (hw tb)), (3, .ref (hw tc))]) := lv_sub hl [0, 1, 2, 3, 4, 5, 6, 7, 8, 9] rfl
                      exact ihx148 u228 (iI (l9_x148.toInt + (-1))) _ _ _ (iI_rng (by omega) (Int.le_trans (Int.add_le_add (b_l9_x148.2) (Int.le_refl _)) (by decide)) (by decide) (by decide)) (show (wl ta).toInt + (iI (l9_x148.toInt + (-1))).toInt ≤ 13 from by (try rw [iI_t (by omega) (by omega)]); omega) (by have e9 : ((iI (l9_x148.toInt + (-1)))).toInt = (l9_x148.toInt + (-1)) := (iI_t (Int.le_trans (by decide) (Int.add_le_add (b_l9_x148.1) (Int.le_refl _))) (Int.le_trans (Int.add_le_add (b_l9_x148.2) (Int.le_refl _)) (by decide))); omega) hP hD hS hl
            · first | (have t_79 : ¬ ((wl tt).toInt - (wl ta).toInt) ≥ 0 := toI_nge c_79 (iI_t (by omega) (by omega)) (by decide : (0 : Int32).toInt = 0)) | skip
              refine lv_aload_n hx hb dX8_divide_82 rfl (lv_at hl 6 rfl) ?_
              refine lv_aload_n hx hb dX8_divide_83 rfl (lv_at hl 4 rfl) ?_
              have hFc := allFree hD hS hA
              refine va_callv (va_runV (As := [.ref (hw tt)]) (rest := []) ⟨hx, hb, hml, hown, hts⟩ (m_X8_copy l dC dI nW hw lw kw wl wb wG tb tt b_wl b_wb (by first | with_reducible assumption | omega | (rw [iI_t (by omega) (by omega)]; omega) | decide | assumption) (by first | with_reducible assumption | omega | (rw [iI_t (by omega) (by omega)]; omega) | decide | assumption) H.size) (cwV 1 hts gwsMX8_divide_4 rfl rfl rfl hd_yX8_copy_RX8 (by decide +kernel)) (fz_pre (va_recv hK hP (ci := 8) (q0 := tb) rfl (WW_o (by omega))) hP hK hD) rfl rfl hl.1 rfl (lv_room (Nat.le_of_ble_eq_true rfl)) dX8_divide_84 (by decide +kernel)) hS (fun q _ h => hFc q h) hFc (fun u t9_ H locs ht hvm hw9 hB9 hz1 hk1 hS => ?_)
              revert u hw9 hB9
              refine fz_p3 ?_
              intro wl_229 wb_229 wG_229 hw9 hB9
              try dsimp only at hw9 hB9
              revert hw9
              refine fz_a2 ?_
              intro b_wl_229 b_wb_229
              have hP : va_P (dC, dI) vwCl (WW nW hw lw kw wl_229 wb_229 wG_229) H := fz_P ht hB9.1
              have hD := fz_sd hP (hB9.2.weaken (fun _ q _ h => hFc q.1 h)) rfl
              refine lv_aload_n hx hb dX8_divide_87 rfl (lv_at hl 4 rfl) ?_
              refine lv_iconst (v := 0) hx hb dX8_divide_88 (by decide) ?_
              refine va_put (D := (dC, dI)) (ci := 8) (v := .int 0) (ty := .int) (C := RX8) (T := TX8) (N := 3) hx hb hts iwsMX8_divide_in8 tyX8 tyX8_ok nmX8 hown hK hP hD hS (tt) (WW_o (by omega)) rfl 1 (by decide) (hts _ hm_m_X8_divide_0) (fun _ h9 => h9) rfl (by decide +kernel) rfl rfl (Nat.le_of_ble_eq_true rfl) dX8_divide_89 (fun H locs hP hD hS => ?_)
              obtain ⟨u230, hu230⟩ : ∃ f9, f9 = fT wl_229 tt (0 : Int32) := ⟨_, rfl⟩
              have hP : va_P (dC, dI) vwCl (WW nW hw lw kw u230 wb_229 wG_229) H := by rw [hu230]; exact Eq.mp (congrArg (fun z9 => va_P (dC, dI) vwCl z9 H) (WW_sl (by omega) (0 : Int32))) hP
              have hD : va_D A (WW nW hw lw kw u230 wb_229 wG_229) := by rw [hu230]; exact Eq.mp (congrArg (fun z9 => va_D A z9) (WW_sl (by omega) (0 : Int32))) hD
              have b_u230 : ∀ q : Nat, 0 ≤ (u230 q).toInt ∧ (u230 q).toInt ≤ 14 := by rw [hu230]; exact fT_r b_wl_229 (show 0 ≤ (0 : Int32).toInt ∧ (0 : Int32).toInt ≤ 14 from by decide)
              have q_u230 : (u230 tt).toInt = 0 := by rw [hu230, fT_eq]; exact (by decide : (0 : Int32).toInt = 0)
              clear hu230
              refine lv_goto (tgt := 203) hx hb dX8_divide_92 (by decide) ?_
              have hl : lv_has _ _ ([(7, .int (wb tt)), (6, .int k0_j9), (5, .int (iI ((wl tt).toInt - (wl ta).toInt))), (4, .int (wl ta)), (0, .ref (hw tt)), (1, .ref (hw ta)), (2, .ref (hw tb)), (3, .ref (hw tc))]) := lv_sub hl [0, 1, 2, 3, 4, 5, 6, 7] rfl
              exact join12 _ _ _ _ ⟨u230, wb_229, wG_229, b_u230, b_wb_229, rfl, hP, hD, hS, hl⟩
          · have t_57 : (wl ta).toInt = 1 := toI_nne c_57 rfl (by decide : (1 : Int32).toInt = 1)
            refine lv_aload_n hx hb dX8_divide_60 rfl (lv_at hl 6 rfl) ?_
            refine lv_aload_n hx hb dX8_divide_61 rfl (lv_at hl 4 rfl) ?_
            refine lv_aload_n hx hb dX8_divide_62 rfl (lv_at hl 5 rfl) ?_
            refine va_get (D := (dC, dI)) (ci := 8) (v := .ref (lw ta)) (C := RX8) (T := TX8) (N := 3) hx hb hts iwsMX8_divide_in8 hown hK hP (ta) (WW_o (by omega)) rfl 0 (by decide) (hts _ hm_m_X8_divide_2) (fun _ h9 => h9) rfl dX8_divide_63 ?_
            refine lv_iconst (v := 0) hx hb dX8_divide_66 (by decide) ?_
            refine va_lald (cA := kw) (n := 14) (f := (wG ta)) hx hb hK hP (nW + ta) 0 (WW_a (by omega)) rfl (show ¬ ((0 : Int32) < 0 ∨ 14 ≤ (0 : Int32).toNatClampNeg) by decide) dX8_divide_67 ?_
            refine lv_topl (fun v231 hv231 => ?_)
            clear hv231
            have hFc := allFree hD hS hA
            refine va_calll (va_runV (As := [.long v231]) (rest := [.ref (hw tb)]) ⟨hx, hb, hml, hown, hts⟩ (m_X8_divideSmall l dC dI nW hw lw kw wl wb wG tt v231 b_wl b_wb (by first | with_reducible assumption | omega | (rw [iI_t (by omega) (by omega)]; omega) | decide | assumption) H.size) (cwV 1 hts gwsMX8_divide_5 rfl rfl rfl hd_yX8_divideSmall_RX8 (by decide +kernel)) (fz_pre (va_recv hK hP (ci := 8) (q0 := tt) rfl (WW_o (by omega))) hP hK hD) rfl rfl hl.1 rfl (lv_room (Nat.le_of_ble_eq_true rfl)) dX8_divide_68 (by decide +kernel)) hS (fun q _ h => hFc q h) hFc (fun r232 u t9_ H locs ht hvm hw9 hB9 hz1 hk1 hS => ?_)
            revert u hw9 hB9
            refine fz_p2 ?_
            intro wl_232 wG_232 hw9 hB9
            try dsimp only at hw9 hB9
            have b_wl_232 := hw9
            try dsimp only at b_wl_232
            have hP : va_P (dC, dI) vwCl (WW nW hw lw kw wl_232 wb wG_232) H := fz_P ht hB9.1
            have hD := fz_sd hP (hB9.2.weaken (fun _ q _ h => hFc q.1 h)) rfl
            have hFc := allFree hD hS hA
            refine va_callv (va_runV (As := [.long r232]) (rest := []) ⟨hx, hb, hml, hown, hts⟩ (m_X8_setLong l dC dI nW hw lw kw wl_232 wb wG_232 tb r232 b_wl_232 b_wb (by first | with_reducible assumption | omega | (rw [iI_t (by omega) (by omega)]; omega) | decide | assumption) H.size) (cwV 1 hts gwsMX8_divide_6 rfl rfl rfl hd_yX8_setLong_RX8 (by decide +kernel)) (fz_pre (va_recv hK hP (ci := 8) (q0 := tb) rfl (WW_o (by omega))) hP hK hD) rfl rfl hl.1 rfl (lv_room (Nat.le_of_ble_eq_true rfl)) dX8_divide_71 (by decide +kernel)) hS (fun q _ h => hFc q h) hFc (fun u t9_ H locs ht hvm hw9 hB9 hz1 hk1 hS => ?_)
            revert u hw9 hB9
            refine fz_p3 ?_
            intro wl_233 wb_233 wG_233 hw9 hB9
            try dsimp only at hw9 hB9
            revert hw9
            refine fz_a2 ?_
            intro b_wl_233 b_wb_233
            have hP : va_P (dC, dI) vwCl (WW nW hw lw kw wl_233 wb_233 wG_233) H := fz_P ht hB9.1
            have hD := fz_sd hP (hB9.2.weaken (fun _ q _ h => hFc q.1 h)) rfl
            refine lv_goto (tgt := 203) hx hb dX8_divide_74 (by decide) ?_
            have hl : lv_has _ _ ([(7, .int (wb tt)), (6, .int k0_j9), (5, .int (iI ((wl tt).toInt - (wl ta).toInt))), (4, .int (wl ta)), (0, .ref (hw tt)), (1, .ref (hw ta)), (2, .ref (hw tb)), (3, .ref (hw tc))]) := lv_sub hl [0, 1, 2, 3, 4, 5, 6, 7] rfl
            exact join12 _ _ _ _ ⟨wl_233, wb_233, wG_233, b_wl_233, b_wb_233, rfl, hP, hD, hS, hl⟩
        · rintro H locs ls stk ⟨wl_j12, wb_j12, wG_j12, b_wl_j12, b_wb_j12, rfl, hP, hD, hS, hl⟩
          refine lv_aload_n hx hb dX8_divide_203 rfl (lv_at hl 4 rfl) ?_
          refine lv_iload hx hb dX8_divide_204 (lv_at hl 1 rfl) ?_
          refine W.cut (pc := 221) (fun H locs ls stk => ∃ (k0_j15 : Int32), (0 ≤ k0_j15.toInt ∧ k0_j15.toInt ≤ 1) ∧  stk = [.int k0_j15, .ref (hw tt)] ∧ va_P (dC, dI) vwCl (WW nW hw lw kw wl_j12 wb_j12 wG_j12) H ∧ va_D A (WW nW hw lw kw wl_j12 wb_j12 wG_j12) ∧ va_S A s.heap H locs ∧ lv_has ls 10 [(7, .int (wb tt)), (6, .int k0_j9), (5, .int (iI ((wl tt).toInt - (wl ta).toInt))), (4, .int (wl ta)), (0, .ref (hw tt)), (1, .ref (hw ta)), (2, .ref (hw tb)), (3, .ref (hw tc))]) (fun join15 => ?_) ?_
          · refine lv_if_eq (tgt := 220) hx hb dX8_divide_206 (by decide) (fun c_206 => ?_) (fun c_206 => ?_)
            · have t_206 : k0_j9.toInt = 0 := toI_eq c_206 rfl (by decide : (0 : Int32).toInt = 0)
              refine lv_iconst (v := 0) hx hb dX8_divide_220 (by decide) ?_
              have hl : lv_has _ _ ([(7, .int (wb tt)), (6, .int k0_j9), (5, .int (iI ((wl tt).toInt - (wl ta).toInt))), (4, .int (wl ta)), (0, .ref (hw tt)), (1, .ref (hw ta)), (2, .ref (hw tb)), (3, .ref (hw tc))]) := lv_sub hl [0, 1, 2, 3, 4, 5, 6, 7] rfl
              exact join15 _ _ _ _ ⟨0, (show 0 ≤ (0 : Int32).toInt ∧ (0 : Int32).toInt ≤ 1 from by decide), rfl, hP, hD, hS, hl⟩
            · have t_206 : ¬ k0_j9.toInt = 0 := toI_neq c_206 rfl (by decide : (0 : Int32).toInt = 0)
              refine lv_aload_n hx hb dX8_divide_209 rfl (lv_at hl 4 rfl) ?_
              refine va_get (D := (dC, dI)) (ci := 8) (v := .int (wl_j12 tt)) (C := RX8) (T := TX8) (N := 3) hx hb hts iwsMX8_divide_in8 hown hK hP (tt) (WW_o (by omega)) rfl 1 (by decide) (hts _ hm_m_X8_divide_0) (fun _ h9 => h9) rfl dX8_divide_210 ?_
              have br210 := b_wl_j12 tt
              refine lv_if_eq (tgt := 220) hx hb dX8_divide_213 (by decide) (fun c_213 => ?_) (fun c_213 => ?_)
              · have t_213 : (wl_j12 tt).toInt = 0 := toI_eq c_213 rfl (by decide : (0 : Int32).toInt = 0)
                refine lv_iconst (v := 0) hx hb dX8_divide_220 (by decide) ?_
                have hl : lv_has _ _ ([(7, .int (wb tt)), (6, .int k0_j9), (5, .int (iI ((wl tt).toInt - (wl ta).toInt))), (4, .int (wl ta)), (0, .ref (hw tt)), (1, .ref (hw ta)), (2, .ref (hw tb)), (3, .ref (hw tc))]) := lv_sub hl [0, 1, 2, 3, 4, 5, 6, 7] rfl
                exact join15 _ _ _ _ ⟨0, (show 0 ≤ (0 : Int32).toInt ∧ (0 : Int32).toInt ≤ 1 from by decide), rfl, hP, hD, hS, hl⟩
              · have t_213 : ¬ (wl_j12 tt).toInt = 0 := toI_neq c_213 rfl (by decide : (0 : Int32).toInt = 0)
                refine lv_iconst (v := 1) hx hb dX8_divide_216 (by decide) ?_
                refine lv_goto (tgt := 221) hx hb dX8_divide_217 (by decide) ?_
                have hl : lv_has _ _ ([(7, .int (wb tt)), (6, .int k0_j9), (5, .int (iI ((wl tt).toInt - (wl ta).toInt))), (4, .int (wl ta)), (0, .ref (hw tt)), (1, .ref (hw ta)), (2, .ref (hw tb)), (3, .ref (hw tc))]) := lv_sub hl [0, 1, 2, 3, 4, 5, 6, 7] rfl
                exact join15 _ _ _ _ ⟨1, (show 0 ≤ (1 : Int32).toInt ∧ (1 : Int32).toInt ≤ 1 from by decide), rfl, hP, hD, hS, hl⟩
          · rintro H locs ls stk ⟨k0_j15, b_k0_j15, rfl, hP, hD, hS, hl⟩
            refine va_put (D := (dC, dI)) (ci := 8) (v := .int k0_j15) (ty := .boolean) (C := RX8) (T := TX8) (N := 3) hx hb hts iwsMX8_divide_in8 tyX8 tyX8_ok nmX8 hown hK hP hD hS (tt) (WW_o (by omega)) rfl 2 (by decide) (hts _ hm_m_X8_divide_1) (fun _ h9 => h9) rfl (by decide +kernel) (by rcases z01 (x := k0_j15) (b_k0_j15) with h9 | h9 <;> rw [h9] <;> rfl) (by rcases z01 (x := k0_j15) (b_k0_j15) with h9 | h9 <;> rw [h9] <;> rfl) (Nat.le_of_ble_eq_true rfl) dX8_divide_221 (fun H locs hP hD hS => ?_)
            obtain ⟨u234, hu234⟩ : ∃ f9, f9 = fT wb_j12 tt k0_j15 := ⟨_, rfl⟩
            have hP : va_P (dC, dI) vwCl (WW nW hw lw kw wl_j12 u234 wG_j12) H := by rw [hu234]; exact Eq.mp (congrArg (fun z9 => va_P (dC, dI) vwCl z9 H) (WW_sb (by omega) k0_j15)) hP
            have hD : va_D A (WW nW hw lw kw wl_j12 u234 wG_j12) := by rw [hu234]; exact Eq.mp (congrArg (fun z9 => va_D A z9) (WW_sb (by omega) k0_j15)) hD
            have b_u234 : ∀ q : Nat, 0 ≤ (u234 q).toInt ∧ (u234 q).toInt ≤ 1 := by rw [hu234]; exact fT_r b_wb_j12 (b_k0_j15)
            have q_u234 : (u234 tt).toInt = k0_j15.toInt := by rw [hu234, fT_eq]
            clear hu234
            refine lv_aload_n hx hb dX8_divide_224 rfl (lv_at hl 6 rfl) ?_
            refine lv_iload hx hb dX8_divide_225 (lv_at hl 0 rfl) ?_
            refine W.cut (pc := 242) (fun H locs ls stk => ∃ (k0_j16 : Int32), (0 ≤ k0_j16.toInt ∧ k0_j16.toInt ≤ 1) ∧  stk = [.int k0_j16, .ref (hw tb)] ∧ va_P (dC, dI) vwCl (WW nW hw lw kw wl_j12 u234 wG_j12) H ∧ va_D A (WW nW hw lw kw wl_j12 u234 wG_j12) ∧ va_S A s.heap H locs ∧ lv_has ls 10 [(7, .int (wb tt)), (6, .int k0_j9), (5, .int (iI ((wl tt).toInt - (wl ta).toInt))), (4, .int (wl ta)), (0, .ref (hw tt)), (1, .ref (hw ta)), (2, .ref (hw tb)), (3, .ref (hw tc))]) (fun join16 => ?_) ?_
            · refine lv_if_eq (tgt := 241) hx hb dX8_divide_227 (by decide) (fun c_227 => ?_) (fun c_227 => ?_)
              · have t_227 : (wb tt).toInt = 0 := toI_eq c_227 rfl (by decide : (0 : Int32).toInt = 0)
                refine lv_iconst (v := 0) hx hb dX8_divide_241 (by decide) ?_
                have hl : lv_has _ _ ([(7, .int (wb tt)), (6, .int k0_j9), (5, .int (iI ((wl tt).toInt - (wl ta).toInt))), (4, .int (wl ta)), (0, .ref (hw tt)), (1, .ref (hw ta)), (2, .ref (hw tb)), (3, .ref (hw tc))]) := lv_sub hl [0, 1, 2, 3, 4, 5, 6, 7] rfl
                exact join16 _ _ _ _ ⟨0, (show 0 ≤ (0 : Int32).toInt ∧ (0 : Int32).toInt ≤ 1 from by decide), rfl, hP, hD, hS, hl⟩
              · have t_227 : ¬ (wb tt).toInt = 0 := toI_neq c_227 rfl (by decide : (0 : Int32).toInt = 0)
                refine lv_aload_n hx hb dX8_divide_230 rfl (lv_at hl 6 rfl) ?_
                refine va_get (D := (dC, dI)) (ci := 8) (v := .int (wl_j12 tb)) (C := RX8) (T := TX8) (N := 3) hx hb hts iwsMX8_divide_in8 hown hK hP (tb) (WW_o (by omega)) rfl 1 (by decide) (hts _ hm_m_X8_divide_0) (fun _ h9 => h9) rfl dX8_divide_231 ?_
                have br231 := b_wl_j12 tb
                refine lv_if_eq (tgt := 241) hx hb dX8_divide_234 (by decide) (fun c_234 => ?_) (fun c_234 => ?_)
                · have t_234 : (wl_j12 tb).toInt = 0 := toI_eq c_234 rfl (by decide : (0 : Int32).toInt = 0)
                  refine lv_iconst (v := 0) hx hb dX8_divide_241 (by decide) ?_
                  have hl : lv_has _ _ ([(7, .int (wb tt)), (6, .int k0_j9), (5, .int (iI ((wl tt).toInt - (wl ta).toInt))), (4, .int (wl ta)), (0, .ref (hw tt)), (1, .ref (hw ta)), (2, .ref (hw tb)), (3, .ref (hw tc))]) := lv_sub hl [0, 1, 2, 3, 4, 5, 6, 7] rfl
                  exact join16 _ _ _ _ ⟨0, (show 0 ≤ (0 : Int32).toInt ∧ (0 : Int32).toInt ≤ 1 from by decide), rfl, hP, hD, hS, hl⟩
                · have t_234 : ¬ (wl_j12 tb).toInt = 0 := toI_neq c_234 rfl (by decide : (0 : Int32).toInt = 0)
                  refine lv_iconst (v := 1) hx hb dX8_divide_237 (by decide) ?_
                  refine lv_goto (tgt := 242) hx hb dX8_divide_238 (by decide) ?_
                  have hl : lv_has _ _ ([(7, .int (wb tt)), (6, .int k0_j9), (5, .int (iI ((wl tt).toInt - (wl ta).toInt))), (4, .int (wl ta)), (0, .ref (hw tt)), (1, .ref (hw ta)), (2, .ref (hw tb)), (3, .ref (hw tc))]) := lv_sub hl [0, 1, 2, 3, 4, 5, 6, 7] rfl
                  exact join16 _ _ _ _ ⟨1, (show 0 ≤ (1 : Int32).toInt ∧ (1 : Int32).toInt ≤ 1 from by decide), rfl, hP, hD, hS, hl⟩
            · rintro H locs ls stk ⟨k0_j16, b_k0_j16, rfl, hP, hD, hS, hl⟩
              refine va_put (D := (dC, dI)) (ci := 8) (v := .int k0_j16) (ty := .boolean) (C := RX8) (T := TX8) (N := 3) hx hb hts iwsMX8_divide_in8 tyX8 tyX8_ok nmX8 hown hK hP hD hS (tb) (WW_o (by omega)) rfl 2 (by decide) (hts _ hm_m_X8_divide_1) (fun _ h9 => h9) rfl (by decide +kernel) (by rcases z01 (x := k0_j16) (b_k0_j16) with h9 | h9 <;> rw [h9] <;> rfl) (by rcases z01 (x := k0_j16) (b_k0_j16) with h9 | h9 <;> rw [h9] <;> rfl) (Nat.le_of_ble_eq_true rfl) dX8_divide_242 (fun H locs hP hD hS => ?_)
              obtain ⟨u235, hu235⟩ : ∃ f9, f9 = fT u234 tb k0_j16 := ⟨_, rfl⟩
              have hP : va_P (dC, dI) vwCl (WW nW hw lw kw wl_j12 u235 wG_j12) H := by rw [hu235]; exact Eq.mp (congrArg (fun z9 => va_P (dC, dI) vwCl z9 H) (WW_sb (by omega) k0_j16)) hP
              have hD : va_D A (WW nW hw lw kw wl_j12 u235 wG_j12) := by rw [hu235]; exact Eq.mp (congrArg (fun z9 => va_D A z9) (WW_sb (by omega) k0_j16)) hD
              have b_u235 : ∀ q : Nat, 0 ≤ (u235 q).toInt ∧ (u235 q).toInt ≤ 1 := by rw [hu235]; exact fT_r b_u234 (b_k0_j16)
              have q_u235 : (u235 tb).toInt = k0_j16.toInt := by rw [hu235, fT_eq]
              clear hu235
              refine W.widen (k := 0) (n := 0) (by decide +kernel) (by decide +kernel) ?_
              exact W.vret hx hb hr (fun t9_ ht hW => ⟨⟨(wl_j12, u235, wG_j12), rfl, ⟨b_wl_j12, b_u235⟩, by rw [ht]; exact hP, hD⟩, hS.F ht⟩) hS.2.2 dX8_divide_245
    · have t_26 : ¬ (wl tt).toInt < 14 := toI_nlt c_26 rfl (by decide : (14 : Int32).toInt = 14)
      refine W.widen (k := 0) (n := 0) (by decide +kernel) (by decide +kernel) ?_
      exact W.vret hx hb hr (fun t9_ ht hW => ⟨⟨(wl, wb, wG), rfl, ⟨b_wl, b_wb⟩, by rw [ht]; exact hP, hD⟩, hS.F ht⟩) hS.2.2 dX8_divide_29
end
section
/-! the tableau's measures -/
def TbO (r a c : Int32) : Prop := r.toInt ≤ a.toInt ∧ 0 ≤ a.toInt * (c.toInt + 1) ∧ a.toInt * (c.toInt + 1) ≤ 400
theorem TbO.of {r a c : Int32} {N C : Int} (ha : a.toInt = N) (hc : c.toInt = C) (h : N * (C + 1) ≤ 400) (hr : r.toInt ≤ a.toInt) (h0 : 0 ≤ N) (hC : 0 ≤ C) : TbO r a c := ⟨hr, by rw [ha, hc]; exact Int.mul_nonneg h0 (by omega), by rw [ha, hc]; exact h⟩
theorem cell_ix {r a c : Int32} {i j : Int} (h : TbO r a c) (hi0 : 0 ≤ i) (hi : i < a.toInt) (hj0 : 0 ≤ j) (hj : j ≤ c.toInt) : 0 ≤ i * (c.toInt + 1) + j ∧ i * (c.toInt + 1) + j < 400 := by
  have h1 : 0 ≤ i * (c.toInt + 1) := Int.mul_nonneg hi0 (by omega)
  have h2 : (i + 1) * (c.toInt + 1) ≤ a.toInt * (c.toInt + 1) := Int.mul_le_mul_of_nonneg_right (by omega) (by omega)
  rw [Int.add_mul, Int.one_mul] at h2
  have h3 := h.2.2
  omega
theorem idiv_ge {x y : Int32} {X Y n : Int} (hx : x.toInt = X) (hy : y.toInt = Y) (h1 : 0 ≤ X) (h2 : 0 < Y) (hn : n * Y ≤ X) : n ≤ (x / y).toInt := by
  obtain ⟨a, ha, rfl⟩ := nI_of (x := x) (nn_i hx h1)
  obtain ⟨b, hb, rfl⟩ := nI_of (x := y) (nn_i hy (by omega))
  rw [nI_toInt ha] at hx; rw [nI_toInt hb] at hy
  have h3 : a / b ≤ a := Nat.div_le_self a b
  rw [pk_div ha (by omega) hb, nI_toInt (by omega)]
  show n ≤ (((a / b : Nat)) : Int)
  rw [Int.natCast_ediv, hx, hy]
  exact Int.le_ediv_of_mul_le h2 hn
theorem cell_ix0 {r a c : Int32} {i : Int} (h : TbO r a c) (hi0 : 0 ≤ i) (hi : i < a.toInt) (hc : 0 ≤ c.toInt) : 0 ≤ i * (c.toInt + 1) + (0 : Int32).toInt ∧ i * (c.toInt + 1) + (0 : Int32).toInt < 400 := cell_ix h hi0 hi (by decide) (by rw [show (0 : Int32).toInt = 0 by decide]; exact hc)
/-- a row that has its place -/
def FitR (i c : Int) : Prop := 0 ≤ i * (c + 1) ∧ i * (c + 1) + c < 400
theorem FitR.of {r a c : Int32} {i : Int} (h : TbO r a c) (hi0 : 0 ≤ i) (hi : i < a.toInt) (hc : 0 ≤ c.toInt) : FitR i c.toInt := ⟨Int.mul_nonneg hi0 (by omega), (cell_ix h hi0 hi hc (Int.le_refl _)).2⟩
theorem FitR.ix {i j c : Int} (h : FitR i c) (hj0 : 0 ≤ j) (hj : j ≤ c) : 0 ≤ i * (c + 1) + j ∧ i * (c + 1) + j < 400 := by
  have h1 := h.1; have h2 := h.2; omega
theorem FitR.ix0 {i c : Int} (h : FitR i c) (hc : 0 ≤ c) : 0 ≤ i * (c + 1) + (0 : Int32).toInt ∧ i * (c + 1) + (0 : Int32).toInt < 400 := h.ix (by decide) (by rw [show (0 : Int32).toInt = 0 by decide]; exact hc)
theorem FitR.small {i c : Int} {I C : Nat} (hi0 : 0 ≤ i) (hi : i ≤ (I : Int)) (hc0 : 0 ≤ c) (hc : c ≤ (C : Int)) (h : I * (C + 1) + C < 400) : FitR i c := by
  refine ⟨Int.mul_nonneg hi0 (by omega), ?_⟩
  have h1 : i * (c + 1) ≤ (I : Int) * (c + 1) := Int.mul_le_mul_of_nonneg_right hi (by omega)
  have h2 : (I : Int) * (c + 1) ≤ (I : Int) * ((C : Int) + 1) := Int.mul_le_mul_of_nonneg_left (by omega) (by omega)
  have h3 : ((I * (C + 1) + C : Nat) : Int) < 400 := Int.ofNat_lt.mpr h
  rw [Int.natCast_add, Int.natCast_mul, Int.natCast_add] at h3
  have h4 : (I : Int) * ((C : Int) + ((1 : Nat) : Int)) = (I : Int) * ((C : Int) + 1) := rfl
  omega
end
section
theorem hd_yX6_cellAt_RX6 : yX6_cellAt.cls = RX6 ∧ yX6_cellAt.cls ≠ "java/lang/invoke/MethodHandle" ∧ yX6_cellAt.cls ≠ "java/lang/invoke/VarHandle" ∧ (parseMethodDescriptor yX6_cellAt.desc).map (fun d => d.parameters.length) = some 2 := by decide +kernel
theorem hd_yX8_sign_RX8 : yX8_sign.cls = RX8 ∧ yX8_sign.cls ≠ "java/lang/invoke/MethodHandle" ∧ yX8_sign.cls ≠ "java/lang/invoke/VarHandle" ∧ (parseMethodDescriptor yX8_sign.desc).map (fun d => d.parameters.length) = some 0 := by decide +kernel
def WQ (hQ : Nat → Nat) (aQ : Nat → Nat) (kQ : Nat → ClassId) (hw : Nat → Nat) (fQ_inside : Nat → Int32) (fQ_outside : Nat → Int32) (fQ_shut : Nat → Int32) (iQ_rows : Int32) (iQ_allRows : Int32) (iQ_columns : Int32) : va_W := [(hQ 0, .inr (6, [.ref (aQ 0), .ref (aQ 1), .ref (aQ 2), .ref (aQ 3), .ref (hw 400), .int iQ_rows, .int iQ_allRows, .int iQ_columns, .ref (hw 401), .ref (hw 402), .ref (hw 403), .ref (hw 404), .ref (hw 405)])), (aQ 0, .inl (kQ 0, 400, .inr (.inr (.inr (.inr (fun q => some (hw q))))))), (aQ 1, .inl (kQ 1, 40, .inl fQ_inside)), (aQ 2, .inl (kQ 2, 41, .inl fQ_outside)), (aQ 3, .inl (kQ 3, 41, .inl fQ_shut))]
def tQ (kQ : Nat → ClassId) : List (ClassId × FieldType) := [(kQ 0, .object "OptimaWorks$Whole"), (kQ 1, .int), (kQ 2, .int), (kQ 3, .boolean)]
theorem dX6_cellAt_0 : decode cX6_cellAt 0 = .ok (.aload_n 0, 1) := dk_42 (by decide +kernel)
theorem dX6_cellAt_1 : decode cX6_cellAt 1 = .ok (.getfield 13, 3) := dk_180 (by decide +kernel)
theorem dX6_cellAt_4 : decode cX6_cellAt 4 = .ok (.iload_n 1, 1) := dk_27 (by decide +kernel)
theorem dX6_cellAt_5 : decode cX6_cellAt 5 = .ok (.aload_n 0, 1) := dk_42 (by decide +kernel)
theorem dX6_cellAt_6 : decode cX6_cellAt 6 = .ok (.getfield 54, 3) := dk_180 (by decide +kernel)
theorem dX6_cellAt_9 : decode cX6_cellAt 9 = .ok (.iconst 1, 1) := dk_4 (by decide +kernel)
theorem dX6_cellAt_10 : decode cX6_cellAt 10 = .ok (.iadd, 1) := dk_96 (by decide +kernel)
theorem dX6_cellAt_11 : decode cX6_cellAt 11 = .ok (.imul, 1) := dk_104 (by decide +kernel)
theorem dX6_cellAt_12 : decode cX6_cellAt 12 = .ok (.iload_n 2, 1) := dk_28 (by decide +kernel)
theorem dX6_cellAt_13 : decode cX6_cellAt 13 = .ok (.iadd, 1) := dk_96 (by decide +kernel)
theorem dX6_cellAt_14 : decode cX6_cellAt 14 = .ok (.aaload, 1) := dk_50 (by decide +kernel)
theorem dX6_cellAt_15 : decode cX6_cellAt 15 = .ok (.areturn, 1) := dk_176 (by decide +kernel)
def wsMX6_cellAt : List Cond := .code yX6_cellAt cX6_cellAt 3 (some (.object "OptimaWorks$Whole")) :: ([.fieldLink RX6 13 "OptimaWorks$Tableau" "cell" "[LOptimaWorks$Whole;", .fieldLink RX6 54 "OptimaWorks$Tableau" "columns" "I"] ++ wsX60)
theorem iwsMX6_cellAt_in6 : ∀ w ∈ wsX60, w ∈ wsMX6_cellAt := fun _ h => List.mem_cons_of_mem _ (List.mem_append_right _ h)
theorem gdwsMX6_cellAt : wsMX6_cellAt.all goodWord = true := gdC rfl (gdA (by decide +kernel : ([.fieldLink RX6 13 "OptimaWorks$Tableau" "cell" "[LOptimaWorks$Whole;", .fieldLink RX6 54 "OptimaWorks$Tableau" "columns" "I"] : List Cond).all goodWord = true) gdwsX60)
set_option maxHeartbeats 4000000 in
set_option maxRecDepth 100000 in
/-- a cell -/
theorem m_X6_cellAt (l : Launch) (dC : Nat → ClassId) (dI : Nat → Nat → Nat) (hQ : Nat → Nat) (aQ : Nat → Nat) (kQ : Nat → ClassId) (hw : Nat → Nat) (fQ_inside : Nat → Int32) (fQ_outside : Nat → Int32) (fQ_shut : Nat → Int32) (iQ_rows : Int32) (iQ_allRows : Int32) (iQ_columns : Int32) (nW : Nat) (lw : Nat → Nat) (kw : ClassId) (wl : Nat → Int32) (wb : Nat → Int32) (wG : Nat → Nat → Int64) (p1 : Int32) (p2 : Int32) (b_iQ_rows : 0 ≤ iQ_rows.toInt ∧ iQ_rows.toInt ≤ 40) (b_iQ_allRows : 0 ≤ iQ_allRows.toInt ∧ iQ_allRows.toInt ≤ 40) (b_iQ_columns : 0 ≤ iQ_columns.toInt ∧ iQ_columns.toInt ≤ 40) (b_tb : TbO iQ_rows iQ_allRows iQ_columns) (b_wl : ∀ q : Nat, 0 ≤ (wl q).toInt ∧ (wl q).toInt ≤ 14) (b_wb : ∀ q : Nat, 0 ≤ (wb q).toInt ∧ (wb q).toInt ≤ 1) (b_p1 : 0 ≤ p1.toInt ∧ p1.toInt ≤ 39) (b_p2 : 0 ≤ p2.toInt ∧ p2.toInt ≤ 40) (hnW : 406 ≤ nW) (hix : 0 ≤ p1.toInt * (iQ_columns.toInt + 1) + p2.toInt ∧ p1.toInt * (iQ_columns.toInt + 1) + p2.toInt < 400) (sz : Nat) : Met l yX6_cellAt wsMX6_cellAt ({ frames := 0, cells := 0, slots := 0, locals := 0 }) (va_Pc [.ref (hQ 0), .int p1, .int p2] (fun U => U.heap.size = sz ∧ va_P (dC, dI) vwCl (WQ hQ aQ kQ hw fQ_inside fQ_outside fQ_shut iQ_rows iQ_allRows iQ_columns ++ (WW nW hw lw kw wl wb wG)) U.heap ∧ va_K (dC, dI) vwCl (tQ kQ ++ (tW kw)) U ∧ va_D (fun _ => True) (WQ hQ aQ kQ hw fQ_inside fQ_outside fQ_shut iQ_rows iQ_allRows iQ_columns ++ (WW nW hw lw kw wl wb wG)))) (va_Qr (fun (u : Nat) => (u < 400)) (fun (u : Nat) ra t => ra = hw u ∧ va_P (dC, dI) vwCl (WQ hQ aQ kQ hw fQ_inside fQ_outside fQ_shut iQ_rows iQ_allRows iQ_columns ++ (WW nW hw lw kw wl wb wG)) t.heap ∧ va_D (va_A (WQ hQ aQ kQ hw fQ_inside fQ_outside fQ_shut iQ_rows iQ_allRows iQ_columns ++ (WW nW hw lw kw wl wb wG)) sz) (WQ hQ aQ kQ hw fQ_inside fQ_outside fQ_shut iQ_rows iQ_allRows iQ_columns ++ (WW nW hw lw kw wl wb wG))) (va_A (WQ hQ aQ kQ hw fQ_inside fQ_outside fQ_shut iQ_rows iQ_allRows iQ_columns ++ (WW nW hw lw kw wl wb wG)) sz)) 0 0 (va_A (WQ hQ aQ kQ hw fQ_inside fQ_outside fQ_shut iQ_rows iQ_allRows iQ_columns ++ (WW nW hw lw kw wl wb wG)) sz) := by
  refine Met.ofW (cc := cX6_cellAt) (maxL := 3) (ret := (some (.object "OptimaWorks$Whole"))) (by decide) rfl ?_
  intro p e s m args below meth c s₁ B hml hv
  obtain ⟨rfl, hsz, hP, hK, hD0⟩ := hv
  have hx := B.exec
  have hb := B.bytes
  have hr := B.returns
  have hts := atoms_spec (ws := wsMX6_cellAt) B.pre
  have hown : s.vm.findClass RX6 = some m.cls := findClass_of_methodNamed B.named
  have hlocks := B.notSynchronized
  subst hsz
  have hD := hD0.self (sz := s.heap.size)
  generalize hAe : va_A (WQ hQ aQ kQ hw fQ_inside fQ_outside fQ_shut iQ_rows iQ_allRows iQ_columns ++ (WW nW hw lw kw wl wb wG)) s.heap.size = A at hD ⊢
  have hA : ∀ q : Nat, s.heap.size ≤ q → A q := fun q h => by rw [← hAe]; exact Or.inr h
  have hS : va_S A s.heap s.heap [] := va_S.rf
  have hl := lv_entry ([.ref (hQ 0), .int p1, .int p2]) (n := 3) (Nat.le_of_ble_eq_true rfl)
  rw [lg_entry_eq]
  generalize (lg_sl ([.ref (hQ 0), .int p1, .int p2]) ++ List.replicate (3 - (lg_sl ([.ref (hQ 0), .int p1, .int p2])).length) Slot.unset).toArray = ls at hl ⊢
  have hl : lv_has ls 3 [(0, .ref (hQ 0)), (1, .int p1), (2, .int p2)] := hl
  have hTb := b_tb.1
  refine lv_aload_n hx hb dX6_cellAt_0 rfl (lv_at hl 0 rfl) ?_
  refine va_get (D := (dC, dI)) (ci := 6) (v := .ref (aQ 0)) (C := RX6) (T := TX6) (N := 13) hx hb hts iwsMX6_cellAt_in6 hown hK hP 0 rfl rfl 0 (by decide) (hts (.fieldLink RX6 13 "OptimaWorks$Tableau" "cell" "[LOptimaWorks$Whole;") (by decide +kernel)) (fun _ h9 => h9) rfl dX6_cellAt_1 ?_
  refine lv_iload_n hx hb dX6_cellAt_4 rfl (lv_at hl 1 rfl) ?_
  refine lv_aload_n hx hb dX6_cellAt_5 rfl (lv_at hl 0 rfl) ?_
  refine va_get (D := (dC, dI)) (ci := 6) (v := .int iQ_columns) (C := RX6) (T := TX6) (N := 13) hx hb hts iwsMX6_cellAt_in6 hown hK hP 0 rfl rfl 7 (by decide) (hts (.fieldLink RX6 54 "OptimaWorks$Tableau" "columns" "I") (by decide +kernel)) (fun _ h9 => h9) rfl dX6_cellAt_6 ?_
  refine lv_iconst (v := 1) hx hb dX6_cellAt_9 (by decide) ?_
  refine lv_iadd hx hb dX6_cellAt_10 ?_
  refine lv_topi (fun y1 hy1 => ?_)
  obtain rfl : (iI (iQ_columns.toInt + 1)) = y1 := (hy1.trans (iI_add2 (iI_of _) (by decide : (1 : Int32) = iI 1))).symm
  refine lv_imul hx hb dX6_cellAt_11 ?_
  refine lv_topi (fun y2 hy2 => ?_)
  obtain rfl : (iI (p1.toInt * (iQ_columns.toInt + 1))) = y2 := (hy2.trans (iI_mul2 (iI_of _) rfl)).symm
  refine lv_iload_n hx hb dX6_cellAt_12 rfl (lv_at hl 2 rfl) ?_
  refine lv_iadd hx hb dX6_cellAt_13 ?_
  refine lv_topi (fun y3 hy3 => ?_)
  obtain rfl : (iI ((p1.toInt * (iQ_columns.toInt + 1)) + p2.toInt)) = y3 := (hy3.trans (iI_add2 rfl (iI_of _))).symm
  refine va_aldq (cA := kQ 0) (n := 400) (f := fun q => some (hw q)) hx hb hK hP 1 0 rfl rfl (vp_iI (by omega) (by omega) (by decide)) dX6_cellAt_14 ?_
  obtain ⟨k4, hk4, b_k4⟩ : ∃ k9 : Nat, k9 = ((iI ((p1.toInt * (iQ_columns.toInt + 1)) + p2.toInt))).toNatClampNeg ∧ (k9 < 400 ∧ (k9 : Int) = ((p1.toInt * (iQ_columns.toInt + 1)) + p2.toInt)) := ⟨_, rfl, ald_0 (x := ((iI ((p1.toInt * (iQ_columns.toInt + 1)) + p2.toInt)))) (iI_t (by omega) (by omega)) (by omega) (by omega)⟩
  refine W.eq (g2 := F0 m 15 ls [.ref (hw k4)]) (by rw [hk4]; rfl) ?_
  clear hk4
  refine W.widen (k := 0) (n := 0) (by decide +kernel) (by decide +kernel) ?_
  exact W.aret hx hb hr (Or.inl ⟨_, rfl⟩) (Or.inr ⟨_, rfl⟩) (fun t9_ ht hW => ⟨⟨k4, _, rfl, (by (try dsimp only); omega), rfl, by rw [ht]; exact hP, hD⟩, hS.F ht⟩) hS.2.2 dX6_cellAt_15
theorem dX6_rowCount_0 : decode cX6_rowCount 0 = .ok (.aload_n 0, 1) := dk_42 (by decide +kernel)
theorem dX6_rowCount_1 : decode cX6_rowCount 1 = .ok (.getfield 61, 3) := dk_180 (by decide +kernel)
theorem dX6_rowCount_4 : decode cX6_rowCount 4 = .ok (.ireturn, 1) := dk_172 (by decide +kernel)
def wsMX6_rowCount : List Cond := .code yX6_rowCount cX6_rowCount 1 (some .int) :: ([.fieldLink RX6 61 "OptimaWorks$Tableau" "rows" "I"] ++ wsX60)
theorem iwsMX6_rowCount_in6 : ∀ w ∈ wsX60, w ∈ wsMX6_rowCount := fun _ h => List.mem_cons_of_mem _ (List.mem_append_right _ h)
theorem gdwsMX6_rowCount : wsMX6_rowCount.all goodWord = true := gdC rfl (gdA (by decide +kernel : ([.fieldLink RX6 61 "OptimaWorks$Tableau" "rows" "I"] : List Cond).all goodWord = true) gdwsX60)
set_option maxHeartbeats 4000000 in
set_option maxRecDepth 100000 in
/-- rows -/
theorem m_X6_rowCount (l : Launch) (dC : Nat → ClassId) (dI : Nat → Nat → Nat) (hQ : Nat → Nat) (aQ : Nat → Nat) (kQ : Nat → ClassId) (hw : Nat → Nat) (fQ_inside : Nat → Int32) (fQ_outside : Nat → Int32) (fQ_shut : Nat → Int32) (iQ_rows : Int32) (iQ_allRows : Int32) (iQ_columns : Int32) (nW : Nat) (lw : Nat → Nat) (kw : ClassId) (wl : Nat → Int32) (wb : Nat → Int32) (wG : Nat → Nat → Int64) (b_iQ_rows : 0 ≤ iQ_rows.toInt ∧ iQ_rows.toInt ≤ 40) (b_iQ_allRows : 0 ≤ iQ_allRows.toInt ∧ iQ_allRows.toInt ≤ 40) (b_iQ_columns : 0 ≤ iQ_columns.toInt ∧ iQ_columns.toInt ≤ 40) (b_tb : TbO iQ_rows iQ_allRows iQ_columns) (b_wl : ∀ q : Nat, 0 ≤ (wl q).toInt ∧ (wl q).toInt ≤ 14) (b_wb : ∀ q : Nat, 0 ≤ (wb q).toInt ∧ (wb q).toInt ≤ 1) (hnW : 406 ≤ nW) (sz : Nat) : Met l yX6_rowCount wsMX6_rowCount ({ frames := 0, cells := 0, slots := 0, locals := 0 }) (va_Pc [.ref (hQ 0)] (fun U => U.heap.size = sz ∧ va_P (dC, dI) vwCl (WQ hQ aQ kQ hw fQ_inside fQ_outside fQ_shut iQ_rows iQ_allRows iQ_columns ++ (WW nW hw lw kw wl wb wG)) U.heap ∧ va_K (dC, dI) vwCl (tQ kQ ++ (tW kw)) U ∧ va_D (fun _ => True) (WQ hQ aQ kQ hw fQ_inside fQ_outside fQ_shut iQ_rows iQ_allRows iQ_columns ++ (WW nW hw lw kw wl wb wG)))) (va_Qi (fun (r : Int32) (u : Unit) => (0 ≤ r.toInt ∧ r.toInt ≤ 40) ∧ (0 + r.toInt = iQ_rows.toInt)) (fun (u : Unit) t => va_P (dC, dI) vwCl (WQ hQ aQ kQ hw fQ_inside fQ_outside fQ_shut iQ_rows iQ_allRows iQ_columns ++ (WW nW hw lw kw wl wb wG)) t.heap ∧ va_D (va_A (WQ hQ aQ kQ hw fQ_inside fQ_outside fQ_shut iQ_rows iQ_allRows iQ_columns ++ (WW nW hw lw kw wl wb wG)) sz) (WQ hQ aQ kQ hw fQ_inside fQ_outside fQ_shut iQ_rows iQ_allRows iQ_columns ++ (WW nW hw lw kw wl wb wG))) (va_A (WQ hQ aQ kQ hw fQ_inside fQ_outside fQ_shut iQ_rows iQ_allRows iQ_columns ++ (WW nW hw lw kw wl wb wG)) sz)) 0 0 (va_A (WQ hQ aQ kQ hw fQ_inside fQ_outside fQ_shut iQ_rows iQ_allRows iQ_columns ++ (WW nW hw lw kw wl wb wG)) sz) := by
  refine Met.ofW (cc := cX6_rowCount) (maxL := 1) (ret := (some .int)) (by decide) rfl ?_
  intro p e s m args below meth c s₁ B hml hv
  obtain ⟨rfl, hsz, hP, hK, hD0⟩ := hv
  have hx := B.exec
  have hb := B.bytes
  have hr := B.returns
  have hts := atoms_spec (ws := wsMX6_rowCount) B.pre
  have hown : s.vm.findClass RX6 = some m.cls := findClass_of_methodNamed B.named
  have hlocks := B.notSynchronized
  subst hsz
  have hD := hD0.self (sz := s.heap.size)
  generalize hAe : va_A (WQ hQ aQ kQ hw fQ_inside fQ_outside fQ_shut iQ_rows iQ_allRows iQ_columns ++ (WW nW hw lw kw wl wb wG)) s.heap.size = A at hD ⊢
  have hA : ∀ q : Nat, s.heap.size ≤ q → A q := fun q h => by rw [← hAe]; exact Or.inr h
  have hS : va_S A s.heap s.heap [] := va_S.rf
  have hl := lv_entry ([.ref (hQ 0)]) (n := 1) (Nat.le_of_ble_eq_true rfl)
  rw [lg_entry_eq]
  generalize (lg_sl ([.ref (hQ 0)]) ++ List.replicate (1 - (lg_sl ([.ref (hQ 0)])).length) Slot.unset).toArray = ls at hl ⊢
  have hl : lv_has ls 1 [(0, .ref (hQ 0))] := hl
  have hTb := b_tb.1
  refine lv_aload_n hx hb dX6_rowCount_0 rfl (lv_at hl 0 rfl) ?_
  refine va_get (D := (dC, dI)) (ci := 6) (v := .int iQ_rows) (C := RX6) (T := TX6) (N := 13) hx hb hts iwsMX6_rowCount_in6 hown hK hP 0 rfl rfl 5 (by decide) (hts (.fieldLink RX6 61 "OptimaWorks$Tableau" "rows" "I") (by decide +kernel)) (fun _ h9 => h9) rfl dX6_rowCount_1 ?_
  refine W.widen (k := 0) (n := 0) (by decide +kernel) (by decide +kernel) ?_
  exact W.iret (v := iQ_rows) hx hb hr (fun t9_ ht hW => ⟨⟨iQ_rows, (), rfl, ⟨(b_iQ_rows), (by (try dsimp only); omega)⟩, by rw [ht]; exact hP, hD⟩, hS.F ht⟩) hS.2.2 dX6_rowCount_4
theorem dX6_rowOf_0 : decode cX6_rowOf 0 = .ok (.iconst 0, 1) := dk_3 (by decide +kernel)
theorem dX6_rowOf_1 : decode cX6_rowOf 1 = .ok (.istore_n 2, 1) := dk_61 (by decide +kernel)
theorem dX6_rowOf_2 : decode cX6_rowOf 2 = .ok (.iload_n 2, 1) := dk_28 (by decide +kernel)
theorem dX6_rowOf_3 : decode cX6_rowOf 3 = .ok (.aload_n 0, 1) := dk_42 (by decide +kernel)
theorem dX6_rowOf_4 : decode cX6_rowOf 4 = .ok (.getfield 61, 3) := dk_180 (by decide +kernel)
theorem dX6_rowOf_7 : decode cX6_rowOf 7 = .ok (.if_icmp .ge 21, 3) := dk_162 (by decide +kernel)
theorem dX6_rowOf_10 : decode cX6_rowOf 10 = .ok (.aload_n 0, 1) := dk_42 (by decide +kernel)
theorem dX6_rowOf_11 : decode cX6_rowOf 11 = .ok (.getfield 17, 3) := dk_180 (by decide +kernel)
theorem dX6_rowOf_14 : decode cX6_rowOf 14 = .ok (.iload_n 2, 1) := dk_28 (by decide +kernel)
theorem dX6_rowOf_15 : decode cX6_rowOf 15 = .ok (.iaload, 1) := dk_46 (by decide +kernel)
theorem dX6_rowOf_16 : decode cX6_rowOf 16 = .ok (.iload_n 1, 1) := dk_27 (by decide +kernel)
theorem dX6_rowOf_17 : decode cX6_rowOf 17 = .ok (.if_icmp .ne 5, 3) := dk_160 (by decide +kernel)
theorem dX6_rowOf_20 : decode cX6_rowOf 20 = .ok (.iload_n 2, 1) := dk_28 (by decide +kernel)
theorem dX6_rowOf_21 : decode cX6_rowOf 21 = .ok (.ireturn, 1) := dk_172 (by decide +kernel)
theorem dX6_rowOf_22 : decode cX6_rowOf 22 = .ok (.iinc 2 1, 3) := dk_132 (by decide +kernel)
theorem dX6_rowOf_25 : decode cX6_rowOf 25 = .ok (.goto (-23), 3) := dk_167 (by decide +kernel)
theorem dX6_rowOf_28 : decode cX6_rowOf 28 = .ok (.iconst (-1), 1) := dk_2 (by decide +kernel)
theorem dX6_rowOf_29 : decode cX6_rowOf 29 = .ok (.ireturn, 1) := dk_172 (by decide +kernel)
def wsMX6_rowOf : List Cond := .code yX6_rowOf cX6_rowOf 3 (some .int) :: ([.fieldLink RX6 61 "OptimaWorks$Tableau" "rows" "I", .fieldLink RX6 17 "OptimaWorks$Tableau" "inside" "[I"] ++ wsX60)
theorem iwsMX6_rowOf_in6 : ∀ w ∈ wsX60, w ∈ wsMX6_rowOf := fun _ h => List.mem_cons_of_mem _ (List.mem_append_right _ h)
theorem gdwsMX6_rowOf : wsMX6_rowOf.all goodWord = true := gdC rfl (gdA (by decide +kernel : ([.fieldLink RX6 61 "OptimaWorks$Tableau" "rows" "I", .fieldLink RX6 17 "OptimaWorks$Tableau" "inside" "[I"] : List Cond).all goodWord = true) gdwsX60)
set_option maxHeartbeats 4000000 in
set_option maxRecDepth 100000 in
/-- the row of a variable -/
theorem m_X6_rowOf (l : Launch) (dC : Nat → ClassId) (dI : Nat → Nat → Nat) (hQ : Nat → Nat) (aQ : Nat → Nat) (kQ : Nat → ClassId) (hw : Nat → Nat) (fQ_inside : Nat → Int32) (fQ_outside : Nat → Int32) (fQ_shut : Nat → Int32) (iQ_rows : Int32) (iQ_allRows : Int32) (iQ_columns : Int32) (nW : Nat) (lw : Nat → Nat) (kw : ClassId) (wl : Nat → Int32) (wb : Nat → Int32) (wG : Nat → Nat → Int64) (p1 : Int32) (b_iQ_rows : 0 ≤ iQ_rows.toInt ∧ iQ_rows.toInt ≤ 40) (b_iQ_allRows : 0 ≤ iQ_allRows.toInt ∧ iQ_allRows.toInt ≤ 40) (b_iQ_columns : 0 ≤ iQ_columns.toInt ∧ iQ_columns.toInt ≤ 40) (b_tb : TbO iQ_rows iQ_allRows iQ_columns) (b_wl : ∀ q : Nat, 0 ≤ (wl q).toInt ∧ (wl q).toInt ≤ 14) (b_wb : ∀ q : Nat, 0 ≤ (wb q).toInt ∧ (wb q).toInt ≤ 1) (hnW : 406 ≤ nW) (sz : Nat) : Met l yX6_rowOf wsMX6_rowOf ({ frames := 0, cells := 0, slots := 0, locals := 0 }) (va_Pc [.ref (hQ 0), .int p1] (fun U => U.heap.size = sz ∧ va_P (dC, dI) vwCl (WQ hQ aQ kQ hw fQ_inside fQ_outside fQ_shut iQ_rows iQ_allRows iQ_columns ++ (WW nW hw lw kw wl wb wG)) U.heap ∧ va_K (dC, dI) vwCl (tQ kQ ++ (tW kw)) U ∧ va_D (fun _ => True) (WQ hQ aQ kQ hw fQ_inside fQ_outside fQ_shut iQ_rows iQ_allRows iQ_columns ++ (WW nW hw lw kw wl wb wG)))) (va_Qi (fun (r : Int32) (u : Unit) => ((-1) ≤ r.toInt ∧ r.toInt ≤ 39) ∧ (r.toInt < iQ_rows.toInt)) (fun (u : Unit) t => va_P (dC, dI) vwCl (WQ hQ aQ kQ hw fQ_inside fQ_outside fQ_shut iQ_rows iQ_allRows iQ_columns ++ (WW nW hw lw kw wl wb wG)) t.heap ∧ va_D (va_A (WQ hQ aQ kQ hw fQ_inside fQ_outside fQ_shut iQ_rows iQ_allRows iQ_columns ++ (WW nW hw lw kw wl wb wG)) sz) (WQ hQ aQ kQ hw fQ_inside fQ_outside fQ_shut iQ_rows iQ_allRows iQ_columns ++ (WW nW hw lw kw wl wb wG))) (va_A (WQ hQ aQ kQ hw fQ_inside fQ_outside fQ_shut iQ_rows iQ_allRows iQ_columns ++ (WW nW hw lw kw wl wb wG)) sz)) 0 0 (va_A (WQ hQ aQ kQ hw fQ_inside fQ_outside fQ_shut iQ_rows iQ_allRows iQ_columns ++ (WW nW hw lw kw wl wb wG)) sz) := by
  refine Met.ofW (cc := cX6_rowOf) (maxL := 3) (ret := (some .int)) (by decide) rfl ?_
  intro p e s m args below meth c s₁ B hml hv
  obtain ⟨rfl, hsz, hP, hK, hD0⟩ := hv
  have hx := B.exec
  have hb := B.bytes
  have hr := B.returns
  have hts := atoms_spec (ws := wsMX6_rowOf) B.pre
  have hown : s.vm.findClass RX6 = some m.cls := findClass_of_methodNamed B.named
  have hlocks := B.notSynchronized
  subst hsz
  have hD := hD0.self (sz := s.heap.size)
  generalize hAe : va_A (WQ hQ aQ kQ hw fQ_inside fQ_outside fQ_shut iQ_rows iQ_allRows iQ_columns ++ (WW nW hw lw kw wl wb wG)) s.heap.size = A at hD ⊢
  have hA : ∀ q : Nat, s.heap.size ≤ q → A q := fun q h => by rw [← hAe]; exact Or.inr h
  have hS : va_S A s.heap s.heap [] := va_S.rf
  have hl := lv_entry ([.ref (hQ 0), .int p1]) (n := 3) (Nat.le_of_ble_eq_true rfl)
  rw [lg_entry_eq]
  generalize (lg_sl ([.ref (hQ 0), .int p1]) ++ List.replicate (3 - (lg_sl ([.ref (hQ 0), .int p1])).length) Slot.unset).toArray = ls at hl ⊢
  have hl : lv_has ls 3 [(0, .ref (hQ 0)), (1, .int p1)] := hl
  have hTb := b_tb.1
  refine lv_iconst (v := 0) hx hb dX6_rowOf_0 (by decide) ?_
  refine lv_istore_n hx hb dX6_rowOf_1 rfl hl (by decide) rfl (fun ls (hl : lv_has ls _ ([(2, .int 0), (0, .ref (hQ 0)), (1, .int p1)])) => ?_)
  have hl : lv_has _ _ ([(2, .int 0), (0, .ref (hQ 0)), (1, .int p1)]) := lv_sub hl [0, 1, 2] rfl
  refine (fun (loop : ∀ (n9 : Nat) (l2_x2 : Int32) (H : Heap) (locs : List Loc) (ls : Array Slot), (0 ≤ l2_x2.toInt ∧ l2_x2.toInt ≤ 40) → (40 - l2_x2.toInt < ((n9 : Nat) : Int)) → va_P (dC, dI) vwCl (WQ hQ aQ kQ hw fQ_inside fQ_outside fQ_shut iQ_rows iQ_allRows iQ_columns ++ (WW nW hw lw kw wl wb wG)) H → va_D A (WQ hQ aQ kQ hw fQ_inside fQ_outside fQ_shut iQ_rows iQ_allRows iQ_columns ++ (WW nW hw lw kw wl wb wG)) → va_S A s.heap H locs → lv_has ls 3 [(2, .int l2_x2), (0, .ref (hQ 0)), (1, .int p1)] → W p l e _ s m _ below meth c H locs 0 0 _ (F0 m 2 ls [])) => loop (41) 0 _ _ _ (show 0 ≤ (0 : Int32).toInt ∧ (0 : Int32).toInt ≤ 40 from by decide) ((by have e9 : (0 : Int32).toInt = 0 := (by decide : (0 : Int32).toInt = 0); omega)) hP hD hS hl) ?_
  intro n9
  induction n9 with
  | zero => intro l2_x2 H locs ls b_l2_x2 hf9; exact False.elim (by omega)
  | succ n9 ihx2 =>
    intro l2_x2 H locs ls b_l2_x2 hfx2 hP hD hS hl
    refine lv_iload_n hx hb dX6_rowOf_2 rfl (lv_at hl 0 rfl) ?_
    refine lv_aload_n hx hb dX6_rowOf_3 rfl (lv_at hl 1 rfl) ?_
    refine va_get (D := (dC, dI)) (ci := 6) (v := .int iQ_rows) (C := RX6) (T := TX6) (N := 13) hx hb hts iwsMX6_rowOf_in6 hown hK hP 0 rfl rfl 5 (by decide) (hts (.fieldLink RX6 61 "OptimaWorks$Tableau" "rows" "I") (by decide +kernel)) (fun _ h9 => h9) rfl dX6_rowOf_4 ?_
    refine lv_icmp_ge (tgt := 28) hx hb dX6_rowOf_7 (by decide) (fun c_7 => ?_) (fun c_7 => ?_)
    · have t_7 : l2_x2.toInt ≥ iQ_rows.toInt := toI_ge c_7 rfl rfl
      refine lv_iconst (v := (-1)) hx hb dX6_rowOf_28 (by decide) ?_
      refine W.widen (k := 0) (n := 0) (by decide +kernel) (by decide +kernel) ?_
      exact W.iret (v := (-1)) hx hb hr (fun t9_ ht hW => ⟨⟨((-1) : Int32), (), rfl, ⟨(show (-1) ≤ ((-1) : Int32).toInt ∧ ((-1) : Int32).toInt ≤ 39 from by decide), (by (try dsimp only); first | assumption | omega | (have h9 : ((-1) : Int32).toInt = -1 := (by decide); omega))⟩, by rw [ht]; exact hP, hD⟩, hS.F ht⟩) hS.2.2 dX6_rowOf_29
    · have t_7 : ¬ l2_x2.toInt ≥ iQ_rows.toInt := toI_nge c_7 rfl rfl
      refine lv_aload_n hx hb dX6_rowOf_10 rfl (lv_at hl 1 rfl) ?_
      refine va_get (D := (dC, dI)) (ci := 6) (v := .ref (aQ 1)) (C := RX6) (T := TX6) (N := 13) hx hb hts iwsMX6_rowOf_in6 hown hK hP 0 rfl rfl 1 (by decide) (hts (.fieldLink RX6 17 "OptimaWorks$Tableau" "inside" "[I") (by decide +kernel)) (fun _ h9 => h9) rfl dX6_rowOf_11 ?_
      refine lv_iload_n hx hb dX6_rowOf_14 rfl (lv_at hl 0 rfl) ?_
      refine va_iald (cA := kQ 1) (n := 40) (f := fQ_inside) hx hb hK hP 2 1 rfl rfl (vp_in_iff.mpr ⟨b_l2_x2.1, (Int.lt_of_lt_of_le (Int.not_le.mp t_7) (Int.le_trans b_iQ_rows.2 (by decide)))⟩) dX6_rowOf_15 ?_
      refine lv_topi (fun v3 hv3 => ?_)
      clear hv3
      refine lv_iload_n hx hb dX6_rowOf_16 rfl (lv_at hl 2 rfl) ?_
      refine lv_icmp_ne (tgt := 22) hx hb dX6_rowOf_17 (by decide) (fun c_17 => ?_) (fun c_17 => ?_)
      · have t_17 : v3.toInt ≠ p1.toInt := toI_ne c_17 rfl rfl
        refine lv_iinc (v := (iI (l2_x2.toInt + 1))) hx hb dX6_rowOf_22 hl (k := 0) rfl (iI_add2 (iI_of _) (by decide : (1 : Int32) = iI 1)) (by decide) rfl (fun ls (hl : lv_has ls _ ([(2, .int (iI (l2_x2.toInt + 1))), (0, .ref (hQ 0)), (1, .int p1)])) => ?_)
        refine lv_goto (tgt := 2) hx hb dX6_rowOf_25 (by decide) ?_
        have hl : lv_has _ _ ([(2, .int (iI (l2_x2.toInt + 1))), (0, .ref (hQ 0)), (1, .int p1)]) := lv_sub hl [0, 1, 2] rfl
        exact ihx2 (iI (l2_x2.toInt + 1)) _ _ _ (iI_rng (Int.le_trans (by decide) (Int.add_le_add (b_l2_x2.1) (Int.le_refl _))) (by omega) (by decide) (by decide)) (by have e9 : ((iI (l2_x2.toInt + 1))).toInt = (l2_x2.toInt + 1) := (iI_t (Int.le_trans (by decide) (Int.add_le_add (b_l2_x2.1) (Int.le_refl _))) (Int.le_trans (Int.add_le_add (b_l2_x2.2) (Int.le_refl _)) (by decide))); omega) hP hD hS hl
      · have t_17 : v3.toInt = p1.toInt := toI_nne c_17 rfl rfl
        refine lv_iload_n hx hb dX6_rowOf_20 rfl (lv_at hl 0 rfl) ?_
        refine W.widen (k := 0) (n := 0) (by decide +kernel) (by decide +kernel) ?_
        exact W.iret (v := l2_x2) hx hb hr (fun t9_ ht hW => ⟨⟨l2_x2, (), rfl, ⟨(by first | exact b_l2_x2 | with_reducible assumption | exact ⟨by omega, by omega⟩ | assumption), (by (try dsimp only); first | assumption | omega | (have h9 : ((-1) : Int32).toInt = -1 := (by decide); omega))⟩, by rw [ht]; exact hP, hD⟩, hS.F ht⟩) hS.2.2 dX6_rowOf_21
theorem dX6_columnOf_0 : decode cX6_columnOf 0 = .ok (.iconst 1, 1) := dk_4 (by decide +kernel)
theorem dX6_columnOf_1 : decode cX6_columnOf 1 = .ok (.istore_n 2, 1) := dk_61 (by decide +kernel)
theorem dX6_columnOf_2 : decode cX6_columnOf 2 = .ok (.iload_n 2, 1) := dk_28 (by decide +kernel)
theorem dX6_columnOf_3 : decode cX6_columnOf 3 = .ok (.aload_n 0, 1) := dk_42 (by decide +kernel)
theorem dX6_columnOf_4 : decode cX6_columnOf 4 = .ok (.getfield 54, 3) := dk_180 (by decide +kernel)
theorem dX6_columnOf_7 : decode cX6_columnOf 7 = .ok (.if_icmp .gt 21, 3) := dk_163 (by decide +kernel)
theorem dX6_columnOf_10 : decode cX6_columnOf 10 = .ok (.aload_n 0, 1) := dk_42 (by decide +kernel)
theorem dX6_columnOf_11 : decode cX6_columnOf 11 = .ok (.getfield 21, 3) := dk_180 (by decide +kernel)
theorem dX6_columnOf_14 : decode cX6_columnOf 14 = .ok (.iload_n 2, 1) := dk_28 (by decide +kernel)
theorem dX6_columnOf_15 : decode cX6_columnOf 15 = .ok (.iaload, 1) := dk_46 (by decide +kernel)
theorem dX6_columnOf_16 : decode cX6_columnOf 16 = .ok (.iload_n 1, 1) := dk_27 (by decide +kernel)
theorem dX6_columnOf_17 : decode cX6_columnOf 17 = .ok (.if_icmp .ne 5, 3) := dk_160 (by decide +kernel)
theorem dX6_columnOf_20 : decode cX6_columnOf 20 = .ok (.iload_n 2, 1) := dk_28 (by decide +kernel)
theorem dX6_columnOf_21 : decode cX6_columnOf 21 = .ok (.ireturn, 1) := dk_172 (by decide +kernel)
theorem dX6_columnOf_22 : decode cX6_columnOf 22 = .ok (.iinc 2 1, 3) := dk_132 (by decide +kernel)
theorem dX6_columnOf_25 : decode cX6_columnOf 25 = .ok (.goto (-23), 3) := dk_167 (by decide +kernel)
theorem dX6_columnOf_28 : decode cX6_columnOf 28 = .ok (.iconst (-1), 1) := dk_2 (by decide +kernel)
theorem dX6_columnOf_29 : decode cX6_columnOf 29 = .ok (.ireturn, 1) := dk_172 (by decide +kernel)
def wsMX6_columnOf : List Cond := .code yX6_columnOf cX6_columnOf 3 (some .int) :: ([.fieldLink RX6 54 "OptimaWorks$Tableau" "columns" "I", .fieldLink RX6 21 "OptimaWorks$Tableau" "outside" "[I"] ++ wsX60)
theorem iwsMX6_columnOf_in6 : ∀ w ∈ wsX60, w ∈ wsMX6_columnOf := fun _ h => List.mem_cons_of_mem _ (List.mem_append_right _ h)
theorem gdwsMX6_columnOf : wsMX6_columnOf.all goodWord = true := gdC rfl (gdA (by decide +kernel : ([.fieldLink RX6 54 "OptimaWorks$Tableau" "columns" "I", .fieldLink RX6 21 "OptimaWorks$Tableau" "outside" "[I"] : List Cond).all goodWord = true) gdwsX60)
set_option maxHeartbeats 4000000 in
set_option maxRecDepth 100000 in
/-- the column of a variable -/
theorem m_X6_columnOf (l : Launch) (dC : Nat → ClassId) (dI : Nat → Nat → Nat) (hQ : Nat → Nat) (aQ : Nat → Nat) (kQ : Nat → ClassId) (hw : Nat → Nat) (fQ_inside : Nat → Int32) (fQ_outside : Nat → Int32) (fQ_shut : Nat → Int32) (iQ_rows : Int32) (iQ_allRows : Int32) (iQ_columns : Int32) (nW : Nat) (lw : Nat → Nat) (kw : ClassId) (wl : Nat → Int32) (wb : Nat → Int32) (wG : Nat → Nat → Int64) (p1 : Int32) (b_iQ_rows : 0 ≤ iQ_rows.toInt ∧ iQ_rows.toInt ≤ 40) (b_iQ_allRows : 0 ≤ iQ_allRows.toInt ∧ iQ_allRows.toInt ≤ 40) (b_iQ_columns : 0 ≤ iQ_columns.toInt ∧ iQ_columns.toInt ≤ 40) (b_tb : TbO iQ_rows iQ_allRows iQ_columns) (b_wl : ∀ q : Nat, 0 ≤ (wl q).toInt ∧ (wl q).toInt ≤ 14) (b_wb : ∀ q : Nat, 0 ≤ (wb q).toInt ∧ (wb q).toInt ≤ 1) (hnW : 406 ≤ nW) (sz : Nat) : Met l yX6_columnOf wsMX6_columnOf ({ frames := 0, cells := 0, slots := 0, locals := 0 }) (va_Pc [.ref (hQ 0), .int p1] (fun U => U.heap.size = sz ∧ va_P (dC, dI) vwCl (WQ hQ aQ kQ hw fQ_inside fQ_outside fQ_shut iQ_rows iQ_allRows iQ_columns ++ (WW nW hw lw kw wl wb wG)) U.heap ∧ va_K (dC, dI) vwCl (tQ kQ ++ (tW kw)) U ∧ va_D (fun _ => True) (WQ hQ aQ kQ hw fQ_inside fQ_outside fQ_shut iQ_rows iQ_allRows iQ_columns ++ (WW nW hw lw kw wl wb wG)))) (va_Qi (fun (r : Int32) (u : Unit) => ((-1) ≤ r.toInt ∧ r.toInt ≤ 40) ∧ (r.toInt ≤ iQ_columns.toInt)) (fun (u : Unit) t => va_P (dC, dI) vwCl (WQ hQ aQ kQ hw fQ_inside fQ_outside fQ_shut iQ_rows iQ_allRows iQ_columns ++ (WW nW hw lw kw wl wb wG)) t.heap ∧ va_D (va_A (WQ hQ aQ kQ hw fQ_inside fQ_outside fQ_shut iQ_rows iQ_allRows iQ_columns ++ (WW nW hw lw kw wl wb wG)) sz) (WQ hQ aQ kQ hw fQ_inside fQ_outside fQ_shut iQ_rows iQ_allRows iQ_columns ++ (WW nW hw lw kw wl wb wG))) (va_A (WQ hQ aQ kQ hw fQ_inside fQ_outside fQ_shut iQ_rows iQ_allRows iQ_columns ++ (WW nW hw lw kw wl wb wG)) sz)) 0 0 (va_A (WQ hQ aQ kQ hw fQ_inside fQ_outside fQ_shut iQ_rows iQ_allRows iQ_columns ++ (WW nW hw lw kw wl wb wG)) sz) := by
  refine Met.ofW (cc := cX6_columnOf) (maxL := 3) (ret := (some .int)) (by decide) rfl ?_
  intro p e s m args below meth c s₁ B hml hv
  obtain ⟨rfl, hsz, hP, hK, hD0⟩ := hv
  have hx := B.exec
  have hb := B.bytes
  have hr := B.returns
  have hts := atoms_spec (ws := wsMX6_columnOf) B.pre
  have hown : s.vm.findClass RX6 = some m.cls := findClass_of_methodNamed B.named
  have hlocks := B.notSynchronized
  subst hsz
  have hD := hD0.self (sz := s.heap.size)
  generalize hAe : va_A (WQ hQ aQ kQ hw fQ_inside fQ_outside fQ_shut iQ_rows iQ_allRows iQ_columns ++ (WW nW hw lw kw wl wb wG)) s.heap.size = A at hD ⊢
  have hA : ∀ q : Nat, s.heap.size ≤ q → A q := fun q h => by rw [← hAe]; exact Or.inr h
  have hS : va_S A s.heap s.heap [] := va_S.rf
  have hl := lv_entry ([.ref (hQ 0), .int p1]) (n := 3) (Nat.le_of_ble_eq_true rfl)
  rw [lg_entry_eq]
  generalize (lg_sl ([.ref (hQ 0), .int p1]) ++ List.replicate (3 - (lg_sl ([.ref (hQ 0), .int p1])).length) Slot.unset).toArray = ls at hl ⊢
  have hl : lv_has ls 3 [(0, .ref (hQ 0)), (1, .int p1)] := hl
  have hTb := b_tb.1
  refine lv_iconst (v := 1) hx hb dX6_columnOf_0 (by decide) ?_
  refine lv_istore_n hx hb dX6_columnOf_1 rfl hl (by decide) rfl (fun ls (hl : lv_has ls _ ([(2, .int 1), (0, .ref (hQ 0)), (1, .int p1)])) => ?_)
  have hl : lv_has _ _ ([(2, .int 1), (0, .ref (hQ 0)), (1, .int p1)]) := lv_sub hl [0, 1, 2] rfl
  refine (fun (loop : ∀ (n9 : Nat) (l2_x2 : Int32) (H : Heap) (locs : List Loc) (ls : Array Slot), (1 ≤ l2_x2.toInt ∧ l2_x2.toInt ≤ 41) → (41 - l2_x2.toInt < ((n9 : Nat) : Int)) → va_P (dC, dI) vwCl (WQ hQ aQ kQ hw fQ_inside fQ_outside fQ_shut iQ_rows iQ_allRows iQ_columns ++ (WW nW hw lw kw wl wb wG)) H → va_D A (WQ hQ aQ kQ hw fQ_inside fQ_outside fQ_shut iQ_rows iQ_allRows iQ_columns ++ (WW nW hw lw kw wl wb wG)) → va_S A s.heap H locs → lv_has ls 3 [(2, .int l2_x2), (0, .ref (hQ 0)), (1, .int p1)] → W p l e _ s m _ below meth c H locs 0 0 _ (F0 m 2 ls [])) => loop (41) 1 _ _ _ (show 1 ≤ (1 : Int32).toInt ∧ (1 : Int32).toInt ≤ 41 from by decide) ((by have e9 : (1 : Int32).toInt = 1 := (by decide : (1 : Int32).toInt = 1); omega)) hP hD hS hl) ?_
  intro n9
  induction n9 with
  | zero => intro l2_x2 H locs ls b_l2_x2 hf9; exact False.elim (by omega)
  | succ n9 ihx2 =>
    intro l2_x2 H locs ls b_l2_x2 hfx2 hP hD hS hl
    refine lv_iload_n hx hb dX6_columnOf_2 rfl (lv_at hl 0 rfl) ?_
    refine lv_aload_n hx hb dX6_columnOf_3 rfl (lv_at hl 1 rfl) ?_
    refine va_get (D := (dC, dI)) (ci := 6) (v := .int iQ_columns) (C := RX6) (T := TX6) (N := 13) hx hb hts iwsMX6_columnOf_in6 hown hK hP 0 rfl rfl 7 (by decide) (hts (.fieldLink RX6 54 "OptimaWorks$Tableau" "columns" "I") (by decide +kernel)) (fun _ h9 => h9) rfl dX6_columnOf_4 ?_
    refine lv_icmp_gt (tgt := 28) hx hb dX6_columnOf_7 (by decide) (fun c_7 => ?_) (fun c_7 => ?_)
    · have t_7 : l2_x2.toInt > iQ_columns.toInt := toI_gt c_7 rfl rfl
      refine lv_iconst (v := (-1)) hx hb dX6_columnOf_28 (by decide) ?_
      refine W.widen (k := 0) (n := 0) (by decide +kernel) (by decide +kernel) ?_
      exact W.iret (v := (-1)) hx hb hr (fun t9_ ht hW => ⟨⟨((-1) : Int32), (), rfl, ⟨(show (-1) ≤ ((-1) : Int32).toInt ∧ ((-1) : Int32).toInt ≤ 40 from by decide), (by (try dsimp only); first | assumption | omega | (have h9 : ((-1) : Int32).toInt = -1 := (by decide); omega))⟩, by rw [ht]; exact hP, hD⟩, hS.F ht⟩) hS.2.2 dX6_columnOf_29
    · have t_7 : ¬ l2_x2.toInt > iQ_columns.toInt := toI_ngt c_7 rfl rfl
      refine lv_aload_n hx hb dX6_columnOf_10 rfl (lv_at hl 1 rfl) ?_
      refine va_get (D := (dC, dI)) (ci := 6) (v := .ref (aQ 2)) (C := RX6) (T := TX6) (N := 13) hx hb hts iwsMX6_columnOf_in6 hown hK hP 0 rfl rfl 2 (by decide) (hts (.fieldLink RX6 21 "OptimaWorks$Tableau" "outside" "[I") (by decide +kernel)) (fun _ h9 => h9) rfl dX6_columnOf_11 ?_
      refine lv_iload_n hx hb dX6_columnOf_14 rfl (lv_at hl 0 rfl) ?_
      refine va_iald (cA := kQ 2) (n := 41) (f := fQ_outside) hx hb hK hP 3 2 rfl rfl (vp_in_iff.mpr ⟨(Int.le_trans (by decide) (b_l2_x2.1)), (by omega)⟩) dX6_columnOf_15 ?_
      refine lv_topi (fun v3 hv3 => ?_)
      clear hv3
      refine lv_iload_n hx hb dX6_columnOf_16 rfl (lv_at hl 2 rfl) ?_
      refine lv_icmp_ne (tgt := 22) hx hb dX6_columnOf_17 (by decide) (fun c_17 => ?_) (fun c_17 => ?_)
      · have t_17 : v3.toInt ≠ p1.toInt := toI_ne c_17 rfl rfl
        refine lv_iinc (v := (iI (l2_x2.toInt + 1))) hx hb dX6_columnOf_22 hl (k := 0) rfl (iI_add2 (iI_of _) (by decide : (1 : Int32) = iI 1)) (by decide) rfl (fun ls (hl : lv_has ls _ ([(2, .int (iI (l2_x2.toInt + 1))), (0, .ref (hQ 0)), (1, .int p1)])) => ?_)
        refine lv_goto (tgt := 2) hx hb dX6_columnOf_25 (by decide) ?_
        have hl : lv_has _ _ ([(2, .int (iI (l2_x2.toInt + 1))), (0, .ref (hQ 0)), (1, .int p1)]) := lv_sub hl [0, 1, 2] rfl
        exact ihx2 (iI (l2_x2.toInt + 1)) _ _ _ (iI_rng (Int.le_trans (by decide) (Int.add_le_add (b_l2_x2.1) (Int.le_refl _))) (by omega) (by decide) (by decide)) (by have e9 : ((iI (l2_x2.toInt + 1))).toInt = (l2_x2.toInt + 1) := (iI_t (Int.le_trans (by decide) (Int.add_le_add (b_l2_x2.1) (Int.le_refl _))) (Int.le_trans (Int.add_le_add (b_l2_x2.2) (Int.le_refl _)) (by decide))); omega) hP hD hS hl
      · have t_17 : v3.toInt = p1.toInt := toI_nne c_17 rfl rfl
        refine lv_iload_n hx hb dX6_columnOf_20 rfl (lv_at hl 0 rfl) ?_
        refine W.widen (k := 0) (n := 0) (by decide +kernel) (by decide +kernel) ?_
        exact W.iret (v := l2_x2) hx hb hr (fun t9_ ht hW => ⟨⟨l2_x2, (), rfl, ⟨(by first | exact b_l2_x2 | with_reducible assumption | exact ⟨by omega, by omega⟩ | assumption), (by (try dsimp only); first | assumption | omega | (have h9 : ((-1) : Int32).toInt = -1 := (by decide); omega))⟩, by rw [ht]; exact hP, hD⟩, hS.F ht⟩) hS.2.2 dX6_columnOf_21
theorem dX6_columnWith_0 : decode cX6_columnWith 0 = .ok (.iconst 1, 1) := dk_4 (by decide +kernel)
theorem dX6_columnWith_1 : decode cX6_columnWith 1 = .ok (.istore_n 2, 1) := dk_61 (by decide +kernel)
theorem dX6_columnWith_2 : decode cX6_columnWith 2 = .ok (.iload_n 2, 1) := dk_28 (by decide +kernel)
theorem dX6_columnWith_3 : decode cX6_columnWith 3 = .ok (.aload_n 0, 1) := dk_42 (by decide +kernel)
theorem dX6_columnWith_4 : decode cX6_columnWith 4 = .ok (.getfield 54, 3) := dk_180 (by decide +kernel)
theorem dX6_columnWith_7 : decode cX6_columnWith 7 = .ok (.if_icmp .gt 32, 3) := dk_163 (by decide +kernel)
theorem dX6_columnWith_10 : decode cX6_columnWith 10 = .ok (.aload_n 0, 1) := dk_42 (by decide +kernel)
theorem dX6_columnWith_11 : decode cX6_columnWith 11 = .ok (.getfield 24, 3) := dk_180 (by decide +kernel)
theorem dX6_columnWith_14 : decode cX6_columnWith 14 = .ok (.iload_n 2, 1) := dk_28 (by decide +kernel)
theorem dX6_columnWith_15 : decode cX6_columnWith 15 = .ok (.baload, 1) := dk_51 (by decide +kernel)
theorem dX6_columnWith_16 : decode cX6_columnWith 16 = .ok (.ifCond .ne 17, 3) := dk_154 (by decide +kernel)
theorem dX6_columnWith_19 : decode cX6_columnWith 19 = .ok (.aload_n 0, 1) := dk_42 (by decide +kernel)
theorem dX6_columnWith_20 : decode cX6_columnWith 20 = .ok (.iload_n 1, 1) := dk_27 (by decide +kernel)
theorem dX6_columnWith_21 : decode cX6_columnWith 21 = .ok (.iload_n 2, 1) := dk_28 (by decide +kernel)
theorem dX6_columnWith_22 : decode cX6_columnWith 22 = .ok (.invokevirtual 72, 3) := dk_182 (by decide +kernel)
theorem dX6_columnWith_25 : decode cX6_columnWith 25 = .ok (.getfield 76, 3) := dk_180 (by decide +kernel)
theorem dX6_columnWith_28 : decode cX6_columnWith 28 = .ok (.ifCond .eq 5, 3) := dk_153 (by decide +kernel)
theorem dX6_columnWith_31 : decode cX6_columnWith 31 = .ok (.iload_n 2, 1) := dk_28 (by decide +kernel)
theorem dX6_columnWith_32 : decode cX6_columnWith 32 = .ok (.ireturn, 1) := dk_172 (by decide +kernel)
theorem dX6_columnWith_33 : decode cX6_columnWith 33 = .ok (.iinc 2 1, 3) := dk_132 (by decide +kernel)
theorem dX6_columnWith_36 : decode cX6_columnWith 36 = .ok (.goto (-34), 3) := dk_167 (by decide +kernel)
theorem dX6_columnWith_39 : decode cX6_columnWith 39 = .ok (.iconst (-1), 1) := dk_2 (by decide +kernel)
theorem dX6_columnWith_40 : decode cX6_columnWith 40 = .ok (.ireturn, 1) := dk_172 (by decide +kernel)
def wsMX6_columnWith : List Cond := .code yX6_columnWith cX6_columnWith 3 (some .int) :: ([.fieldLink RX6 54 "OptimaWorks$Tableau" "columns" "I", .fieldLink RX6 24 "OptimaWorks$Tableau" "shut" "[Z", .fieldLink RX6 76 "OptimaWorks$Whole" "length" "I"] ++ wsX60 ++ wsX80 ++ (wsV RX6 72 RX6 yX6_cellAt wsMX6_cellAt))
theorem iwsMX6_columnWith_in6 : ∀ w ∈ wsX60, w ∈ wsMX6_columnWith := fun _ h => List.mem_cons_of_mem _ (List.mem_append_left _ (List.mem_append_left _ (List.mem_append_right _ h)))
theorem iwsMX6_columnWith_in8 : ∀ w ∈ wsX80, w ∈ wsMX6_columnWith := fun _ h => List.mem_cons_of_mem _ (List.mem_append_left _ (List.mem_append_right _ h))
theorem gwsMX6_columnWith_0 : GoodIn wsMX6_columnWith (wsV RX6 72 RX6 yX6_cellAt wsMX6_cellAt) := goodIn_sub (fun _ h => List.mem_cons_of_mem _ (List.mem_append_right _ h)) (gdV (by decide +kernel) gdwsMX6_cellAt)
theorem gdwsMX6_columnWith : wsMX6_columnWith.all goodWord = true := gdC rfl (gdA (gdA (gdA (by decide +kernel : ([.fieldLink RX6 54 "OptimaWorks$Tableau" "columns" "I", .fieldLink RX6 24 "OptimaWorks$Tableau" "shut" "[Z", .fieldLink RX6 76 "OptimaWorks$Whole" "length" "I"] : List Cond).all goodWord = true) gdwsX60) gdwsX80) (gdV (by decide +kernel) gdwsMX6_cellAt))
set_option maxHeartbeats 4000000 in
set_option maxRecDepth 100000 in
/-- a column with a number -/
theorem m_X6_columnWith (l : Launch) (dC : Nat → ClassId) (dI : Nat → Nat → Nat) (hQ : Nat → Nat) (aQ : Nat → Nat) (kQ : Nat → ClassId) (hw : Nat → Nat) (fQ_inside : Nat → Int32) (fQ_outside : Nat → Int32) (fQ_shut : Nat → Int32) (iQ_rows : Int32) (iQ_allRows : Int32) (iQ_columns : Int32) (nW : Nat) (lw : Nat → Nat) (kw : ClassId) (wl : Nat → Int32) (wb : Nat → Int32) (wG : Nat → Nat → Int64) (p1 : Int32) (b_iQ_rows : 0 ≤ iQ_rows.toInt ∧ iQ_rows.toInt ≤ 40) (b_iQ_allRows : 0 ≤ iQ_allRows.toInt ∧ iQ_allRows.toInt ≤ 40) (b_iQ_columns : 0 ≤ iQ_columns.toInt ∧ iQ_columns.toInt ≤ 40) (b_tb : TbO iQ_rows iQ_allRows iQ_columns) (b_wl : ∀ q : Nat, 0 ≤ (wl q).toInt ∧ (wl q).toInt ≤ 14) (b_wb : ∀ q : Nat, 0 ≤ (wb q).toInt ∧ (wb q).toInt ≤ 1) (b_p1 : 0 ≤ p1.toInt ∧ p1.toInt ≤ 39) (hnW : 406 ≤ nW) (hrow : FitR p1.toInt iQ_columns.toInt) (sz : Nat) : Met l yX6_columnWith wsMX6_columnWith ({ frames := 1, cells := 0, slots := 0, locals := 22 }) (va_Pc [.ref (hQ 0), .int p1] (fun U => U.heap.size = sz ∧ va_P (dC, dI) vwCl (WQ hQ aQ kQ hw fQ_inside fQ_outside fQ_shut iQ_rows iQ_allRows iQ_columns ++ (WW nW hw lw kw wl wb wG)) U.heap ∧ va_K (dC, dI) vwCl (tQ kQ ++ (tW kw)) U ∧ va_D (fun _ => True) (WQ hQ aQ kQ hw fQ_inside fQ_outside fQ_shut iQ_rows iQ_allRows iQ_columns ++ (WW nW hw lw kw wl wb wG)))) (va_Qi (fun (r : Int32) (u : Unit) => ((-1) ≤ r.toInt ∧ r.toInt ≤ 40) ∧ (r.toInt ≤ iQ_columns.toInt)) (fun (u : Unit) t => va_P (dC, dI) vwCl (WQ hQ aQ kQ hw fQ_inside fQ_outside fQ_shut iQ_rows iQ_allRows iQ_columns ++ (WW nW hw lw kw wl wb wG)) t.heap ∧ va_D (va_A (WQ hQ aQ kQ hw fQ_inside fQ_outside fQ_shut iQ_rows iQ_allRows iQ_columns ++ (WW nW hw lw kw wl wb wG)) sz) (WQ hQ aQ kQ hw fQ_inside fQ_outside fQ_shut iQ_rows iQ_allRows iQ_columns ++ (WW nW hw lw kw wl wb wG))) (va_A (WQ hQ aQ kQ hw fQ_inside fQ_outside fQ_shut iQ_rows iQ_allRows iQ_columns ++ (WW nW hw lw kw wl wb wG)) sz)) 0 0 (va_A (WQ hQ aQ kQ hw fQ_inside fQ_outside fQ_shut iQ_rows iQ_allRows iQ_columns ++ (WW nW hw lw kw wl wb wG)) sz) := by
  refine Met.ofW (cc := cX6_columnWith) (maxL := 3) (ret := (some .int)) (by decide) rfl ?_
  intro p e s m args below meth c s₁ B hml hv
  obtain ⟨rfl, hsz, hP, hK, hD0⟩ := hv
  have hx := B.exec
  have hb := B.bytes
  have hr := B.returns
  have hts := atoms_spec (ws := wsMX6_columnWith) B.pre
  have hown : s.vm.findClass RX6 = some m.cls := findClass_of_methodNamed B.named
  have hlocks := B.notSynchronized
  subst hsz
  have hD := hD0.self (sz := s.heap.size)
  generalize hAe : va_A (WQ hQ aQ kQ hw fQ_inside fQ_outside fQ_shut iQ_rows iQ_allRows iQ_columns ++ (WW nW hw lw kw wl wb wG)) s.heap.size = A at hD ⊢
  have hA : ∀ q : Nat, s.heap.size ≤ q → A q := fun q h => by rw [← hAe]; exact Or.inr h
  have hS : va_S A s.heap s.heap [] := va_S.rf
  have hl := lv_entry ([.ref (hQ 0), .int p1]) (n := 3) (Nat.le_of_ble_eq_true rfl)
  rw [lg_entry_eq]
  generalize (lg_sl ([.ref (hQ 0), .int p1]) ++ List.replicate (3 - (lg_sl ([.ref (hQ 0), .int p1])).length) Slot.unset).toArray = ls at hl ⊢
  have hl : lv_has ls 3 [(0, .ref (hQ 0)), (1, .int p1)] := hl
  have hTb := b_tb.1
  refine lv_iconst (v := 1) hx hb dX6_columnWith_0 (by decide) ?_
  refine lv_istore_n hx hb dX6_columnWith_1 rfl hl (by decide) rfl (fun ls (hl : lv_has ls _ ([(2, .int 1), (0, .ref (hQ 0)), (1, .int p1)])) => ?_)
  have hl : lv_has _ _ ([(2, .int 1), (0, .ref (hQ 0)), (1, .int p1)]) := lv_sub hl [0, 1, 2] rfl
  refine (fun (loop : ∀ (n9 : Nat) (l2_x2 : Int32) (H : Heap) (locs : List Loc) (ls : Array Slot), (1 ≤ l2_x2.toInt ∧ l2_x2.toInt ≤ 41) → (41 - l2_x2.toInt < ((n9 : Nat) : Int)) → va_P (dC, dI) vwCl (WQ hQ aQ kQ hw fQ_inside fQ_outside fQ_shut iQ_rows iQ_allRows iQ_columns ++ (WW nW hw lw kw wl wb wG)) H → va_D A (WQ hQ aQ kQ hw fQ_inside fQ_outside fQ_shut iQ_rows iQ_allRows iQ_columns ++ (WW nW hw lw kw wl wb wG)) → va_S A s.heap H locs → lv_has ls 3 [(2, .int l2_x2), (0, .ref (hQ 0)), (1, .int p1)] → W p l e _ s m _ below meth c H locs 0 0 _ (F0 m 2 ls [])) => loop (41) 1 _ _ _ (show 1 ≤ (1 : Int32).toInt ∧ (1 : Int32).toInt ≤ 41 from by decide) ((by have e9 : (1 : Int32).toInt = 1 := (by decide : (1 : Int32).toInt = 1); omega)) hP hD hS hl) ?_
  intro n9
  induction n9 with
  | zero => intro l2_x2 H locs ls b_l2_x2 hf9; exact False.elim (by omega)
  | succ n9 ihx2 =>
    intro l2_x2 H locs ls b_l2_x2 hfx2 hP hD hS hl
    refine lv_iload_n hx hb dX6_columnWith_2 rfl (lv_at hl 0 rfl) ?_
    refine lv_aload_n hx hb dX6_columnWith_3 rfl (lv_at hl 1 rfl) ?_
    refine va_get (D := (dC, dI)) (ci := 6) (v := .int iQ_columns) (C := RX6) (T := TX6) (N := 13) hx hb hts iwsMX6_columnWith_in6 hown hK hP 0 rfl rfl 7 (by decide) (hts (.fieldLink RX6 54 "OptimaWorks$Tableau" "columns" "I") (by decide +kernel)) (fun _ h9 => h9) rfl dX6_columnWith_4 ?_
    refine lv_icmp_gt (tgt := 39) hx hb dX6_columnWith_7 (by decide) (fun c_7 => ?_) (fun c_7 => ?_)
    · have t_7 : l2_x2.toInt > iQ_columns.toInt := toI_gt c_7 rfl rfl
      refine lv_iconst (v := (-1)) hx hb dX6_columnWith_39 (by decide) ?_
      refine W.widen (k := 0) (n := 0) (by decide +kernel) (by decide +kernel) ?_
      exact W.iret (v := (-1)) hx hb hr (fun t9_ ht hW => ⟨⟨((-1) : Int32), (), rfl, ⟨(show (-1) ≤ ((-1) : Int32).toInt ∧ ((-1) : Int32).toInt ≤ 40 from by decide), (by (try dsimp only); first | assumption | omega | (have h9 : ((-1) : Int32).toInt = -1 := (by decide); omega))⟩, by rw [ht]; exact hP, hD⟩, hS.F ht⟩) hS.2.2 dX6_columnWith_40
    · have t_7 : ¬ l2_x2.toInt > iQ_columns.toInt := toI_ngt c_7 rfl rfl
      refine lv_aload_n hx hb dX6_columnWith_10 rfl (lv_at hl 1 rfl) ?_
      refine va_get (D := (dC, dI)) (ci := 6) (v := .ref (aQ 3)) (C := RX6) (T := TX6) (N := 13) hx hb hts iwsMX6_columnWith_in6 hown hK hP 0 rfl rfl 3 (by decide) (hts (.fieldLink RX6 24 "OptimaWorks$Tableau" "shut" "[Z") (by decide +kernel)) (fun _ h9 => h9) rfl dX6_columnWith_11 ?_
      refine lv_iload_n hx hb dX6_columnWith_14 rfl (lv_at hl 0 rfl) ?_
      refine va_zald (cA := kQ 3) (n := 41) (f := fQ_shut) hx hb hK hP 4 3 rfl rfl (vp_in_iff.mpr ⟨(Int.le_trans (by decide) (b_l2_x2.1)), (by omega)⟩) dX6_columnWith_15 ?_
      refine lv_topi (fun v5 hv5 => ?_)
      clear hv5
      refine lv_if_ne (tgt := 33) hx hb dX6_columnWith_16 (by decide) (fun c_16 => ?_) (fun c_16 => ?_)
      · have t_16 : v5.toInt ≠ 0 := toI_ne c_16 rfl (by decide : (0 : Int32).toInt = 0)
        refine lv_iinc (v := (iI (l2_x2.toInt + 1))) hx hb dX6_columnWith_33 hl (k := 0) rfl (iI_add2 (iI_of _) (by decide : (1 : Int32) = iI 1)) (by decide) rfl (fun ls (hl : lv_has ls _ ([(2, .int (iI (l2_x2.toInt + 1))), (0, .ref (hQ 0)), (1, .int p1)])) => ?_)
        refine lv_goto (tgt := 2) hx hb dX6_columnWith_36 (by decide) ?_
        have hl : lv_has _ _ ([(2, .int (iI (l2_x2.toInt + 1))), (0, .ref (hQ 0)), (1, .int p1)]) := lv_sub hl [0, 1, 2] rfl
        exact ihx2 (iI (l2_x2.toInt + 1)) _ _ _ (iI_rng (Int.le_trans (by decide) (Int.add_le_add (b_l2_x2.1) (Int.le_refl _))) (by omega) (by decide) (by decide)) (by have e9 : ((iI (l2_x2.toInt + 1))).toInt = (l2_x2.toInt + 1) := (iI_t (Int.le_trans (by decide) (Int.add_le_add (b_l2_x2.1) (Int.le_refl _))) (Int.le_trans (Int.add_le_add (b_l2_x2.2) (Int.le_refl _)) (by decide))); omega) hP hD hS hl
      · have t_16 : v5.toInt = 0 := toI_nne c_16 rfl (by decide : (0 : Int32).toInt = 0)
        refine lv_aload_n hx hb dX6_columnWith_19 rfl (lv_at hl 1 rfl) ?_
        refine lv_iload_n hx hb dX6_columnWith_20 rfl (lv_at hl 2 rfl) ?_
        refine lv_iload_n hx hb dX6_columnWith_21 rfl (lv_at hl 0 rfl) ?_
        have hFc := allFree hD hS hA
        refine va_callr (va_runV (As := [.int p1, .int l2_x2]) (rest := []) ⟨hx, hb, hml, hown, hts⟩ (m_X6_cellAt l dC dI hQ aQ kQ hw fQ_inside fQ_outside fQ_shut iQ_rows iQ_allRows iQ_columns nW lw kw wl wb wG p1 l2_x2 (b_iQ_rows) (b_iQ_allRows) (b_iQ_columns) (by first | with_reducible assumption | omega | assumption) b_wl b_wb (b_p1) (by first | exact b_l2_x2 | with_reducible assumption | exact ⟨by omega, by omega⟩ | assumption) (by first | with_reducible assumption | omega | (rw [iI_t (by omega) (by omega)]; omega) | decide | assumption) (hrow.ix (by omega) (by omega)) H.size) (cwV 2 hts gwsMX6_columnWith_0 rfl rfl rfl hd_yX6_cellAt_RX6 (by decide +kernel)) (fz_pre (va_recv hK hP (ci := 6) (q0 := 0) rfl rfl) hP hK hD) rfl rfl hl.1 rfl (lv_room (Nat.le_of_ble_eq_true rfl)) dX6_columnWith_22 (by decide +kernel)) hS (fun q _ h => hFc q h) hFc (fun kR_6 ra6 t9_ H locs ht hvm hw9 hB9 hz1 hk1 hS => ?_)
        revert hB9
        refine fz_a2 ?_
        intro hra hB9
        subst hra
        have f6_0 := hw9
        try dsimp only at f6_0
        have hP : va_P (dC, dI) vwCl (WQ hQ aQ kQ hw fQ_inside fQ_outside fQ_shut iQ_rows iQ_allRows iQ_columns ++ (WW nW hw lw kw wl wb wG)) H := fz_P ht hB9.1
        have hD := fz_sd hP (hB9.2.weaken (fun _ q _ h => hFc q.1 h)) rfl
        refine va_get (D := (dC, dI)) (ci := 8) (v := .int (wl kR_6)) (C := RX8) (T := TX8) (N := 3) hx hb hts iwsMX6_columnWith_in8 hown hK hP (5 + (kR_6)) (apR rfl (WW_o (by omega))) rfl 1 (by decide) (hts (.fieldLink RX6 76 "OptimaWorks$Whole" "length" "I") (by decide +kernel)) (fun _ h9 => h9) rfl dX6_columnWith_25 ?_
        have br25 := b_wl kR_6
        refine lv_if_eq (tgt := 33) hx hb dX6_columnWith_28 (by decide) (fun c_28 => ?_) (fun c_28 => ?_)
        · have t_28 : (wl kR_6).toInt = 0 := toI_eq c_28 rfl (by decide : (0 : Int32).toInt = 0)
          refine lv_iinc (v := (iI (l2_x2.toInt + 1))) hx hb dX6_columnWith_33 hl (k := 0) rfl (iI_add2 (iI_of _) (by decide : (1 : Int32) = iI 1)) (by decide) rfl (fun ls (hl : lv_has ls _ ([(2, .int (iI (l2_x2.toInt + 1))), (0, .ref (hQ 0)), (1, .int p1)])) => ?_)
          refine lv_goto (tgt := 2) hx hb dX6_columnWith_36 (by decide) ?_
          have hl : lv_has _ _ ([(2, .int (iI (l2_x2.toInt + 1))), (0, .ref (hQ 0)), (1, .int p1)]) := lv_sub hl [0, 1, 2] rfl
          exact ihx2 (iI (l2_x2.toInt + 1)) _ _ _ (iI_rng (Int.le_trans (by decide) (Int.add_le_add (b_l2_x2.1) (Int.le_refl _))) (by omega) (by decide) (by decide)) (by have e9 : ((iI (l2_x2.toInt + 1))).toInt = (l2_x2.toInt + 1) := (iI_t (Int.le_trans (by decide) (Int.add_le_add (b_l2_x2.1) (Int.le_refl _))) (Int.le_trans (Int.add_le_add (b_l2_x2.2) (Int.le_refl _)) (by decide))); omega) hP hD hS hl
        · have t_28 : ¬ (wl kR_6).toInt = 0 := toI_neq c_28 rfl (by decide : (0 : Int32).toInt = 0)
          refine lv_iload_n hx hb dX6_columnWith_31 rfl (lv_at hl 0 rfl) ?_
          refine W.widen (k := 0) (n := 0) (by decide +kernel) (by decide +kernel) ?_
          exact W.iret (v := l2_x2) hx hb hr (fun t9_ ht hW => ⟨⟨l2_x2, (), rfl, ⟨(by first | exact b_l2_x2 | with_reducible assumption | exact ⟨by omega, by omega⟩ | assumption), (by (try dsimp only); first | assumption | omega | (have h9 : ((-1) : Int32).toInt = -1 := (by decide); omega))⟩, by rw [ht]; exact hP, hD⟩, hS.F ht⟩) hS.2.2 dX6_columnWith_32
theorem dX6_rowBelow_0 : decode cX6_rowBelow 0 = .ok (.iconst (-1), 1) := dk_2 (by decide +kernel)
theorem dX6_rowBelow_1 : decode cX6_rowBelow 1 = .ok (.istore_n 2, 1) := dk_61 (by decide +kernel)
theorem dX6_rowBelow_2 : decode cX6_rowBelow 2 = .ok (.iconst 0, 1) := dk_3 (by decide +kernel)
theorem dX6_rowBelow_3 : decode cX6_rowBelow 3 = .ok (.istore_n 3, 1) := dk_62 (by decide +kernel)
theorem dX6_rowBelow_4 : decode cX6_rowBelow 4 = .ok (.iload_n 3, 1) := dk_29 (by decide +kernel)
theorem dX6_rowBelow_5 : decode cX6_rowBelow 5 = .ok (.aload_n 0, 1) := dk_42 (by decide +kernel)
theorem dX6_rowBelow_6 : decode cX6_rowBelow 6 = .ok (.getfield 61, 3) := dk_180 (by decide +kernel)
theorem dX6_rowBelow_9 : decode cX6_rowBelow 9 = .ok (.if_icmp .ge 68, 3) := dk_162 (by decide +kernel)
theorem dX6_rowBelow_12 : decode cX6_rowBelow 12 = .ok (.aload_n 0, 1) := dk_42 (by decide +kernel)
theorem dX6_rowBelow_13 : decode cX6_rowBelow 13 = .ok (.iload_n 3, 1) := dk_29 (by decide +kernel)
theorem dX6_rowBelow_14 : decode cX6_rowBelow 14 = .ok (.iconst 0, 1) := dk_3 (by decide +kernel)
theorem dX6_rowBelow_15 : decode cX6_rowBelow 15 = .ok (.invokevirtual 72, 3) := dk_182 (by decide +kernel)
theorem dX6_rowBelow_18 : decode cX6_rowBelow 18 = .ok (.astore 4, 2) := dk_58 (by decide +kernel)
theorem dX6_rowBelow_20 : decode cX6_rowBelow 20 = .ok (.aload 4, 2) := dk_25 (by decide +kernel)
theorem dX6_rowBelow_22 : decode cX6_rowBelow 22 = .ok (.invokevirtual 92, 3) := dk_182 (by decide +kernel)
theorem dX6_rowBelow_25 : decode cX6_rowBelow 25 = .ok (.ifCond .ge 46, 3) := dk_156 (by decide +kernel)
theorem dX6_rowBelow_28 : decode cX6_rowBelow 28 = .ok (.iload_n 2, 1) := dk_28 (by decide +kernel)
theorem dX6_rowBelow_29 : decode cX6_rowBelow 29 = .ok (.iconst (-1), 1) := dk_2 (by decide +kernel)
theorem dX6_rowBelow_30 : decode cX6_rowBelow 30 = .ok (.if_icmp .eq 39, 3) := dk_159 (by decide +kernel)
theorem dX6_rowBelow_33 : decode cX6_rowBelow 33 = .ok (.iload_n 1, 1) := dk_27 (by decide +kernel)
theorem dX6_rowBelow_34 : decode cX6_rowBelow 34 = .ok (.ifCond .eq 20, 3) := dk_153 (by decide +kernel)
theorem dX6_rowBelow_37 : decode cX6_rowBelow 37 = .ok (.aload 4, 2) := dk_25 (by decide +kernel)
theorem dX6_rowBelow_39 : decode cX6_rowBelow 39 = .ok (.aload_n 0, 1) := dk_42 (by decide +kernel)
theorem dX6_rowBelow_40 : decode cX6_rowBelow 40 = .ok (.iload_n 2, 1) := dk_28 (by decide +kernel)
theorem dX6_rowBelow_41 : decode cX6_rowBelow 41 = .ok (.iconst 0, 1) := dk_3 (by decide +kernel)
theorem dX6_rowBelow_42 : decode cX6_rowBelow 42 = .ok (.invokevirtual 72, 3) := dk_182 (by decide +kernel)
theorem dX6_rowBelow_45 : decode cX6_rowBelow 45 = .ok (.invokevirtual 96, 3) := dk_182 (by decide +kernel)
theorem dX6_rowBelow_48 : decode cX6_rowBelow 48 = .ok (.ifCond .le 23, 3) := dk_158 (by decide +kernel)
theorem dX6_rowBelow_51 : decode cX6_rowBelow 51 = .ok (.goto 18, 3) := dk_167 (by decide +kernel)
theorem dX6_rowBelow_54 : decode cX6_rowBelow 54 = .ok (.aload_n 0, 1) := dk_42 (by decide +kernel)
theorem dX6_rowBelow_55 : decode cX6_rowBelow 55 = .ok (.getfield 17, 3) := dk_180 (by decide +kernel)
theorem dX6_rowBelow_58 : decode cX6_rowBelow 58 = .ok (.iload_n 3, 1) := dk_29 (by decide +kernel)
theorem dX6_rowBelow_59 : decode cX6_rowBelow 59 = .ok (.iaload, 1) := dk_46 (by decide +kernel)
theorem dX6_rowBelow_60 : decode cX6_rowBelow 60 = .ok (.aload_n 0, 1) := dk_42 (by decide +kernel)
theorem dX6_rowBelow_61 : decode cX6_rowBelow 61 = .ok (.getfield 17, 3) := dk_180 (by decide +kernel)
theorem dX6_rowBelow_64 : decode cX6_rowBelow 64 = .ok (.iload_n 2, 1) := dk_28 (by decide +kernel)
theorem dX6_rowBelow_65 : decode cX6_rowBelow 65 = .ok (.iaload, 1) := dk_46 (by decide +kernel)
theorem dX6_rowBelow_66 : decode cX6_rowBelow 66 = .ok (.if_icmp .ge 5, 3) := dk_162 (by decide +kernel)
theorem dX6_rowBelow_69 : decode cX6_rowBelow 69 = .ok (.iload_n 3, 1) := dk_29 (by decide +kernel)
theorem dX6_rowBelow_70 : decode cX6_rowBelow 70 = .ok (.istore_n 2, 1) := dk_61 (by decide +kernel)
theorem dX6_rowBelow_71 : decode cX6_rowBelow 71 = .ok (.iinc 3 1, 3) := dk_132 (by decide +kernel)
theorem dX6_rowBelow_74 : decode cX6_rowBelow 74 = .ok (.goto (-70), 3) := dk_167 (by decide +kernel)
theorem dX6_rowBelow_77 : decode cX6_rowBelow 77 = .ok (.iload_n 2, 1) := dk_28 (by decide +kernel)
theorem dX6_rowBelow_78 : decode cX6_rowBelow 78 = .ok (.ireturn, 1) := dk_172 (by decide +kernel)
def wsMX6_rowBelow : List Cond := .code yX6_rowBelow cX6_rowBelow 5 (some .int) :: ([.fieldLink RX6 61 "OptimaWorks$Tableau" "rows" "I", .fieldLink RX6 17 "OptimaWorks$Tableau" "inside" "[I"] ++ wsX60 ++ (wsV RX6 72 RX6 yX6_cellAt wsMX6_cellAt) ++ (wsV RX6 92 RX8 yX8_sign wsMX8_sign) ++ (wsV RX6 96 RX8 yX8_compareSize wsMX8_compareSize))
theorem iwsMX6_rowBelow_in6 : ∀ w ∈ wsX60, w ∈ wsMX6_rowBelow := fun _ h => List.mem_cons_of_mem _ (List.mem_append_left _ (List.mem_append_left _ (List.mem_append_left _ (List.mem_append_right _ h))))
theorem gwsMX6_rowBelow_0 : GoodIn wsMX6_rowBelow (wsV RX6 72 RX6 yX6_cellAt wsMX6_cellAt) := goodIn_sub (fun _ h => List.mem_cons_of_mem _ (List.mem_append_left _ (List.mem_append_left _ (List.mem_append_right _ h)))) (gdV (by decide +kernel) gdwsMX6_cellAt)
theorem gwsMX6_rowBelow_1 : GoodIn wsMX6_rowBelow (wsV RX6 92 RX8 yX8_sign wsMX8_sign) := goodIn_sub (fun _ h => List.mem_cons_of_mem _ (List.mem_append_left _ (List.mem_append_right _ h))) (gdV (by decide +kernel) gdwsMX8_sign)
theorem gwsMX6_rowBelow_2 : GoodIn wsMX6_rowBelow (wsV RX6 96 RX8 yX8_compareSize wsMX8_compareSize) := goodIn_sub (fun _ h => List.mem_cons_of_mem _ (List.mem_append_right _ h)) (gdV (by decide +kernel) gdwsMX8_compareSize)
theorem gdwsMX6_rowBelow : wsMX6_rowBelow.all goodWord = true := gdC rfl (gdA (gdA (gdA (gdA (by decide +kernel : ([.fieldLink RX6 61 "OptimaWorks$Tableau" "rows" "I", .fieldLink RX6 17 "OptimaWorks$Tableau" "inside" "[I"] : List Cond).all goodWord = true) gdwsX60) (gdV (by decide +kernel) gdwsMX6_cellAt)) (gdV (by decide +kernel) gdwsMX8_sign)) (gdV (by decide +kernel) gdwsMX8_compareSize))
theorem hm_m_X6_rowBelow_0 : (.fieldLink RX6 17 "OptimaWorks$Tableau" "inside" "[I" : Cond) ∈ wsMX6_rowBelow := by decide +kernel
set_option maxHeartbeats 4000000 in
set_option maxRecDepth 100000 in
/-- a row below nought -/
theorem m_X6_rowBelow (l : Launch) (dC : Nat → ClassId) (dI : Nat → Nat → Nat) (hQ : Nat → Nat) (aQ : Nat → Nat) (kQ : Nat → ClassId) (hw : Nat → Nat) (fQ_inside : Nat → Int32) (fQ_outside : Nat → Int32) (fQ_shut : Nat → Int32) (iQ_rows : Int32) (iQ_allRows : Int32) (iQ_columns : Int32) (nW : Nat) (lw : Nat → Nat) (kw : ClassId) (wl : Nat → Int32) (wb : Nat → Int32) (wG : Nat → Nat → Int64) (p1 : Int32) (b_iQ_rows : 0 ≤ iQ_rows.toInt ∧ iQ_rows.toInt ≤ 40) (b_iQ_allRows : 0 ≤ iQ_allRows.toInt ∧ iQ_allRows.toInt ≤ 40) (b_iQ_columns : 0 ≤ iQ_columns.toInt ∧ iQ_columns.toInt ≤ 40) (b_tb : TbO iQ_rows iQ_allRows iQ_columns) (b_wl : ∀ q : Nat, 0 ≤ (wl q).toInt ∧ (wl q).toInt ≤ 14) (b_wb : ∀ q : Nat, 0 ≤ (wb q).toInt ∧ (wb q).toInt ≤ 1) (hnW : 406 ≤ nW) (sz : Nat) : Met l yX6_rowBelow wsMX6_rowBelow ({ frames := 1, cells := 0, slots := 0, locals := 22 }) (va_Pc [.ref (hQ 0), .int p1] (fun U => U.heap.size = sz ∧ va_P (dC, dI) vwCl (WQ hQ aQ kQ hw fQ_inside fQ_outside fQ_shut iQ_rows iQ_allRows iQ_columns ++ (WW nW hw lw kw wl wb wG)) U.heap ∧ va_K (dC, dI) vwCl (tQ kQ ++ (tW kw)) U ∧ va_D (fun _ => True) (WQ hQ aQ kQ hw fQ_inside fQ_outside fQ_shut iQ_rows iQ_allRows iQ_columns ++ (WW nW hw lw kw wl wb wG)))) (va_Qi (fun (r : Int32) (u : Unit) => ((-1) ≤ r.toInt ∧ r.toInt ≤ 39) ∧ (r.toInt < iQ_rows.toInt)) (fun (u : Unit) t => va_P (dC, dI) vwCl (WQ hQ aQ kQ hw fQ_inside fQ_outside fQ_shut iQ_rows iQ_allRows iQ_columns ++ (WW nW hw lw kw wl wb wG)) t.heap ∧ va_D (va_A (WQ hQ aQ kQ hw fQ_inside fQ_outside fQ_shut iQ_rows iQ_allRows iQ_columns ++ (WW nW hw lw kw wl wb wG)) sz) (WQ hQ aQ kQ hw fQ_inside fQ_outside fQ_shut iQ_rows iQ_allRows iQ_columns ++ (WW nW hw lw kw wl wb wG))) (va_A (WQ hQ aQ kQ hw fQ_inside fQ_outside fQ_shut iQ_rows iQ_allRows iQ_columns ++ (WW nW hw lw kw wl wb wG)) sz)) 0 0 (va_A (WQ hQ aQ kQ hw fQ_inside fQ_outside fQ_shut iQ_rows iQ_allRows iQ_columns ++ (WW nW hw lw kw wl wb wG)) sz) := by
  refine Met.ofW (cc := cX6_rowBelow) (maxL := 5) (ret := (some .int)) (by decide) rfl ?_
  intro p e s m args below meth c s₁ B hml hv
  obtain ⟨rfl, hsz, hP, hK, hD0⟩ := hv
  have hx := B.exec
  have hb := B.bytes
  have hr := B.returns
  have hts := atoms_spec (ws := wsMX6_rowBelow) B.pre
  have hown : s.vm.findClass RX6 = some m.cls := findClass_of_methodNamed B.named
  have hlocks := B.notSynchronized
  subst hsz
  have hD := hD0.self (sz := s.heap.size)
  generalize hAe : va_A (WQ hQ aQ kQ hw fQ_inside fQ_outside fQ_shut iQ_rows iQ_allRows iQ_columns ++ (WW nW hw lw kw wl wb wG)) s.heap.size = A at hD ⊢
  have hA : ∀ q : Nat, s.heap.size ≤ q → A q := fun q h => by rw [← hAe]; exact Or.inr h
  have hS : va_S A s.heap s.heap [] := va_S.rf
  have hl := lv_entry ([.ref (hQ 0), .int p1]) (n := 5) (Nat.le_of_ble_eq_true rfl)
  rw [lg_entry_eq]
  generalize (lg_sl ([.ref (hQ 0), .int p1]) ++ List.replicate (5 - (lg_sl ([.ref (hQ 0), .int p1])).length) Slot.unset).toArray = ls at hl ⊢
  have hl : lv_has ls 5 [(0, .ref (hQ 0)), (1, .int p1)] := hl
  have hTb := b_tb.1
  refine lv_iconst (v := (-1)) hx hb dX6_rowBelow_0 (by decide) ?_
  refine lv_istore_n hx hb dX6_rowBelow_1 rfl hl (by decide) rfl (fun ls (hl : lv_has ls _ ([(2, .int (-1)), (0, .ref (hQ 0)), (1, .int p1)])) => ?_)
  refine lv_iconst (v := 0) hx hb dX6_rowBelow_2 (by decide) ?_
  refine lv_istore_n hx hb dX6_rowBelow_3 rfl hl (by decide) rfl (fun ls (hl : lv_has ls _ ([(3, .int 0), (2, .int (-1)), (0, .ref (hQ 0)), (1, .int p1)])) => ?_)
  have hl : lv_has _ _ ([(3, .int 0), (2, .int (-1)), (0, .ref (hQ 0)), (1, .int p1)]) := lv_sub hl [0, 1, 2, 3] rfl
  refine (fun (loop : ∀ (n9 : Nat) (l3_x4 : Int32) (l2_x4 : Int32) (H : Heap) (locs : List Loc) (ls : Array Slot), (0 ≤ l3_x4.toInt ∧ l3_x4.toInt ≤ 40) → ((-1) ≤ l2_x4.toInt ∧ l2_x4.toInt ≤ 39) → (l2_x4.toInt < iQ_rows.toInt) → (40 - l3_x4.toInt < ((n9 : Nat) : Int)) → va_P (dC, dI) vwCl (WQ hQ aQ kQ hw fQ_inside fQ_outside fQ_shut iQ_rows iQ_allRows iQ_columns ++ (WW nW hw lw kw wl wb wG)) H → va_D A (WQ hQ aQ kQ hw fQ_inside fQ_outside fQ_shut iQ_rows iQ_allRows iQ_columns ++ (WW nW hw lw kw wl wb wG)) → va_S A s.heap H locs → lv_has ls 5 [(3, .int l3_x4), (2, .int l2_x4), (0, .ref (hQ 0)), (1, .int p1)] → W p l e _ s m _ below meth c H locs 0 0 _ (F0 m 4 ls [])) => loop (41) 0 (-1) _ _ _ (show 0 ≤ (0 : Int32).toInt ∧ (0 : Int32).toInt ≤ 40 from by decide) (show (-1) ≤ ((-1) : Int32).toInt ∧ ((-1) : Int32).toInt ≤ 39 from by decide) (show ((-1) : Int32).toInt < iQ_rows.toInt from by first | assumption | omega | (have h9 : ((-1) : Int32).toInt = -1 := (by decide); omega)) ((by have e9 : (0 : Int32).toInt = 0 := (by decide : (0 : Int32).toInt = 0); omega)) hP hD hS hl) ?_
  intro n9
  induction n9 with
  | zero => intro l3_x4 l2_x4 H locs ls b_l3_x4 b_l2_x4 hfr hf9; exact False.elim (by omega)
  | succ n9 ihx4 =>
    intro l3_x4 l2_x4 H locs ls b_l3_x4 b_l2_x4 hfr hfx4 hP hD hS hl
    refine lv_iload_n hx hb dX6_rowBelow_4 rfl (lv_at hl 0 rfl) ?_
    refine lv_aload_n hx hb dX6_rowBelow_5 rfl (lv_at hl 2 rfl) ?_
    refine va_get (D := (dC, dI)) (ci := 6) (v := .int iQ_rows) (C := RX6) (T := TX6) (N := 13) hx hb hts iwsMX6_rowBelow_in6 hown hK hP 0 rfl rfl 5 (by decide) (hts (.fieldLink RX6 61 "OptimaWorks$Tableau" "rows" "I") (by decide +kernel)) (fun _ h9 => h9) rfl dX6_rowBelow_6 ?_
    refine lv_icmp_ge (tgt := 77) hx hb dX6_rowBelow_9 (by decide) (fun c_9 => ?_) (fun c_9 => ?_)
    · have t_9 : l3_x4.toInt ≥ iQ_rows.toInt := toI_ge c_9 rfl rfl
      refine lv_iload_n hx hb dX6_rowBelow_77 rfl (lv_at hl 1 rfl) ?_
      refine W.widen (k := 0) (n := 0) (by decide +kernel) (by decide +kernel) ?_
      exact W.iret (v := l2_x4) hx hb hr (fun t9_ ht hW => ⟨⟨l2_x4, (), rfl, ⟨(b_l2_x4), (by (try dsimp only); exact (hfr))⟩, by rw [ht]; exact hP, hD⟩, hS.F ht⟩) hS.2.2 dX6_rowBelow_78
    · have t_9 : ¬ l3_x4.toInt ≥ iQ_rows.toInt := toI_nge c_9 rfl rfl
      refine lv_aload_n hx hb dX6_rowBelow_12 rfl (lv_at hl 2 rfl) ?_
      refine lv_iload_n hx hb dX6_rowBelow_13 rfl (lv_at hl 0 rfl) ?_
      refine lv_iconst (v := 0) hx hb dX6_rowBelow_14 (by decide) ?_
      have hFc := allFree hD hS hA
      refine va_callr (va_runV (As := [.int l3_x4, .int 0]) (rest := []) ⟨hx, hb, hml, hown, hts⟩ (m_X6_cellAt l dC dI hQ aQ kQ hw fQ_inside fQ_outside fQ_shut iQ_rows iQ_allRows iQ_columns nW lw kw wl wb wG l3_x4 0 (b_iQ_rows) (b_iQ_allRows) (b_iQ_columns) (by first | with_reducible assumption | omega | assumption) b_wl b_wb (by first | exact b_l3_x4 | with_reducible assumption | exact ⟨by omega, by omega⟩ | assumption) (show 0 ≤ (0 : Int32).toInt ∧ (0 : Int32).toInt ≤ 40 from by decide) (by first | with_reducible assumption | omega | (rw [iI_t (by omega) (by omega)]; omega) | decide | assumption) (cell_ix0 b_tb (by omega) (by omega) (by omega)) H.size) (cwV 2 hts gwsMX6_rowBelow_0 rfl rfl rfl hd_yX6_cellAt_RX6 (by decide +kernel)) (fz_pre (va_recv hK hP (ci := 6) (q0 := 0) rfl rfl) hP hK hD) rfl rfl hl.1 rfl (lv_room (Nat.le_of_ble_eq_true rfl)) dX6_rowBelow_15 (by decide +kernel)) hS (fun q _ h => hFc q h) hFc (fun kR_35 ra35 t9_ H locs ht hvm hw9 hB9 hz1 hk1 hS => ?_)
      revert hB9
      refine fz_a2 ?_
      intro hra hB9
      subst hra
      have f35_0 := hw9
      try dsimp only at f35_0
      have hP : va_P (dC, dI) vwCl (WQ hQ aQ kQ hw fQ_inside fQ_outside fQ_shut iQ_rows iQ_allRows iQ_columns ++ (WW nW hw lw kw wl wb wG)) H := fz_P ht hB9.1
      have hD := fz_sd hP (hB9.2.weaken (fun _ q _ h => hFc q.1 h)) rfl
      refine lv_astore hx hb dX6_rowBelow_18 hl (by decide) rfl (fun ls (hl : lv_has ls _ ([(4, .ref (hw kR_35)), (3, .int l3_x4), (2, .int l2_x4), (0, .ref (hQ 0)), (1, .int p1)])) => ?_)
      refine lv_aload hx hb dX6_rowBelow_20 (lv_at hl 0 rfl) ?_
      have p9 := cj_2_1 (WQ hQ aQ kQ hw fQ_inside fQ_outside fQ_shut iQ_rows iQ_allRows iQ_columns) (WW nW hw lw kw wl wb wG)
      have hPc := hP.mem (fun q h => p9.mem_iff.mpr (List.mem_append_left _ h))
      have hDc := (hD.perm p9).left
      have hKc : va_K (dC, dI) vwCl (tW kw) _ := hK.sub [4] rfl
      have hFc := freeG p9 hD hS hA
      refine va_calli (va_runV (As := []) (rest := []) ⟨hx, hb, hml, hown, hts⟩ (m_X8_sign l dC dI nW hw lw kw wl wb wG kR_35 b_wl b_wb (by first | with_reducible assumption | omega | (rw [iI_t (by omega) (by omega)]; omega) | decide | assumption) H.size) (cwV 0 hts gwsMX6_rowBelow_1 rfl rfl rfl hd_yX8_sign_RX8 (by decide +kernel)) (fz_pre (va_recv hK hP (ci := 8) (q0 := 5 + (kR_35)) rfl (apR rfl (WW_o (by omega)))) hPc hKc hDc) rfl rfl hl.1 rfl (lv_room (Nat.le_of_ble_eq_true rfl)) dX6_rowBelow_22 (by decide +kernel)) hS (fun q _ h => hFc q h) hFc (fun r36 u t9_ H locs ht hvm hw9 hB9 hz1 hk1 hS => ?_)
      have b_r36 := hw9
      try dsimp only at b_r36
      have p8 := p9
      obtain ⟨hP, hD⟩ := frameG p9 p8 hP hD hk1 hFc (fz_P ht hB9.1) hB9.2
      refine W.cut (pc := 71) (fun H locs ls stk => ∃ (l2_j12 : Int32), ((-1) ≤ l2_j12.toInt ∧ l2_j12.toInt ≤ 39) ∧ (l2_j12.toInt < iQ_rows.toInt) ∧  stk = [] ∧ va_P (dC, dI) vwCl (WQ hQ aQ kQ hw fQ_inside fQ_outside fQ_shut iQ_rows iQ_allRows iQ_columns ++ (WW nW hw lw kw wl wb wG)) H ∧ va_D A (WQ hQ aQ kQ hw fQ_inside fQ_outside fQ_shut iQ_rows iQ_allRows iQ_columns ++ (WW nW hw lw kw wl wb wG)) ∧ va_S A s.heap H locs ∧ lv_has ls 5 [(4, .ref (hw kR_35)), (3, .int l3_x4), (2, .int l2_j12), (0, .ref (hQ 0)), (1, .int p1)]) (fun join12 => ?_) ?_
      · refine lv_if_ge (tgt := 71) hx hb dX6_rowBelow_25 (by decide) (fun c_25 => ?_) (fun c_25 => ?_)
        · have t_25 : r36.toInt ≥ 0 := toI_ge c_25 rfl (by decide : (0 : Int32).toInt = 0)
          have hl : lv_has _ _ ([(4, .ref (hw kR_35)), (3, .int l3_x4), (2, .int l2_x4), (0, .ref (hQ 0)), (1, .int p1)]) := lv_sub hl [0, 1, 2, 3, 4] rfl
          exact join12 _ _ _ _ ⟨l2_x4, (b_l2_x4), (show l2_x4.toInt < iQ_rows.toInt from by first | assumption | omega | (have h9 : ((-1) : Int32).toInt = -1 := (by decide); omega)), rfl, hP, hD, hS, hl⟩
        · have t_25 : ¬ r36.toInt ≥ 0 := toI_nge c_25 rfl (by decide : (0 : Int32).toInt = 0)
          refine lv_iload_n hx hb dX6_rowBelow_28 rfl (lv_at hl 2 rfl) ?_
          refine lv_iconst (v := (-1)) hx hb dX6_rowBelow_29 (by decide) ?_
          refine lv_icmp_eq (tgt := 69) hx hb dX6_rowBelow_30 (by decide) (fun c_30 => ?_) (fun c_30 => ?_)
          · have t_30 : l2_x4.toInt = (-1) := toI_eq c_30 rfl (by decide : ((-1) : Int32).toInt = (-1))
            refine lv_iload_n hx hb dX6_rowBelow_69 rfl (lv_at hl 1 rfl) ?_
            refine lv_istore_n hx hb dX6_rowBelow_70 rfl hl (by decide) rfl (fun ls (hl : lv_has ls _ ([(2, .int l3_x4), (4, .ref (hw kR_35)), (3, .int l3_x4), (0, .ref (hQ 0)), (1, .int p1)])) => ?_)
            have hl : lv_has _ _ ([(4, .ref (hw kR_35)), (3, .int l3_x4), (2, .int l3_x4), (0, .ref (hQ 0)), (1, .int p1)]) := lv_sub hl [1, 2, 0, 3, 4] rfl
            exact join12 _ _ _ _ ⟨l3_x4, (by first | exact b_l3_x4 | with_reducible assumption | exact ⟨by omega, by omega⟩ | assumption), (show l3_x4.toInt < iQ_rows.toInt from by first | assumption | omega | (have h9 : ((-1) : Int32).toInt = -1 := (by decide); omega)), rfl, hP, hD, hS, hl⟩
          · have t_30 : ¬ l2_x4.toInt = (-1) := toI_neq c_30 rfl (by decide : ((-1) : Int32).toInt = (-1))
            refine lv_iload_n hx hb dX6_rowBelow_33 rfl (lv_at hl 4 rfl) ?_
            refine lv_if_eq (tgt := 54) hx hb dX6_rowBelow_34 (by decide) (fun c_34 => ?_) (fun c_34 => ?_)
            · have t_34 : p1.toInt = 0 := toI_eq c_34 rfl (by decide : (0 : Int32).toInt = 0)
              refine lv_aload_n hx hb dX6_rowBelow_54 rfl (lv_at hl 3 rfl) ?_
              refine va_get (D := (dC, dI)) (ci := 6) (v := .ref (aQ 1)) (C := RX6) (T := TX6) (N := 13) hx hb hts iwsMX6_rowBelow_in6 hown hK hP 0 rfl rfl 1 (by decide) (hts _ hm_m_X6_rowBelow_0) (fun _ h9 => h9) rfl dX6_rowBelow_55 ?_
              refine lv_iload_n hx hb dX6_rowBelow_58 rfl (lv_at hl 1 rfl) ?_
              refine va_iald (cA := kQ 1) (n := 40) (f := fQ_inside) hx hb hK hP 2 1 rfl rfl (vp_in_iff.mpr ⟨b_l3_x4.1, (by omega)⟩) dX6_rowBelow_59 ?_
              refine lv_topi (fun v41 hv41 => ?_)
              clear hv41
              refine lv_aload_n hx hb dX6_rowBelow_60 rfl (lv_at hl 3 rfl) ?_
              refine va_get (D := (dC, dI)) (ci := 6) (v := .ref (aQ 1)) (C := RX6) (T := TX6) (N := 13) hx hb hts iwsMX6_rowBelow_in6 hown hK hP 0 rfl rfl 1 (by decide) (hts _ hm_m_X6_rowBelow_0) (fun _ h9 => h9) rfl dX6_rowBelow_61 ?_
              refine lv_iload_n hx hb dX6_rowBelow_64 rfl (lv_at hl 2 rfl) ?_
              refine va_iald (cA := kQ 1) (n := 40) (f := fQ_inside) hx hb hK hP 2 1 rfl rfl (vp_in_iff.mpr ⟨(by omega), (Int.lt_of_le_of_lt (b_l2_x4.2) (by decide))⟩) dX6_rowBelow_65 ?_
              refine lv_topi (fun v42 hv42 => ?_)
              clear hv42
              refine lv_icmp_ge (tgt := 71) hx hb dX6_rowBelow_66 (by decide) (fun c_66 => ?_) (fun c_66 => ?_)
              · have t_66 : v41.toInt ≥ v42.toInt := toI_ge c_66 rfl rfl
                have hl : lv_has _ _ ([(4, .ref (hw kR_35)), (3, .int l3_x4), (2, .int l2_x4), (0, .ref (hQ 0)), (1, .int p1)]) := lv_sub hl [0, 1, 2, 3, 4] rfl
                exact join12 _ _ _ _ ⟨l2_x4, (b_l2_x4), (show l2_x4.toInt < iQ_rows.toInt from by first | assumption | omega | (have h9 : ((-1) : Int32).toInt = -1 := (by decide); omega)), rfl, hP, hD, hS, hl⟩
              · have t_66 : ¬ v41.toInt ≥ v42.toInt := toI_nge c_66 rfl rfl
                refine lv_iload_n hx hb dX6_rowBelow_69 rfl (lv_at hl 1 rfl) ?_
                refine lv_istore_n hx hb dX6_rowBelow_70 rfl hl (by decide) rfl (fun ls (hl : lv_has ls _ ([(2, .int l3_x4), (4, .ref (hw kR_35)), (3, .int l3_x4), (0, .ref (hQ 0)), (1, .int p1)])) => ?_)
                have hl : lv_has _ _ ([(4, .ref (hw kR_35)), (3, .int l3_x4), (2, .int l3_x4), (0, .ref (hQ 0)), (1, .int p1)]) := lv_sub hl [1, 2, 0, 3, 4] rfl
                exact join12 _ _ _ _ ⟨l3_x4, (by first | exact b_l3_x4 | with_reducible assumption | exact ⟨by omega, by omega⟩ | assumption), (show l3_x4.toInt < iQ_rows.toInt from by first | assumption | omega | (have h9 : ((-1) : Int32).toInt = -1 := (by decide); omega)), rfl, hP, hD, hS, hl⟩
            · have t_34 : ¬ p1.toInt = 0 := toI_neq c_34 rfl (by decide : (0 : Int32).toInt = 0)
              refine lv_aload hx hb dX6_rowBelow_37 (lv_at hl 0 rfl) ?_
              refine lv_aload_n hx hb dX6_rowBelow_39 rfl (lv_at hl 3 rfl) ?_
              refine lv_iload_n hx hb dX6_rowBelow_40 rfl (lv_at hl 2 rfl) ?_
              refine lv_iconst (v := 0) hx hb dX6_rowBelow_41 (by decide) ?_
              have hFc := allFree hD hS hA
              refine va_callr (va_runV (As := [.int l2_x4, .int 0]) (rest := [.ref (hw kR_35)]) ⟨hx, hb, hml, hown, hts⟩ (m_X6_cellAt l dC dI hQ aQ kQ hw fQ_inside fQ_outside fQ_shut iQ_rows iQ_allRows iQ_columns nW lw kw wl wb wG l2_x4 0 (b_iQ_rows) (b_iQ_allRows) (b_iQ_columns) (by first | with_reducible assumption | omega | assumption) b_wl b_wb (by first | exact b_l2_x4 | with_reducible assumption | exact ⟨by omega, by omega⟩ | assumption) (show 0 ≤ (0 : Int32).toInt ∧ (0 : Int32).toInt ≤ 40 from by decide) (by first | with_reducible assumption | omega | (rw [iI_t (by omega) (by omega)]; omega) | decide | assumption) (cell_ix0 b_tb (by omega) (by omega) (by omega)) H.size) (cwV 2 hts gwsMX6_rowBelow_0 rfl rfl rfl hd_yX6_cellAt_RX6 (by decide +kernel)) (fz_pre (va_recv hK hP (ci := 6) (q0 := 0) rfl rfl) hP hK hD) rfl rfl hl.1 rfl (lv_room (Nat.le_of_ble_eq_true rfl)) dX6_rowBelow_42 (by decide +kernel)) hS (fun q _ h => hFc q h) hFc (fun kR_43 ra43 t9_ H locs ht hvm hw9 hB9 hz1 hk1 hS => ?_)
              revert hB9
              refine fz_a2 ?_
              intro hra hB9
              subst hra
              have f43_0 := hw9
              try dsimp only at f43_0
              have hP : va_P (dC, dI) vwCl (WQ hQ aQ kQ hw fQ_inside fQ_outside fQ_shut iQ_rows iQ_allRows iQ_columns ++ (WW nW hw lw kw wl wb wG)) H := fz_P ht hB9.1
              have hD := fz_sd hP (hB9.2.weaken (fun _ q _ h => hFc q.1 h)) rfl
              have p9 := cj_2_1 (WQ hQ aQ kQ hw fQ_inside fQ_outside fQ_shut iQ_rows iQ_allRows iQ_columns) (WW nW hw lw kw wl wb wG)
              have hPc := hP.mem (fun q h => p9.mem_iff.mpr (List.mem_append_left _ h))
              have hDc := (hD.perm p9).left
              have hKc : va_K (dC, dI) vwCl (tW kw) _ := hK.sub [4] rfl
              have hFc := freeG p9 hD hS hA
              refine va_calli (va_runV (As := [.ref (hw kR_43)]) (rest := []) ⟨hx, hb, hml, hown, hts⟩ (m_X8_compareSize l dC dI nW hw lw kw wl wb wG kR_35 kR_43 b_wl b_wb (by first | with_reducible assumption | omega | (rw [iI_t (by omega) (by omega)]; omega) | decide | assumption) (by first | with_reducible assumption | omega | (rw [iI_t (by omega) (by omega)]; omega) | decide | assumption) H.size) (cwV 1 hts gwsMX6_rowBelow_2 rfl rfl rfl hd_yX8_compareSize_RX8 (by decide +kernel)) (fz_pre (va_recv hK hP (ci := 8) (q0 := 5 + (kR_35)) rfl (apR rfl (WW_o (by omega)))) hPc hKc hDc) rfl rfl hl.1 rfl (lv_room (Nat.le_of_ble_eq_true rfl)) dX6_rowBelow_45 (by decide +kernel)) hS (fun q _ h => hFc q h) hFc (fun r44 u t9_ H locs ht hvm hw9 hB9 hz1 hk1 hS => ?_)
              have b_r44 := hw9
              try dsimp only at b_r44
              have p8 := p9
              obtain ⟨hP, hD⟩ := frameG p9 p8 hP hD hk1 hFc (fz_P ht hB9.1) hB9.2
              refine lv_if_le (tgt := 71) hx hb dX6_rowBelow_48 (by decide) (fun c_48 => ?_) (fun c_48 => ?_)
              · have t_48 : r44.toInt ≤ 0 := toI_le c_48 rfl (by decide : (0 : Int32).toInt = 0)
                have hl : lv_has _ _ ([(4, .ref (hw kR_35)), (3, .int l3_x4), (2, .int l2_x4), (0, .ref (hQ 0)), (1, .int p1)]) := lv_sub hl [0, 1, 2, 3, 4] rfl
                exact join12 _ _ _ _ ⟨l2_x4, (b_l2_x4), (show l2_x4.toInt < iQ_rows.toInt from by first | assumption | omega | (have h9 : ((-1) : Int32).toInt = -1 := (by decide); omega)), rfl, hP, hD, hS, hl⟩
              · have t_48 : ¬ r44.toInt ≤ 0 := toI_nle c_48 rfl (by decide : (0 : Int32).toInt = 0)
                refine lv_goto (tgt := 69) hx hb dX6_rowBelow_51 (by decide) ?_
                refine lv_iload_n hx hb dX6_rowBelow_69 rfl (lv_at hl 1 rfl) ?_
                refine lv_istore_n hx hb dX6_rowBelow_70 rfl hl (by decide) rfl (fun ls (hl : lv_has ls _ ([(2, .int l3_x4), (4, .ref (hw kR_35)), (3, .int l3_x4), (0, .ref (hQ 0)), (1, .int p1)])) => ?_)
                have hl : lv_has _ _ ([(4, .ref (hw kR_35)), (3, .int l3_x4), (2, .int l3_x4), (0, .ref (hQ 0)), (1, .int p1)]) := lv_sub hl [1, 2, 0, 3, 4] rfl
                exact join12 _ _ _ _ ⟨l3_x4, (by first | exact b_l3_x4 | with_reducible assumption | exact ⟨by omega, by omega⟩ | assumption), (show l3_x4.toInt < iQ_rows.toInt from by first | assumption | omega | (have h9 : ((-1) : Int32).toInt = -1 := (by decide); omega)), rfl, hP, hD, hS, hl⟩
      · rintro H locs ls stk ⟨l2_j12, b_l2_j12, hfj, rfl, hP, hD, hS, hl⟩
        refine lv_iinc (v := (iI (l3_x4.toInt + 1))) hx hb dX6_rowBelow_71 hl (k := 1) rfl (iI_add2 (iI_of _) (by decide : (1 : Int32) = iI 1)) (by decide) rfl (fun ls (hl : lv_has ls _ ([(3, .int (iI (l3_x4.toInt + 1))), (4, .ref (hw kR_35)), (2, .int l2_j12), (0, .ref (hQ 0)), (1, .int p1)])) => ?_)
        refine lv_goto (tgt := 4) hx hb dX6_rowBelow_74 (by decide) ?_
        have hl : lv_has _ _ ([(3, .int (iI (l3_x4.toInt + 1))), (2, .int l2_j12), (0, .ref (hQ 0)), (1, .int p1)]) := lv_sub hl [0, 2, 3, 4] rfl
        exact ihx4 (iI (l3_x4.toInt + 1)) l2_j12 _ _ _ (iI_rng (Int.le_trans (by decide) (Int.add_le_add (b_l3_x4.1) (Int.le_refl _))) (by omega) (by decide) (by decide)) (b_l2_j12) (show l2_j12.toInt < iQ_rows.toInt from by first | assumption | omega | (have h9 : ((-1) : Int32).toInt = -1 := (by decide); omega)) (by have e9 : ((iI (l3_x4.toInt + 1))).toInt = (l3_x4.toInt + 1) := (iI_t (Int.le_trans (by decide) (Int.add_le_add (b_l3_x4.1) (Int.le_refl _))) (Int.le_trans (Int.add_le_add (b_l3_x4.2) (Int.le_refl _)) (by decide))); omega) hP hD hS hl
theorem dX6_columnOfSign_0 : decode cX6_columnOfSign 0 = .ok (.iconst (-1), 1) := dk_2 (by decide +kernel)
theorem dX6_columnOfSign_1 : decode cX6_columnOfSign 1 = .ok (.istore 4, 2) := dk_54 (by decide +kernel)
theorem dX6_columnOfSign_3 : decode cX6_columnOfSign 3 = .ok (.iconst 1, 1) := dk_4 (by decide +kernel)
theorem dX6_columnOfSign_4 : decode cX6_columnOfSign 4 = .ok (.istore 5, 2) := dk_54 (by decide +kernel)
theorem dX6_columnOfSign_6 : decode cX6_columnOfSign 6 = .ok (.iload 5, 2) := dk_21 (by decide +kernel)
theorem dX6_columnOfSign_8 : decode cX6_columnOfSign 8 = .ok (.aload_n 0, 1) := dk_42 (by decide +kernel)
theorem dX6_columnOfSign_9 : decode cX6_columnOfSign 9 = .ok (.getfield 54, 3) := dk_180 (by decide +kernel)
theorem dX6_columnOfSign_12 : decode cX6_columnOfSign 12 = .ok (.if_icmp .gt 86, 3) := dk_163 (by decide +kernel)
theorem dX6_columnOfSign_15 : decode cX6_columnOfSign 15 = .ok (.aload_n 0, 1) := dk_42 (by decide +kernel)
theorem dX6_columnOfSign_16 : decode cX6_columnOfSign 16 = .ok (.iload_n 1, 1) := dk_27 (by decide +kernel)
theorem dX6_columnOfSign_17 : decode cX6_columnOfSign 17 = .ok (.iload 5, 2) := dk_21 (by decide +kernel)
theorem dX6_columnOfSign_19 : decode cX6_columnOfSign 19 = .ok (.invokevirtual 72, 3) := dk_182 (by decide +kernel)
theorem dX6_columnOfSign_22 : decode cX6_columnOfSign 22 = .ok (.astore 6, 2) := dk_58 (by decide +kernel)
theorem dX6_columnOfSign_24 : decode cX6_columnOfSign 24 = .ok (.aload_n 0, 1) := dk_42 (by decide +kernel)
theorem dX6_columnOfSign_25 : decode cX6_columnOfSign 25 = .ok (.getfield 24, 3) := dk_180 (by decide +kernel)
theorem dX6_columnOfSign_28 : decode cX6_columnOfSign 28 = .ok (.iload 5, 2) := dk_21 (by decide +kernel)
theorem dX6_columnOfSign_30 : decode cX6_columnOfSign 30 = .ok (.baload, 1) := dk_51 (by decide +kernel)
theorem dX6_columnOfSign_31 : decode cX6_columnOfSign 31 = .ok (.ifCond .ne 61, 3) := dk_154 (by decide +kernel)
theorem dX6_columnOfSign_34 : decode cX6_columnOfSign 34 = .ok (.aload 6, 2) := dk_25 (by decide +kernel)
theorem dX6_columnOfSign_36 : decode cX6_columnOfSign 36 = .ok (.invokevirtual 92, 3) := dk_182 (by decide +kernel)
theorem dX6_columnOfSign_39 : decode cX6_columnOfSign 39 = .ok (.iload_n 2, 1) := dk_28 (by decide +kernel)
theorem dX6_columnOfSign_40 : decode cX6_columnOfSign 40 = .ok (.if_icmp .ne 52, 3) := dk_160 (by decide +kernel)
theorem dX6_columnOfSign_43 : decode cX6_columnOfSign 43 = .ok (.iload 4, 2) := dk_21 (by decide +kernel)
theorem dX6_columnOfSign_45 : decode cX6_columnOfSign 45 = .ok (.iconst (-1), 1) := dk_2 (by decide +kernel)
theorem dX6_columnOfSign_46 : decode cX6_columnOfSign 46 = .ok (.if_icmp .eq 42, 3) := dk_159 (by decide +kernel)
theorem dX6_columnOfSign_49 : decode cX6_columnOfSign 49 = .ok (.iload_n 3, 1) := dk_29 (by decide +kernel)
theorem dX6_columnOfSign_50 : decode cX6_columnOfSign 50 = .ok (.ifCond .eq 21, 3) := dk_153 (by decide +kernel)
theorem dX6_columnOfSign_53 : decode cX6_columnOfSign 53 = .ok (.aload 6, 2) := dk_25 (by decide +kernel)
theorem dX6_columnOfSign_55 : decode cX6_columnOfSign 55 = .ok (.aload_n 0, 1) := dk_42 (by decide +kernel)
theorem dX6_columnOfSign_56 : decode cX6_columnOfSign 56 = .ok (.iload_n 1, 1) := dk_27 (by decide +kernel)
theorem dX6_columnOfSign_57 : decode cX6_columnOfSign 57 = .ok (.iload 4, 2) := dk_21 (by decide +kernel)
theorem dX6_columnOfSign_59 : decode cX6_columnOfSign 59 = .ok (.invokevirtual 72, 3) := dk_182 (by decide +kernel)
theorem dX6_columnOfSign_62 : decode cX6_columnOfSign 62 = .ok (.invokevirtual 96, 3) := dk_182 (by decide +kernel)
theorem dX6_columnOfSign_65 : decode cX6_columnOfSign 65 = .ok (.ifCond .le 27, 3) := dk_158 (by decide +kernel)
theorem dX6_columnOfSign_68 : decode cX6_columnOfSign 68 = .ok (.goto 20, 3) := dk_167 (by decide +kernel)
theorem dX6_columnOfSign_71 : decode cX6_columnOfSign 71 = .ok (.aload_n 0, 1) := dk_42 (by decide +kernel)
theorem dX6_columnOfSign_72 : decode cX6_columnOfSign 72 = .ok (.getfield 21, 3) := dk_180 (by decide +kernel)
theorem dX6_columnOfSign_75 : decode cX6_columnOfSign 75 = .ok (.iload 5, 2) := dk_21 (by decide +kernel)
theorem dX6_columnOfSign_77 : decode cX6_columnOfSign 77 = .ok (.iaload, 1) := dk_46 (by decide +kernel)
theorem dX6_columnOfSign_78 : decode cX6_columnOfSign 78 = .ok (.aload_n 0, 1) := dk_42 (by decide +kernel)
theorem dX6_columnOfSign_79 : decode cX6_columnOfSign 79 = .ok (.getfield 21, 3) := dk_180 (by decide +kernel)
theorem dX6_columnOfSign_82 : decode cX6_columnOfSign 82 = .ok (.iload 4, 2) := dk_21 (by decide +kernel)
theorem dX6_columnOfSign_84 : decode cX6_columnOfSign 84 = .ok (.iaload, 1) := dk_46 (by decide +kernel)
theorem dX6_columnOfSign_85 : decode cX6_columnOfSign 85 = .ok (.if_icmp .ge 7, 3) := dk_162 (by decide +kernel)
theorem dX6_columnOfSign_88 : decode cX6_columnOfSign 88 = .ok (.iload 5, 2) := dk_21 (by decide +kernel)
theorem dX6_columnOfSign_90 : decode cX6_columnOfSign 90 = .ok (.istore 4, 2) := dk_54 (by decide +kernel)
theorem dX6_columnOfSign_92 : decode cX6_columnOfSign 92 = .ok (.iinc 5 1, 3) := dk_132 (by decide +kernel)
theorem dX6_columnOfSign_95 : decode cX6_columnOfSign 95 = .ok (.goto (-89), 3) := dk_167 (by decide +kernel)
theorem dX6_columnOfSign_98 : decode cX6_columnOfSign 98 = .ok (.iload 4, 2) := dk_21 (by decide +kernel)
theorem dX6_columnOfSign_100 : decode cX6_columnOfSign 100 = .ok (.ireturn, 1) := dk_172 (by decide +kernel)
def wsMX6_columnOfSign : List Cond := .code yX6_columnOfSign cX6_columnOfSign 7 (some .int) :: ([.fieldLink RX6 54 "OptimaWorks$Tableau" "columns" "I", .fieldLink RX6 24 "OptimaWorks$Tableau" "shut" "[Z", .fieldLink RX6 21 "OptimaWorks$Tableau" "outside" "[I"] ++ wsX60 ++ (wsV RX6 72 RX6 yX6_cellAt wsMX6_cellAt) ++ (wsV RX6 92 RX8 yX8_sign wsMX8_sign) ++ (wsV RX6 96 RX8 yX8_compareSize wsMX8_compareSize))
theorem iwsMX6_columnOfSign_in6 : ∀ w ∈ wsX60, w ∈ wsMX6_columnOfSign := fun _ h => List.mem_cons_of_mem _ (List.mem_append_left _ (List.mem_append_left _ (List.mem_append_left _ (List.mem_append_right _ h))))
theorem gwsMX6_columnOfSign_0 : GoodIn wsMX6_columnOfSign (wsV RX6 72 RX6 yX6_cellAt wsMX6_cellAt) := goodIn_sub (fun _ h => List.mem_cons_of_mem _ (List.mem_append_left _ (List.mem_append_left _ (List.mem_append_right _ h)))) (gdV (by decide +kernel) gdwsMX6_cellAt)
theorem gwsMX6_columnOfSign_1 : GoodIn wsMX6_columnOfSign (wsV RX6 92 RX8 yX8_sign wsMX8_sign) := goodIn_sub (fun _ h => List.mem_cons_of_mem _ (List.mem_append_left _ (List.mem_append_right _ h))) (gdV (by decide +kernel) gdwsMX8_sign)
theorem gwsMX6_columnOfSign_2 : GoodIn wsMX6_columnOfSign (wsV RX6 96 RX8 yX8_compareSize wsMX8_compareSize) := goodIn_sub (fun _ h => List.mem_cons_of_mem _ (List.mem_append_right _ h)) (gdV (by decide +kernel) gdwsMX8_compareSize)
theorem gdwsMX6_columnOfSign : wsMX6_columnOfSign.all goodWord = true := gdC rfl (gdA (gdA (gdA (gdA (by decide +kernel : ([.fieldLink RX6 54 "OptimaWorks$Tableau" "columns" "I", .fieldLink RX6 24 "OptimaWorks$Tableau" "shut" "[Z", .fieldLink RX6 21 "OptimaWorks$Tableau" "outside" "[I"] : List Cond).all goodWord = true) gdwsX60) (gdV (by decide +kernel) gdwsMX6_cellAt)) (gdV (by decide +kernel) gdwsMX8_sign)) (gdV (by decide +kernel) gdwsMX8_compareSize))
theorem hm_m_X6_columnOfSign_0 : (.fieldLink RX6 21 "OptimaWorks$Tableau" "outside" "[I" : Cond) ∈ wsMX6_columnOfSign := by decide +kernel
set_option maxHeartbeats 4000000 in
set_option maxRecDepth 100000 in
/-- a column of a sign -/
theorem m_X6_columnOfSign (l : Launch) (dC : Nat → ClassId) (dI : Nat → Nat → Nat) (hQ : Nat → Nat) (aQ : Nat → Nat) (kQ : Nat → ClassId) (hw : Nat → Nat) (fQ_inside : Nat → Int32) (fQ_outside : Nat → Int32) (fQ_shut : Nat → Int32) (iQ_rows : Int32) (iQ_allRows : Int32) (iQ_columns : Int32) (nW : Nat) (lw : Nat → Nat) (kw : ClassId) (wl : Nat → Int32) (wb : Nat → Int32) (wG : Nat → Nat → Int64) (p1 : Int32) (p2 : Int32) (p3 : Int32) (b_iQ_rows : 0 ≤ iQ_rows.toInt ∧ iQ_rows.toInt ≤ 40) (b_iQ_allRows : 0 ≤ iQ_allRows.toInt ∧ iQ_allRows.toInt ≤ 40) (b_iQ_columns : 0 ≤ iQ_columns.toInt ∧ iQ_columns.toInt ≤ 40) (b_tb : TbO iQ_rows iQ_allRows iQ_columns) (b_wl : ∀ q : Nat, 0 ≤ (wl q).toInt ∧ (wl q).toInt ≤ 14) (b_wb : ∀ q : Nat, 0 ≤ (wb q).toInt ∧ (wb q).toInt ≤ 1) (b_p1 : 0 ≤ p1.toInt ∧ p1.toInt ≤ 39) (hnW : 406 ≤ nW) (hrow : FitR p1.toInt iQ_columns.toInt) (sz : Nat) : Met l yX6_columnOfSign wsMX6_columnOfSign ({ frames := 1, cells := 0, slots := 0, locals := 22 }) (va_Pc [.ref (hQ 0), .int p1, .int p2, .int p3] (fun U => U.heap.size = sz ∧ va_P (dC, dI) vwCl (WQ hQ aQ kQ hw fQ_inside fQ_outside fQ_shut iQ_rows iQ_allRows iQ_columns ++ (WW nW hw lw kw wl wb wG)) U.heap ∧ va_K (dC, dI) vwCl (tQ kQ ++ (tW kw)) U ∧ va_D (fun _ => True) (WQ hQ aQ kQ hw fQ_inside fQ_outside fQ_shut iQ_rows iQ_allRows iQ_columns ++ (WW nW hw lw kw wl wb wG)))) (va_Qi (fun (r : Int32) (u : Unit) => ((-1) ≤ r.toInt ∧ r.toInt ≤ 40) ∧ (r.toInt ≤ iQ_columns.toInt)) (fun (u : Unit) t => va_P (dC, dI) vwCl (WQ hQ aQ kQ hw fQ_inside fQ_outside fQ_shut iQ_rows iQ_allRows iQ_columns ++ (WW nW hw lw kw wl wb wG)) t.heap ∧ va_D (va_A (WQ hQ aQ kQ hw fQ_inside fQ_outside fQ_shut iQ_rows iQ_allRows iQ_columns ++ (WW nW hw lw kw wl wb wG)) sz) (WQ hQ aQ kQ hw fQ_inside fQ_outside fQ_shut iQ_rows iQ_allRows iQ_columns ++ (WW nW hw lw kw wl wb wG))) (va_A (WQ hQ aQ kQ hw fQ_inside fQ_outside fQ_shut iQ_rows iQ_allRows iQ_columns ++ (WW nW hw lw kw wl wb wG)) sz)) 0 0 (va_A (WQ hQ aQ kQ hw fQ_inside fQ_outside fQ_shut iQ_rows iQ_allRows iQ_columns ++ (WW nW hw lw kw wl wb wG)) sz) := by
  refine Met.ofW (cc := cX6_columnOfSign) (maxL := 7) (ret := (some .int)) (by decide) rfl ?_
  intro p e s m args below meth c s₁ B hml hv
  obtain ⟨rfl, hsz, hP, hK, hD0⟩ := hv
  have hx := B.exec
  have hb := B.bytes
  have hr := B.returns
  have hts := atoms_spec (ws := wsMX6_columnOfSign) B.pre
  have hown : s.vm.findClass RX6 = some m.cls := findClass_of_methodNamed B.named
  have hlocks := B.notSynchronized
  subst hsz
  have hD := hD0.self (sz := s.heap.size)
  generalize hAe : va_A (WQ hQ aQ kQ hw fQ_inside fQ_outside fQ_shut iQ_rows iQ_allRows iQ_columns ++ (WW nW hw lw kw wl wb wG)) s.heap.size = A at hD ⊢
  have hA : ∀ q : Nat, s.heap.size ≤ q → A q := fun q h => by rw [← hAe]; exact Or.inr h
  have hS : va_S A s.heap s.heap [] := va_S.rf
  have hl := lv_entry ([.ref (hQ 0), .int p1, .int p2, .int p3]) (n := 7) (Nat.le_of_ble_eq_true rfl)
  rw [lg_entry_eq]
  generalize (lg_sl ([.ref (hQ 0), .int p1, .int p2, .int p3]) ++ List.replicate (7 - (lg_sl ([.ref (hQ 0), .int p1, .int p2, .int p3])).length) Slot.unset).toArray = ls at hl ⊢
  have hl : lv_has ls 7 [(0, .ref (hQ 0)), (1, .int p1), (2, .int p2), (3, .int p3)] := hl
  have hTb := b_tb.1
  refine lv_iconst (v := (-1)) hx hb dX6_columnOfSign_0 (by decide) ?_
  refine lv_istore hx hb dX6_columnOfSign_1 hl (by decide) rfl (fun ls (hl : lv_has ls _ ([(4, .int (-1)), (0, .ref (hQ 0)), (1, .int p1), (2, .int p2), (3, .int p3)])) => ?_)
  refine lv_iconst (v := 1) hx hb dX6_columnOfSign_3 (by decide) ?_
  refine lv_istore hx hb dX6_columnOfSign_4 hl (by decide) rfl (fun ls (hl : lv_has ls _ ([(5, .int 1), (4, .int (-1)), (0, .ref (hQ 0)), (1, .int p1), (2, .int p2), (3, .int p3)])) => ?_)
  have hl : lv_has _ _ ([(5, .int 1), (4, .int (-1)), (0, .ref (hQ 0)), (1, .int p1), (2, .int p2), (3, .int p3)]) := lv_sub hl [0, 1, 2, 3, 4, 5] rfl
  refine (fun (loop : ∀ (n9 : Nat) (l5_x6 : Int32) (l4_x6 : Int32) (H : Heap) (locs : List Loc) (ls : Array Slot), (1 ≤ l5_x6.toInt ∧ l5_x6.toInt ≤ 41) → ((-1) ≤ l4_x6.toInt ∧ l4_x6.toInt ≤ 40) → (l4_x6.toInt ≤ iQ_columns.toInt) → (41 - l5_x6.toInt < ((n9 : Nat) : Int)) → va_P (dC, dI) vwCl (WQ hQ aQ kQ hw fQ_inside fQ_outside fQ_shut iQ_rows iQ_allRows iQ_columns ++ (WW nW hw lw kw wl wb wG)) H → va_D A (WQ hQ aQ kQ hw fQ_inside fQ_outside fQ_shut iQ_rows iQ_allRows iQ_columns ++ (WW nW hw lw kw wl wb wG)) → va_S A s.heap H locs → lv_has ls 7 [(5, .int l5_x6), (4, .int l4_x6), (0, .ref (hQ 0)), (1, .int p1), (2, .int p2), (3, .int p3)] → W p l e _ s m _ below meth c H locs 0 0 _ (F0 m 6 ls [])) => loop (41) 1 (-1) _ _ _ (show 1 ≤ (1 : Int32).toInt ∧ (1 : Int32).toInt ≤ 41 from by decide) (show (-1) ≤ ((-1) : Int32).toInt ∧ ((-1) : Int32).toInt ≤ 40 from by decide) (show ((-1) : Int32).toInt ≤ iQ_columns.toInt from by first | assumption | omega | (have h9 : ((-1) : Int32).toInt = -1 := (by decide); omega)) ((by have e9 : (1 : Int32).toInt = 1 := (by decide : (1 : Int32).toInt = 1); omega)) hP hD hS hl) ?_
  intro n9
  induction n9 with
  | zero => intro l5_x6 l4_x6 H locs ls b_l5_x6 b_l4_x6 hfr hf9; exact False.elim (by omega)
  | succ n9 ihx6 =>
    intro l5_x6 l4_x6 H locs ls b_l5_x6 b_l4_x6 hfr hfx6 hP hD hS hl
    refine lv_iload hx hb dX6_columnOfSign_6 (lv_at hl 0 rfl) ?_
    refine lv_aload_n hx hb dX6_columnOfSign_8 rfl (lv_at hl 2 rfl) ?_
    refine va_get (D := (dC, dI)) (ci := 6) (v := .int iQ_columns) (C := RX6) (T := TX6) (N := 13) hx hb hts iwsMX6_columnOfSign_in6 hown hK hP 0 rfl rfl 7 (by decide) (hts (.fieldLink RX6 54 "OptimaWorks$Tableau" "columns" "I") (by decide +kernel)) (fun _ h9 => h9) rfl dX6_columnOfSign_9 ?_
    refine lv_icmp_gt (tgt := 98) hx hb dX6_columnOfSign_12 (by decide) (fun c_12 => ?_) (fun c_12 => ?_)
    · have t_12 : l5_x6.toInt > iQ_columns.toInt := toI_gt c_12 rfl rfl
      refine lv_iload hx hb dX6_columnOfSign_98 (lv_at hl 1 rfl) ?_
      refine W.widen (k := 0) (n := 0) (by decide +kernel) (by decide +kernel) ?_
      exact W.iret (v := l4_x6) hx hb hr (fun t9_ ht hW => ⟨⟨l4_x6, (), rfl, ⟨(b_l4_x6), (by (try dsimp only); exact (hfr))⟩, by rw [ht]; exact hP, hD⟩, hS.F ht⟩) hS.2.2 dX6_columnOfSign_100
    · have t_12 : ¬ l5_x6.toInt > iQ_columns.toInt := toI_ngt c_12 rfl rfl
      refine lv_aload_n hx hb dX6_columnOfSign_15 rfl (lv_at hl 2 rfl) ?_
      refine lv_iload_n hx hb dX6_columnOfSign_16 rfl (lv_at hl 3 rfl) ?_
      refine lv_iload hx hb dX6_columnOfSign_17 (lv_at hl 0 rfl) ?_
      have hFc := allFree hD hS hA
      refine va_callr (va_runV (As := [.int p1, .int l5_x6]) (rest := []) ⟨hx, hb, hml, hown, hts⟩ (m_X6_cellAt l dC dI hQ aQ kQ hw fQ_inside fQ_outside fQ_shut iQ_rows iQ_allRows iQ_columns nW lw kw wl wb wG p1 l5_x6 (b_iQ_rows) (b_iQ_allRows) (b_iQ_columns) (by first | with_reducible assumption | omega | assumption) b_wl b_wb (b_p1) (by first | exact b_l5_x6 | with_reducible assumption | exact ⟨by omega, by omega⟩ | assumption) (by first | with_reducible assumption | omega | (rw [iI_t (by omega) (by omega)]; omega) | decide | assumption) (hrow.ix (by omega) (by omega)) H.size) (cwV 2 hts gwsMX6_columnOfSign_0 rfl rfl rfl hd_yX6_cellAt_RX6 (by decide +kernel)) (fz_pre (va_recv hK hP (ci := 6) (q0 := 0) rfl rfl) hP hK hD) rfl rfl hl.1 rfl (lv_room (Nat.le_of_ble_eq_true rfl)) dX6_columnOfSign_19 (by decide +kernel)) hS (fun q _ h => hFc q h) hFc (fun kR_45 ra45 t9_ H locs ht hvm hw9 hB9 hz1 hk1 hS => ?_)
      revert hB9
      refine fz_a2 ?_
      intro hra hB9
      subst hra
      have f45_0 := hw9
      try dsimp only at f45_0
      have hP : va_P (dC, dI) vwCl (WQ hQ aQ kQ hw fQ_inside fQ_outside fQ_shut iQ_rows iQ_allRows iQ_columns ++ (WW nW hw lw kw wl wb wG)) H := fz_P ht hB9.1
      have hD := fz_sd hP (hB9.2.weaken (fun _ q _ h => hFc q.1 h)) rfl
      refine lv_astore hx hb dX6_columnOfSign_22 hl (by decide) rfl (fun ls (hl : lv_has ls _ ([(6, .ref (hw kR_45)), (5, .int l5_x6), (4, .int l4_x6), (0, .ref (hQ 0)), (1, .int p1), (2, .int p2), (3, .int p3)])) => ?_)
      refine lv_aload_n hx hb dX6_columnOfSign_24 rfl (lv_at hl 3 rfl) ?_
      refine va_get (D := (dC, dI)) (ci := 6) (v := .ref (aQ 3)) (C := RX6) (T := TX6) (N := 13) hx hb hts iwsMX6_columnOfSign_in6 hown hK hP 0 rfl rfl 3 (by decide) (hts (.fieldLink RX6 24 "OptimaWorks$Tableau" "shut" "[Z") (by decide +kernel)) (fun _ h9 => h9) rfl dX6_columnOfSign_25 ?_
      refine lv_iload hx hb dX6_columnOfSign_28 (lv_at hl 1 rfl) ?_
      refine va_zald (cA := kQ 3) (n := 41) (f := fQ_shut) hx hb hK hP 4 3 rfl rfl (vp_in_iff.mpr ⟨(Int.le_trans (by decide) (b_l5_x6.1)), (by omega)⟩) dX6_columnOfSign_30 ?_
      refine lv_topi (fun v46 hv46 => ?_)
      clear hv46
      refine W.cut (pc := 92) (fun H locs ls stk => ∃ (l4_j12 : Int32), ((-1) ≤ l4_j12.toInt ∧ l4_j12.toInt ≤ 40) ∧ (l4_j12.toInt ≤ iQ_columns.toInt) ∧  stk = [] ∧ va_P (dC, dI) vwCl (WQ hQ aQ kQ hw fQ_inside fQ_outside fQ_shut iQ_rows iQ_allRows iQ_columns ++ (WW nW hw lw kw wl wb wG)) H ∧ va_D A (WQ hQ aQ kQ hw fQ_inside fQ_outside fQ_shut iQ_rows iQ_allRows iQ_columns ++ (WW nW hw lw kw wl wb wG)) ∧ va_S A s.heap H locs ∧ lv_has ls 7 [(6, .ref (hw kR_45)), (5, .int l5_x6), (4, .int l4_j12), (0, .ref (hQ 0)), (1, .int p1), (2, .int p2), (3, .int p3)]) (fun join12 => ?_) ?_
      · refine lv_if_ne (tgt := 92) hx hb dX6_columnOfSign_31 (by decide) (fun c_31 => ?_) (fun c_31 => ?_)
        · have t_31 : v46.toInt ≠ 0 := toI_ne c_31 rfl (by decide : (0 : Int32).toInt = 0)
          have hl : lv_has _ _ ([(6, .ref (hw kR_45)), (5, .int l5_x6), (4, .int l4_x6), (0, .ref (hQ 0)), (1, .int p1), (2, .int p2), (3, .int p3)]) := lv_sub hl [0, 1, 2, 3, 4, 5, 6] rfl
          exact join12 _ _ _ _ ⟨l4_x6, (b_l4_x6), (show l4_x6.toInt ≤ iQ_columns.toInt from by first | assumption | omega | (have h9 : ((-1) : Int32).toInt = -1 := (by decide); omega)), rfl, hP, hD, hS, hl⟩
        · have t_31 : v46.toInt = 0 := toI_nne c_31 rfl (by decide : (0 : Int32).toInt = 0)
          refine lv_aload hx hb dX6_columnOfSign_34 (lv_at hl 0 rfl) ?_
          have p9 := cj_2_1 (WQ hQ aQ kQ hw fQ_inside fQ_outside fQ_shut iQ_rows iQ_allRows iQ_columns) (WW nW hw lw kw wl wb wG)
          have hPc := hP.mem (fun q h => p9.mem_iff.mpr (List.mem_append_left _ h))
          have hDc := (hD.perm p9).left
          have hKc : va_K (dC, dI) vwCl (tW kw) _ := hK.sub [4] rfl
          have hFc := freeG p9 hD hS hA
          refine va_calli (va_runV (As := []) (rest := []) ⟨hx, hb, hml, hown, hts⟩ (m_X8_sign l dC dI nW hw lw kw wl wb wG kR_45 b_wl b_wb (by first | with_reducible assumption | omega | (rw [iI_t (by omega) (by omega)]; omega) | decide | assumption) H.size) (cwV 0 hts gwsMX6_columnOfSign_1 rfl rfl rfl hd_yX8_sign_RX8 (by decide +kernel)) (fz_pre (va_recv hK hP (ci := 8) (q0 := 5 + (kR_45)) rfl (apR rfl (WW_o (by omega)))) hPc hKc hDc) rfl rfl hl.1 rfl (lv_room (Nat.le_of_ble_eq_true rfl)) dX6_columnOfSign_36 (by decide +kernel)) hS (fun q _ h => hFc q h) hFc (fun r52 u t9_ H locs ht hvm hw9 hB9 hz1 hk1 hS => ?_)
          have b_r52 := hw9
          try dsimp only at b_r52
          have p8 := p9
          obtain ⟨hP, hD⟩ := frameG p9 p8 hP hD hk1 hFc (fz_P ht hB9.1) hB9.2
          refine lv_iload_n hx hb dX6_columnOfSign_39 rfl (lv_at hl 5 rfl) ?_
          refine lv_icmp_ne (tgt := 92) hx hb dX6_columnOfSign_40 (by decide) (fun c_40 => ?_) (fun c_40 => ?_)
          · have t_40 : r52.toInt ≠ p2.toInt := toI_ne c_40 rfl rfl
            have hl : lv_has _ _ ([(6, .ref (hw kR_45)), (5, .int l5_x6), (4, .int l4_x6), (0, .ref (hQ 0)), (1, .int p1), (2, .int p2), (3, .int p3)]) := lv_sub hl [0, 1, 2, 3, 4, 5, 6] rfl
            exact join12 _ _ _ _ ⟨l4_x6, (b_l4_x6), (show l4_x6.toInt ≤ iQ_columns.toInt from by first | assumption | omega | (have h9 : ((-1) : Int32).toInt = -1 := (by decide); omega)), rfl, hP, hD, hS, hl⟩
          · have t_40 : r52.toInt = p2.toInt := toI_nne c_40 rfl rfl
            refine lv_iload hx hb dX6_columnOfSign_43 (lv_at hl 2 rfl) ?_
            refine lv_iconst (v := (-1)) hx hb dX6_columnOfSign_45 (by decide) ?_
            refine lv_icmp_eq (tgt := 88) hx hb dX6_columnOfSign_46 (by decide) (fun c_46 => ?_) (fun c_46 => ?_)
            · have t_46 : l4_x6.toInt = (-1) := toI_eq c_46 rfl (by decide : ((-1) : Int32).toInt = (-1))
              refine lv_iload hx hb dX6_columnOfSign_88 (lv_at hl 1 rfl) ?_
              refine lv_istore hx hb dX6_columnOfSign_90 hl (by decide) rfl (fun ls (hl : lv_has ls _ ([(4, .int l5_x6), (6, .ref (hw kR_45)), (5, .int l5_x6), (0, .ref (hQ 0)), (1, .int p1), (2, .int p2), (3, .int p3)])) => ?_)
              have hl : lv_has _ _ ([(6, .ref (hw kR_45)), (5, .int l5_x6), (4, .int l5_x6), (0, .ref (hQ 0)), (1, .int p1), (2, .int p2), (3, .int p3)]) := lv_sub hl [1, 2, 0, 3, 4, 5, 6] rfl
              exact join12 _ _ _ _ ⟨l5_x6, (by first | exact b_l5_x6 | with_reducible assumption | exact ⟨by omega, by omega⟩ | assumption), (show l5_x6.toInt ≤ iQ_columns.toInt from by first | assumption | omega | (have h9 : ((-1) : Int32).toInt = -1 := (by decide); omega)), rfl, hP, hD, hS, hl⟩
            · have t_46 : ¬ l4_x6.toInt = (-1) := toI_neq c_46 rfl (by decide : ((-1) : Int32).toInt = (-1))
              refine lv_iload_n hx hb dX6_columnOfSign_49 rfl (lv_at hl 6 rfl) ?_
              refine lv_if_eq (tgt := 71) hx hb dX6_columnOfSign_50 (by decide) (fun c_50 => ?_) (fun c_50 => ?_)
              · have t_50 : p3.toInt = 0 := toI_eq c_50 rfl (by decide : (0 : Int32).toInt = 0)
                refine lv_aload_n hx hb dX6_columnOfSign_71 rfl (lv_at hl 3 rfl) ?_
                refine va_get (D := (dC, dI)) (ci := 6) (v := .ref (aQ 2)) (C := RX6) (T := TX6) (N := 13) hx hb hts iwsMX6_columnOfSign_in6 hown hK hP 0 rfl rfl 2 (by decide) (hts _ hm_m_X6_columnOfSign_0) (fun _ h9 => h9) rfl dX6_columnOfSign_72 ?_
                refine lv_iload hx hb dX6_columnOfSign_75 (lv_at hl 1 rfl) ?_
                refine va_iald (cA := kQ 2) (n := 41) (f := fQ_outside) hx hb hK hP 3 2 rfl rfl (vp_in_iff.mpr ⟨(Int.le_trans (by decide) (b_l5_x6.1)), (by omega)⟩) dX6_columnOfSign_77 ?_
                refine lv_topi (fun v53 hv53 => ?_)
                clear hv53
                refine lv_aload_n hx hb dX6_columnOfSign_78 rfl (lv_at hl 3 rfl) ?_
                refine va_get (D := (dC, dI)) (ci := 6) (v := .ref (aQ 2)) (C := RX6) (T := TX6) (N := 13) hx hb hts iwsMX6_columnOfSign_in6 hown hK hP 0 rfl rfl 2 (by decide) (hts _ hm_m_X6_columnOfSign_0) (fun _ h9 => h9) rfl dX6_columnOfSign_79 ?_
                refine lv_iload hx hb dX6_columnOfSign_82 (lv_at hl 2 rfl) ?_
                refine va_iald (cA := kQ 2) (n := 41) (f := fQ_outside) hx hb hK hP 3 2 rfl rfl (vp_in_iff.mpr ⟨(by omega), (Int.lt_of_le_of_lt (b_l4_x6.2) (by decide))⟩) dX6_columnOfSign_84 ?_
                refine lv_topi (fun v54 hv54 => ?_)
                clear hv54
                refine lv_icmp_ge (tgt := 92) hx hb dX6_columnOfSign_85 (by decide) (fun c_85 => ?_) (fun c_85 => ?_)
                · have t_85 : v53.toInt ≥ v54.toInt := toI_ge c_85 rfl rfl
                  have hl : lv_has _ _ ([(6, .ref (hw kR_45)), (5, .int l5_x6), (4, .int l4_x6), (0, .ref (hQ 0)), (1, .int p1), (2, .int p2), (3, .int p3)]) := lv_sub hl [0, 1, 2, 3, 4, 5, 6] rfl
                  exact join12 _ _ _ _ ⟨l4_x6, (b_l4_x6), (show l4_x6.toInt ≤ iQ_columns.toInt from by first | assumption | omega | (have h9 : ((-1) : Int32).toInt = -1 := (by decide); omega)), rfl, hP, hD, hS, hl⟩
                · have t_85 : ¬ v53.toInt ≥ v54.toInt := toI_nge c_85 rfl rfl
                  refine lv_iload hx hb dX6_columnOfSign_88 (lv_at hl 1 rfl) ?_
                  refine lv_istore hx hb dX6_columnOfSign_90 hl (by decide) rfl (fun ls (hl : lv_has ls _ ([(4, .int l5_x6), (6, .ref (hw kR_45)), (5, .int l5_x6), (0, .ref (hQ 0)), (1, .int p1), (2, .int p2), (3, .int p3)])) => ?_)
                  have hl : lv_has _ _ ([(6, .ref (hw kR_45)), (5, .int l5_x6), (4, .int l5_x6), (0, .ref (hQ 0)), (1, .int p1), (2, .int p2), (3, .int p3)]) := lv_sub hl [1, 2, 0, 3, 4, 5, 6] rfl
                  exact join12 _ _ _ _ ⟨l5_x6, (by first | exact b_l5_x6 | with_reducible assumption | exact ⟨by omega, by omega⟩ | assumption), (show l5_x6.toInt ≤ iQ_columns.toInt from by first | assumption | omega | (have h9 : ((-1) : Int32).toInt = -1 := (by decide); omega)), rfl, hP, hD, hS, hl⟩
              · have t_50 : ¬ p3.toInt = 0 := toI_neq c_50 rfl (by decide : (0 : Int32).toInt = 0)
                refine lv_aload hx hb dX6_columnOfSign_53 (lv_at hl 0 rfl) ?_
                refine lv_aload_n hx hb dX6_columnOfSign_55 rfl (lv_at hl 3 rfl) ?_
                refine lv_iload_n hx hb dX6_columnOfSign_56 rfl (lv_at hl 4 rfl) ?_
                refine lv_iload hx hb dX6_columnOfSign_57 (lv_at hl 2 rfl) ?_
                have hFc := allFree hD hS hA
                refine va_callr (va_runV (As := [.int p1, .int l4_x6]) (rest := [.ref (hw kR_45)]) ⟨hx, hb, hml, hown, hts⟩ (m_X6_cellAt l dC dI hQ aQ kQ hw fQ_inside fQ_outside fQ_shut iQ_rows iQ_allRows iQ_columns nW lw kw wl wb wG p1 l4_x6 (b_iQ_rows) (b_iQ_allRows) (b_iQ_columns) (by first | with_reducible assumption | omega | assumption) b_wl b_wb (b_p1) (by first | exact b_l4_x6 | with_reducible assumption | exact ⟨by omega, by omega⟩ | assumption) (by first | with_reducible assumption | omega | (rw [iI_t (by omega) (by omega)]; omega) | decide | assumption) (hrow.ix (by omega) (by omega)) H.size) (cwV 2 hts gwsMX6_columnOfSign_0 rfl rfl rfl hd_yX6_cellAt_RX6 (by decide +kernel)) (fz_pre (va_recv hK hP (ci := 6) (q0 := 0) rfl rfl) hP hK hD) rfl rfl hl.1 rfl (lv_room (Nat.le_of_ble_eq_true rfl)) dX6_columnOfSign_59 (by decide +kernel)) hS (fun q _ h => hFc q h) hFc (fun kR_55 ra55 t9_ H locs ht hvm hw9 hB9 hz1 hk1 hS => ?_)
                revert hB9
                refine fz_a2 ?_
                intro hra hB9
                subst hra
                have f55_0 := hw9
                try dsimp only at f55_0
                have hP : va_P (dC, dI) vwCl (WQ hQ aQ kQ hw fQ_inside fQ_outside fQ_shut iQ_rows iQ_allRows iQ_columns ++ (WW nW hw lw kw wl wb wG)) H := fz_P ht hB9.1
                have hD := fz_sd hP (hB9.2.weaken (fun _ q _ h => hFc q.1 h)) rfl
                have p9 := cj_2_1 (WQ hQ aQ kQ hw fQ_inside fQ_outside fQ_shut iQ_rows iQ_allRows iQ_columns) (WW nW hw lw kw wl wb wG)
                have hPc := hP.mem (fun q h => p9.mem_iff.mpr (List.mem_append_left _ h))
                have hDc := (hD.perm p9).left
                have hKc : va_K (dC, dI) vwCl (tW kw) _ := hK.sub [4] rfl
                have hFc := freeG p9 hD hS hA
                refine va_calli (va_runV (As := [.ref (hw kR_55)]) (rest := []) ⟨hx, hb, hml, hown, hts⟩ (m_X8_compareSize l dC dI nW hw lw kw wl wb wG kR_45 kR_55 b_wl b_wb (by first | with_reducible assumption | omega | (rw [iI_t (by omega) (by omega)]; omega) | decide | assumption) (by first | with_reducible assumption | omega | (rw [iI_t (by omega) (by omega)]; omega) | decide | assumption) H.size) (cwV 1 hts gwsMX6_columnOfSign_2 rfl rfl rfl hd_yX8_compareSize_RX8 (by decide +kernel)) (fz_pre (va_recv hK hP (ci := 8) (q0 := 5 + (kR_45)) rfl (apR rfl (WW_o (by omega)))) hPc hKc hDc) rfl rfl hl.1 rfl (lv_room (Nat.le_of_ble_eq_true rfl)) dX6_columnOfSign_62 (by decide +kernel)) hS (fun q _ h => hFc q h) hFc (fun r56 u t9_ H locs ht hvm hw9 hB9 hz1 hk1 hS => ?_)
                have b_r56 := hw9
                try dsimp only at b_r56
                have p8 := p9
                obtain ⟨hP, hD⟩ := frameG p9 p8 hP hD hk1 hFc (fz_P ht hB9.1) hB9.2
                refine lv_if_le (tgt := 92) hx hb dX6_columnOfSign_65 (by decide) (fun c_65 => ?_) (fun c_65 => ?_)
                · have t_65 : r56.toInt ≤ 0 := toI_le c_65 rfl (by decide : (0 : Int32).toInt = 0)
                  have hl : lv_has _ _ ([(6, .ref (hw kR_45)), (5, .int l5_x6), (4, .int l4_x6), (0, .ref (hQ 0)), (1, .int p1), (2, .int p2), (3, .int p3)]) := lv_sub hl [0, 1, 2, 3, 4, 5, 6] rfl
                  exact join12 _ _ _ _ ⟨l4_x6, (b_l4_x6), (show l4_x6.toInt ≤ iQ_columns.toInt from by first | assumption | omega | (have h9 : ((-1) : Int32).toInt = -1 := (by decide); omega)), rfl, hP, hD, hS, hl⟩
                · have t_65 : ¬ r56.toInt ≤ 0 := toI_nle c_65 rfl (by decide : (0 : Int32).toInt = 0)
                  refine lv_goto (tgt := 88) hx hb dX6_columnOfSign_68 (by decide) ?_
                  refine lv_iload hx hb dX6_columnOfSign_88 (lv_at hl 1 rfl) ?_
                  refine lv_istore hx hb dX6_columnOfSign_90 hl (by decide) rfl (fun ls (hl : lv_has ls _ ([(4, .int l5_x6), (6, .ref (hw kR_45)), (5, .int l5_x6), (0, .ref (hQ 0)), (1, .int p1), (2, .int p2), (3, .int p3)])) => ?_)
                  have hl : lv_has _ _ ([(6, .ref (hw kR_45)), (5, .int l5_x6), (4, .int l5_x6), (0, .ref (hQ 0)), (1, .int p1), (2, .int p2), (3, .int p3)]) := lv_sub hl [1, 2, 0, 3, 4, 5, 6] rfl
                  exact join12 _ _ _ _ ⟨l5_x6, (by first | exact b_l5_x6 | with_reducible assumption | exact ⟨by omega, by omega⟩ | assumption), (show l5_x6.toInt ≤ iQ_columns.toInt from by first | assumption | omega | (have h9 : ((-1) : Int32).toInt = -1 := (by decide); omega)), rfl, hP, hD, hS, hl⟩
      · rintro H locs ls stk ⟨l4_j12, b_l4_j12, hfj, rfl, hP, hD, hS, hl⟩
        refine lv_iinc (v := (iI (l5_x6.toInt + 1))) hx hb dX6_columnOfSign_92 hl (k := 1) rfl (iI_add2 (iI_of _) (by decide : (1 : Int32) = iI 1)) (by decide) rfl (fun ls (hl : lv_has ls _ ([(5, .int (iI (l5_x6.toInt + 1))), (6, .ref (hw kR_45)), (4, .int l4_j12), (0, .ref (hQ 0)), (1, .int p1), (2, .int p2), (3, .int p3)])) => ?_)
        refine lv_goto (tgt := 6) hx hb dX6_columnOfSign_95 (by decide) ?_
        have hl : lv_has _ _ ([(5, .int (iI (l5_x6.toInt + 1))), (4, .int l4_j12), (0, .ref (hQ 0)), (1, .int p1), (2, .int p2), (3, .int p3)]) := lv_sub hl [0, 2, 3, 4, 5, 6] rfl
        exact ihx6 (iI (l5_x6.toInt + 1)) l4_j12 _ _ _ (iI_rng (Int.le_trans (by decide) (Int.add_le_add (b_l5_x6.1) (Int.le_refl _))) (by omega) (by decide) (by decide)) (b_l4_j12) (show l4_j12.toInt ≤ iQ_columns.toInt from by first | assumption | omega | (have h9 : ((-1) : Int32).toInt = -1 := (by decide); omega)) (by have e9 : ((iI (l5_x6.toInt + 1))).toInt = (l5_x6.toInt + 1) := (iI_t (Int.le_trans (by decide) (Int.add_le_add (b_l5_x6.1) (Int.le_refl _))) (Int.le_trans (Int.add_le_add (b_l5_x6.2) (Int.le_refl _)) (by decide))); omega) hP hD hS hl
end
section
theorem hd_yX6_columnOf_RX6 : yX6_columnOf.cls = RX6 ∧ yX6_columnOf.cls ≠ "java/lang/invoke/MethodHandle" ∧ yX6_columnOf.cls ≠ "java/lang/invoke/VarHandle" ∧ (parseMethodDescriptor yX6_columnOf.desc).map (fun d => d.parameters.length) = some 1 := by decide +kernel
theorem hd_yX8_setProduct_RX8 : yX8_setProduct.cls = RX8 ∧ yX8_setProduct.cls ≠ "java/lang/invoke/MethodHandle" ∧ yX8_setProduct.cls ≠ "java/lang/invoke/VarHandle" ∧ (parseMethodDescriptor yX8_setProduct.desc).map (fun d => d.parameters.length) = some 2 := by decide +kernel
theorem hd_yX8_negate_RX8 : yX8_negate.cls = RX8 ∧ yX8_negate.cls ≠ "java/lang/invoke/MethodHandle" ∧ yX8_negate.cls ≠ "java/lang/invoke/VarHandle" ∧ (parseMethodDescriptor yX8_negate.desc).map (fun d => d.parameters.length) = some 0 := by decide +kernel
theorem hd_yX8_add_RX8 : yX8_add.cls = RX8 ∧ yX8_add.cls ≠ "java/lang/invoke/MethodHandle" ∧ yX8_add.cls ≠ "java/lang/invoke/VarHandle" ∧ (parseMethodDescriptor yX8_add.desc).map (fun d => d.parameters.length) = some 1 := by decide +kernel
theorem hd_yX6_compareRoom_RX6 : yX6_compareRoom.cls = RX6 ∧ yX6_compareRoom.cls ≠ "java/lang/invoke/MethodHandle" ∧ yX6_compareRoom.cls ≠ "java/lang/invoke/VarHandle" ∧ (parseMethodDescriptor yX6_compareRoom.desc).map (fun d => d.parameters.length) = some 3 := by decide +kernel
theorem hd_yX8_isSmall_RX8 : yX8_isSmall.cls = RX8 ∧ yX8_isSmall.cls ≠ "java/lang/invoke/MethodHandle" ∧ yX8_isSmall.cls ≠ "java/lang/invoke/VarHandle" ∧ (parseMethodDescriptor yX8_isSmall.desc).map (fun d => d.parameters.length) = some 0 := by decide +kernel
theorem hd_yX8_divide_RX8 : yX8_divide.cls = RX8 ∧ yX8_divide.cls ≠ "java/lang/invoke/MethodHandle" ∧ yX8_divide.cls ≠ "java/lang/invoke/VarHandle" ∧ (parseMethodDescriptor yX8_divide.desc).map (fun d => d.parameters.length) = some 3 := by decide +kernel
theorem hd_yX8_small_RX8 : yX8_small.cls = RX8 ∧ yX8_small.cls ≠ "java/lang/invoke/MethodHandle" ∧ yX8_small.cls ≠ "java/lang/invoke/VarHandle" ∧ (parseMethodDescriptor yX8_small.desc).map (fun d => d.parameters.length) = some 0 := by decide +kernel
theorem hd_yX6_changeCell_RX6 : yX6_changeCell.cls = RX6 ∧ yX6_changeCell.cls ≠ "java/lang/invoke/MethodHandle" ∧ yX6_changeCell.cls ≠ "java/lang/invoke/VarHandle" ∧ (parseMethodDescriptor yX6_changeCell.desc).map (fun d => d.parameters.length) = some 4 := by decide +kernel
theorem dX6_shutOutside_0 : decode cX6_shutOutside 0 = .ok (.aload_n 0, 1) := dk_42 (by decide +kernel)
theorem dX6_shutOutside_1 : decode cX6_shutOutside 1 = .ok (.iload_n 1, 1) := dk_27 (by decide +kernel)
theorem dX6_shutOutside_2 : decode cX6_shutOutside 2 = .ok (.invokevirtual 113, 3) := dk_182 (by decide +kernel)
theorem dX6_shutOutside_5 : decode cX6_shutOutside 5 = .ok (.istore_n 2, 1) := dk_61 (by decide +kernel)
theorem dX6_shutOutside_6 : decode cX6_shutOutside 6 = .ok (.iload_n 2, 1) := dk_28 (by decide +kernel)
theorem dX6_shutOutside_7 : decode cX6_shutOutside 7 = .ok (.iconst (-1), 1) := dk_2 (by decide +kernel)
theorem dX6_shutOutside_8 : decode cX6_shutOutside 8 = .ok (.if_icmp .eq 10, 3) := dk_159 (by decide +kernel)
theorem dX6_shutOutside_11 : decode cX6_shutOutside 11 = .ok (.aload_n 0, 1) := dk_42 (by decide +kernel)
theorem dX6_shutOutside_12 : decode cX6_shutOutside 12 = .ok (.getfield 24, 3) := dk_180 (by decide +kernel)
theorem dX6_shutOutside_15 : decode cX6_shutOutside 15 = .ok (.iload_n 2, 1) := dk_28 (by decide +kernel)
theorem dX6_shutOutside_16 : decode cX6_shutOutside 16 = .ok (.iconst 1, 1) := dk_4 (by decide +kernel)
theorem dX6_shutOutside_17 : decode cX6_shutOutside 17 = .ok (.bastore, 1) := dk_84 (by decide +kernel)
theorem dX6_shutOutside_18 : decode cX6_shutOutside 18 = .ok (.return_, 1) := dk_177 (by decide +kernel)
def wsMX6_shutOutside : List Cond := .code yX6_shutOutside cX6_shutOutside 3 none :: ([.fieldLink RX6 24 "OptimaWorks$Tableau" "shut" "[Z"] ++ wsX60 ++ (wsV RX6 113 RX6 yX6_columnOf wsMX6_columnOf))
theorem iwsMX6_shutOutside_in6 : ∀ w ∈ wsX60, w ∈ wsMX6_shutOutside := fun _ h => List.mem_cons_of_mem _ (List.mem_append_left _ (List.mem_append_right _ h))
theorem gwsMX6_shutOutside_0 : GoodIn wsMX6_shutOutside (wsV RX6 113 RX6 yX6_columnOf wsMX6_columnOf) := goodIn_sub (fun _ h => List.mem_cons_of_mem _ (List.mem_append_right _ h)) (gdV (by decide +kernel) gdwsMX6_columnOf)
theorem gdwsMX6_shutOutside : wsMX6_shutOutside.all goodWord = true := gdC rfl (gdA (gdA (by decide +kernel : ([.fieldLink RX6 24 "OptimaWorks$Tableau" "shut" "[Z"] : List Cond).all goodWord = true) gdwsX60) (gdV (by decide +kernel) gdwsMX6_columnOf))
set_option maxHeartbeats 4000000 in
set_option maxRecDepth 100000 in
/-- a variable is shut -/
theorem m_X6_shutOutside (l : Launch) (dC : Nat → ClassId) (dI : Nat → Nat → Nat) (hQ : Nat → Nat) (aQ : Nat → Nat) (kQ : Nat → ClassId) (hw : Nat → Nat) (fQ_inside : Nat → Int32) (fQ_outside : Nat → Int32) (fQ_shut : Nat → Int32) (iQ_rows : Int32) (iQ_allRows : Int32) (iQ_columns : Int32) (nW : Nat) (lw : Nat → Nat) (kw : ClassId) (wl : Nat → Int32) (wb : Nat → Int32) (wG : Nat → Nat → Int64) (p1 : Int32) (b_iQ_rows : 0 ≤ iQ_rows.toInt ∧ iQ_rows.toInt ≤ 40) (b_iQ_allRows : 0 ≤ iQ_allRows.toInt ∧ iQ_allRows.toInt ≤ 40) (b_iQ_columns : 0 ≤ iQ_columns.toInt ∧ iQ_columns.toInt ≤ 40) (b_tb : TbO iQ_rows iQ_allRows iQ_columns) (b_wl : ∀ q : Nat, 0 ≤ (wl q).toInt ∧ (wl q).toInt ≤ 14) (b_wb : ∀ q : Nat, 0 ≤ (wb q).toInt ∧ (wb q).toInt ≤ 1) (hnW : 406 ≤ nW) (sz : Nat) : Met l yX6_shutOutside wsMX6_shutOutside ({ frames := 1, cells := 0, slots := 0, locals := 22 }) (va_Pc [.ref (hQ 0), .int p1] (fun U => U.heap.size = sz ∧ va_P (dC, dI) vwCl (WQ hQ aQ kQ hw fQ_inside fQ_outside fQ_shut iQ_rows iQ_allRows iQ_columns ++ (WW nW hw lw kw wl wb wG)) U.heap ∧ va_K (dC, dI) vwCl (tQ kQ ++ (tW kw)) U ∧ va_D (fun _ => True) (WQ hQ aQ kQ hw fQ_inside fQ_outside fQ_shut iQ_rows iQ_allRows iQ_columns ++ (WW nW hw lw kw wl wb wG)))) (va_Qv (fun (u : Nat → Int32) => True) (fun (u : Nat → Int32) t => va_P (dC, dI) vwCl (WQ hQ aQ kQ hw fQ_inside fQ_outside u iQ_rows iQ_allRows iQ_columns ++ (WW nW hw lw kw wl wb wG)) t.heap ∧ va_D (va_A (WQ hQ aQ kQ hw fQ_inside fQ_outside fQ_shut iQ_rows iQ_allRows iQ_columns ++ (WW nW hw lw kw wl wb wG)) sz) (WQ hQ aQ kQ hw fQ_inside fQ_outside u iQ_rows iQ_allRows iQ_columns ++ (WW nW hw lw kw wl wb wG))) (va_A (WQ hQ aQ kQ hw fQ_inside fQ_outside fQ_shut iQ_rows iQ_allRows iQ_columns ++ (WW nW hw lw kw wl wb wG)) sz)) 0 0 (va_A (WQ hQ aQ kQ hw fQ_inside fQ_outside fQ_shut iQ_rows iQ_allRows iQ_columns ++ (WW nW hw lw kw wl wb wG)) sz) := by
  refine Met.ofW (cc := cX6_shutOutside) (maxL := 3) (ret := none) (by decide) rfl ?_
  intro p e s m args below meth c s₁ B hml hv
  obtain ⟨rfl, hsz, hP, hK, hD0⟩ := hv
  have hx := B.exec
  have hb := B.bytes
  have hr := B.returns
  have hts := atoms_spec (ws := wsMX6_shutOutside) B.pre
  have hown : s.vm.findClass RX6 = some m.cls := findClass_of_methodNamed B.named
  have hlocks := B.notSynchronized
  subst hsz
  have hD := hD0.self (sz := s.heap.size)
  generalize hAe : va_A (WQ hQ aQ kQ hw fQ_inside fQ_outside fQ_shut iQ_rows iQ_allRows iQ_columns ++ (WW nW hw lw kw wl wb wG)) s.heap.size = A at hD ⊢
  have hA : ∀ q : Nat, s.heap.size ≤ q → A q := fun q h => by rw [← hAe]; exact Or.inr h
  have hS : va_S A s.heap s.heap [] := va_S.rf
  have hl := lv_entry ([.ref (hQ 0), .int p1]) (n := 3) (Nat.le_of_ble_eq_true rfl)
  rw [lg_entry_eq]
  generalize (lg_sl ([.ref (hQ 0), .int p1]) ++ List.replicate (3 - (lg_sl ([.ref (hQ 0), .int p1])).length) Slot.unset).toArray = ls at hl ⊢
  have hl : lv_has ls 3 [(0, .ref (hQ 0)), (1, .int p1)] := hl
  have hTb := b_tb.1
  refine lv_aload_n hx hb dX6_shutOutside_0 rfl (lv_at hl 0 rfl) ?_
  refine lv_iload_n hx hb dX6_shutOutside_1 rfl (lv_at hl 1 rfl) ?_
  have hFc := allFree hD hS hA
  refine va_calli (va_runV (As := [.int p1]) (rest := []) ⟨hx, hb, hml, hown, hts⟩ (m_X6_columnOf l dC dI hQ aQ kQ hw fQ_inside fQ_outside fQ_shut iQ_rows iQ_allRows iQ_columns nW lw kw wl wb wG p1 (b_iQ_rows) (b_iQ_allRows) (b_iQ_columns) (by first | with_reducible assumption | omega | assumption) b_wl b_wb (by first | with_reducible assumption | omega | (rw [iI_t (by omega) (by omega)]; omega) | decide | assumption) s.heap.size) (cwV 1 hts gwsMX6_shutOutside_0 rfl rfl rfl hd_yX6_columnOf_RX6 (by decide +kernel)) (fz_pre (va_recv hK hP (ci := 6) (q0 := 0) rfl rfl) hP hK hD) rfl rfl hl.1 rfl (lv_room (Nat.le_of_ble_eq_true rfl)) dX6_shutOutside_2 (by decide +kernel)) hS (fun q _ h => hFc q h) hFc (fun r1 u t9_ H locs ht hvm hw9 hB9 hz1 hk1 hS => ?_)
  revert hw9
  refine fz_a2 ?_
  intro b_r1 f1_0
  have hP : va_P (dC, dI) vwCl (WQ hQ aQ kQ hw fQ_inside fQ_outside fQ_shut iQ_rows iQ_allRows iQ_columns ++ (WW nW hw lw kw wl wb wG)) H := fz_P ht hB9.1
  have hD := fz_sd hP (hB9.2.weaken (fun _ q _ h => hFc q.1 h)) rfl
  refine lv_istore_n hx hb dX6_shutOutside_5 rfl hl (by decide) rfl (fun ls (hl : lv_has ls _ ([(2, .int r1), (0, .ref (hQ 0)), (1, .int p1)])) => ?_)
  refine lv_iload_n hx hb dX6_shutOutside_6 rfl (lv_at hl 0 rfl) ?_
  refine lv_iconst (v := (-1)) hx hb dX6_shutOutside_7 (by decide) ?_
  refine W.cut (pc := 18) (fun H locs ls stk => ∃ (fQ_shut_j2 : Nat → Int32),  stk = [] ∧ va_P (dC, dI) vwCl (WQ hQ aQ kQ hw fQ_inside fQ_outside fQ_shut_j2 iQ_rows iQ_allRows iQ_columns ++ (WW nW hw lw kw wl wb wG)) H ∧ va_D A (WQ hQ aQ kQ hw fQ_inside fQ_outside fQ_shut_j2 iQ_rows iQ_allRows iQ_columns ++ (WW nW hw lw kw wl wb wG)) ∧ va_S A s.heap H locs ∧ lv_has ls 3 [(2, .int r1), (0, .ref (hQ 0)), (1, .int p1)]) (fun join2 => ?_) ?_
  · refine lv_icmp_eq (tgt := 18) hx hb dX6_shutOutside_8 (by decide) (fun c_8 => ?_) (fun c_8 => ?_)
    · have t_8 : r1.toInt = (-1) := toI_eq c_8 rfl (by decide : ((-1) : Int32).toInt = (-1))
      have hl : lv_has _ _ ([(2, .int r1), (0, .ref (hQ 0)), (1, .int p1)]) := lv_sub hl [0, 1, 2] rfl
      exact join2 _ _ _ _ ⟨fQ_shut, rfl, hP, hD, hS, hl⟩
    · have t_8 : ¬ r1.toInt = (-1) := toI_neq c_8 rfl (by decide : ((-1) : Int32).toInt = (-1))
      refine lv_aload_n hx hb dX6_shutOutside_11 rfl (lv_at hl 1 rfl) ?_
      refine va_get (D := (dC, dI)) (ci := 6) (v := .ref (aQ 3)) (C := RX6) (T := TX6) (N := 13) hx hb hts iwsMX6_shutOutside_in6 hown hK hP 0 rfl rfl 3 (by decide) (hts (.fieldLink RX6 24 "OptimaWorks$Tableau" "shut" "[Z") (by decide +kernel)) (fun _ h9 => h9) rfl dX6_shutOutside_12 ?_
      refine lv_iload_n hx hb dX6_shutOutside_15 rfl (lv_at hl 0 rfl) ?_
      refine lv_iconst (v := 1) hx hb dX6_shutOutside_16 (by decide) ?_
      refine va_zast (cA := kQ 3) (n := 41) (f := fQ_shut) hx hb hK hP hD hS 4 3 rfl rfl (vp_in_iff.mpr ⟨(by omega), (by omega)⟩) dX6_shutOutside_17 (fun H locs hP hD hS => ?_)
      obtain ⟨u3, hu3⟩ : ∃ f9, f9 = upd fQ_shut (r1).toNatClampNeg (vp_nar FieldType.boolean (1 : Int32)) := ⟨_, rfl⟩
      have hP : va_P (dC, dI) vwCl (WQ hQ aQ kQ hw fQ_inside fQ_outside u3 iQ_rows iQ_allRows iQ_columns ++ (WW nW hw lw kw wl wb wG)) H := by rw [hu3]; exact hP
      have hD : va_D A (WQ hQ aQ kQ hw fQ_inside fQ_outside u3 iQ_rows iQ_allRows iQ_columns ++ (WW nW hw lw kw wl wb wG)) := by rw [hu3]; exact hD
      clear hu3
      have hl : lv_has _ _ ([(2, .int r1), (0, .ref (hQ 0)), (1, .int p1)]) := lv_sub hl [0, 1, 2] rfl
      exact join2 _ _ _ _ ⟨u3, rfl, hP, hD, hS, hl⟩
  · rintro H locs ls stk ⟨fQ_shut_j2, rfl, hP, hD, hS, hl⟩
    refine W.widen (k := 0) (n := 0) (by decide +kernel) (by decide +kernel) ?_
    exact W.vret hx hb hr (fun t9_ ht hW => ⟨⟨fQ_shut_j2, rfl, trivial, by rw [ht]; exact hP, hD⟩, hS.F ht⟩) hS.2.2 dX6_shutOutside_18
theorem dX6_shutWith_0 : decode cX6_shutWith 0 = .ok (.iconst 1, 1) := dk_4 (by decide +kernel)
theorem dX6_shutWith_1 : decode cX6_shutWith 1 = .ok (.istore_n 2, 1) := dk_61 (by decide +kernel)
theorem dX6_shutWith_2 : decode cX6_shutWith 2 = .ok (.iload_n 2, 1) := dk_28 (by decide +kernel)
theorem dX6_shutWith_3 : decode cX6_shutWith 3 = .ok (.aload_n 0, 1) := dk_42 (by decide +kernel)
theorem dX6_shutWith_4 : decode cX6_shutWith 4 = .ok (.getfield 54, 3) := dk_180 (by decide +kernel)
theorem dX6_shutWith_7 : decode cX6_shutWith 7 = .ok (.if_icmp .gt 37, 3) := dk_163 (by decide +kernel)
theorem dX6_shutWith_10 : decode cX6_shutWith 10 = .ok (.aload_n 0, 1) := dk_42 (by decide +kernel)
theorem dX6_shutWith_11 : decode cX6_shutWith 11 = .ok (.getfield 24, 3) := dk_180 (by decide +kernel)
theorem dX6_shutWith_14 : decode cX6_shutWith 14 = .ok (.iload_n 2, 1) := dk_28 (by decide +kernel)
theorem dX6_shutWith_15 : decode cX6_shutWith 15 = .ok (.baload, 1) := dk_51 (by decide +kernel)
theorem dX6_shutWith_16 : decode cX6_shutWith 16 = .ok (.ifCond .ne 22, 3) := dk_154 (by decide +kernel)
theorem dX6_shutWith_19 : decode cX6_shutWith 19 = .ok (.aload_n 0, 1) := dk_42 (by decide +kernel)
theorem dX6_shutWith_20 : decode cX6_shutWith 20 = .ok (.iload_n 1, 1) := dk_27 (by decide +kernel)
theorem dX6_shutWith_21 : decode cX6_shutWith 21 = .ok (.iload_n 2, 1) := dk_28 (by decide +kernel)
theorem dX6_shutWith_22 : decode cX6_shutWith 22 = .ok (.invokevirtual 72, 3) := dk_182 (by decide +kernel)
theorem dX6_shutWith_25 : decode cX6_shutWith 25 = .ok (.getfield 76, 3) := dk_180 (by decide +kernel)
theorem dX6_shutWith_28 : decode cX6_shutWith 28 = .ok (.ifCond .eq 10, 3) := dk_153 (by decide +kernel)
theorem dX6_shutWith_31 : decode cX6_shutWith 31 = .ok (.aload_n 0, 1) := dk_42 (by decide +kernel)
theorem dX6_shutWith_32 : decode cX6_shutWith 32 = .ok (.getfield 24, 3) := dk_180 (by decide +kernel)
theorem dX6_shutWith_35 : decode cX6_shutWith 35 = .ok (.iload_n 2, 1) := dk_28 (by decide +kernel)
theorem dX6_shutWith_36 : decode cX6_shutWith 36 = .ok (.iconst 1, 1) := dk_4 (by decide +kernel)
theorem dX6_shutWith_37 : decode cX6_shutWith 37 = .ok (.bastore, 1) := dk_84 (by decide +kernel)
theorem dX6_shutWith_38 : decode cX6_shutWith 38 = .ok (.iinc 2 1, 3) := dk_132 (by decide +kernel)
theorem dX6_shutWith_41 : decode cX6_shutWith 41 = .ok (.goto (-39), 3) := dk_167 (by decide +kernel)
theorem dX6_shutWith_44 : decode cX6_shutWith 44 = .ok (.return_, 1) := dk_177 (by decide +kernel)
def wsMX6_shutWith : List Cond := .code yX6_shutWith cX6_shutWith 3 none :: ([.fieldLink RX6 54 "OptimaWorks$Tableau" "columns" "I", .fieldLink RX6 24 "OptimaWorks$Tableau" "shut" "[Z", .fieldLink RX6 76 "OptimaWorks$Whole" "length" "I"] ++ wsX60 ++ wsX80 ++ (wsV RX6 72 RX6 yX6_cellAt wsMX6_cellAt))
theorem iwsMX6_shutWith_in6 : ∀ w ∈ wsX60, w ∈ wsMX6_shutWith := fun _ h => List.mem_cons_of_mem _ (List.mem_append_left _ (List.mem_append_left _ (List.mem_append_right _ h)))
theorem iwsMX6_shutWith_in8 : ∀ w ∈ wsX80, w ∈ wsMX6_shutWith := fun _ h => List.mem_cons_of_mem _ (List.mem_append_left _ (List.mem_append_right _ h))
theorem gwsMX6_shutWith_0 : GoodIn wsMX6_shutWith (wsV RX6 72 RX6 yX6_cellAt wsMX6_cellAt) := goodIn_sub (fun _ h => List.mem_cons_of_mem _ (List.mem_append_right _ h)) (gdV (by decide +kernel) gdwsMX6_cellAt)
theorem gdwsMX6_shutWith : wsMX6_shutWith.all goodWord = true := gdC rfl (gdA (gdA (gdA (by decide +kernel : ([.fieldLink RX6 54 "OptimaWorks$Tableau" "columns" "I", .fieldLink RX6 24 "OptimaWorks$Tableau" "shut" "[Z", .fieldLink RX6 76 "OptimaWorks$Whole" "length" "I"] : List Cond).all goodWord = true) gdwsX60) gdwsX80) (gdV (by decide +kernel) gdwsMX6_cellAt))
theorem hm_m_X6_shutWith_0 : (.fieldLink RX6 24 "OptimaWorks$Tableau" "shut" "[Z" : Cond) ∈ wsMX6_shutWith := by decide +kernel
set_option maxHeartbeats 4000000 in
set_option maxRecDepth 100000 in
/-- columns with numbers are shut -/
theorem m_X6_shutWith (l : Launch) (dC : Nat → ClassId) (dI : Nat → Nat → Nat) (hQ : Nat → Nat) (aQ : Nat → Nat) (kQ : Nat → ClassId) (hw : Nat → Nat) (fQ_inside : Nat → Int32) (fQ_outside : Nat → Int32) (fQ_shut : Nat → Int32) (iQ_rows : Int32) (iQ_allRows : Int32) (iQ_columns : Int32) (nW : Nat) (lw : Nat → Nat) (kw : ClassId) (wl : Nat → Int32) (wb : Nat → Int32) (wG : Nat → Nat → Int64) (p1 : Int32) (b_iQ_rows : 0 ≤ iQ_rows.toInt ∧ iQ_rows.toInt ≤ 40) (b_iQ_allRows : 0 ≤ iQ_allRows.toInt ∧ iQ_allRows.toInt ≤ 40) (b_iQ_columns : 0 ≤ iQ_columns.toInt ∧ iQ_columns.toInt ≤ 40) (b_tb : TbO iQ_rows iQ_allRows iQ_columns) (b_wl : ∀ q : Nat, 0 ≤ (wl q).toInt ∧ (wl q).toInt ≤ 14) (b_wb : ∀ q : Nat, 0 ≤ (wb q).toInt ∧ (wb q).toInt ≤ 1) (b_p1 : 0 ≤ p1.toInt ∧ p1.toInt ≤ 39) (hnW : 406 ≤ nW) (hrow : FitR p1.toInt iQ_columns.toInt) (sz : Nat) : Met l yX6_shutWith wsMX6_shutWith ({ frames := 1, cells := 0, slots := 0, locals := 22 }) (va_Pc [.ref (hQ 0), .int p1] (fun U => U.heap.size = sz ∧ va_P (dC, dI) vwCl (WQ hQ aQ kQ hw fQ_inside fQ_outside fQ_shut iQ_rows iQ_allRows iQ_columns ++ (WW nW hw lw kw wl wb wG)) U.heap ∧ va_K (dC, dI) vwCl (tQ kQ ++ (tW kw)) U ∧ va_D (fun _ => True) (WQ hQ aQ kQ hw fQ_inside fQ_outside fQ_shut iQ_rows iQ_allRows iQ_columns ++ (WW nW hw lw kw wl wb wG)))) (va_Qv (fun (u : Nat → Int32) => True) (fun (u : Nat → Int32) t => va_P (dC, dI) vwCl (WQ hQ aQ kQ hw fQ_inside fQ_outside u iQ_rows iQ_allRows iQ_columns ++ (WW nW hw lw kw wl wb wG)) t.heap ∧ va_D (va_A (WQ hQ aQ kQ hw fQ_inside fQ_outside fQ_shut iQ_rows iQ_allRows iQ_columns ++ (WW nW hw lw kw wl wb wG)) sz) (WQ hQ aQ kQ hw fQ_inside fQ_outside u iQ_rows iQ_allRows iQ_columns ++ (WW nW hw lw kw wl wb wG))) (va_A (WQ hQ aQ kQ hw fQ_inside fQ_outside fQ_shut iQ_rows iQ_allRows iQ_columns ++ (WW nW hw lw kw wl wb wG)) sz)) 0 0 (va_A (WQ hQ aQ kQ hw fQ_inside fQ_outside fQ_shut iQ_rows iQ_allRows iQ_columns ++ (WW nW hw lw kw wl wb wG)) sz) := by
  refine Met.ofW (cc := cX6_shutWith) (maxL := 3) (ret := none) (by decide) rfl ?_
  intro p e s m args below meth c s₁ B hml hv
  obtain ⟨rfl, hsz, hP, hK, hD0⟩ := hv
  have hx := B.exec
  have hb := B.bytes
  have hr := B.returns
  have hts := atoms_spec (ws := wsMX6_shutWith) B.pre
  have hown : s.vm.findClass RX6 = some m.cls := findClass_of_methodNamed B.named
  have hlocks := B.notSynchronized
  subst hsz
  have hD := hD0.self (sz := s.heap.size)
  generalize hAe : va_A (WQ hQ aQ kQ hw fQ_inside fQ_outside fQ_shut iQ_rows iQ_allRows iQ_columns ++ (WW nW hw lw kw wl wb wG)) s.heap.size = A at hD ⊢
  have hA : ∀ q : Nat, s.heap.size ≤ q → A q := fun q h => by rw [← hAe]; exact Or.inr h
  have hS : va_S A s.heap s.heap [] := va_S.rf
  have hl := lv_entry ([.ref (hQ 0), .int p1]) (n := 3) (Nat.le_of_ble_eq_true rfl)
  rw [lg_entry_eq]
  generalize (lg_sl ([.ref (hQ 0), .int p1]) ++ List.replicate (3 - (lg_sl ([.ref (hQ 0), .int p1])).length) Slot.unset).toArray = ls at hl ⊢
  have hl : lv_has ls 3 [(0, .ref (hQ 0)), (1, .int p1)] := hl
  have hTb := b_tb.1
  refine lv_iconst (v := 1) hx hb dX6_shutWith_0 (by decide) ?_
  refine lv_istore_n hx hb dX6_shutWith_1 rfl hl (by decide) rfl (fun ls (hl : lv_has ls _ ([(2, .int 1), (0, .ref (hQ 0)), (1, .int p1)])) => ?_)
  have hl : lv_has _ _ ([(2, .int 1), (0, .ref (hQ 0)), (1, .int p1)]) := lv_sub hl [0, 1, 2] rfl
  refine (fun (loop : ∀ (n9 : Nat) (fQ_shut_x2 : Nat → Int32) (l2_x2 : Int32) (H : Heap) (locs : List Loc) (ls : Array Slot), (1 ≤ l2_x2.toInt ∧ l2_x2.toInt ≤ 41) → (41 - l2_x2.toInt < ((n9 : Nat) : Int)) → va_P (dC, dI) vwCl (WQ hQ aQ kQ hw fQ_inside fQ_outside fQ_shut_x2 iQ_rows iQ_allRows iQ_columns ++ (WW nW hw lw kw wl wb wG)) H → va_D A (WQ hQ aQ kQ hw fQ_inside fQ_outside fQ_shut_x2 iQ_rows iQ_allRows iQ_columns ++ (WW nW hw lw kw wl wb wG)) → va_S A s.heap H locs → lv_has ls 3 [(2, .int l2_x2), (0, .ref (hQ 0)), (1, .int p1)] → W p l e _ s m _ below meth c H locs 0 0 _ (F0 m 2 ls [])) => loop (41) fQ_shut 1 _ _ _ (show 1 ≤ (1 : Int32).toInt ∧ (1 : Int32).toInt ≤ 41 from by decide) ((by have e9 : (1 : Int32).toInt = 1 := (by decide : (1 : Int32).toInt = 1); omega)) hP hD hS hl) ?_
  intro n9
  induction n9 with
  | zero => intro fQ_shut_x2 l2_x2 H locs ls b_l2_x2 hf9; exact False.elim (by omega)
  | succ n9 ihx2 =>
    intro fQ_shut_x2 l2_x2 H locs ls b_l2_x2 hfx2 hP hD hS hl
    refine lv_iload_n hx hb dX6_shutWith_2 rfl (lv_at hl 0 rfl) ?_
    refine lv_aload_n hx hb dX6_shutWith_3 rfl (lv_at hl 1 rfl) ?_
    refine va_get (D := (dC, dI)) (ci := 6) (v := .int iQ_columns) (C := RX6) (T := TX6) (N := 13) hx hb hts iwsMX6_shutWith_in6 hown hK hP 0 rfl rfl 7 (by decide) (hts (.fieldLink RX6 54 "OptimaWorks$Tableau" "columns" "I") (by decide +kernel)) (fun _ h9 => h9) rfl dX6_shutWith_4 ?_
    refine lv_icmp_gt (tgt := 44) hx hb dX6_shutWith_7 (by decide) (fun c_7 => ?_) (fun c_7 => ?_)
    · have t_7 : l2_x2.toInt > iQ_columns.toInt := toI_gt c_7 rfl rfl
      refine W.widen (k := 0) (n := 0) (by decide +kernel) (by decide +kernel) ?_
      exact W.vret hx hb hr (fun t9_ ht hW => ⟨⟨fQ_shut_x2, rfl, trivial, by rw [ht]; exact hP, hD⟩, hS.F ht⟩) hS.2.2 dX6_shutWith_44
    · have t_7 : ¬ l2_x2.toInt > iQ_columns.toInt := toI_ngt c_7 rfl rfl
      refine lv_aload_n hx hb dX6_shutWith_10 rfl (lv_at hl 1 rfl) ?_
      refine va_get (D := (dC, dI)) (ci := 6) (v := .ref (aQ 3)) (C := RX6) (T := TX6) (N := 13) hx hb hts iwsMX6_shutWith_in6 hown hK hP 0 rfl rfl 3 (by decide) (hts _ hm_m_X6_shutWith_0) (fun _ h9 => h9) rfl dX6_shutWith_11 ?_
      refine lv_iload_n hx hb dX6_shutWith_14 rfl (lv_at hl 0 rfl) ?_
      refine va_zald (cA := kQ 3) (n := 41) (f := fQ_shut_x2) hx hb hK hP 4 3 rfl rfl (vp_in_iff.mpr ⟨(Int.le_trans (by decide) (b_l2_x2.1)), (by omega)⟩) dX6_shutWith_15 ?_
      refine lv_topi (fun v26 hv26 => ?_)
      clear hv26
      refine W.cut (pc := 38) (fun H locs ls stk => ∃ (fQ_shut_j12 : Nat → Int32),  stk = [] ∧ va_P (dC, dI) vwCl (WQ hQ aQ kQ hw fQ_inside fQ_outside fQ_shut_j12 iQ_rows iQ_allRows iQ_columns ++ (WW nW hw lw kw wl wb wG)) H ∧ va_D A (WQ hQ aQ kQ hw fQ_inside fQ_outside fQ_shut_j12 iQ_rows iQ_allRows iQ_columns ++ (WW nW hw lw kw wl wb wG)) ∧ va_S A s.heap H locs ∧ lv_has ls 3 [(2, .int l2_x2), (0, .ref (hQ 0)), (1, .int p1)]) (fun join12 => ?_) ?_
      · refine lv_if_ne (tgt := 38) hx hb dX6_shutWith_16 (by decide) (fun c_16 => ?_) (fun c_16 => ?_)
        · have t_16 : v26.toInt ≠ 0 := toI_ne c_16 rfl (by decide : (0 : Int32).toInt = 0)
          have hl : lv_has _ _ ([(2, .int l2_x2), (0, .ref (hQ 0)), (1, .int p1)]) := lv_sub hl [0, 1, 2] rfl
          exact join12 _ _ _ _ ⟨fQ_shut_x2, rfl, hP, hD, hS, hl⟩
        · have t_16 : v26.toInt = 0 := toI_nne c_16 rfl (by decide : (0 : Int32).toInt = 0)
          refine lv_aload_n hx hb dX6_shutWith_19 rfl (lv_at hl 1 rfl) ?_
          refine lv_iload_n hx hb dX6_shutWith_20 rfl (lv_at hl 2 rfl) ?_
          refine lv_iload_n hx hb dX6_shutWith_21 rfl (lv_at hl 0 rfl) ?_
          have hFc := allFree hD hS hA
          refine va_callr (va_runV (As := [.int p1, .int l2_x2]) (rest := []) ⟨hx, hb, hml, hown, hts⟩ (m_X6_cellAt l dC dI hQ aQ kQ hw fQ_inside fQ_outside fQ_shut_x2 iQ_rows iQ_allRows iQ_columns nW lw kw wl wb wG p1 l2_x2 (b_iQ_rows) (b_iQ_allRows) (b_iQ_columns) (by first | with_reducible assumption | omega | assumption) b_wl b_wb (b_p1) (by first | exact b_l2_x2 | with_reducible assumption | exact ⟨by omega, by omega⟩ | assumption) (by first | with_reducible assumption | omega | (rw [iI_t (by omega) (by omega)]; omega) | decide | assumption) (hrow.ix (by omega) (by omega)) H.size) (cwV 2 hts gwsMX6_shutWith_0 rfl rfl rfl hd_yX6_cellAt_RX6 (by decide +kernel)) (fz_pre (va_recv hK hP (ci := 6) (q0 := 0) rfl rfl) hP hK hD) rfl rfl hl.1 rfl (lv_room (Nat.le_of_ble_eq_true rfl)) dX6_shutWith_22 (by decide +kernel)) hS (fun q _ h => hFc q h) hFc (fun kR_29 ra29 t9_ H locs ht hvm hw9 hB9 hz1 hk1 hS => ?_)
          revert hB9
          refine fz_a2 ?_
          intro hra hB9
          subst hra
          have f29_0 := hw9
          try dsimp only at f29_0
          have hP : va_P (dC, dI) vwCl (WQ hQ aQ kQ hw fQ_inside fQ_outside fQ_shut_x2 iQ_rows iQ_allRows iQ_columns ++ (WW nW hw lw kw wl wb wG)) H := fz_P ht hB9.1
          have hD := fz_sd hP (hB9.2.weaken (fun _ q _ h => hFc q.1 h)) rfl
          refine va_get (D := (dC, dI)) (ci := 8) (v := .int (wl kR_29)) (C := RX8) (T := TX8) (N := 3) hx hb hts iwsMX6_shutWith_in8 hown hK hP (5 + (kR_29)) (apR rfl (WW_o (by omega))) rfl 1 (by decide) (hts (.fieldLink RX6 76 "OptimaWorks$Whole" "length" "I") (by decide +kernel)) (fun _ h9 => h9) rfl dX6_shutWith_25 ?_
          have br25 := b_wl kR_29
          refine lv_if_eq (tgt := 38) hx hb dX6_shutWith_28 (by decide) (fun c_28 => ?_) (fun c_28 => ?_)
          · have t_28 : (wl kR_29).toInt = 0 := toI_eq c_28 rfl (by decide : (0 : Int32).toInt = 0)
            have hl : lv_has _ _ ([(2, .int l2_x2), (0, .ref (hQ 0)), (1, .int p1)]) := lv_sub hl [0, 1, 2] rfl
            exact join12 _ _ _ _ ⟨fQ_shut_x2, rfl, hP, hD, hS, hl⟩
          · have t_28 : ¬ (wl kR_29).toInt = 0 := toI_neq c_28 rfl (by decide : (0 : Int32).toInt = 0)
            refine lv_aload_n hx hb dX6_shutWith_31 rfl (lv_at hl 1 rfl) ?_
            refine va_get (D := (dC, dI)) (ci := 6) (v := .ref (aQ 3)) (C := RX6) (T := TX6) (N := 13) hx hb hts iwsMX6_shutWith_in6 hown hK hP 0 rfl rfl 3 (by decide) (hts _ hm_m_X6_shutWith_0) (fun _ h9 => h9) rfl dX6_shutWith_32 ?_
            refine lv_iload_n hx hb dX6_shutWith_35 rfl (lv_at hl 0 rfl) ?_
            refine lv_iconst (v := 1) hx hb dX6_shutWith_36 (by decide) ?_
            refine va_zast (cA := kQ 3) (n := 41) (f := fQ_shut_x2) hx hb hK hP hD hS 4 3 rfl rfl (vp_in_iff.mpr ⟨(Int.le_trans (by decide) (b_l2_x2.1)), (by omega)⟩) dX6_shutWith_37 (fun H locs hP hD hS => ?_)
            obtain ⟨u30, hu30⟩ : ∃ f9, f9 = upd fQ_shut_x2 (l2_x2).toNatClampNeg (vp_nar FieldType.boolean (1 : Int32)) := ⟨_, rfl⟩
            have hP : va_P (dC, dI) vwCl (WQ hQ aQ kQ hw fQ_inside fQ_outside u30 iQ_rows iQ_allRows iQ_columns ++ (WW nW hw lw kw wl wb wG)) H := by rw [hu30]; exact hP
            have hD : va_D A (WQ hQ aQ kQ hw fQ_inside fQ_outside u30 iQ_rows iQ_allRows iQ_columns ++ (WW nW hw lw kw wl wb wG)) := by rw [hu30]; exact hD
            clear hu30
            have hl : lv_has _ _ ([(2, .int l2_x2), (0, .ref (hQ 0)), (1, .int p1)]) := lv_sub hl [0, 1, 2] rfl
            exact join12 _ _ _ _ ⟨u30, rfl, hP, hD, hS, hl⟩
      · rintro H locs ls stk ⟨fQ_shut_j12, rfl, hP, hD, hS, hl⟩
        refine lv_iinc (v := (iI (l2_x2.toInt + 1))) hx hb dX6_shutWith_38 hl (k := 0) rfl (iI_add2 (iI_of _) (by decide : (1 : Int32) = iI 1)) (by decide) rfl (fun ls (hl : lv_has ls _ ([(2, .int (iI (l2_x2.toInt + 1))), (0, .ref (hQ 0)), (1, .int p1)])) => ?_)
        refine lv_goto (tgt := 2) hx hb dX6_shutWith_41 (by decide) ?_
        have hl : lv_has _ _ ([(2, .int (iI (l2_x2.toInt + 1))), (0, .ref (hQ 0)), (1, .int p1)]) := lv_sub hl [0, 1, 2] rfl
        exact ihx2 fQ_shut_j12 (iI (l2_x2.toInt + 1)) _ _ _ (iI_rng (Int.le_trans (by decide) (Int.add_le_add (b_l2_x2.1) (Int.le_refl _))) (by omega) (by decide) (by decide)) (by have e9 : ((iI (l2_x2.toInt + 1))).toInt = (l2_x2.toInt + 1) := (iI_t (Int.le_trans (by decide) (Int.add_le_add (b_l2_x2.1) (Int.le_refl _))) (Int.le_trans (Int.add_le_add (b_l2_x2.2) (Int.le_refl _)) (by decide))); omega) hP hD hS hl
theorem dX6_compareRoom_0 : decode cX6_compareRoom 0 = .ok (.aload_n 0, 1) := dk_42 (by decide +kernel)
theorem dX6_compareRoom_1 : decode cX6_compareRoom 1 = .ok (.getfield 36, 3) := dk_180 (by decide +kernel)
theorem dX6_compareRoom_4 : decode cX6_compareRoom 4 = .ok (.aload_n 0, 1) := dk_42 (by decide +kernel)
theorem dX6_compareRoom_5 : decode cX6_compareRoom 5 = .ok (.iload_n 2, 1) := dk_28 (by decide +kernel)
theorem dX6_compareRoom_6 : decode cX6_compareRoom 6 = .ok (.iconst 0, 1) := dk_3 (by decide +kernel)
theorem dX6_compareRoom_7 : decode cX6_compareRoom 7 = .ok (.invokevirtual 72, 3) := dk_182 (by decide +kernel)
theorem dX6_compareRoom_10 : decode cX6_compareRoom 10 = .ok (.aload_n 0, 1) := dk_42 (by decide +kernel)
theorem dX6_compareRoom_11 : decode cX6_compareRoom 11 = .ok (.iload_n 1, 1) := dk_27 (by decide +kernel)
theorem dX6_compareRoom_12 : decode cX6_compareRoom 12 = .ok (.iload_n 3, 1) := dk_29 (by decide +kernel)
theorem dX6_compareRoom_13 : decode cX6_compareRoom 13 = .ok (.invokevirtual 72, 3) := dk_182 (by decide +kernel)
theorem dX6_compareRoom_16 : decode cX6_compareRoom 16 = .ok (.invokevirtual 120, 3) := dk_182 (by decide +kernel)
theorem dX6_compareRoom_19 : decode cX6_compareRoom 19 = .ok (.aload_n 0, 1) := dk_42 (by decide +kernel)
theorem dX6_compareRoom_20 : decode cX6_compareRoom 20 = .ok (.getfield 39, 3) := dk_180 (by decide +kernel)
theorem dX6_compareRoom_23 : decode cX6_compareRoom 23 = .ok (.aload_n 0, 1) := dk_42 (by decide +kernel)
theorem dX6_compareRoom_24 : decode cX6_compareRoom 24 = .ok (.iload_n 1, 1) := dk_27 (by decide +kernel)
theorem dX6_compareRoom_25 : decode cX6_compareRoom 25 = .ok (.iconst 0, 1) := dk_3 (by decide +kernel)
theorem dX6_compareRoom_26 : decode cX6_compareRoom 26 = .ok (.invokevirtual 72, 3) := dk_182 (by decide +kernel)
theorem dX6_compareRoom_29 : decode cX6_compareRoom 29 = .ok (.aload_n 0, 1) := dk_42 (by decide +kernel)
theorem dX6_compareRoom_30 : decode cX6_compareRoom 30 = .ok (.iload_n 2, 1) := dk_28 (by decide +kernel)
theorem dX6_compareRoom_31 : decode cX6_compareRoom 31 = .ok (.iload_n 3, 1) := dk_29 (by decide +kernel)
theorem dX6_compareRoom_32 : decode cX6_compareRoom 32 = .ok (.invokevirtual 72, 3) := dk_182 (by decide +kernel)
theorem dX6_compareRoom_35 : decode cX6_compareRoom 35 = .ok (.invokevirtual 120, 3) := dk_182 (by decide +kernel)
theorem dX6_compareRoom_38 : decode cX6_compareRoom 38 = .ok (.aload_n 0, 1) := dk_42 (by decide +kernel)
theorem dX6_compareRoom_39 : decode cX6_compareRoom 39 = .ok (.getfield 39, 3) := dk_180 (by decide +kernel)
theorem dX6_compareRoom_42 : decode cX6_compareRoom 42 = .ok (.invokevirtual 124, 3) := dk_182 (by decide +kernel)
theorem dX6_compareRoom_45 : decode cX6_compareRoom 45 = .ok (.aload_n 0, 1) := dk_42 (by decide +kernel)
theorem dX6_compareRoom_46 : decode cX6_compareRoom 46 = .ok (.getfield 36, 3) := dk_180 (by decide +kernel)
theorem dX6_compareRoom_49 : decode cX6_compareRoom 49 = .ok (.aload_n 0, 1) := dk_42 (by decide +kernel)
theorem dX6_compareRoom_50 : decode cX6_compareRoom 50 = .ok (.getfield 39, 3) := dk_180 (by decide +kernel)
theorem dX6_compareRoom_53 : decode cX6_compareRoom 53 = .ok (.invokevirtual 127, 3) := dk_182 (by decide +kernel)
theorem dX6_compareRoom_56 : decode cX6_compareRoom 56 = .ok (.aload_n 0, 1) := dk_42 (by decide +kernel)
theorem dX6_compareRoom_57 : decode cX6_compareRoom 57 = .ok (.getfield 36, 3) := dk_180 (by decide +kernel)
theorem dX6_compareRoom_60 : decode cX6_compareRoom 60 = .ok (.invokevirtual 92, 3) := dk_182 (by decide +kernel)
theorem dX6_compareRoom_63 : decode cX6_compareRoom 63 = .ok (.ireturn, 1) := dk_172 (by decide +kernel)
def wsMX6_compareRoom : List Cond := .code yX6_compareRoom cX6_compareRoom 4 (some .int) :: ([.fieldLink RX6 36 "OptimaWorks$Tableau" "first" "LOptimaWorks$Whole;", .fieldLink RX6 39 "OptimaWorks$Tableau" "second" "LOptimaWorks$Whole;"] ++ wsX60 ++ (wsV RX6 72 RX6 yX6_cellAt wsMX6_cellAt) ++ (wsV RX6 120 RX8 yX8_setProduct wsMX8_setProduct) ++ (wsV RX6 124 RX8 yX8_negate wsMX8_negate) ++ (wsV RX6 127 RX8 yX8_add wsMX8_add) ++ (wsV RX6 92 RX8 yX8_sign wsMX8_sign))
theorem iwsMX6_compareRoom_in6 : ∀ w ∈ wsX60, w ∈ wsMX6_compareRoom := fun _ h => List.mem_cons_of_mem _ (List.mem_append_left _ (List.mem_append_left _ (List.mem_append_left _ (List.mem_append_left _ (List.mem_append_left _ (List.mem_append_right _ h))))))
theorem gwsMX6_compareRoom_0 : GoodIn wsMX6_compareRoom (wsV RX6 72 RX6 yX6_cellAt wsMX6_cellAt) := goodIn_sub (fun _ h => List.mem_cons_of_mem _ (List.mem_append_left _ (List.mem_append_left _ (List.mem_append_left _ (List.mem_append_left _ (List.mem_append_right _ h)))))) (gdV (by decide +kernel) gdwsMX6_cellAt)
theorem gwsMX6_compareRoom_1 : GoodIn wsMX6_compareRoom (wsV RX6 120 RX8 yX8_setProduct wsMX8_setProduct) := goodIn_sub (fun _ h => List.mem_cons_of_mem _ (List.mem_append_left _ (List.mem_append_left _ (List.mem_append_left _ (List.mem_append_right _ h))))) (gdV (by decide +kernel) gdwsMX8_setProduct)
theorem gwsMX6_compareRoom_2 : GoodIn wsMX6_compareRoom (wsV RX6 124 RX8 yX8_negate wsMX8_negate) := goodIn_sub (fun _ h => List.mem_cons_of_mem _ (List.mem_append_left _ (List.mem_append_left _ (List.mem_append_right _ h)))) (gdV (by decide +kernel) gdwsMX8_negate)
theorem gwsMX6_compareRoom_3 : GoodIn wsMX6_compareRoom (wsV RX6 127 RX8 yX8_add wsMX8_add) := goodIn_sub (fun _ h => List.mem_cons_of_mem _ (List.mem_append_left _ (List.mem_append_right _ h))) (gdV (by decide +kernel) gdwsMX8_add)
theorem gwsMX6_compareRoom_4 : GoodIn wsMX6_compareRoom (wsV RX6 92 RX8 yX8_sign wsMX8_sign) := goodIn_sub (fun _ h => List.mem_cons_of_mem _ (List.mem_append_right _ h)) (gdV (by decide +kernel) gdwsMX8_sign)
theorem gdwsMX6_compareRoom : wsMX6_compareRoom.all goodWord = true := gdC rfl (gdA (gdA (gdA (gdA (gdA (gdA (by decide +kernel : ([.fieldLink RX6 36 "OptimaWorks$Tableau" "first" "LOptimaWorks$Whole;", .fieldLink RX6 39 "OptimaWorks$Tableau" "second" "LOptimaWorks$Whole;"] : List Cond).all goodWord = true) gdwsX60) (gdV (by decide +kernel) gdwsMX6_cellAt)) (gdV (by decide +kernel) gdwsMX8_setProduct)) (gdV (by decide +kernel) gdwsMX8_negate)) (gdV (by decide +kernel) gdwsMX8_add)) (gdV (by decide +kernel) gdwsMX8_sign))
theorem hm_m_X6_compareRoom_0 : (.fieldLink RX6 36 "OptimaWorks$Tableau" "first" "LOptimaWorks$Whole;" : Cond) ∈ wsMX6_compareRoom := by decide +kernel
theorem hm_m_X6_compareRoom_1 : (.fieldLink RX6 39 "OptimaWorks$Tableau" "second" "LOptimaWorks$Whole;" : Cond) ∈ wsMX6_compareRoom := by decide +kernel
set_option maxHeartbeats 4000000 in
set_option maxRecDepth 100000 in
/-- which leaves less -/
theorem m_X6_compareRoom (l : Launch) (dC : Nat → ClassId) (dI : Nat → Nat → Nat) (hQ : Nat → Nat) (aQ : Nat → Nat) (kQ : Nat → ClassId) (hw : Nat → Nat) (fQ_inside : Nat → Int32) (fQ_outside : Nat → Int32) (fQ_shut : Nat → Int32) (iQ_rows : Int32) (iQ_allRows : Int32) (iQ_columns : Int32) (nW : Nat) (lw : Nat → Nat) (kw : ClassId) (wl : Nat → Int32) (wb : Nat → Int32) (wG : Nat → Nat → Int64) (p1 : Int32) (p2 : Int32) (p3 : Int32) (b_iQ_rows : 0 ≤ iQ_rows.toInt ∧ iQ_rows.toInt ≤ 40) (b_iQ_allRows : 0 ≤ iQ_allRows.toInt ∧ iQ_allRows.toInt ≤ 40) (b_iQ_columns : 0 ≤ iQ_columns.toInt ∧ iQ_columns.toInt ≤ 40) (b_tb : TbO iQ_rows iQ_allRows iQ_columns) (b_wl : ∀ q : Nat, 0 ≤ (wl q).toInt ∧ (wl q).toInt ≤ 14) (b_wb : ∀ q : Nat, 0 ≤ (wb q).toInt ∧ (wb q).toInt ≤ 1) (b_p1 : 0 ≤ p1.toInt ∧ p1.toInt ≤ 39) (b_p2 : 0 ≤ p2.toInt ∧ p2.toInt ≤ 39) (b_p3 : 0 ≤ p3.toInt ∧ p3.toInt ≤ 40) (hnW : 406 ≤ nW) (hp1 : p1.toInt < iQ_allRows.toInt) (hp2 : p2.toInt < iQ_allRows.toInt) (hp3 : p3.toInt ≤ iQ_columns.toInt) (sz : Nat) : Met l yX6_compareRoom wsMX6_compareRoom ({ frames := 3, cells := 0, slots := 0, locals := 61 }) (va_Pc [.ref (hQ 0), .int p1, .int p2, .int p3] (fun U => U.heap.size = sz ∧ va_P (dC, dI) vwCl (WQ hQ aQ kQ hw fQ_inside fQ_outside fQ_shut iQ_rows iQ_allRows iQ_columns ++ (WW nW hw lw kw wl wb wG)) U.heap ∧ va_K (dC, dI) vwCl (tQ kQ ++ (tW kw)) U ∧ va_D (fun _ => True) (WQ hQ aQ kQ hw fQ_inside fQ_outside fQ_shut iQ_rows iQ_allRows iQ_columns ++ (WW nW hw lw kw wl wb wG)))) (va_Qi (fun (r : Int32) (u : (Nat → Int32) × (Nat → Int32) × (Nat → Nat → Int64)) => (∀ q : Nat, 0 ≤ ((u.1) q).toInt ∧ ((u.1) q).toInt ≤ 14) ∧ (∀ q : Nat, 0 ≤ ((u.2.1) q).toInt ∧ ((u.2.1) q).toInt ≤ 1)) (fun (u : (Nat → Int32) × (Nat → Int32) × (Nat → Nat → Int64)) t => va_P (dC, dI) vwCl (WQ hQ aQ kQ hw fQ_inside fQ_outside fQ_shut iQ_rows iQ_allRows iQ_columns ++ (WW nW hw lw kw (u.1) (u.2.1) (u.2.2))) t.heap ∧ va_D (va_A (WQ hQ aQ kQ hw fQ_inside fQ_outside fQ_shut iQ_rows iQ_allRows iQ_columns ++ (WW nW hw lw kw wl wb wG)) sz) (WQ hQ aQ kQ hw fQ_inside fQ_outside fQ_shut iQ_rows iQ_allRows iQ_columns ++ (WW nW hw lw kw (u.1) (u.2.1) (u.2.2)))) (va_A (WQ hQ aQ kQ hw fQ_inside fQ_outside fQ_shut iQ_rows iQ_allRows iQ_columns ++ (WW nW hw lw kw wl wb wG)) sz)) 0 0 (va_A (WQ hQ aQ kQ hw fQ_inside fQ_outside fQ_shut iQ_rows iQ_allRows iQ_columns ++ (WW nW hw lw kw wl wb wG)) sz) := by
  refine Met.ofW (cc := cX6_compareRoom) (maxL := 4) (ret := (some .int)) (by decide) rfl ?_
  intro p e s m args below meth c s₁ B hml hv
  obtain ⟨rfl, hsz, hP, hK, hD0⟩ := hv
  have hx := B.exec
  have hb := B.bytes
  have hr := B.returns
  have hts := atoms_spec (ws := wsMX6_compareRoom) B.pre
  have hown : s.vm.findClass RX6 = some m.cls := findClass_of_methodNamed B.named
  have hlocks := B.notSynchronized
  subst hsz
  have hD := hD0.self (sz := s.heap.size)
  generalize hAe : va_A (WQ hQ aQ kQ hw fQ_inside fQ_outside fQ_shut iQ_rows iQ_allRows iQ_columns ++ (WW nW hw lw kw wl wb wG)) s.heap.size = A at hD ⊢
  have hA : ∀ q : Nat, s.heap.size ≤ q → A q := fun q h => by rw [← hAe]; exact Or.inr h
  have hS : va_S A s.heap s.heap [] := va_S.rf
  have hl := lv_entry ([.ref (hQ 0), .int p1, .int p2, .int p3]) (n := 4) (Nat.le_of_ble_eq_true rfl)
  rw [lg_entry_eq]
  generalize (lg_sl ([.ref (hQ 0), .int p1, .int p2, .int p3]) ++ List.replicate (4 - (lg_sl ([.ref (hQ 0), .int p1, .int p2, .int p3])).length) Slot.unset).toArray = ls at hl ⊢
  have hl : lv_has ls 4 [(0, .ref (hQ 0)), (1, .int p1), (2, .int p2), (3, .int p3)] := hl
  have hTb := b_tb.1
  refine lv_aload_n hx hb dX6_compareRoom_0 rfl (lv_at hl 0 rfl) ?_
  refine va_get (D := (dC, dI)) (ci := 6) (v := .ref (hw 402)) (C := RX6) (T := TX6) (N := 13) hx hb hts iwsMX6_compareRoom_in6 hown hK hP 0 rfl rfl 9 (by decide) (hts _ hm_m_X6_compareRoom_0) (fun _ h9 => h9) rfl dX6_compareRoom_1 ?_
  refine lv_aload_n hx hb dX6_compareRoom_4 rfl (lv_at hl 0 rfl) ?_
  refine lv_iload_n hx hb dX6_compareRoom_5 rfl (lv_at hl 2 rfl) ?_
  refine lv_iconst (v := 0) hx hb dX6_compareRoom_6 (by decide) ?_
  have hFc := allFree hD hS hA
  refine va_callr (va_runV (As := [.int p2, .int 0]) (rest := [.ref (hw 402)]) ⟨hx, hb, hml, hown, hts⟩ (m_X6_cellAt l dC dI hQ aQ kQ hw fQ_inside fQ_outside fQ_shut iQ_rows iQ_allRows iQ_columns nW lw kw wl wb wG p2 0 (b_iQ_rows) (b_iQ_allRows) (b_iQ_columns) (by first | with_reducible assumption | omega | assumption) b_wl b_wb (b_p2) (show 0 ≤ (0 : Int32).toInt ∧ (0 : Int32).toInt ≤ 40 from by decide) (by first | with_reducible assumption | omega | (rw [iI_t (by omega) (by omega)]; omega) | decide | assumption) (cell_ix0 b_tb (by omega) (by omega) (by omega)) s.heap.size) (cwV 2 hts gwsMX6_compareRoom_0 rfl rfl rfl hd_yX6_cellAt_RX6 (by decide +kernel)) (fz_pre (va_recv hK hP (ci := 6) (q0 := 0) rfl rfl) hP hK hD) rfl rfl hl.1 rfl (lv_room (Nat.le_of_ble_eq_true rfl)) dX6_compareRoom_7 (by decide +kernel)) hS (fun q _ h => hFc q h) hFc (fun kR_1 ra1 t9_ H locs ht hvm hw9 hB9 hz1 hk1 hS => ?_)
  revert hB9
  refine fz_a2 ?_
  intro hra hB9
  subst hra
  have f1_0 := hw9
  try dsimp only at f1_0
  have hP : va_P (dC, dI) vwCl (WQ hQ aQ kQ hw fQ_inside fQ_outside fQ_shut iQ_rows iQ_allRows iQ_columns ++ (WW nW hw lw kw wl wb wG)) H := fz_P ht hB9.1
  have hD := fz_sd hP (hB9.2.weaken (fun _ q _ h => hFc q.1 h)) rfl
  refine lv_aload_n hx hb dX6_compareRoom_10 rfl (lv_at hl 0 rfl) ?_
  refine lv_iload_n hx hb dX6_compareRoom_11 rfl (lv_at hl 1 rfl) ?_
  refine lv_iload_n hx hb dX6_compareRoom_12 rfl (lv_at hl 3 rfl) ?_
  have hFc := allFree hD hS hA
  refine va_callr (va_runV (As := [.int p1, .int p3]) (rest := [.ref (hw kR_1), .ref (hw 402)]) ⟨hx, hb, hml, hown, hts⟩ (m_X6_cellAt l dC dI hQ aQ kQ hw fQ_inside fQ_outside fQ_shut iQ_rows iQ_allRows iQ_columns nW lw kw wl wb wG p1 p3 (b_iQ_rows) (b_iQ_allRows) (b_iQ_columns) (by first | with_reducible assumption | omega | assumption) b_wl b_wb (b_p1) (b_p3) (by first | with_reducible assumption | omega | (rw [iI_t (by omega) (by omega)]; omega) | decide | assumption) (cell_ix b_tb (by omega) (by omega) (by omega) (by omega)) H.size) (cwV 2 hts gwsMX6_compareRoom_0 rfl rfl rfl hd_yX6_cellAt_RX6 (by decide +kernel)) (fz_pre (va_recv hK hP (ci := 6) (q0 := 0) rfl rfl) hP hK hD) rfl rfl hl.1 rfl (lv_room (Nat.le_of_ble_eq_true rfl)) dX6_compareRoom_13 (by decide +kernel)) hS (fun q _ h => hFc q h) hFc (fun kR_2 ra2 t9_ H locs ht hvm hw9 hB9 hz1 hk1 hS => ?_)
  revert hB9
  refine fz_a2 ?_
  intro hra hB9
  subst hra
  have f2_0 := hw9
  try dsimp only at f2_0
  have hP : va_P (dC, dI) vwCl (WQ hQ aQ kQ hw fQ_inside fQ_outside fQ_shut iQ_rows iQ_allRows iQ_columns ++ (WW nW hw lw kw wl wb wG)) H := fz_P ht hB9.1
  have hD := fz_sd hP (hB9.2.weaken (fun _ q _ h => hFc q.1 h)) rfl
  have p9 := cj_2_1 (WQ hQ aQ kQ hw fQ_inside fQ_outside fQ_shut iQ_rows iQ_allRows iQ_columns) (WW nW hw lw kw wl wb wG)
  have hPc := hP.mem (fun q h => p9.mem_iff.mpr (List.mem_append_left _ h))
  have hDc := (hD.perm p9).left
  have hKc : va_K (dC, dI) vwCl (tW kw) _ := hK.sub [4] rfl
  have hFc := freeG p9 hD hS hA
  refine va_callv (va_runV (As := [.ref (hw kR_1), .ref (hw kR_2)]) (rest := []) ⟨hx, hb, hml, hown, hts⟩ (m_X8_setProduct l dC dI nW hw lw kw wl wb wG 402 kR_1 kR_2 b_wl b_wb (by first | with_reducible assumption | omega | (rw [iI_t (by omega) (by omega)]; omega) | decide | assumption) (by first | with_reducible assumption | omega | (rw [iI_t (by omega) (by omega)]; omega) | decide | assumption) (by first | with_reducible assumption | omega | (rw [iI_t (by omega) (by omega)]; omega) | decide | assumption) H.size) (cwV 2 hts gwsMX6_compareRoom_1 rfl rfl rfl hd_yX8_setProduct_RX8 (by decide +kernel)) (fz_pre (va_recv hK hP (ci := 8) (q0 := 5 + (402)) rfl (apR rfl (WW_o (by omega)))) hPc hKc hDc) rfl rfl hl.1 rfl (lv_room (Nat.le_of_ble_eq_true rfl)) dX6_compareRoom_16 (by decide +kernel)) hS (fun q _ h => hFc q h) hFc (fun u t9_ H locs ht hvm hw9 hB9 hz1 hk1 hS => ?_)
  revert u hw9 hB9
  refine fz_p3 ?_
  intro wl_3 wb_3 wG_3 hw9 hB9
  try dsimp only at hw9 hB9
  revert hw9
  refine fz_a2 ?_
  intro b_wl_3 b_wb_3
  have p8 := cj_2_1 (WQ hQ aQ kQ hw fQ_inside fQ_outside fQ_shut iQ_rows iQ_allRows iQ_columns) (WW nW hw lw kw wl_3 wb_3 wG_3)
  obtain ⟨hP, hD⟩ := frameG p9 p8 hP hD hk1 hFc (fz_P ht hB9.1) hB9.2
  refine lv_aload_n hx hb dX6_compareRoom_19 rfl (lv_at hl 0 rfl) ?_
  refine va_get (D := (dC, dI)) (ci := 6) (v := .ref (hw 403)) (C := RX6) (T := TX6) (N := 13) hx hb hts iwsMX6_compareRoom_in6 hown hK hP 0 rfl rfl 10 (by decide) (hts _ hm_m_X6_compareRoom_1) (fun _ h9 => h9) rfl dX6_compareRoom_20 ?_
  refine lv_aload_n hx hb dX6_compareRoom_23 rfl (lv_at hl 0 rfl) ?_
  refine lv_iload_n hx hb dX6_compareRoom_24 rfl (lv_at hl 1 rfl) ?_
  refine lv_iconst (v := 0) hx hb dX6_compareRoom_25 (by decide) ?_
  have hFc := allFree hD hS hA
  refine va_callr (va_runV (As := [.int p1, .int 0]) (rest := [.ref (hw 403)]) ⟨hx, hb, hml, hown, hts⟩ (m_X6_cellAt l dC dI hQ aQ kQ hw fQ_inside fQ_outside fQ_shut iQ_rows iQ_allRows iQ_columns nW lw kw wl_3 wb_3 wG_3 p1 0 (b_iQ_rows) (b_iQ_allRows) (b_iQ_columns) (by first | with_reducible assumption | omega | assumption) b_wl_3 b_wb_3 (b_p1) (show 0 ≤ (0 : Int32).toInt ∧ (0 : Int32).toInt ≤ 40 from by decide) (by first | with_reducible assumption | omega | (rw [iI_t (by omega) (by omega)]; omega) | decide | assumption) (cell_ix0 b_tb (by omega) (by omega) (by omega)) H.size) (cwV 2 hts gwsMX6_compareRoom_0 rfl rfl rfl hd_yX6_cellAt_RX6 (by decide +kernel)) (fz_pre (va_recv hK hP (ci := 6) (q0 := 0) rfl rfl) hP hK hD) rfl rfl hl.1 rfl (lv_room (Nat.le_of_ble_eq_true rfl)) dX6_compareRoom_26 (by decide +kernel)) hS (fun q _ h => hFc q h) hFc (fun kR_4 ra4 t9_ H locs ht hvm hw9 hB9 hz1 hk1 hS => ?_)
  revert hB9
  refine fz_a2 ?_
  intro hra hB9
  subst hra
  have f4_0 := hw9
  try dsimp only at f4_0
  have hP : va_P (dC, dI) vwCl (WQ hQ aQ kQ hw fQ_inside fQ_outside fQ_shut iQ_rows iQ_allRows iQ_columns ++ (WW nW hw lw kw wl_3 wb_3 wG_3)) H := fz_P ht hB9.1
  have hD := fz_sd hP (hB9.2.weaken (fun _ q _ h => hFc q.1 h)) rfl
  refine lv_aload_n hx hb dX6_compareRoom_29 rfl (lv_at hl 0 rfl) ?_
  refine lv_iload_n hx hb dX6_compareRoom_30 rfl (lv_at hl 2 rfl) ?_
  refine lv_iload_n hx hb dX6_compareRoom_31 rfl (lv_at hl 3 rfl) ?_
  have hFc := allFree hD hS hA
  refine va_callr (va_runV (As := [.int p2, .int p3]) (rest := [.ref (hw kR_4), .ref (hw 403)]) ⟨hx, hb, hml, hown, hts⟩ (m_X6_cellAt l dC dI hQ aQ kQ hw fQ_inside fQ_outside fQ_shut iQ_rows iQ_allRows iQ_columns nW lw kw wl_3 wb_3 wG_3 p2 p3 (b_iQ_rows) (b_iQ_allRows) (b_iQ_columns) (by first | with_reducible assumption | omega | assumption) b_wl_3 b_wb_3 (b_p2) (b_p3) (by first | with_reducible assumption | omega | (rw [iI_t (by omega) (by omega)]; omega) | decide | assumption) (cell_ix b_tb (by omega) (by omega) (by omega) (by omega)) H.size) (cwV 2 hts gwsMX6_compareRoom_0 rfl rfl rfl hd_yX6_cellAt_RX6 (by decide +kernel)) (fz_pre (va_recv hK hP (ci := 6) (q0 := 0) rfl rfl) hP hK hD) rfl rfl hl.1 rfl (lv_room (Nat.le_of_ble_eq_true rfl)) dX6_compareRoom_32 (by decide +kernel)) hS (fun q _ h => hFc q h) hFc (fun kR_5 ra5 t9_ H locs ht hvm hw9 hB9 hz1 hk1 hS => ?_)
  revert hB9
  refine fz_a2 ?_
  intro hra hB9
  subst hra
  have f5_0 := hw9
  try dsimp only at f5_0
  have hP : va_P (dC, dI) vwCl (WQ hQ aQ kQ hw fQ_inside fQ_outside fQ_shut iQ_rows iQ_allRows iQ_columns ++ (WW nW hw lw kw wl_3 wb_3 wG_3)) H := fz_P ht hB9.1
  have hD := fz_sd hP (hB9.2.weaken (fun _ q _ h => hFc q.1 h)) rfl
  have p9 := cj_2_1 (WQ hQ aQ kQ hw fQ_inside fQ_outside fQ_shut iQ_rows iQ_allRows iQ_columns) (WW nW hw lw kw wl_3 wb_3 wG_3)
  have hPc := hP.mem (fun q h => p9.mem_iff.mpr (List.mem_append_left _ h))
  have hDc := (hD.perm p9).left
  have hKc : va_K (dC, dI) vwCl (tW kw) _ := hK.sub [4] rfl
  have hFc := freeG p9 hD hS hA
  refine va_callv (va_runV (As := [.ref (hw kR_4), .ref (hw kR_5)]) (rest := []) ⟨hx, hb, hml, hown, hts⟩ (m_X8_setProduct l dC dI nW hw lw kw wl_3 wb_3 wG_3 403 kR_4 kR_5 b_wl_3 b_wb_3 (by first | with_reducible assumption | omega | (rw [iI_t (by omega) (by omega)]; omega) | decide | assumption) (by first | with_reducible assumption | omega | (rw [iI_t (by omega) (by omega)]; omega) | decide | assumption) (by first | with_reducible assumption | omega | (rw [iI_t (by omega) (by omega)]; omega) | decide | assumption) H.size) (cwV 2 hts gwsMX6_compareRoom_1 rfl rfl rfl hd_yX8_setProduct_RX8 (by decide +kernel)) (fz_pre (va_recv hK hP (ci := 8) (q0 := 5 + (403)) rfl (apR rfl (WW_o (by omega)))) hPc hKc hDc) rfl rfl hl.1 rfl (lv_room (Nat.le_of_ble_eq_true rfl)) dX6_compareRoom_35 (by decide +kernel)) hS (fun q _ h => hFc q h) hFc (fun u t9_ H locs ht hvm hw9 hB9 hz1 hk1 hS => ?_)
  revert u hw9 hB9
  refine fz_p3 ?_
  intro wl_6 wb_6 wG_6 hw9 hB9
  try dsimp only at hw9 hB9
  revert hw9
  refine fz_a2 ?_
  intro b_wl_6 b_wb_6
  have p8 := cj_2_1 (WQ hQ aQ kQ hw fQ_inside fQ_outside fQ_shut iQ_rows iQ_allRows iQ_columns) (WW nW hw lw kw wl_6 wb_6 wG_6)
  obtain ⟨hP, hD⟩ := frameG p9 p8 hP hD hk1 hFc (fz_P ht hB9.1) hB9.2
  refine lv_aload_n hx hb dX6_compareRoom_38 rfl (lv_at hl 0 rfl) ?_
  refine va_get (D := (dC, dI)) (ci := 6) (v := .ref (hw 403)) (C := RX6) (T := TX6) (N := 13) hx hb hts iwsMX6_compareRoom_in6 hown hK hP 0 rfl rfl 10 (by decide) (hts _ hm_m_X6_compareRoom_1) (fun _ h9 => h9) rfl dX6_compareRoom_39 ?_
  have p9 := cj_2_1 (WQ hQ aQ kQ hw fQ_inside fQ_outside fQ_shut iQ_rows iQ_allRows iQ_columns) (WW nW hw lw kw wl_6 wb_6 wG_6)
  have hPc := hP.mem (fun q h => p9.mem_iff.mpr (List.mem_append_left _ h))
  have hDc := (hD.perm p9).left
  have hKc : va_K (dC, dI) vwCl (tW kw) _ := hK.sub [4] rfl
  have hFc := freeG p9 hD hS hA
  refine va_callv (va_runV (As := []) (rest := []) ⟨hx, hb, hml, hown, hts⟩ (m_X8_negate l dC dI nW hw lw kw wl_6 wb_6 wG_6 403 b_wl_6 b_wb_6 (by first | with_reducible assumption | omega | (rw [iI_t (by omega) (by omega)]; omega) | decide | assumption) H.size) (cwV 0 hts gwsMX6_compareRoom_2 rfl rfl rfl hd_yX8_negate_RX8 (by decide +kernel)) (fz_pre (va_recv hK hP (ci := 8) (q0 := 5 + (403)) rfl (apR rfl (WW_o (by omega)))) hPc hKc hDc) rfl rfl hl.1 rfl (lv_room (Nat.le_of_ble_eq_true rfl)) dX6_compareRoom_42 (by decide +kernel)) hS (fun q _ h => hFc q h) hFc (fun wb_7 t9_ H locs ht hvm hw9 hB9 hz1 hk1 hS => ?_)
  have b_wb_7 := hw9
  try dsimp only at b_wb_7
  have p8 := cj_2_1 (WQ hQ aQ kQ hw fQ_inside fQ_outside fQ_shut iQ_rows iQ_allRows iQ_columns) (WW nW hw lw kw wl_6 wb_7 wG_6)
  obtain ⟨hP, hD⟩ := frameG p9 p8 hP hD hk1 hFc (fz_P ht hB9.1) hB9.2
  refine lv_aload_n hx hb dX6_compareRoom_45 rfl (lv_at hl 0 rfl) ?_
  refine va_get (D := (dC, dI)) (ci := 6) (v := .ref (hw 402)) (C := RX6) (T := TX6) (N := 13) hx hb hts iwsMX6_compareRoom_in6 hown hK hP 0 rfl rfl 9 (by decide) (hts _ hm_m_X6_compareRoom_0) (fun _ h9 => h9) rfl dX6_compareRoom_46 ?_
  refine lv_aload_n hx hb dX6_compareRoom_49 rfl (lv_at hl 0 rfl) ?_
  refine va_get (D := (dC, dI)) (ci := 6) (v := .ref (hw 403)) (C := RX6) (T := TX6) (N := 13) hx hb hts iwsMX6_compareRoom_in6 hown hK hP 0 rfl rfl 10 (by decide) (hts _ hm_m_X6_compareRoom_1) (fun _ h9 => h9) rfl dX6_compareRoom_50 ?_
  have p9 := cj_2_1 (WQ hQ aQ kQ hw fQ_inside fQ_outside fQ_shut iQ_rows iQ_allRows iQ_columns) (WW nW hw lw kw wl_6 wb_7 wG_6)
  have hPc := hP.mem (fun q h => p9.mem_iff.mpr (List.mem_append_left _ h))
  have hDc := (hD.perm p9).left
  have hKc : va_K (dC, dI) vwCl (tW kw) _ := hK.sub [4] rfl
  have hFc := freeG p9 hD hS hA
  refine va_callv (va_runV (As := [.ref (hw 403)]) (rest := []) ⟨hx, hb, hml, hown, hts⟩ (m_X8_add l dC dI nW hw lw kw wl_6 wb_7 wG_6 402 403 b_wl_6 b_wb_7 (by first | with_reducible assumption | omega | (rw [iI_t (by omega) (by omega)]; omega) | decide | assumption) (by first | with_reducible assumption | omega | (rw [iI_t (by omega) (by omega)]; omega) | decide | assumption) H.size) (cwV 1 hts gwsMX6_compareRoom_3 rfl rfl rfl hd_yX8_add_RX8 (by decide +kernel)) (fz_pre (va_recv hK hP (ci := 8) (q0 := 5 + (402)) rfl (apR rfl (WW_o (by omega)))) hPc hKc hDc) rfl rfl hl.1 rfl (lv_room (Nat.le_of_ble_eq_true rfl)) dX6_compareRoom_53 (by decide +kernel)) hS (fun q _ h => hFc q h) hFc (fun u t9_ H locs ht hvm hw9 hB9 hz1 hk1 hS => ?_)
  revert u hw9 hB9
  refine fz_p3 ?_
  intro wl_8 wb_8 wG_8 hw9 hB9
  try dsimp only at hw9 hB9
  revert hw9
  refine fz_a2 ?_
  intro b_wl_8 b_wb_8
  have p8 := cj_2_1 (WQ hQ aQ kQ hw fQ_inside fQ_outside fQ_shut iQ_rows iQ_allRows iQ_columns) (WW nW hw lw kw wl_8 wb_8 wG_8)
  obtain ⟨hP, hD⟩ := frameG p9 p8 hP hD hk1 hFc (fz_P ht hB9.1) hB9.2
  refine lv_aload_n hx hb dX6_compareRoom_56 rfl (lv_at hl 0 rfl) ?_
  refine va_get (D := (dC, dI)) (ci := 6) (v := .ref (hw 402)) (C := RX6) (T := TX6) (N := 13) hx hb hts iwsMX6_compareRoom_in6 hown hK hP 0 rfl rfl 9 (by decide) (hts _ hm_m_X6_compareRoom_0) (fun _ h9 => h9) rfl dX6_compareRoom_57 ?_
  have p9 := cj_2_1 (WQ hQ aQ kQ hw fQ_inside fQ_outside fQ_shut iQ_rows iQ_allRows iQ_columns) (WW nW hw lw kw wl_8 wb_8 wG_8)
  have hPc := hP.mem (fun q h => p9.mem_iff.mpr (List.mem_append_left _ h))
  have hDc := (hD.perm p9).left
  have hKc : va_K (dC, dI) vwCl (tW kw) _ := hK.sub [4] rfl
  have hFc := freeG p9 hD hS hA
  refine va_calli (va_runV (As := []) (rest := []) ⟨hx, hb, hml, hown, hts⟩ (m_X8_sign l dC dI nW hw lw kw wl_8 wb_8 wG_8 402 b_wl_8 b_wb_8 (by first | with_reducible assumption | omega | (rw [iI_t (by omega) (by omega)]; omega) | decide | assumption) H.size) (cwV 0 hts gwsMX6_compareRoom_4 rfl rfl rfl hd_yX8_sign_RX8 (by decide +kernel)) (fz_pre (va_recv hK hP (ci := 8) (q0 := 5 + (402)) rfl (apR rfl (WW_o (by omega)))) hPc hKc hDc) rfl rfl hl.1 rfl (lv_room (Nat.le_of_ble_eq_true rfl)) dX6_compareRoom_60 (by decide +kernel)) hS (fun q _ h => hFc q h) hFc (fun r9 u t9_ H locs ht hvm hw9 hB9 hz1 hk1 hS => ?_)
  have b_r9 := hw9
  try dsimp only at b_r9
  have p8 := p9
  obtain ⟨hP, hD⟩ := frameG p9 p8 hP hD hk1 hFc (fz_P ht hB9.1) hB9.2
  refine W.widen (k := 0) (n := 0) (by decide +kernel) (by decide +kernel) ?_
  exact W.iret (v := r9) hx hb hr (fun t9_ ht hW => ⟨⟨r9, (wl_8, wb_8, wG_8), rfl, ⟨b_wl_8, b_wb_8⟩, by rw [ht]; exact hP, hD⟩, hS.F ht⟩) hS.2.2 dX6_compareRoom_63
theorem dX6_tightest_0 : decode cX6_tightest 0 = .ok (.iconst (-1), 1) := dk_2 (by decide +kernel)
theorem dX6_tightest_1 : decode cX6_tightest 1 = .ok (.istore_n 2, 1) := dk_61 (by decide +kernel)
theorem dX6_tightest_2 : decode cX6_tightest 2 = .ok (.iconst 0, 1) := dk_3 (by decide +kernel)
theorem dX6_tightest_3 : decode cX6_tightest 3 = .ok (.istore_n 3, 1) := dk_62 (by decide +kernel)
theorem dX6_tightest_4 : decode cX6_tightest 4 = .ok (.iload_n 3, 1) := dk_29 (by decide +kernel)
theorem dX6_tightest_5 : decode cX6_tightest 5 = .ok (.aload_n 0, 1) := dk_42 (by decide +kernel)
theorem dX6_tightest_6 : decode cX6_tightest 6 = .ok (.getfield 61, 3) := dk_180 (by decide +kernel)
theorem dX6_tightest_9 : decode cX6_tightest 9 = .ok (.if_icmp .ge 66, 3) := dk_162 (by decide +kernel)
theorem dX6_tightest_12 : decode cX6_tightest 12 = .ok (.aload_n 0, 1) := dk_42 (by decide +kernel)
theorem dX6_tightest_13 : decode cX6_tightest 13 = .ok (.iload_n 3, 1) := dk_29 (by decide +kernel)
theorem dX6_tightest_14 : decode cX6_tightest 14 = .ok (.iload_n 1, 1) := dk_27 (by decide +kernel)
theorem dX6_tightest_15 : decode cX6_tightest 15 = .ok (.invokevirtual 72, 3) := dk_182 (by decide +kernel)
theorem dX6_tightest_18 : decode cX6_tightest 18 = .ok (.invokevirtual 92, 3) := dk_182 (by decide +kernel)
theorem dX6_tightest_21 : decode cX6_tightest 21 = .ok (.ifCond .ge 48, 3) := dk_156 (by decide +kernel)
theorem dX6_tightest_24 : decode cX6_tightest 24 = .ok (.iload_n 2, 1) := dk_28 (by decide +kernel)
theorem dX6_tightest_25 : decode cX6_tightest 25 = .ok (.iconst (-1), 1) := dk_2 (by decide +kernel)
theorem dX6_tightest_26 : decode cX6_tightest 26 = .ok (.if_icmp .ne 7, 3) := dk_160 (by decide +kernel)
theorem dX6_tightest_29 : decode cX6_tightest 29 = .ok (.iconst (-1), 1) := dk_2 (by decide +kernel)
theorem dX6_tightest_30 : decode cX6_tightest 30 = .ok (.goto 10, 3) := dk_167 (by decide +kernel)
theorem dX6_tightest_33 : decode cX6_tightest 33 = .ok (.aload_n 0, 1) := dk_42 (by decide +kernel)
theorem dX6_tightest_34 : decode cX6_tightest 34 = .ok (.iload_n 3, 1) := dk_29 (by decide +kernel)
theorem dX6_tightest_35 : decode cX6_tightest 35 = .ok (.iload_n 2, 1) := dk_28 (by decide +kernel)
theorem dX6_tightest_36 : decode cX6_tightest 36 = .ok (.iload_n 1, 1) := dk_27 (by decide +kernel)
theorem dX6_tightest_37 : decode cX6_tightest 37 = .ok (.invokevirtual 116, 3) := dk_182 (by decide +kernel)
theorem dX6_tightest_40 : decode cX6_tightest 40 = .ok (.istore 4, 2) := dk_54 (by decide +kernel)
theorem dX6_tightest_42 : decode cX6_tightest 42 = .ok (.iload 4, 2) := dk_21 (by decide +kernel)
theorem dX6_tightest_44 : decode cX6_tightest 44 = .ok (.ifCond .lt 23, 3) := dk_155 (by decide +kernel)
theorem dX6_tightest_47 : decode cX6_tightest 47 = .ok (.iload 4, 2) := dk_21 (by decide +kernel)
theorem dX6_tightest_49 : decode cX6_tightest 49 = .ok (.ifCond .ne 20, 3) := dk_154 (by decide +kernel)
theorem dX6_tightest_52 : decode cX6_tightest 52 = .ok (.aload_n 0, 1) := dk_42 (by decide +kernel)
theorem dX6_tightest_53 : decode cX6_tightest 53 = .ok (.getfield 17, 3) := dk_180 (by decide +kernel)
theorem dX6_tightest_56 : decode cX6_tightest 56 = .ok (.iload_n 3, 1) := dk_29 (by decide +kernel)
theorem dX6_tightest_57 : decode cX6_tightest 57 = .ok (.iaload, 1) := dk_46 (by decide +kernel)
theorem dX6_tightest_58 : decode cX6_tightest 58 = .ok (.aload_n 0, 1) := dk_42 (by decide +kernel)
theorem dX6_tightest_59 : decode cX6_tightest 59 = .ok (.getfield 17, 3) := dk_180 (by decide +kernel)
theorem dX6_tightest_62 : decode cX6_tightest 62 = .ok (.iload_n 2, 1) := dk_28 (by decide +kernel)
theorem dX6_tightest_63 : decode cX6_tightest 63 = .ok (.iaload, 1) := dk_46 (by decide +kernel)
theorem dX6_tightest_64 : decode cX6_tightest 64 = .ok (.if_icmp .ge 5, 3) := dk_162 (by decide +kernel)
theorem dX6_tightest_67 : decode cX6_tightest 67 = .ok (.iload_n 3, 1) := dk_29 (by decide +kernel)
theorem dX6_tightest_68 : decode cX6_tightest 68 = .ok (.istore_n 2, 1) := dk_61 (by decide +kernel)
theorem dX6_tightest_69 : decode cX6_tightest 69 = .ok (.iinc 3 1, 3) := dk_132 (by decide +kernel)
theorem dX6_tightest_72 : decode cX6_tightest 72 = .ok (.goto (-68), 3) := dk_167 (by decide +kernel)
theorem dX6_tightest_75 : decode cX6_tightest 75 = .ok (.iload_n 2, 1) := dk_28 (by decide +kernel)
theorem dX6_tightest_76 : decode cX6_tightest 76 = .ok (.ireturn, 1) := dk_172 (by decide +kernel)
def wsMX6_tightest : List Cond := .code yX6_tightest cX6_tightest 5 (some .int) :: ([.fieldLink RX6 61 "OptimaWorks$Tableau" "rows" "I", .fieldLink RX6 17 "OptimaWorks$Tableau" "inside" "[I"] ++ wsX60 ++ (wsV RX6 72 RX6 yX6_cellAt wsMX6_cellAt) ++ (wsV RX6 92 RX8 yX8_sign wsMX8_sign) ++ (wsV RX6 116 RX6 yX6_compareRoom wsMX6_compareRoom))
theorem iwsMX6_tightest_in6 : ∀ w ∈ wsX60, w ∈ wsMX6_tightest := fun _ h => List.mem_cons_of_mem _ (List.mem_append_left _ (List.mem_append_left _ (List.mem_append_left _ (List.mem_append_right _ h))))
theorem gwsMX6_tightest_0 : GoodIn wsMX6_tightest (wsV RX6 72 RX6 yX6_cellAt wsMX6_cellAt) := goodIn_sub (fun _ h => List.mem_cons_of_mem _ (List.mem_append_left _ (List.mem_append_left _ (List.mem_append_right _ h)))) (gdV (by decide +kernel) gdwsMX6_cellAt)
theorem gwsMX6_tightest_1 : GoodIn wsMX6_tightest (wsV RX6 92 RX8 yX8_sign wsMX8_sign) := goodIn_sub (fun _ h => List.mem_cons_of_mem _ (List.mem_append_left _ (List.mem_append_right _ h))) (gdV (by decide +kernel) gdwsMX8_sign)
theorem gwsMX6_tightest_2 : GoodIn wsMX6_tightest (wsV RX6 116 RX6 yX6_compareRoom wsMX6_compareRoom) := goodIn_sub (fun _ h => List.mem_cons_of_mem _ (List.mem_append_right _ h)) (gdV (by decide +kernel) gdwsMX6_compareRoom)
theorem gdwsMX6_tightest : wsMX6_tightest.all goodWord = true := gdC rfl (gdA (gdA (gdA (gdA (by decide +kernel : ([.fieldLink RX6 61 "OptimaWorks$Tableau" "rows" "I", .fieldLink RX6 17 "OptimaWorks$Tableau" "inside" "[I"] : List Cond).all goodWord = true) gdwsX60) (gdV (by decide +kernel) gdwsMX6_cellAt)) (gdV (by decide +kernel) gdwsMX8_sign)) (gdV (by decide +kernel) gdwsMX6_compareRoom))
theorem hm_m_X6_tightest_0 : (.fieldLink RX6 17 "OptimaWorks$Tableau" "inside" "[I" : Cond) ∈ wsMX6_tightest := by decide +kernel
set_option maxHeartbeats 4000000 in
set_option maxRecDepth 100000 in
/-- the tightest row -/
theorem m_X6_tightest (l : Launch) (dC : Nat → ClassId) (dI : Nat → Nat → Nat) (hQ : Nat → Nat) (aQ : Nat → Nat) (kQ : Nat → ClassId) (hw : Nat → Nat) (fQ_inside : Nat → Int32) (fQ_outside : Nat → Int32) (fQ_shut : Nat → Int32) (iQ_rows : Int32) (iQ_allRows : Int32) (iQ_columns : Int32) (nW : Nat) (lw : Nat → Nat) (kw : ClassId) (wl : Nat → Int32) (wb : Nat → Int32) (wG : Nat → Nat → Int64) (p1 : Int32) (b_iQ_rows : 0 ≤ iQ_rows.toInt ∧ iQ_rows.toInt ≤ 40) (b_iQ_allRows : 0 ≤ iQ_allRows.toInt ∧ iQ_allRows.toInt ≤ 40) (b_iQ_columns : 0 ≤ iQ_columns.toInt ∧ iQ_columns.toInt ≤ 40) (b_tb : TbO iQ_rows iQ_allRows iQ_columns) (b_wl : ∀ q : Nat, 0 ≤ (wl q).toInt ∧ (wl q).toInt ≤ 14) (b_wb : ∀ q : Nat, 0 ≤ (wb q).toInt ∧ (wb q).toInt ≤ 1) (b_p1 : 0 ≤ p1.toInt ∧ p1.toInt ≤ 40) (hnW : 406 ≤ nW) (hp1 : p1.toInt ≤ iQ_columns.toInt) (sz : Nat) : Met l yX6_tightest wsMX6_tightest ({ frames := 4, cells := 0, slots := 0, locals := 84 }) (va_Pc [.ref (hQ 0), .int p1] (fun U => U.heap.size = sz ∧ va_P (dC, dI) vwCl (WQ hQ aQ kQ hw fQ_inside fQ_outside fQ_shut iQ_rows iQ_allRows iQ_columns ++ (WW nW hw lw kw wl wb wG)) U.heap ∧ va_K (dC, dI) vwCl (tQ kQ ++ (tW kw)) U ∧ va_D (fun _ => True) (WQ hQ aQ kQ hw fQ_inside fQ_outside fQ_shut iQ_rows iQ_allRows iQ_columns ++ (WW nW hw lw kw wl wb wG)))) (va_Qi (fun (r : Int32) (u : (Nat → Int32) × (Nat → Int32) × (Nat → Nat → Int64)) => (∀ q : Nat, 0 ≤ ((u.1) q).toInt ∧ ((u.1) q).toInt ≤ 14) ∧ (∀ q : Nat, 0 ≤ ((u.2.1) q).toInt ∧ ((u.2.1) q).toInt ≤ 1) ∧ ((-1) ≤ r.toInt ∧ r.toInt ≤ 39) ∧ (r.toInt < iQ_rows.toInt)) (fun (u : (Nat → Int32) × (Nat → Int32) × (Nat → Nat → Int64)) t => va_P (dC, dI) vwCl (WQ hQ aQ kQ hw fQ_inside fQ_outside fQ_shut iQ_rows iQ_allRows iQ_columns ++ (WW nW hw lw kw (u.1) (u.2.1) (u.2.2))) t.heap ∧ va_D (va_A (WQ hQ aQ kQ hw fQ_inside fQ_outside fQ_shut iQ_rows iQ_allRows iQ_columns ++ (WW nW hw lw kw wl wb wG)) sz) (WQ hQ aQ kQ hw fQ_inside fQ_outside fQ_shut iQ_rows iQ_allRows iQ_columns ++ (WW nW hw lw kw (u.1) (u.2.1) (u.2.2)))) (va_A (WQ hQ aQ kQ hw fQ_inside fQ_outside fQ_shut iQ_rows iQ_allRows iQ_columns ++ (WW nW hw lw kw wl wb wG)) sz)) 0 0 (va_A (WQ hQ aQ kQ hw fQ_inside fQ_outside fQ_shut iQ_rows iQ_allRows iQ_columns ++ (WW nW hw lw kw wl wb wG)) sz) := by
  refine Met.ofW (cc := cX6_tightest) (maxL := 5) (ret := (some .int)) (by decide) rfl ?_
  intro p e s m args below meth c s₁ B hml hv
  obtain ⟨rfl, hsz, hP, hK, hD0⟩ := hv
  have hx := B.exec
  have hb := B.bytes
  have hr := B.returns
  have hts := atoms_spec (ws := wsMX6_tightest) B.pre
  have hown : s.vm.findClass RX6 = some m.cls := findClass_of_methodNamed B.named
  have hlocks := B.notSynchronized
  subst hsz
  have hD := hD0.self (sz := s.heap.size)
  generalize hAe : va_A (WQ hQ aQ kQ hw fQ_inside fQ_outside fQ_shut iQ_rows iQ_allRows iQ_columns ++ (WW nW hw lw kw wl wb wG)) s.heap.size = A at hD ⊢
  have hA : ∀ q : Nat, s.heap.size ≤ q → A q := fun q h => by rw [← hAe]; exact Or.inr h
  have hS : va_S A s.heap s.heap [] := va_S.rf
  have hl := lv_entry ([.ref (hQ 0), .int p1]) (n := 5) (Nat.le_of_ble_eq_true rfl)
  rw [lg_entry_eq]
  generalize (lg_sl ([.ref (hQ 0), .int p1]) ++ List.replicate (5 - (lg_sl ([.ref (hQ 0), .int p1])).length) Slot.unset).toArray = ls at hl ⊢
  have hl : lv_has ls 5 [(0, .ref (hQ 0)), (1, .int p1)] := hl
  have hTb := b_tb.1
  refine lv_iconst (v := (-1)) hx hb dX6_tightest_0 (by decide) ?_
  refine lv_istore_n hx hb dX6_tightest_1 rfl hl (by decide) rfl (fun ls (hl : lv_has ls _ ([(2, .int (-1)), (0, .ref (hQ 0)), (1, .int p1)])) => ?_)
  refine lv_iconst (v := 0) hx hb dX6_tightest_2 (by decide) ?_
  refine lv_istore_n hx hb dX6_tightest_3 rfl hl (by decide) rfl (fun ls (hl : lv_has ls _ ([(3, .int 0), (2, .int (-1)), (0, .ref (hQ 0)), (1, .int p1)])) => ?_)
  have hl : lv_has _ _ ([(3, .int 0), (2, .int (-1)), (0, .ref (hQ 0)), (1, .int p1)]) := lv_sub hl [0, 1, 2, 3] rfl
  refine (fun (loop : ∀ (n9 : Nat) (wl_x4 : Nat → Int32) (wb_x4 : Nat → Int32) (wG_x4 : Nat → Nat → Int64) (l3_x4 : Int32) (l2_x4 : Int32) (H : Heap) (locs : List Loc) (ls : Array Slot), (∀ q : Nat, 0 ≤ (wl_x4 q).toInt ∧ (wl_x4 q).toInt ≤ 14) → (∀ q : Nat, 0 ≤ (wb_x4 q).toInt ∧ (wb_x4 q).toInt ≤ 1) → (0 ≤ l3_x4.toInt ∧ l3_x4.toInt ≤ 40) → ((-1) ≤ l2_x4.toInt ∧ l2_x4.toInt ≤ 39) → (l2_x4.toInt < iQ_rows.toInt) → (40 - l3_x4.toInt < ((n9 : Nat) : Int)) → va_P (dC, dI) vwCl (WQ hQ aQ kQ hw fQ_inside fQ_outside fQ_shut iQ_rows iQ_allRows iQ_columns ++ (WW nW hw lw kw wl_x4 wb_x4 wG_x4)) H → va_D A (WQ hQ aQ kQ hw fQ_inside fQ_outside fQ_shut iQ_rows iQ_allRows iQ_columns ++ (WW nW hw lw kw wl_x4 wb_x4 wG_x4)) → va_S A s.heap H locs → lv_has ls 5 [(3, .int l3_x4), (2, .int l2_x4), (0, .ref (hQ 0)), (1, .int p1)] → W p l e _ s m _ below meth c H locs 0 0 _ (F0 m 4 ls [])) => loop (41) wl wb wG 0 (-1) _ _ _ b_wl b_wb (show 0 ≤ (0 : Int32).toInt ∧ (0 : Int32).toInt ≤ 40 from by decide) (show (-1) ≤ ((-1) : Int32).toInt ∧ ((-1) : Int32).toInt ≤ 39 from by decide) (show ((-1) : Int32).toInt < iQ_rows.toInt from by first | assumption | omega | (have h9 : ((-1) : Int32).toInt = -1 := (by decide); omega)) ((by have e9 : (0 : Int32).toInt = 0 := (by decide : (0 : Int32).toInt = 0); omega)) hP hD hS hl) ?_
  intro n9
  induction n9 with
  | zero => intro wl_x4 wb_x4 wG_x4 l3_x4 l2_x4 H locs ls b_wl_x4 b_wb_x4 b_l3_x4 b_l2_x4 hfr hf9; exact False.elim (by omega)
  | succ n9 ihx4 =>
    intro wl_x4 wb_x4 wG_x4 l3_x4 l2_x4 H locs ls b_wl_x4 b_wb_x4 b_l3_x4 b_l2_x4 hfr hfx4 hP hD hS hl
    refine lv_iload_n hx hb dX6_tightest_4 rfl (lv_at hl 0 rfl) ?_
    refine lv_aload_n hx hb dX6_tightest_5 rfl (lv_at hl 2 rfl) ?_
    refine va_get (D := (dC, dI)) (ci := 6) (v := .int iQ_rows) (C := RX6) (T := TX6) (N := 13) hx hb hts iwsMX6_tightest_in6 hown hK hP 0 rfl rfl 5 (by decide) (hts (.fieldLink RX6 61 "OptimaWorks$Tableau" "rows" "I") (by decide +kernel)) (fun _ h9 => h9) rfl dX6_tightest_6 ?_
    refine lv_icmp_ge (tgt := 75) hx hb dX6_tightest_9 (by decide) (fun c_9 => ?_) (fun c_9 => ?_)
    · have t_9 : l3_x4.toInt ≥ iQ_rows.toInt := toI_ge c_9 rfl rfl
      refine lv_iload_n hx hb dX6_tightest_75 rfl (lv_at hl 1 rfl) ?_
      refine W.widen (k := 0) (n := 0) (by decide +kernel) (by decide +kernel) ?_
      exact W.iret (v := l2_x4) hx hb hr (fun t9_ ht hW => ⟨⟨l2_x4, (wl_x4, wb_x4, wG_x4), rfl, ⟨b_wl_x4, b_wb_x4, (b_l2_x4), (by (try dsimp only); exact (hfr))⟩, by rw [ht]; exact hP, hD⟩, hS.F ht⟩) hS.2.2 dX6_tightest_76
    · have t_9 : ¬ l3_x4.toInt ≥ iQ_rows.toInt := toI_nge c_9 rfl rfl
      refine lv_aload_n hx hb dX6_tightest_12 rfl (lv_at hl 2 rfl) ?_
      refine lv_iload_n hx hb dX6_tightest_13 rfl (lv_at hl 0 rfl) ?_
      refine lv_iload_n hx hb dX6_tightest_14 rfl (lv_at hl 3 rfl) ?_
      have hFc := allFree hD hS hA
      refine va_callr (va_runV (As := [.int l3_x4, .int p1]) (rest := []) ⟨hx, hb, hml, hown, hts⟩ (m_X6_cellAt l dC dI hQ aQ kQ hw fQ_inside fQ_outside fQ_shut iQ_rows iQ_allRows iQ_columns nW lw kw wl_x4 wb_x4 wG_x4 l3_x4 p1 (b_iQ_rows) (b_iQ_allRows) (b_iQ_columns) (by first | with_reducible assumption | omega | assumption) b_wl_x4 b_wb_x4 (by first | exact b_l3_x4 | with_reducible assumption | exact ⟨by omega, by omega⟩ | assumption) (b_p1) (by first | with_reducible assumption | omega | (rw [iI_t (by omega) (by omega)]; omega) | decide | assumption) (cell_ix b_tb (by omega) (by omega) (by omega) (by omega)) H.size) (cwV 2 hts gwsMX6_tightest_0 rfl rfl rfl hd_yX6_cellAt_RX6 (by decide +kernel)) (fz_pre (va_recv hK hP (ci := 6) (q0 := 0) rfl rfl) hP hK hD) rfl rfl hl.1 rfl (lv_room (Nat.le_of_ble_eq_true rfl)) dX6_tightest_15 (by decide +kernel)) hS (fun q _ h => hFc q h) hFc (fun kR_45 ra45 t9_ H locs ht hvm hw9 hB9 hz1 hk1 hS => ?_)
      revert hB9
      refine fz_a2 ?_
      intro hra hB9
      subst hra
      have f45_0 := hw9
      try dsimp only at f45_0
      have hP : va_P (dC, dI) vwCl (WQ hQ aQ kQ hw fQ_inside fQ_outside fQ_shut iQ_rows iQ_allRows iQ_columns ++ (WW nW hw lw kw wl_x4 wb_x4 wG_x4)) H := fz_P ht hB9.1
      have hD := fz_sd hP (hB9.2.weaken (fun _ q _ h => hFc q.1 h)) rfl
      have p9 := cj_2_1 (WQ hQ aQ kQ hw fQ_inside fQ_outside fQ_shut iQ_rows iQ_allRows iQ_columns) (WW nW hw lw kw wl_x4 wb_x4 wG_x4)
      have hPc := hP.mem (fun q h => p9.mem_iff.mpr (List.mem_append_left _ h))
      have hDc := (hD.perm p9).left
      have hKc : va_K (dC, dI) vwCl (tW kw) _ := hK.sub [4] rfl
      have hFc := freeG p9 hD hS hA
      refine va_calli (va_runV (As := []) (rest := []) ⟨hx, hb, hml, hown, hts⟩ (m_X8_sign l dC dI nW hw lw kw wl_x4 wb_x4 wG_x4 kR_45 b_wl_x4 b_wb_x4 (by first | with_reducible assumption | omega | (rw [iI_t (by omega) (by omega)]; omega) | decide | assumption) H.size) (cwV 0 hts gwsMX6_tightest_1 rfl rfl rfl hd_yX8_sign_RX8 (by decide +kernel)) (fz_pre (va_recv hK hP (ci := 8) (q0 := 5 + (kR_45)) rfl (apR rfl (WW_o (by omega)))) hPc hKc hDc) rfl rfl hl.1 rfl (lv_room (Nat.le_of_ble_eq_true rfl)) dX6_tightest_18 (by decide +kernel)) hS (fun q _ h => hFc q h) hFc (fun r46 u t9_ H locs ht hvm hw9 hB9 hz1 hk1 hS => ?_)
      have b_r46 := hw9
      try dsimp only at b_r46
      have p8 := p9
      obtain ⟨hP, hD⟩ := frameG p9 p8 hP hD hk1 hFc (fz_P ht hB9.1) hB9.2
      refine W.cut (pc := 69) (fun H locs ls stk => ∃ (wl_j16 : Nat → Int32) (wb_j16 : Nat → Int32) (wG_j16 : Nat → Nat → Int64) (l2_j16 : Int32), (∀ q : Nat, 0 ≤ (wl_j16 q).toInt ∧ (wl_j16 q).toInt ≤ 14) ∧ (∀ q : Nat, 0 ≤ (wb_j16 q).toInt ∧ (wb_j16 q).toInt ≤ 1) ∧ ((-1) ≤ l2_j16.toInt ∧ l2_j16.toInt ≤ 39) ∧ (l2_j16.toInt < iQ_rows.toInt) ∧  stk = [] ∧ va_P (dC, dI) vwCl (WQ hQ aQ kQ hw fQ_inside fQ_outside fQ_shut iQ_rows iQ_allRows iQ_columns ++ (WW nW hw lw kw wl_j16 wb_j16 wG_j16)) H ∧ va_D A (WQ hQ aQ kQ hw fQ_inside fQ_outside fQ_shut iQ_rows iQ_allRows iQ_columns ++ (WW nW hw lw kw wl_j16 wb_j16 wG_j16)) ∧ va_S A s.heap H locs ∧ lv_has ls 5 [(3, .int l3_x4), (2, .int l2_j16), (0, .ref (hQ 0)), (1, .int p1)]) (fun join16 => ?_) ?_
      · refine lv_if_ge (tgt := 69) hx hb dX6_tightest_21 (by decide) (fun c_21 => ?_) (fun c_21 => ?_)
        · have t_21 : r46.toInt ≥ 0 := toI_ge c_21 rfl (by decide : (0 : Int32).toInt = 0)
          have hl : lv_has _ _ ([(3, .int l3_x4), (2, .int l2_x4), (0, .ref (hQ 0)), (1, .int p1)]) := lv_sub hl [0, 1, 2, 3] rfl
          exact join16 _ _ _ _ ⟨wl_x4, wb_x4, wG_x4, l2_x4, b_wl_x4, b_wb_x4, (b_l2_x4), (show l2_x4.toInt < iQ_rows.toInt from by first | assumption | omega | (have h9 : ((-1) : Int32).toInt = -1 := (by decide); omega)), rfl, hP, hD, hS, hl⟩
        · have t_21 : ¬ r46.toInt ≥ 0 := toI_nge c_21 rfl (by decide : (0 : Int32).toInt = 0)
          refine lv_iload_n hx hb dX6_tightest_24 rfl (lv_at hl 1 rfl) ?_
          refine lv_iconst (v := (-1)) hx hb dX6_tightest_25 (by decide) ?_
          refine lv_icmp_ne (tgt := 33) hx hb dX6_tightest_26 (by decide) (fun c_26 => ?_) (fun c_26 => ?_)
          · have t_26 : l2_x4.toInt ≠ (-1) := toI_ne c_26 rfl (by decide : ((-1) : Int32).toInt = (-1))
            refine lv_aload_n hx hb dX6_tightest_33 rfl (lv_at hl 2 rfl) ?_
            refine lv_iload_n hx hb dX6_tightest_34 rfl (lv_at hl 0 rfl) ?_
            refine lv_iload_n hx hb dX6_tightest_35 rfl (lv_at hl 1 rfl) ?_
            refine lv_iload_n hx hb dX6_tightest_36 rfl (lv_at hl 3 rfl) ?_
            have hFc := allFree hD hS hA
            refine va_calli (va_runV (As := [.int l3_x4, .int l2_x4, .int p1]) (rest := []) ⟨hx, hb, hml, hown, hts⟩ (m_X6_compareRoom l dC dI hQ aQ kQ hw fQ_inside fQ_outside fQ_shut iQ_rows iQ_allRows iQ_columns nW lw kw wl_x4 wb_x4 wG_x4 l3_x4 l2_x4 p1 (b_iQ_rows) (b_iQ_allRows) (b_iQ_columns) (by first | with_reducible assumption | omega | assumption) b_wl_x4 b_wb_x4 (by first | exact b_l3_x4 | with_reducible assumption | exact ⟨by omega, by omega⟩ | assumption) (by first | exact b_l2_x4 | with_reducible assumption | exact ⟨by omega, by omega⟩ | assumption) (b_p1) (by first | with_reducible assumption | omega | (rw [iI_t (by omega) (by omega)]; omega) | decide | assumption) (by first | with_reducible assumption | omega | (rw [iI_t (by omega) (by omega)]; omega) | decide | assumption) (by first | with_reducible assumption | omega | (rw [iI_t (by omega) (by omega)]; omega) | decide | assumption) (by first | with_reducible assumption | omega | (rw [iI_t (by omega) (by omega)]; omega) | decide | assumption) H.size) (cwV 3 hts gwsMX6_tightest_2 rfl rfl rfl hd_yX6_compareRoom_RX6 (by decide +kernel)) (fz_pre (va_recv hK hP (ci := 6) (q0 := 0) rfl rfl) hP hK hD) rfl rfl hl.1 rfl (lv_room (Nat.le_of_ble_eq_true rfl)) dX6_tightest_37 (by decide +kernel)) hS (fun q _ h => hFc q h) hFc (fun r50 u t9_ H locs ht hvm hw9 hB9 hz1 hk1 hS => ?_)
            revert u hw9 hB9
            refine fz_p3 ?_
            intro wl_50 wb_50 wG_50 hw9 hB9
            try dsimp only at hw9 hB9
            revert hw9
            refine fz_a2 ?_
            intro b_wl_50 b_wb_50
            have hP : va_P (dC, dI) vwCl (WQ hQ aQ kQ hw fQ_inside fQ_outside fQ_shut iQ_rows iQ_allRows iQ_columns ++ (WW nW hw lw kw wl_50 wb_50 wG_50)) H := fz_P ht hB9.1
            have hD := fz_sd hP (hB9.2.weaken (fun _ q _ h => hFc q.1 h)) rfl
            refine lv_istore hx hb dX6_tightest_40 hl (by decide) rfl (fun ls (hl : lv_has ls _ ([(4, .int r50), (3, .int l3_x4), (2, .int l2_x4), (0, .ref (hQ 0)), (1, .int p1)])) => ?_)
            refine lv_iload hx hb dX6_tightest_42 (lv_at hl 0 rfl) ?_
            refine lv_if_lt (tgt := 67) hx hb dX6_tightest_44 (by decide) (fun c_44 => ?_) (fun c_44 => ?_)
            · have t_44 : r50.toInt < 0 := toI_lt c_44 rfl (by decide : (0 : Int32).toInt = 0)
              refine lv_iload_n hx hb dX6_tightest_67 rfl (lv_at hl 1 rfl) ?_
              refine lv_istore_n hx hb dX6_tightest_68 rfl hl (by decide) rfl (fun ls (hl : lv_has ls _ ([(2, .int l3_x4), (4, .int r50), (3, .int l3_x4), (0, .ref (hQ 0)), (1, .int p1)])) => ?_)
              have hl : lv_has _ _ ([(3, .int l3_x4), (2, .int l3_x4), (0, .ref (hQ 0)), (1, .int p1)]) := lv_sub hl [2, 0, 3, 4] rfl
              exact join16 _ _ _ _ ⟨wl_50, wb_50, wG_50, l3_x4, b_wl_50, b_wb_50, (by first | exact b_l3_x4 | with_reducible assumption | exact ⟨by omega, by omega⟩ | assumption), (show l3_x4.toInt < iQ_rows.toInt from by first | assumption | omega | (have h9 : ((-1) : Int32).toInt = -1 := (by decide); omega)), rfl, hP, hD, hS, hl⟩
            · have t_44 : ¬ r50.toInt < 0 := toI_nlt c_44 rfl (by decide : (0 : Int32).toInt = 0)
              refine lv_iload hx hb dX6_tightest_47 (lv_at hl 0 rfl) ?_
              refine lv_if_ne (tgt := 69) hx hb dX6_tightest_49 (by decide) (fun c_49 => ?_) (fun c_49 => ?_)
              · have t_49 : r50.toInt ≠ 0 := toI_ne c_49 rfl (by decide : (0 : Int32).toInt = 0)
                have hl : lv_has _ _ ([(3, .int l3_x4), (2, .int l2_x4), (0, .ref (hQ 0)), (1, .int p1)]) := lv_sub hl [1, 2, 3, 4] rfl
                exact join16 _ _ _ _ ⟨wl_50, wb_50, wG_50, l2_x4, b_wl_50, b_wb_50, (b_l2_x4), (show l2_x4.toInt < iQ_rows.toInt from by first | assumption | omega | (have h9 : ((-1) : Int32).toInt = -1 := (by decide); omega)), rfl, hP, hD, hS, hl⟩
              · have t_49 : r50.toInt = 0 := toI_nne c_49 rfl (by decide : (0 : Int32).toInt = 0)
                refine lv_aload_n hx hb dX6_tightest_52 rfl (lv_at hl 3 rfl) ?_
                refine va_get (D := (dC, dI)) (ci := 6) (v := .ref (aQ 1)) (C := RX6) (T := TX6) (N := 13) hx hb hts iwsMX6_tightest_in6 hown hK hP 0 rfl rfl 1 (by decide) (hts _ hm_m_X6_tightest_0) (fun _ h9 => h9) rfl dX6_tightest_53 ?_
                refine lv_iload_n hx hb dX6_tightest_56 rfl (lv_at hl 1 rfl) ?_
                refine va_iald (cA := kQ 1) (n := 40) (f := fQ_inside) hx hb hK hP 2 1 rfl rfl (vp_in_iff.mpr ⟨b_l3_x4.1, (by omega)⟩) dX6_tightest_57 ?_
                refine lv_topi (fun v51 hv51 => ?_)
                clear hv51
                refine lv_aload_n hx hb dX6_tightest_58 rfl (lv_at hl 3 rfl) ?_
                refine va_get (D := (dC, dI)) (ci := 6) (v := .ref (aQ 1)) (C := RX6) (T := TX6) (N := 13) hx hb hts iwsMX6_tightest_in6 hown hK hP 0 rfl rfl 1 (by decide) (hts _ hm_m_X6_tightest_0) (fun _ h9 => h9) rfl dX6_tightest_59 ?_
                refine lv_iload_n hx hb dX6_tightest_62 rfl (lv_at hl 2 rfl) ?_
                refine va_iald (cA := kQ 1) (n := 40) (f := fQ_inside) hx hb hK hP 2 1 rfl rfl (vp_in_iff.mpr ⟨(by omega), (Int.lt_of_le_of_lt (b_l2_x4.2) (by decide))⟩) dX6_tightest_63 ?_
                refine lv_topi (fun v52 hv52 => ?_)
                clear hv52
                refine lv_icmp_ge (tgt := 69) hx hb dX6_tightest_64 (by decide) (fun c_64 => ?_) (fun c_64 => ?_)
                · have t_64 : v51.toInt ≥ v52.toInt := toI_ge c_64 rfl rfl
                  have hl : lv_has _ _ ([(3, .int l3_x4), (2, .int l2_x4), (0, .ref (hQ 0)), (1, .int p1)]) := lv_sub hl [1, 2, 3, 4] rfl
                  exact join16 _ _ _ _ ⟨wl_50, wb_50, wG_50, l2_x4, b_wl_50, b_wb_50, (b_l2_x4), (show l2_x4.toInt < iQ_rows.toInt from by first | assumption | omega | (have h9 : ((-1) : Int32).toInt = -1 := (by decide); omega)), rfl, hP, hD, hS, hl⟩
                · have t_64 : ¬ v51.toInt ≥ v52.toInt := toI_nge c_64 rfl rfl
                  refine lv_iload_n hx hb dX6_tightest_67 rfl (lv_at hl 1 rfl) ?_
                  refine lv_istore_n hx hb dX6_tightest_68 rfl hl (by decide) rfl (fun ls (hl : lv_has ls _ ([(2, .int l3_x4), (4, .int r50), (3, .int l3_x4), (0, .ref (hQ 0)), (1, .int p1)])) => ?_)
                  have hl : lv_has _ _ ([(3, .int l3_x4), (2, .int l3_x4), (0, .ref (hQ 0)), (1, .int p1)]) := lv_sub hl [2, 0, 3, 4] rfl
                  exact join16 _ _ _ _ ⟨wl_50, wb_50, wG_50, l3_x4, b_wl_50, b_wb_50, (by first | exact b_l3_x4 | with_reducible assumption | exact ⟨by omega, by omega⟩ | assumption), (show l3_x4.toInt < iQ_rows.toInt from by first | assumption | omega | (have h9 : ((-1) : Int32).toInt = -1 := (by decide); omega)), rfl, hP, hD, hS, hl⟩
          · have t_26 : l2_x4.toInt = (-1) := toI_nne c_26 rfl (by decide : ((-1) : Int32).toInt = (-1))
            refine lv_iconst (v := (-1)) hx hb dX6_tightest_29 (by decide) ?_
            refine lv_goto (tgt := 40) hx hb dX6_tightest_30 (by decide) ?_
            refine lv_istore hx hb dX6_tightest_40 hl (by decide) rfl (fun ls (hl : lv_has ls _ ([(4, .int (-1)), (3, .int l3_x4), (2, .int l2_x4), (0, .ref (hQ 0)), (1, .int p1)])) => ?_)
            refine lv_iload hx hb dX6_tightest_42 (lv_at hl 0 rfl) ?_
            refine lv_if_lt (tgt := 67) hx hb dX6_tightest_44 (by decide) (fun _ => ?_) (fun c9 => absurd (by decide) c9)
            refine lv_iload_n hx hb dX6_tightest_67 rfl (lv_at hl 1 rfl) ?_
            refine lv_istore_n hx hb dX6_tightest_68 rfl hl (by decide) rfl (fun ls (hl : lv_has ls _ ([(2, .int l3_x4), (4, .int (-1)), (3, .int l3_x4), (0, .ref (hQ 0)), (1, .int p1)])) => ?_)
            have hl : lv_has _ _ ([(3, .int l3_x4), (2, .int l3_x4), (0, .ref (hQ 0)), (1, .int p1)]) := lv_sub hl [2, 0, 3, 4] rfl
            exact join16 _ _ _ _ ⟨wl_x4, wb_x4, wG_x4, l3_x4, b_wl_x4, b_wb_x4, (by first | exact b_l3_x4 | with_reducible assumption | exact ⟨by omega, by omega⟩ | assumption), (show l3_x4.toInt < iQ_rows.toInt from by first | assumption | omega | (have h9 : ((-1) : Int32).toInt = -1 := (by decide); omega)), rfl, hP, hD, hS, hl⟩
      · rintro H locs ls stk ⟨wl_j16, wb_j16, wG_j16, l2_j16, b_wl_j16, b_wb_j16, b_l2_j16, hfj, rfl, hP, hD, hS, hl⟩
        refine lv_iinc (v := (iI (l3_x4.toInt + 1))) hx hb dX6_tightest_69 hl (k := 0) rfl (iI_add2 (iI_of _) (by decide : (1 : Int32) = iI 1)) (by decide) rfl (fun ls (hl : lv_has ls _ ([(3, .int (iI (l3_x4.toInt + 1))), (2, .int l2_j16), (0, .ref (hQ 0)), (1, .int p1)])) => ?_)
        refine lv_goto (tgt := 4) hx hb dX6_tightest_72 (by decide) ?_
        have hl : lv_has _ _ ([(3, .int (iI (l3_x4.toInt + 1))), (2, .int l2_j16), (0, .ref (hQ 0)), (1, .int p1)]) := lv_sub hl [0, 1, 2, 3] rfl
        exact ihx4 wl_j16 wb_j16 wG_j16 (iI (l3_x4.toInt + 1)) l2_j16 _ _ _ b_wl_j16 b_wb_j16 (iI_rng (Int.le_trans (by decide) (Int.add_le_add (b_l3_x4.1) (Int.le_refl _))) (by omega) (by decide) (by decide)) (b_l2_j16) (show l2_j16.toInt < iQ_rows.toInt from by first | assumption | omega | (have h9 : ((-1) : Int32).toInt = -1 := (by decide); omega)) (by have e9 : ((iI (l3_x4.toInt + 1))).toInt = (l3_x4.toInt + 1) := (iI_t (Int.le_trans (by decide) (Int.add_le_add (b_l3_x4.1) (Int.le_refl _))) (Int.le_trans (Int.add_le_add (b_l3_x4.2) (Int.le_refl _)) (by decide))); omega) hP hD hS hl
theorem dX6_changeCell_0 : decode cX6_changeCell 0 = .ok (.aload_n 1, 1) := dk_43 (by decide +kernel)
theorem dX6_changeCell_1 : decode cX6_changeCell 1 = .ok (.invokevirtual 142, 3) := dk_182 (by decide +kernel)
theorem dX6_changeCell_4 : decode cX6_changeCell 4 = .ok (.ifCond .eq 21, 3) := dk_153 (by decide +kernel)
theorem dX6_changeCell_7 : decode cX6_changeCell 7 = .ok (.aload_n 2, 1) := dk_44 (by decide +kernel)
theorem dX6_changeCell_8 : decode cX6_changeCell 8 = .ok (.invokevirtual 142, 3) := dk_182 (by decide +kernel)
theorem dX6_changeCell_11 : decode cX6_changeCell 11 = .ok (.ifCond .eq 14, 3) := dk_153 (by decide +kernel)
theorem dX6_changeCell_14 : decode cX6_changeCell 14 = .ok (.aload_n 3, 1) := dk_45 (by decide +kernel)
theorem dX6_changeCell_15 : decode cX6_changeCell 15 = .ok (.invokevirtual 142, 3) := dk_182 (by decide +kernel)
theorem dX6_changeCell_18 : decode cX6_changeCell 18 = .ok (.ifCond .eq 7, 3) := dk_153 (by decide +kernel)
theorem dX6_changeCell_21 : decode cX6_changeCell 21 = .ok (.iconst 1, 1) := dk_4 (by decide +kernel)
theorem dX6_changeCell_22 : decode cX6_changeCell 22 = .ok (.goto 4, 3) := dk_167 (by decide +kernel)
theorem dX6_changeCell_25 : decode cX6_changeCell 25 = .ok (.iconst 0, 1) := dk_3 (by decide +kernel)
theorem dX6_changeCell_26 : decode cX6_changeCell 26 = .ok (.istore 5, 2) := dk_54 (by decide +kernel)
theorem dX6_changeCell_28 : decode cX6_changeCell 28 = .ok (.iload 5, 2) := dk_21 (by decide +kernel)
theorem dX6_changeCell_30 : decode cX6_changeCell 30 = .ok (.ifCond .eq 93, 3) := dk_153 (by decide +kernel)
theorem dX6_changeCell_33 : decode cX6_changeCell 33 = .ok (.aload_n 0, 1) := dk_42 (by decide +kernel)
theorem dX6_changeCell_34 : decode cX6_changeCell 34 = .ok (.getfield 33, 3) := dk_180 (by decide +kernel)
theorem dX6_changeCell_37 : decode cX6_changeCell 37 = .ok (.invokevirtual 142, 3) := dk_182 (by decide +kernel)
theorem dX6_changeCell_40 : decode cX6_changeCell 40 = .ok (.ifCond .eq 83, 3) := dk_153 (by decide +kernel)
theorem dX6_changeCell_43 : decode cX6_changeCell 43 = .ok (.aload_n 0, 1) := dk_42 (by decide +kernel)
theorem dX6_changeCell_44 : decode cX6_changeCell 44 = .ok (.getfield 29, 3) := dk_180 (by decide +kernel)
theorem dX6_changeCell_47 : decode cX6_changeCell 47 = .ok (.invokevirtual 142, 3) := dk_182 (by decide +kernel)
theorem dX6_changeCell_50 : decode cX6_changeCell 50 = .ok (.ifCond .eq 73, 3) := dk_153 (by decide +kernel)
theorem dX6_changeCell_53 : decode cX6_changeCell 53 = .ok (.aload_n 2, 1) := dk_44 (by decide +kernel)
theorem dX6_changeCell_54 : decode cX6_changeCell 54 = .ok (.invokevirtual 146, 3) := dk_182 (by decide +kernel)
theorem dX6_changeCell_57 : decode cX6_changeCell 57 = .ok (.aload_n 3, 1) := dk_45 (by decide +kernel)
theorem dX6_changeCell_58 : decode cX6_changeCell 58 = .ok (.invokevirtual 146, 3) := dk_182 (by decide +kernel)
theorem dX6_changeCell_61 : decode cX6_changeCell 61 = .ok (.lmul, 1) := dk_105 (by decide +kernel)
theorem dX6_changeCell_62 : decode cX6_changeCell 62 = .ok (.lstore 6, 2) := dk_55 (by decide +kernel)
theorem dX6_changeCell_64 : decode cX6_changeCell 64 = .ok (.aload_n 1, 1) := dk_43 (by decide +kernel)
theorem dX6_changeCell_65 : decode cX6_changeCell 65 = .ok (.invokevirtual 146, 3) := dk_182 (by decide +kernel)
theorem dX6_changeCell_68 : decode cX6_changeCell 68 = .ok (.aload_n 0, 1) := dk_42 (by decide +kernel)
theorem dX6_changeCell_69 : decode cX6_changeCell 69 = .ok (.getfield 33, 3) := dk_180 (by decide +kernel)
theorem dX6_changeCell_72 : decode cX6_changeCell 72 = .ok (.invokevirtual 146, 3) := dk_182 (by decide +kernel)
theorem dX6_changeCell_75 : decode cX6_changeCell 75 = .ok (.lmul, 1) := dk_105 (by decide +kernel)
theorem dX6_changeCell_76 : decode cX6_changeCell 76 = .ok (.iload 4, 2) := dk_21 (by decide +kernel)
theorem dX6_changeCell_78 : decode cX6_changeCell 78 = .ok (.ifCond .eq 8, 3) := dk_153 (by decide +kernel)
theorem dX6_changeCell_81 : decode cX6_changeCell 81 = .ok (.lload 6, 2) := dk_22 (by decide +kernel)
theorem dX6_changeCell_83 : decode cX6_changeCell 83 = .ok (.goto 6, 3) := dk_167 (by decide +kernel)
theorem dX6_changeCell_86 : decode cX6_changeCell 86 = .ok (.lload 6, 2) := dk_22 (by decide +kernel)
theorem dX6_changeCell_88 : decode cX6_changeCell 88 = .ok (.lneg, 1) := dk_117 (by decide +kernel)
theorem dX6_changeCell_89 : decode cX6_changeCell 89 = .ok (.ladd, 1) := dk_97 (by decide +kernel)
theorem dX6_changeCell_90 : decode cX6_changeCell 90 = .ok (.lstore 8, 2) := dk_55 (by decide +kernel)
theorem dX6_changeCell_92 : decode cX6_changeCell 92 = .ok (.aload_n 0, 1) := dk_42 (by decide +kernel)
theorem dX6_changeCell_93 : decode cX6_changeCell 93 = .ok (.getfield 29, 3) := dk_180 (by decide +kernel)
theorem dX6_changeCell_96 : decode cX6_changeCell 96 = .ok (.invokevirtual 146, 3) := dk_182 (by decide +kernel)
theorem dX6_changeCell_99 : decode cX6_changeCell 99 = .ok (.lstore 10, 2) := dk_55 (by decide +kernel)
theorem dX6_changeCell_101 : decode cX6_changeCell 101 = .ok (.aload_n 1, 1) := dk_43 (by decide +kernel)
theorem dX6_changeCell_102 : decode cX6_changeCell 102 = .ok (.lload 10, 2) := dk_22 (by decide +kernel)
theorem dX6_changeCell_104 : decode cX6_changeCell 104 = .ok (.lconst 0, 1) := dk_9 (by decide +kernel)
theorem dX6_changeCell_105 : decode cX6_changeCell 105 = .ok (.lcmp, 1) := dk_148 (by decide +kernel)
theorem dX6_changeCell_106 : decode cX6_changeCell 106 = .ok (.ifCond .ne 8, 3) := dk_154 (by decide +kernel)
theorem dX6_changeCell_109 : decode cX6_changeCell 109 = .ok (.lload 8, 2) := dk_22 (by decide +kernel)
theorem dX6_changeCell_111 : decode cX6_changeCell 111 = .ok (.goto 8, 3) := dk_167 (by decide +kernel)
theorem dX6_changeCell_114 : decode cX6_changeCell 114 = .ok (.lload 8, 2) := dk_22 (by decide +kernel)
theorem dX6_changeCell_116 : decode cX6_changeCell 116 = .ok (.lload 10, 2) := dk_22 (by decide +kernel)
theorem dX6_changeCell_118 : decode cX6_changeCell 118 = .ok (.ldiv, 1) := dk_109 (by decide +kernel)
theorem dX6_changeCell_119 : decode cX6_changeCell 119 = .ok (.invokevirtual 64, 3) := dk_182 (by decide +kernel)
theorem dX6_changeCell_122 : decode cX6_changeCell 122 = .ok (.return_, 1) := dk_177 (by decide +kernel)
theorem dX6_changeCell_123 : decode cX6_changeCell 123 = .ok (.aload_n 0, 1) := dk_42 (by decide +kernel)
theorem dX6_changeCell_124 : decode cX6_changeCell 124 = .ok (.getfield 36, 3) := dk_180 (by decide +kernel)
theorem dX6_changeCell_127 : decode cX6_changeCell 127 = .ok (.aload_n 1, 1) := dk_43 (by decide +kernel)
theorem dX6_changeCell_128 : decode cX6_changeCell 128 = .ok (.aload_n 0, 1) := dk_42 (by decide +kernel)
theorem dX6_changeCell_129 : decode cX6_changeCell 129 = .ok (.getfield 33, 3) := dk_180 (by decide +kernel)
theorem dX6_changeCell_132 : decode cX6_changeCell 132 = .ok (.invokevirtual 120, 3) := dk_182 (by decide +kernel)
theorem dX6_changeCell_135 : decode cX6_changeCell 135 = .ok (.aload_n 0, 1) := dk_42 (by decide +kernel)
theorem dX6_changeCell_136 : decode cX6_changeCell 136 = .ok (.getfield 39, 3) := dk_180 (by decide +kernel)
theorem dX6_changeCell_139 : decode cX6_changeCell 139 = .ok (.aload_n 2, 1) := dk_44 (by decide +kernel)
theorem dX6_changeCell_140 : decode cX6_changeCell 140 = .ok (.aload_n 3, 1) := dk_45 (by decide +kernel)
theorem dX6_changeCell_141 : decode cX6_changeCell 141 = .ok (.invokevirtual 120, 3) := dk_182 (by decide +kernel)
theorem dX6_changeCell_144 : decode cX6_changeCell 144 = .ok (.iload 4, 2) := dk_21 (by decide +kernel)
theorem dX6_changeCell_146 : decode cX6_changeCell 146 = .ok (.ifCond .ne 10, 3) := dk_154 (by decide +kernel)
theorem dX6_changeCell_149 : decode cX6_changeCell 149 = .ok (.aload_n 0, 1) := dk_42 (by decide +kernel)
theorem dX6_changeCell_150 : decode cX6_changeCell 150 = .ok (.getfield 39, 3) := dk_180 (by decide +kernel)
theorem dX6_changeCell_153 : decode cX6_changeCell 153 = .ok (.invokevirtual 124, 3) := dk_182 (by decide +kernel)
theorem dX6_changeCell_156 : decode cX6_changeCell 156 = .ok (.aload_n 0, 1) := dk_42 (by decide +kernel)
theorem dX6_changeCell_157 : decode cX6_changeCell 157 = .ok (.getfield 36, 3) := dk_180 (by decide +kernel)
theorem dX6_changeCell_160 : decode cX6_changeCell 160 = .ok (.aload_n 0, 1) := dk_42 (by decide +kernel)
theorem dX6_changeCell_161 : decode cX6_changeCell 161 = .ok (.getfield 39, 3) := dk_180 (by decide +kernel)
theorem dX6_changeCell_164 : decode cX6_changeCell 164 = .ok (.invokevirtual 127, 3) := dk_182 (by decide +kernel)
theorem dX6_changeCell_167 : decode cX6_changeCell 167 = .ok (.aload_n 0, 1) := dk_42 (by decide +kernel)
theorem dX6_changeCell_168 : decode cX6_changeCell 168 = .ok (.getfield 36, 3) := dk_180 (by decide +kernel)
theorem dX6_changeCell_171 : decode cX6_changeCell 171 = .ok (.aload_n 0, 1) := dk_42 (by decide +kernel)
theorem dX6_changeCell_172 : decode cX6_changeCell 172 = .ok (.getfield 29, 3) := dk_180 (by decide +kernel)
theorem dX6_changeCell_175 : decode cX6_changeCell 175 = .ok (.aload_n 0, 1) := dk_42 (by decide +kernel)
theorem dX6_changeCell_176 : decode cX6_changeCell 176 = .ok (.getfield 42, 3) := dk_180 (by decide +kernel)
theorem dX6_changeCell_179 : decode cX6_changeCell 179 = .ok (.aload_n 0, 1) := dk_42 (by decide +kernel)
theorem dX6_changeCell_180 : decode cX6_changeCell 180 = .ok (.getfield 45, 3) := dk_180 (by decide +kernel)
theorem dX6_changeCell_183 : decode cX6_changeCell 183 = .ok (.invokevirtual 150, 3) := dk_182 (by decide +kernel)
theorem dX6_changeCell_186 : decode cX6_changeCell 186 = .ok (.aload_n 1, 1) := dk_43 (by decide +kernel)
theorem dX6_changeCell_187 : decode cX6_changeCell 187 = .ok (.aload_n 0, 1) := dk_42 (by decide +kernel)
theorem dX6_changeCell_188 : decode cX6_changeCell 188 = .ok (.getfield 36, 3) := dk_180 (by decide +kernel)
theorem dX6_changeCell_191 : decode cX6_changeCell 191 = .ok (.invokevirtual 135, 3) := dk_182 (by decide +kernel)
theorem dX6_changeCell_194 : decode cX6_changeCell 194 = .ok (.return_, 1) := dk_177 (by decide +kernel)
def wsMX6_changeCell : List Cond := .code yX6_changeCell cX6_changeCell 12 none :: ([.fieldLink RX6 36 "OptimaWorks$Tableau" "first" "LOptimaWorks$Whole;", .fieldLink RX6 33 "OptimaWorks$Tableau" "turning" "LOptimaWorks$Whole;", .fieldLink RX6 39 "OptimaWorks$Tableau" "second" "LOptimaWorks$Whole;", .fieldLink RX6 29 "OptimaWorks$Tableau" "under" "LOptimaWorks$Whole;", .fieldLink RX6 42 "OptimaWorks$Tableau" "rest" "LOptimaWorks$Whole;", .fieldLink RX6 45 "OptimaWorks$Tableau" "spare" "LOptimaWorks$Whole;"] ++ wsX60 ++ (wsV RX6 142 RX8 yX8_isSmall wsMX8_isSmall) ++ (wsV RX6 120 RX8 yX8_setProduct wsMX8_setProduct) ++ (wsV RX6 124 RX8 yX8_negate wsMX8_negate) ++ (wsV RX6 127 RX8 yX8_add wsMX8_add) ++ (wsV RX6 150 RX8 yX8_divide wsMX8_divide) ++ (wsV RX6 135 RX8 yX8_copy wsMX8_copy) ++ (wsV RX6 146 RX8 yX8_small wsMX8_small) ++ (wsV RX6 64 RX8 yX8_setLong wsMX8_setLong))
theorem iwsMX6_changeCell_in6 : ∀ w ∈ wsX60, w ∈ wsMX6_changeCell := fun _ h => List.mem_cons_of_mem _ (List.mem_append_left _ (List.mem_append_left _ (List.mem_append_left _ (List.mem_append_left _ (List.mem_append_left _ (List.mem_append_left _ (List.mem_append_left _ (List.mem_append_left _ (List.mem_append_right _ h)))))))))
theorem gwsMX6_changeCell_0 : GoodIn wsMX6_changeCell (wsV RX6 142 RX8 yX8_isSmall wsMX8_isSmall) := goodIn_sub (fun _ h => List.mem_cons_of_mem _ (List.mem_append_left _ (List.mem_append_left _ (List.mem_append_left _ (List.mem_append_left _ (List.mem_append_left _ (List.mem_append_left _ (List.mem_append_left _ (List.mem_append_right _ h))))))))) (gdV (by decide +kernel) gdwsMX8_isSmall)
theorem gwsMX6_changeCell_1 : GoodIn wsMX6_changeCell (wsV RX6 120 RX8 yX8_setProduct wsMX8_setProduct) := goodIn_sub (fun _ h => List.mem_cons_of_mem _ (List.mem_append_left _ (List.mem_append_left _ (List.mem_append_left _ (List.mem_append_left _ (List.mem_append_left _ (List.mem_append_left _ (List.mem_append_right _ h)))))))) (gdV (by decide +kernel) gdwsMX8_setProduct)
theorem gwsMX6_changeCell_2 : GoodIn wsMX6_changeCell (wsV RX6 124 RX8 yX8_negate wsMX8_negate) := goodIn_sub (fun _ h => List.mem_cons_of_mem _ (List.mem_append_left _ (List.mem_append_left _ (List.mem_append_left _ (List.mem_append_left _ (List.mem_append_left _ (List.mem_append_right _ h))))))) (gdV (by decide +kernel) gdwsMX8_negate)
theorem gwsMX6_changeCell_3 : GoodIn wsMX6_changeCell (wsV RX6 127 RX8 yX8_add wsMX8_add) := goodIn_sub (fun _ h => List.mem_cons_of_mem _ (List.mem_append_left _ (List.mem_append_left _ (List.mem_append_left _ (List.mem_append_left _ (List.mem_append_right _ h)))))) (gdV (by decide +kernel) gdwsMX8_add)
theorem gwsMX6_changeCell_4 : GoodIn wsMX6_changeCell (wsV RX6 150 RX8 yX8_divide wsMX8_divide) := goodIn_sub (fun _ h => List.mem_cons_of_mem _ (List.mem_append_left _ (List.mem_append_left _ (List.mem_append_left _ (List.mem_append_right _ h))))) (gdV (by decide +kernel) gdwsMX8_divide)
theorem gwsMX6_changeCell_5 : GoodIn wsMX6_changeCell (wsV RX6 135 RX8 yX8_copy wsMX8_copy) := goodIn_sub (fun _ h => List.mem_cons_of_mem _ (List.mem_append_left _ (List.mem_append_left _ (List.mem_append_right _ h)))) (gdV (by decide +kernel) gdwsMX8_copy)
theorem gwsMX6_changeCell_6 : GoodIn wsMX6_changeCell (wsV RX6 146 RX8 yX8_small wsMX8_small) := goodIn_sub (fun _ h => List.mem_cons_of_mem _ (List.mem_append_left _ (List.mem_append_right _ h))) (gdV (by decide +kernel) gdwsMX8_small)
theorem gwsMX6_changeCell_7 : GoodIn wsMX6_changeCell (wsV RX6 64 RX8 yX8_setLong wsMX8_setLong) := goodIn_sub (fun _ h => List.mem_cons_of_mem _ (List.mem_append_right _ h)) (gdV (by decide +kernel) gdwsMX8_setLong)
theorem gdwsMX6_changeCell : wsMX6_changeCell.all goodWord = true := gdC rfl (gdA (gdA (gdA (gdA (gdA (gdA (gdA (gdA (gdA (by decide +kernel : ([.fieldLink RX6 36 "OptimaWorks$Tableau" "first" "LOptimaWorks$Whole;", .fieldLink RX6 33 "OptimaWorks$Tableau" "turning" "LOptimaWorks$Whole;", .fieldLink RX6 39 "OptimaWorks$Tableau" "second" "LOptimaWorks$Whole;", .fieldLink RX6 29 "OptimaWorks$Tableau" "under" "LOptimaWorks$Whole;", .fieldLink RX6 42 "OptimaWorks$Tableau" "rest" "LOptimaWorks$Whole;", .fieldLink RX6 45 "OptimaWorks$Tableau" "spare" "LOptimaWorks$Whole;"] : List Cond).all goodWord = true) gdwsX60) (gdV (by decide +kernel) gdwsMX8_isSmall)) (gdV (by decide +kernel) gdwsMX8_setProduct)) (gdV (by decide +kernel) gdwsMX8_negate)) (gdV (by decide +kernel) gdwsMX8_add)) (gdV (by decide +kernel) gdwsMX8_divide)) (gdV (by decide +kernel) gdwsMX8_copy)) (gdV (by decide +kernel) gdwsMX8_small)) (gdV (by decide +kernel) gdwsMX8_setLong))
theorem hm_m_X6_changeCell_0 : (.fieldLink RX6 36 "OptimaWorks$Tableau" "first" "LOptimaWorks$Whole;" : Cond) ∈ wsMX6_changeCell := by decide +kernel
theorem hm_m_X6_changeCell_1 : (.fieldLink RX6 33 "OptimaWorks$Tableau" "turning" "LOptimaWorks$Whole;" : Cond) ∈ wsMX6_changeCell := by decide +kernel
theorem hm_m_X6_changeCell_2 : (.fieldLink RX6 39 "OptimaWorks$Tableau" "second" "LOptimaWorks$Whole;" : Cond) ∈ wsMX6_changeCell := by decide +kernel
theorem hm_m_X6_changeCell_3 : (.fieldLink RX6 29 "OptimaWorks$Tableau" "under" "LOptimaWorks$Whole;" : Cond) ∈ wsMX6_changeCell := by decide +kernel
theorem hm_m_X6_changeCell_4 : (.fieldLink RX6 42 "OptimaWorks$Tableau" "rest" "LOptimaWorks$Whole;" : Cond) ∈ wsMX6_changeCell := by decide +kernel
theorem hm_m_X6_changeCell_5 : (.fieldLink RX6 45 "OptimaWorks$Tableau" "spare" "LOptimaWorks$Whole;" : Cond) ∈ wsMX6_changeCell := by decide +kernel
set_option maxHeartbeats 4000000 in
set_option maxRecDepth 100000 in
/-- a cell is changed -/
theorem m_X6_changeCell (l : Launch) (dC : Nat → ClassId) (dI : Nat → Nat → Nat) (hQ : Nat → Nat) (aQ : Nat → Nat) (kQ : Nat → ClassId) (hw : Nat → Nat) (fQ_inside : Nat → Int32) (fQ_outside : Nat → Int32) (fQ_shut : Nat → Int32) (iQ_rows : Int32) (iQ_allRows : Int32) (iQ_columns : Int32) (nW : Nat) (lw : Nat → Nat) (kw : ClassId) (wl : Nat → Int32) (wb : Nat → Int32) (wG : Nat → Nat → Int64) (k1 : Nat) (k2 : Nat) (k3 : Nat) (p4 : Int32) (b_iQ_rows : 0 ≤ iQ_rows.toInt ∧ iQ_rows.toInt ≤ 40) (b_iQ_allRows : 0 ≤ iQ_allRows.toInt ∧ iQ_allRows.toInt ≤ 40) (b_iQ_columns : 0 ≤ iQ_columns.toInt ∧ iQ_columns.toInt ≤ 40) (b_tb : TbO iQ_rows iQ_allRows iQ_columns) (b_wl : ∀ q : Nat, 0 ≤ (wl q).toInt ∧ (wl q).toInt ≤ 14) (b_wb : ∀ q : Nat, 0 ≤ (wb q).toInt ∧ (wb q).toInt ≤ 1) (hnW : 406 ≤ nW) (hk1 : k1 < 400) (hk2 : k2 < 400) (hk3 : k3 < 400) (sz : Nat) : Met l yX6_changeCell wsMX6_changeCell ({ frames := 3, cells := 0, slots := 0, locals := 68 }) (va_Pc [.ref (hQ 0), .ref (hw k1), .ref (hw k2), .ref (hw k3), .int p4] (fun U => U.heap.size = sz ∧ va_P (dC, dI) vwCl (WQ hQ aQ kQ hw fQ_inside fQ_outside fQ_shut iQ_rows iQ_allRows iQ_columns ++ (WW nW hw lw kw wl wb wG)) U.heap ∧ va_K (dC, dI) vwCl (tQ kQ ++ (tW kw)) U ∧ va_D (fun _ => True) (WQ hQ aQ kQ hw fQ_inside fQ_outside fQ_shut iQ_rows iQ_allRows iQ_columns ++ (WW nW hw lw kw wl wb wG)))) (va_Qv (fun (u : (Nat → Int32) × (Nat → Int32) × (Nat → Nat → Int64)) => (∀ q : Nat, 0 ≤ ((u.1) q).toInt ∧ ((u.1) q).toInt ≤ 14) ∧ (∀ q : Nat, 0 ≤ ((u.2.1) q).toInt ∧ ((u.2.1) q).toInt ≤ 1)) (fun (u : (Nat → Int32) × (Nat → Int32) × (Nat → Nat → Int64)) t => va_P (dC, dI) vwCl (WQ hQ aQ kQ hw fQ_inside fQ_outside fQ_shut iQ_rows iQ_allRows iQ_columns ++ (WW nW hw lw kw (u.1) (u.2.1) (u.2.2))) t.heap ∧ va_D (va_A (WQ hQ aQ kQ hw fQ_inside fQ_outside fQ_shut iQ_rows iQ_allRows iQ_columns ++ (WW nW hw lw kw wl wb wG)) sz) (WQ hQ aQ kQ hw fQ_inside fQ_outside fQ_shut iQ_rows iQ_allRows iQ_columns ++ (WW nW hw lw kw (u.1) (u.2.1) (u.2.2)))) (va_A (WQ hQ aQ kQ hw fQ_inside fQ_outside fQ_shut iQ_rows iQ_allRows iQ_columns ++ (WW nW hw lw kw wl wb wG)) sz)) 0 0 (va_A (WQ hQ aQ kQ hw fQ_inside fQ_outside fQ_shut iQ_rows iQ_allRows iQ_columns ++ (WW nW hw lw kw wl wb wG)) sz) := by
  refine Met.ofW (cc := cX6_changeCell) (maxL := 12) (ret := none) (by decide) rfl ?_
  intro p e s m args below meth c s₁ B hml hv
  obtain ⟨rfl, hsz, hP, hK, hD0⟩ := hv
  have hx := B.exec
  have hb := B.bytes
  have hr := B.returns
  have hts := atoms_spec (ws := wsMX6_changeCell) B.pre
  have hown : s.vm.findClass RX6 = some m.cls := findClass_of_methodNamed B.named
  have hlocks := B.notSynchronized
  subst hsz
  have hD := hD0.self (sz := s.heap.size)
  generalize hAe : va_A (WQ hQ aQ kQ hw fQ_inside fQ_outside fQ_shut iQ_rows iQ_allRows iQ_columns ++ (WW nW hw lw kw wl wb wG)) s.heap.size = A at hD ⊢
  have hA : ∀ q : Nat, s.heap.size ≤ q → A q := fun q h => by rw [← hAe]; exact Or.inr h
  have hS : va_S A s.heap s.heap [] := va_S.rf
  have hl := lv_entry ([.ref (hQ 0), .ref (hw k1), .ref (hw k2), .ref (hw k3), .int p4]) (n := 12) (Nat.le_of_ble_eq_true rfl)
  rw [lg_entry_eq]
  generalize (lg_sl ([.ref (hQ 0), .ref (hw k1), .ref (hw k2), .ref (hw k3), .int p4]) ++ List.replicate (12 - (lg_sl ([.ref (hQ 0), .ref (hw k1), .ref (hw k2), .ref (hw k3), .int p4])).length) Slot.unset).toArray = ls at hl ⊢
  have hl : lv_has ls 12 [(0, .ref (hQ 0)), (1, .ref (hw k1)), (2, .ref (hw k2)), (3, .ref (hw k3)), (4, .int p4)] := hl
  have hTb := b_tb.1
  refine lv_aload_n hx hb dX6_changeCell_0 rfl (lv_at hl 1 rfl) ?_
  have p9 := cj_2_1 (WQ hQ aQ kQ hw fQ_inside fQ_outside fQ_shut iQ_rows iQ_allRows iQ_columns) (WW nW hw lw kw wl wb wG)
  have hPc := hP.mem (fun q h => p9.mem_iff.mpr (List.mem_append_left _ h))
  have hDc := (hD.perm p9).left
  have hKc : va_K (dC, dI) vwCl (tW kw) _ := hK.sub [4] rfl
  have hFc := freeG p9 hD hS hA
  refine va_calli (va_runV (As := []) (rest := []) ⟨hx, hb, hml, hown, hts⟩ (m_X8_isSmall l dC dI nW hw lw kw wl wb wG k1 b_wl b_wb (by first | with_reducible assumption | omega | (rw [iI_t (by omega) (by omega)]; omega) | decide | assumption) s.heap.size) (cwV 0 hts gwsMX6_changeCell_0 rfl rfl rfl hd_yX8_isSmall_RX8 (by decide +kernel)) (fz_pre (va_recv hK hP (ci := 8) (q0 := 5 + (k1)) rfl (apR rfl (WW_o (by omega)))) hPc hKc hDc) rfl rfl hl.1 rfl (lv_room (Nat.le_of_ble_eq_true rfl)) dX6_changeCell_1 (by decide +kernel)) hS (fun q _ h => hFc q h) hFc (fun r1 u t9_ H locs ht hvm hw9 hB9 hz1 hk1 hS => ?_)
  have b_r1 := hw9
  try dsimp only at b_r1
  have p8 := p9
  obtain ⟨hP, hD⟩ := frameG p9 p8 hP hD hk1 hFc (fz_P ht hB9.1) hB9.2
  refine W.cut (pc := 26) (fun H locs ls stk => ∃ (k0_j7 : Int32), (0 ≤ k0_j7.toInt ∧ k0_j7.toInt ≤ 1) ∧  stk = [.int k0_j7] ∧ va_P (dC, dI) vwCl (WQ hQ aQ kQ hw fQ_inside fQ_outside fQ_shut iQ_rows iQ_allRows iQ_columns ++ (WW nW hw lw kw wl wb wG)) H ∧ va_D A (WQ hQ aQ kQ hw fQ_inside fQ_outside fQ_shut iQ_rows iQ_allRows iQ_columns ++ (WW nW hw lw kw wl wb wG)) ∧ va_S A s.heap H locs ∧ lv_has ls 12 [(0, .ref (hQ 0)), (1, .ref (hw k1)), (2, .ref (hw k2)), (3, .ref (hw k3)), (4, .int p4)]) (fun join7 => ?_) ?_
  · refine lv_if_eq (tgt := 25) hx hb dX6_changeCell_4 (by decide) (fun c_4 => ?_) (fun c_4 => ?_)
    · have t_4 : r1.toInt = 0 := toI_eq c_4 rfl (by decide : (0 : Int32).toInt = 0)
      refine lv_iconst (v := 0) hx hb dX6_changeCell_25 (by decide) ?_
      have hl : lv_has _ _ ([(0, .ref (hQ 0)), (1, .ref (hw k1)), (2, .ref (hw k2)), (3, .ref (hw k3)), (4, .int p4)]) := lv_sub hl [0, 1, 2, 3, 4] rfl
      exact join7 _ _ _ _ ⟨0, (show 0 ≤ (0 : Int32).toInt ∧ (0 : Int32).toInt ≤ 1 from by decide), rfl, hP, hD, hS, hl⟩
    · have t_4 : ¬ r1.toInt = 0 := toI_neq c_4 rfl (by decide : (0 : Int32).toInt = 0)
      refine lv_aload_n hx hb dX6_changeCell_7 rfl (lv_at hl 2 rfl) ?_
      have p9 := cj_2_1 (WQ hQ aQ kQ hw fQ_inside fQ_outside fQ_shut iQ_rows iQ_allRows iQ_columns) (WW nW hw lw kw wl wb wG)
      have hPc := hP.mem (fun q h => p9.mem_iff.mpr (List.mem_append_left _ h))
      have hDc := (hD.perm p9).left
      have hKc : va_K (dC, dI) vwCl (tW kw) _ := hK.sub [4] rfl
      have hFc := freeG p9 hD hS hA
      refine va_calli (va_runV (As := []) (rest := []) ⟨hx, hb, hml, hown, hts⟩ (m_X8_isSmall l dC dI nW hw lw kw wl wb wG k2 b_wl b_wb (by first | with_reducible assumption | omega | (rw [iI_t (by omega) (by omega)]; omega) | decide | assumption) H.size) (cwV 0 hts gwsMX6_changeCell_0 rfl rfl rfl hd_yX8_isSmall_RX8 (by decide +kernel)) (fz_pre (va_recv hK hP (ci := 8) (q0 := 5 + (k2)) rfl (apR rfl (WW_o (by omega)))) hPc hKc hDc) rfl rfl hl.1 rfl (lv_room (Nat.le_of_ble_eq_true rfl)) dX6_changeCell_8 (by decide +kernel)) hS (fun q _ h => hFc q h) hFc (fun r4 u t9_ H locs ht hvm hw9 hB9 hz1 hk1 hS => ?_)
      have b_r4 := hw9
      try dsimp only at b_r4
      have p8 := p9
      obtain ⟨hP, hD⟩ := frameG p9 p8 hP hD hk1 hFc (fz_P ht hB9.1) hB9.2
      refine lv_if_eq (tgt := 25) hx hb dX6_changeCell_11 (by decide) (fun c_11 => ?_) (fun c_11 => ?_)
      · have t_11 : r4.toInt = 0 := toI_eq c_11 rfl (by decide : (0 : Int32).toInt = 0)
        refine lv_iconst (v := 0) hx hb dX6_changeCell_25 (by decide) ?_
        have hl : lv_has _ _ ([(0, .ref (hQ 0)), (1, .ref (hw k1)), (2, .ref (hw k2)), (3, .ref (hw k3)), (4, .int p4)]) := lv_sub hl [0, 1, 2, 3, 4] rfl
        exact join7 _ _ _ _ ⟨0, (show 0 ≤ (0 : Int32).toInt ∧ (0 : Int32).toInt ≤ 1 from by decide), rfl, hP, hD, hS, hl⟩
      · have t_11 : ¬ r4.toInt = 0 := toI_neq c_11 rfl (by decide : (0 : Int32).toInt = 0)
        refine lv_aload_n hx hb dX6_changeCell_14 rfl (lv_at hl 3 rfl) ?_
        have p9 := cj_2_1 (WQ hQ aQ kQ hw fQ_inside fQ_outside fQ_shut iQ_rows iQ_allRows iQ_columns) (WW nW hw lw kw wl wb wG)
        have hPc := hP.mem (fun q h => p9.mem_iff.mpr (List.mem_append_left _ h))
        have hDc := (hD.perm p9).left
        have hKc : va_K (dC, dI) vwCl (tW kw) _ := hK.sub [4] rfl
        have hFc := freeG p9 hD hS hA
        refine va_calli (va_runV (As := []) (rest := []) ⟨hx, hb, hml, hown, hts⟩ (m_X8_isSmall l dC dI nW hw lw kw wl wb wG k3 b_wl b_wb (by first | with_reducible assumption | omega | (rw [iI_t (by omega) (by omega)]; omega) | decide | assumption) H.size) (cwV 0 hts gwsMX6_changeCell_0 rfl rfl rfl hd_yX8_isSmall_RX8 (by decide +kernel)) (fz_pre (va_recv hK hP (ci := 8) (q0 := 5 + (k3)) rfl (apR rfl (WW_o (by omega)))) hPc hKc hDc) rfl rfl hl.1 rfl (lv_room (Nat.le_of_ble_eq_true rfl)) dX6_changeCell_15 (by decide +kernel)) hS (fun q _ h => hFc q h) hFc (fun r5 u t9_ H locs ht hvm hw9 hB9 hz1 hk1 hS => ?_)
        have b_r5 := hw9
        try dsimp only at b_r5
        have p8 := p9
        obtain ⟨hP, hD⟩ := frameG p9 p8 hP hD hk1 hFc (fz_P ht hB9.1) hB9.2
        refine lv_if_eq (tgt := 25) hx hb dX6_changeCell_18 (by decide) (fun c_18 => ?_) (fun c_18 => ?_)
        · have t_18 : r5.toInt = 0 := toI_eq c_18 rfl (by decide : (0 : Int32).toInt = 0)
          refine lv_iconst (v := 0) hx hb dX6_changeCell_25 (by decide) ?_
          have hl : lv_has _ _ ([(0, .ref (hQ 0)), (1, .ref (hw k1)), (2, .ref (hw k2)), (3, .ref (hw k3)), (4, .int p4)]) := lv_sub hl [0, 1, 2, 3, 4] rfl
          exact join7 _ _ _ _ ⟨0, (show 0 ≤ (0 : Int32).toInt ∧ (0 : Int32).toInt ≤ 1 from by decide), rfl, hP, hD, hS, hl⟩
        · have t_18 : ¬ r5.toInt = 0 := toI_neq c_18 rfl (by decide : (0 : Int32).toInt = 0)
          refine lv_iconst (v := 1) hx hb dX6_changeCell_21 (by decide) ?_
          refine lv_goto (tgt := 26) hx hb dX6_changeCell_22 (by decide) ?_
          have hl : lv_has _ _ ([(0, .ref (hQ 0)), (1, .ref (hw k1)), (2, .ref (hw k2)), (3, .ref (hw k3)), (4, .int p4)]) := lv_sub hl [0, 1, 2, 3, 4] rfl
          exact join7 _ _ _ _ ⟨1, (show 0 ≤ (1 : Int32).toInt ∧ (1 : Int32).toInt ≤ 1 from by decide), rfl, hP, hD, hS, hl⟩
  · rintro H locs ls stk ⟨k0_j7, b_k0_j7, rfl, hP, hD, hS, hl⟩
    refine lv_istore hx hb dX6_changeCell_26 hl (by decide) rfl (fun ls (hl : lv_has ls _ ([(5, .int k0_j7), (0, .ref (hQ 0)), (1, .ref (hw k1)), (2, .ref (hw k2)), (3, .ref (hw k3)), (4, .int p4)])) => ?_)
    refine lv_iload hx hb dX6_changeCell_28 (lv_at hl 0 rfl) ?_
    refine lv_if_eq (tgt := 123) hx hb dX6_changeCell_30 (by decide) (fun c_30 => ?_) (fun c_30 => ?_)
    · have t_30 : k0_j7.toInt = 0 := toI_eq c_30 rfl (by decide : (0 : Int32).toInt = 0)
      refine lv_aload_n hx hb dX6_changeCell_123 rfl (lv_at hl 1 rfl) ?_
      refine va_get (D := (dC, dI)) (ci := 6) (v := .ref (hw 402)) (C := RX6) (T := TX6) (N := 13) hx hb hts iwsMX6_changeCell_in6 hown hK hP 0 rfl rfl 9 (by decide) (hts _ hm_m_X6_changeCell_0) (fun _ h9 => h9) rfl dX6_changeCell_124 ?_
      refine lv_aload_n hx hb dX6_changeCell_127 rfl (lv_at hl 2 rfl) ?_
      refine lv_aload_n hx hb dX6_changeCell_128 rfl (lv_at hl 1 rfl) ?_
      refine va_get (D := (dC, dI)) (ci := 6) (v := .ref (hw 401)) (C := RX6) (T := TX6) (N := 13) hx hb hts iwsMX6_changeCell_in6 hown hK hP 0 rfl rfl 8 (by decide) (hts _ hm_m_X6_changeCell_1) (fun _ h9 => h9) rfl dX6_changeCell_129 ?_
      have p9 := cj_2_1 (WQ hQ aQ kQ hw fQ_inside fQ_outside fQ_shut iQ_rows iQ_allRows iQ_columns) (WW nW hw lw kw wl wb wG)
      have hPc := hP.mem (fun q h => p9.mem_iff.mpr (List.mem_append_left _ h))
      have hDc := (hD.perm p9).left
      have hKc : va_K (dC, dI) vwCl (tW kw) _ := hK.sub [4] rfl
      have hFc := freeG p9 hD hS hA
      refine va_callv (va_runV (As := [.ref (hw k1), .ref (hw 401)]) (rest := []) ⟨hx, hb, hml, hown, hts⟩ (m_X8_setProduct l dC dI nW hw lw kw wl wb wG 402 k1 401 b_wl b_wb (by first | with_reducible assumption | omega | (rw [iI_t (by omega) (by omega)]; omega) | decide | assumption) (by first | with_reducible assumption | omega | (rw [iI_t (by omega) (by omega)]; omega) | decide | assumption) (by first | with_reducible assumption | omega | (rw [iI_t (by omega) (by omega)]; omega) | decide | assumption) H.size) (cwV 2 hts gwsMX6_changeCell_1 rfl rfl rfl hd_yX8_setProduct_RX8 (by decide +kernel)) (fz_pre (va_recv hK hP (ci := 8) (q0 := 5 + (402)) rfl (apR rfl (WW_o (by omega)))) hPc hKc hDc) rfl rfl hl.1 rfl (lv_room (Nat.le_of_ble_eq_true rfl)) dX6_changeCell_132 (by decide +kernel)) hS (fun q _ h => hFc q h) hFc (fun u t9_ H locs ht hvm hw9 hB9 hz1 hk1 hS => ?_)
      revert u hw9 hB9
      refine fz_p3 ?_
      intro wl_6 wb_6 wG_6 hw9 hB9
      try dsimp only at hw9 hB9
      revert hw9
      refine fz_a2 ?_
      intro b_wl_6 b_wb_6
      have p8 := cj_2_1 (WQ hQ aQ kQ hw fQ_inside fQ_outside fQ_shut iQ_rows iQ_allRows iQ_columns) (WW nW hw lw kw wl_6 wb_6 wG_6)
      obtain ⟨hP, hD⟩ := frameG p9 p8 hP hD hk1 hFc (fz_P ht hB9.1) hB9.2
      refine lv_aload_n hx hb dX6_changeCell_135 rfl (lv_at hl 1 rfl) ?_
      refine va_get (D := (dC, dI)) (ci := 6) (v := .ref (hw 403)) (C := RX6) (T := TX6) (N := 13) hx hb hts iwsMX6_changeCell_in6 hown hK hP 0 rfl rfl 10 (by decide) (hts _ hm_m_X6_changeCell_2) (fun _ h9 => h9) rfl dX6_changeCell_136 ?_
      refine lv_aload_n hx hb dX6_changeCell_139 rfl (lv_at hl 3 rfl) ?_
      refine lv_aload_n hx hb dX6_changeCell_140 rfl (lv_at hl 4 rfl) ?_
      have p9 := cj_2_1 (WQ hQ aQ kQ hw fQ_inside fQ_outside fQ_shut iQ_rows iQ_allRows iQ_columns) (WW nW hw lw kw wl_6 wb_6 wG_6)
      have hPc := hP.mem (fun q h => p9.mem_iff.mpr (List.mem_append_left _ h))
      have hDc := (hD.perm p9).left
      have hKc : va_K (dC, dI) vwCl (tW kw) _ := hK.sub [4] rfl
      have hFc := freeG p9 hD hS hA
      refine va_callv (va_runV (As := [.ref (hw k2), .ref (hw k3)]) (rest := []) ⟨hx, hb, hml, hown, hts⟩ (m_X8_setProduct l dC dI nW hw lw kw wl_6 wb_6 wG_6 403 k2 k3 b_wl_6 b_wb_6 (by first | with_reducible assumption | omega | (rw [iI_t (by omega) (by omega)]; omega) | decide | assumption) (by first | with_reducible assumption | omega | (rw [iI_t (by omega) (by omega)]; omega) | decide | assumption) (by first | with_reducible assumption | omega | (rw [iI_t (by omega) (by omega)]; omega) | decide | assumption) H.size) (cwV 2 hts gwsMX6_changeCell_1 rfl rfl rfl hd_yX8_setProduct_RX8 (by decide +kernel)) (fz_pre (va_recv hK hP (ci := 8) (q0 := 5 + (403)) rfl (apR rfl (WW_o (by omega)))) hPc hKc hDc) rfl rfl hl.1 rfl (lv_room (Nat.le_of_ble_eq_true rfl)) dX6_changeCell_141 (by decide +kernel)) hS (fun q _ h => hFc q h) hFc (fun u t9_ H locs ht hvm hw9 hB9 hz1 hk1 hS => ?_)
      revert u hw9 hB9
      refine fz_p3 ?_
      intro wl_7 wb_7 wG_7 hw9 hB9
      try dsimp only at hw9 hB9
      revert hw9
      refine fz_a2 ?_
      intro b_wl_7 b_wb_7
      have p8 := cj_2_1 (WQ hQ aQ kQ hw fQ_inside fQ_outside fQ_shut iQ_rows iQ_allRows iQ_columns) (WW nW hw lw kw wl_7 wb_7 wG_7)
      obtain ⟨hP, hD⟩ := frameG p9 p8 hP hD hk1 hFc (fz_P ht hB9.1) hB9.2
      refine lv_iload hx hb dX6_changeCell_144 (lv_at hl 5 rfl) ?_
      refine W.cut (pc := 156) (fun H locs ls stk => ∃ (wb_j8 : Nat → Int32), (∀ q : Nat, 0 ≤ (wb_j8 q).toInt ∧ (wb_j8 q).toInt ≤ 1) ∧  stk = [] ∧ va_P (dC, dI) vwCl (WQ hQ aQ kQ hw fQ_inside fQ_outside fQ_shut iQ_rows iQ_allRows iQ_columns ++ (WW nW hw lw kw wl_7 wb_j8 wG_7)) H ∧ va_D A (WQ hQ aQ kQ hw fQ_inside fQ_outside fQ_shut iQ_rows iQ_allRows iQ_columns ++ (WW nW hw lw kw wl_7 wb_j8 wG_7)) ∧ va_S A s.heap H locs ∧ lv_has ls 12 [(5, .int k0_j7), (0, .ref (hQ 0)), (1, .ref (hw k1)), (2, .ref (hw k2)), (3, .ref (hw k3)), (4, .int p4)]) (fun join8 => ?_) ?_
      · refine lv_if_ne (tgt := 156) hx hb dX6_changeCell_146 (by decide) (fun c_146 => ?_) (fun c_146 => ?_)
        · have t_146 : p4.toInt ≠ 0 := toI_ne c_146 rfl (by decide : (0 : Int32).toInt = 0)
          have hl : lv_has _ _ ([(5, .int k0_j7), (0, .ref (hQ 0)), (1, .ref (hw k1)), (2, .ref (hw k2)), (3, .ref (hw k3)), (4, .int p4)]) := lv_sub hl [0, 1, 2, 3, 4, 5] rfl
          exact join8 _ _ _ _ ⟨wb_7, b_wb_7, rfl, hP, hD, hS, hl⟩
        · have t_146 : p4.toInt = 0 := toI_nne c_146 rfl (by decide : (0 : Int32).toInt = 0)
          refine lv_aload_n hx hb dX6_changeCell_149 rfl (lv_at hl 1 rfl) ?_
          refine va_get (D := (dC, dI)) (ci := 6) (v := .ref (hw 403)) (C := RX6) (T := TX6) (N := 13) hx hb hts iwsMX6_changeCell_in6 hown hK hP 0 rfl rfl 10 (by decide) (hts _ hm_m_X6_changeCell_2) (fun _ h9 => h9) rfl dX6_changeCell_150 ?_
          have p9 := cj_2_1 (WQ hQ aQ kQ hw fQ_inside fQ_outside fQ_shut iQ_rows iQ_allRows iQ_columns) (WW nW hw lw kw wl_7 wb_7 wG_7)
          have hPc := hP.mem (fun q h => p9.mem_iff.mpr (List.mem_append_left _ h))
          have hDc := (hD.perm p9).left
          have hKc : va_K (dC, dI) vwCl (tW kw) _ := hK.sub [4] rfl
          have hFc := freeG p9 hD hS hA
          refine va_callv (va_runV (As := []) (rest := []) ⟨hx, hb, hml, hown, hts⟩ (m_X8_negate l dC dI nW hw lw kw wl_7 wb_7 wG_7 403 b_wl_7 b_wb_7 (by first | with_reducible assumption | omega | (rw [iI_t (by omega) (by omega)]; omega) | decide | assumption) H.size) (cwV 0 hts gwsMX6_changeCell_2 rfl rfl rfl hd_yX8_negate_RX8 (by decide +kernel)) (fz_pre (va_recv hK hP (ci := 8) (q0 := 5 + (403)) rfl (apR rfl (WW_o (by omega)))) hPc hKc hDc) rfl rfl hl.1 rfl (lv_room (Nat.le_of_ble_eq_true rfl)) dX6_changeCell_153 (by decide +kernel)) hS (fun q _ h => hFc q h) hFc (fun wb_9 t9_ H locs ht hvm hw9 hB9 hz1 hk1 hS => ?_)
          have b_wb_9 := hw9
          try dsimp only at b_wb_9
          have p8 := cj_2_1 (WQ hQ aQ kQ hw fQ_inside fQ_outside fQ_shut iQ_rows iQ_allRows iQ_columns) (WW nW hw lw kw wl_7 wb_9 wG_7)
          obtain ⟨hP, hD⟩ := frameG p9 p8 hP hD hk1 hFc (fz_P ht hB9.1) hB9.2
          have hl : lv_has _ _ ([(5, .int k0_j7), (0, .ref (hQ 0)), (1, .ref (hw k1)), (2, .ref (hw k2)), (3, .ref (hw k3)), (4, .int p4)]) := lv_sub hl [0, 1, 2, 3, 4, 5] rfl
          exact join8 _ _ _ _ ⟨wb_9, b_wb_9, rfl, hP, hD, hS, hl⟩
      · rintro H locs ls stk ⟨wb_j8, b_wb_j8, rfl, hP, hD, hS, hl⟩
        refine lv_aload_n hx hb dX6_changeCell_156 rfl (lv_at hl 1 rfl) ?_
        refine va_get (D := (dC, dI)) (ci := 6) (v := .ref (hw 402)) (C := RX6) (T := TX6) (N := 13) hx hb hts iwsMX6_changeCell_in6 hown hK hP 0 rfl rfl 9 (by decide) (hts _ hm_m_X6_changeCell_0) (fun _ h9 => h9) rfl dX6_changeCell_157 ?_
        refine lv_aload_n hx hb dX6_changeCell_160 rfl (lv_at hl 1 rfl) ?_
        refine va_get (D := (dC, dI)) (ci := 6) (v := .ref (hw 403)) (C := RX6) (T := TX6) (N := 13) hx hb hts iwsMX6_changeCell_in6 hown hK hP 0 rfl rfl 10 (by decide) (hts _ hm_m_X6_changeCell_2) (fun _ h9 => h9) rfl dX6_changeCell_161 ?_
        have p9 := cj_2_1 (WQ hQ aQ kQ hw fQ_inside fQ_outside fQ_shut iQ_rows iQ_allRows iQ_columns) (WW nW hw lw kw wl_7 wb_j8 wG_7)
        have hPc := hP.mem (fun q h => p9.mem_iff.mpr (List.mem_append_left _ h))
        have hDc := (hD.perm p9).left
        have hKc : va_K (dC, dI) vwCl (tW kw) _ := hK.sub [4] rfl
        have hFc := freeG p9 hD hS hA
        refine va_callv (va_runV (As := [.ref (hw 403)]) (rest := []) ⟨hx, hb, hml, hown, hts⟩ (m_X8_add l dC dI nW hw lw kw wl_7 wb_j8 wG_7 402 403 b_wl_7 b_wb_j8 (by first | with_reducible assumption | omega | (rw [iI_t (by omega) (by omega)]; omega) | decide | assumption) (by first | with_reducible assumption | omega | (rw [iI_t (by omega) (by omega)]; omega) | decide | assumption) H.size) (cwV 1 hts gwsMX6_changeCell_3 rfl rfl rfl hd_yX8_add_RX8 (by decide +kernel)) (fz_pre (va_recv hK hP (ci := 8) (q0 := 5 + (402)) rfl (apR rfl (WW_o (by omega)))) hPc hKc hDc) rfl rfl hl.1 rfl (lv_room (Nat.le_of_ble_eq_true rfl)) dX6_changeCell_164 (by decide +kernel)) hS (fun q _ h => hFc q h) hFc (fun u t9_ H locs ht hvm hw9 hB9 hz1 hk1 hS => ?_)
        revert u hw9 hB9
        refine fz_p3 ?_
        intro wl_10 wb_10 wG_10 hw9 hB9
        try dsimp only at hw9 hB9
        revert hw9
        refine fz_a2 ?_
        intro b_wl_10 b_wb_10
        have p8 := cj_2_1 (WQ hQ aQ kQ hw fQ_inside fQ_outside fQ_shut iQ_rows iQ_allRows iQ_columns) (WW nW hw lw kw wl_10 wb_10 wG_10)
        obtain ⟨hP, hD⟩ := frameG p9 p8 hP hD hk1 hFc (fz_P ht hB9.1) hB9.2
        refine lv_aload_n hx hb dX6_changeCell_167 rfl (lv_at hl 1 rfl) ?_
        refine va_get (D := (dC, dI)) (ci := 6) (v := .ref (hw 402)) (C := RX6) (T := TX6) (N := 13) hx hb hts iwsMX6_changeCell_in6 hown hK hP 0 rfl rfl 9 (by decide) (hts _ hm_m_X6_changeCell_0) (fun _ h9 => h9) rfl dX6_changeCell_168 ?_
        refine lv_aload_n hx hb dX6_changeCell_171 rfl (lv_at hl 1 rfl) ?_
        refine va_get (D := (dC, dI)) (ci := 6) (v := .ref (hw 400)) (C := RX6) (T := TX6) (N := 13) hx hb hts iwsMX6_changeCell_in6 hown hK hP 0 rfl rfl 4 (by decide) (hts _ hm_m_X6_changeCell_3) (fun _ h9 => h9) rfl dX6_changeCell_172 ?_
        refine lv_aload_n hx hb dX6_changeCell_175 rfl (lv_at hl 1 rfl) ?_
        refine va_get (D := (dC, dI)) (ci := 6) (v := .ref (hw 404)) (C := RX6) (T := TX6) (N := 13) hx hb hts iwsMX6_changeCell_in6 hown hK hP 0 rfl rfl 11 (by decide) (hts _ hm_m_X6_changeCell_4) (fun _ h9 => h9) rfl dX6_changeCell_176 ?_
        refine lv_aload_n hx hb dX6_changeCell_179 rfl (lv_at hl 1 rfl) ?_
        refine va_get (D := (dC, dI)) (ci := 6) (v := .ref (hw 405)) (C := RX6) (T := TX6) (N := 13) hx hb hts iwsMX6_changeCell_in6 hown hK hP 0 rfl rfl 12 (by decide) (hts _ hm_m_X6_changeCell_5) (fun _ h9 => h9) rfl dX6_changeCell_180 ?_
        have p9 := cj_2_1 (WQ hQ aQ kQ hw fQ_inside fQ_outside fQ_shut iQ_rows iQ_allRows iQ_columns) (WW nW hw lw kw wl_10 wb_10 wG_10)
        have hPc := hP.mem (fun q h => p9.mem_iff.mpr (List.mem_append_left _ h))
        have hDc := (hD.perm p9).left
        have hKc : va_K (dC, dI) vwCl (tW kw) _ := hK.sub [4] rfl
        have hFc := freeG p9 hD hS hA
        refine va_callv (va_runV (As := [.ref (hw 400), .ref (hw 404), .ref (hw 405)]) (rest := []) ⟨hx, hb, hml, hown, hts⟩ (m_X8_divide l dC dI nW hw lw kw wl_10 wb_10 wG_10 402 400 404 405 b_wl_10 b_wb_10 (by first | with_reducible assumption | omega | (rw [iI_t (by omega) (by omega)]; omega) | decide | assumption) (by first | with_reducible assumption | omega | (rw [iI_t (by omega) (by omega)]; omega) | decide | assumption) (by first | with_reducible assumption | omega | (rw [iI_t (by omega) (by omega)]; omega) | decide | assumption) (by first | with_reducible assumption | omega | (rw [iI_t (by omega) (by omega)]; omega) | decide | assumption) (by first | with_reducible assumption | omega | (rw [iI_t (by omega) (by omega)]; omega) | decide | assumption) H.size) (cwV 3 hts gwsMX6_changeCell_4 rfl rfl rfl hd_yX8_divide_RX8 (by decide +kernel)) (fz_pre (va_recv hK hP (ci := 8) (q0 := 5 + (402)) rfl (apR rfl (WW_o (by omega)))) hPc hKc hDc) rfl rfl hl.1 rfl (lv_room (Nat.le_of_ble_eq_true rfl)) dX6_changeCell_183 (by decide +kernel)) hS (fun q _ h => hFc q h) hFc (fun u t9_ H locs ht hvm hw9 hB9 hz1 hk1 hS => ?_)
        revert u hw9 hB9
        refine fz_p3 ?_
        intro wl_11 wb_11 wG_11 hw9 hB9
        try dsimp only at hw9 hB9
        revert hw9
        refine fz_a2 ?_
        intro b_wl_11 b_wb_11
        have p8 := cj_2_1 (WQ hQ aQ kQ hw fQ_inside fQ_outside fQ_shut iQ_rows iQ_allRows iQ_columns) (WW nW hw lw kw wl_11 wb_11 wG_11)
        obtain ⟨hP, hD⟩ := frameG p9 p8 hP hD hk1 hFc (fz_P ht hB9.1) hB9.2
        refine lv_aload_n hx hb dX6_changeCell_186 rfl (lv_at hl 2 rfl) ?_
        refine lv_aload_n hx hb dX6_changeCell_187 rfl (lv_at hl 1 rfl) ?_
        refine va_get (D := (dC, dI)) (ci := 6) (v := .ref (hw 402)) (C := RX6) (T := TX6) (N := 13) hx hb hts iwsMX6_changeCell_in6 hown hK hP 0 rfl rfl 9 (by decide) (hts _ hm_m_X6_changeCell_0) (fun _ h9 => h9) rfl dX6_changeCell_188 ?_
        have p9 := cj_2_1 (WQ hQ aQ kQ hw fQ_inside fQ_outside fQ_shut iQ_rows iQ_allRows iQ_columns) (WW nW hw lw kw wl_11 wb_11 wG_11)
        have hPc := hP.mem (fun q h => p9.mem_iff.mpr (List.mem_append_left _ h))
        have hDc := (hD.perm p9).left
        have hKc : va_K (dC, dI) vwCl (tW kw) _ := hK.sub [4] rfl
        have hFc := freeG p9 hD hS hA
        refine va_callv (va_runV (As := [.ref (hw 402)]) (rest := []) ⟨hx, hb, hml, hown, hts⟩ (m_X8_copy l dC dI nW hw lw kw wl_11 wb_11 wG_11 k1 402 b_wl_11 b_wb_11 (by first | with_reducible assumption | omega | (rw [iI_t (by omega) (by omega)]; omega) | decide | assumption) (by first | with_reducible assumption | omega | (rw [iI_t (by omega) (by omega)]; omega) | decide | assumption) H.size) (cwV 1 hts gwsMX6_changeCell_5 rfl rfl rfl hd_yX8_copy_RX8 (by decide +kernel)) (fz_pre (va_recv hK hP (ci := 8) (q0 := 5 + (k1)) rfl (apR rfl (WW_o (by omega)))) hPc hKc hDc) rfl rfl hl.1 rfl (lv_room (Nat.le_of_ble_eq_true rfl)) dX6_changeCell_191 (by decide +kernel)) hS (fun q _ h => hFc q h) hFc (fun u t9_ H locs ht hvm hw9 hB9 hz1 hk1 hS => ?_)
        revert u hw9 hB9
        refine fz_p3 ?_
        intro wl_12 wb_12 wG_12 hw9 hB9
        try dsimp only at hw9 hB9
        revert hw9
        refine fz_a2 ?_
        intro b_wl_12 b_wb_12
        have p8 := cj_2_1 (WQ hQ aQ kQ hw fQ_inside fQ_outside fQ_shut iQ_rows iQ_allRows iQ_columns) (WW nW hw lw kw wl_12 wb_12 wG_12)
        obtain ⟨hP, hD⟩ := frameG p9 p8 hP hD hk1 hFc (fz_P ht hB9.1) hB9.2
        refine W.widen (k := 0) (n := 0) (by decide +kernel) (by decide +kernel) ?_
        exact W.vret hx hb hr (fun t9_ ht hW => ⟨⟨(wl_12, wb_12, wG_12), rfl, ⟨b_wl_12, b_wb_12⟩, by rw [ht]; exact hP, hD⟩, hS.F ht⟩) hS.2.2 dX6_changeCell_194
    · have t_30 : ¬ k0_j7.toInt = 0 := toI_neq c_30 rfl (by decide : (0 : Int32).toInt = 0)
      refine lv_aload_n hx hb dX6_changeCell_33 rfl (lv_at hl 1 rfl) ?_
      refine va_get (D := (dC, dI)) (ci := 6) (v := .ref (hw 401)) (C := RX6) (T := TX6) (N := 13) hx hb hts iwsMX6_changeCell_in6 hown hK hP 0 rfl rfl 8 (by decide) (hts _ hm_m_X6_changeCell_1) (fun _ h9 => h9) rfl dX6_changeCell_34 ?_
      have p9 := cj_2_1 (WQ hQ aQ kQ hw fQ_inside fQ_outside fQ_shut iQ_rows iQ_allRows iQ_columns) (WW nW hw lw kw wl wb wG)
      have hPc := hP.mem (fun q h => p9.mem_iff.mpr (List.mem_append_left _ h))
      have hDc := (hD.perm p9).left
      have hKc : va_K (dC, dI) vwCl (tW kw) _ := hK.sub [4] rfl
      have hFc := freeG p9 hD hS hA
      refine va_calli (va_runV (As := []) (rest := []) ⟨hx, hb, hml, hown, hts⟩ (m_X8_isSmall l dC dI nW hw lw kw wl wb wG 401 b_wl b_wb (by first | with_reducible assumption | omega | (rw [iI_t (by omega) (by omega)]; omega) | decide | assumption) H.size) (cwV 0 hts gwsMX6_changeCell_0 rfl rfl rfl hd_yX8_isSmall_RX8 (by decide +kernel)) (fz_pre (va_recv hK hP (ci := 8) (q0 := 5 + (401)) rfl (apR rfl (WW_o (by omega)))) hPc hKc hDc) rfl rfl hl.1 rfl (lv_room (Nat.le_of_ble_eq_true rfl)) dX6_changeCell_37 (by decide +kernel)) hS (fun q _ h => hFc q h) hFc (fun r13 u t9_ H locs ht hvm hw9 hB9 hz1 hk1 hS => ?_)
      have b_r13 := hw9
      try dsimp only at b_r13
      have p8 := p9
      obtain ⟨hP, hD⟩ := frameG p9 p8 hP hD hk1 hFc (fz_P ht hB9.1) hB9.2
      refine lv_if_eq (tgt := 123) hx hb dX6_changeCell_40 (by decide) (fun c_40 => ?_) (fun c_40 => ?_)
      · have t_40 : r13.toInt = 0 := toI_eq c_40 rfl (by decide : (0 : Int32).toInt = 0)
        refine lv_aload_n hx hb dX6_changeCell_123 rfl (lv_at hl 1 rfl) ?_
        refine va_get (D := (dC, dI)) (ci := 6) (v := .ref (hw 402)) (C := RX6) (T := TX6) (N := 13) hx hb hts iwsMX6_changeCell_in6 hown hK hP 0 rfl rfl 9 (by decide) (hts _ hm_m_X6_changeCell_0) (fun _ h9 => h9) rfl dX6_changeCell_124 ?_
        refine lv_aload_n hx hb dX6_changeCell_127 rfl (lv_at hl 2 rfl) ?_
        refine lv_aload_n hx hb dX6_changeCell_128 rfl (lv_at hl 1 rfl) ?_
        refine va_get (D := (dC, dI)) (ci := 6) (v := .ref (hw 401)) (C := RX6) (T := TX6) (N := 13) hx hb hts iwsMX6_changeCell_in6 hown hK hP 0 rfl rfl 8 (by decide) (hts _ hm_m_X6_changeCell_1) (fun _ h9 => h9) rfl dX6_changeCell_129 ?_
        have p9 := cj_2_1 (WQ hQ aQ kQ hw fQ_inside fQ_outside fQ_shut iQ_rows iQ_allRows iQ_columns) (WW nW hw lw kw wl wb wG)
        have hPc := hP.mem (fun q h => p9.mem_iff.mpr (List.mem_append_left _ h))
        have hDc := (hD.perm p9).left
        have hKc : va_K (dC, dI) vwCl (tW kw) _ := hK.sub [4] rfl
        have hFc := freeG p9 hD hS hA
        refine va_callv (va_runV (As := [.ref (hw k1), .ref (hw 401)]) (rest := []) ⟨hx, hb, hml, hown, hts⟩ (m_X8_setProduct l dC dI nW hw lw kw wl wb wG 402 k1 401 b_wl b_wb (by first | with_reducible assumption | omega | (rw [iI_t (by omega) (by omega)]; omega) | decide | assumption) (by first | with_reducible assumption | omega | (rw [iI_t (by omega) (by omega)]; omega) | decide | assumption) (by first | with_reducible assumption | omega | (rw [iI_t (by omega) (by omega)]; omega) | decide | assumption) H.size) (cwV 2 hts gwsMX6_changeCell_1 rfl rfl rfl hd_yX8_setProduct_RX8 (by decide +kernel)) (fz_pre (va_recv hK hP (ci := 8) (q0 := 5 + (402)) rfl (apR rfl (WW_o (by omega)))) hPc hKc hDc) rfl rfl hl.1 rfl (lv_room (Nat.le_of_ble_eq_true rfl)) dX6_changeCell_132 (by decide +kernel)) hS (fun q _ h => hFc q h) hFc (fun u t9_ H locs ht hvm hw9 hB9 hz1 hk1 hS => ?_)
        revert u hw9 hB9
        refine fz_p3 ?_
        intro wl_14 wb_14 wG_14 hw9 hB9
        try dsimp only at hw9 hB9
        revert hw9
        refine fz_a2 ?_
        intro b_wl_14 b_wb_14
        have p8 := cj_2_1 (WQ hQ aQ kQ hw fQ_inside fQ_outside fQ_shut iQ_rows iQ_allRows iQ_columns) (WW nW hw lw kw wl_14 wb_14 wG_14)
        obtain ⟨hP, hD⟩ := frameG p9 p8 hP hD hk1 hFc (fz_P ht hB9.1) hB9.2
        refine lv_aload_n hx hb dX6_changeCell_135 rfl (lv_at hl 1 rfl) ?_
        refine va_get (D := (dC, dI)) (ci := 6) (v := .ref (hw 403)) (C := RX6) (T := TX6) (N := 13) hx hb hts iwsMX6_changeCell_in6 hown hK hP 0 rfl rfl 10 (by decide) (hts _ hm_m_X6_changeCell_2) (fun _ h9 => h9) rfl dX6_changeCell_136 ?_
        refine lv_aload_n hx hb dX6_changeCell_139 rfl (lv_at hl 3 rfl) ?_
        refine lv_aload_n hx hb dX6_changeCell_140 rfl (lv_at hl 4 rfl) ?_
        have p9 := cj_2_1 (WQ hQ aQ kQ hw fQ_inside fQ_outside fQ_shut iQ_rows iQ_allRows iQ_columns) (WW nW hw lw kw wl_14 wb_14 wG_14)
        have hPc := hP.mem (fun q h => p9.mem_iff.mpr (List.mem_append_left _ h))
        have hDc := (hD.perm p9).left
        have hKc : va_K (dC, dI) vwCl (tW kw) _ := hK.sub [4] rfl
        have hFc := freeG p9 hD hS hA
        refine va_callv (va_runV (As := [.ref (hw k2), .ref (hw k3)]) (rest := []) ⟨hx, hb, hml, hown, hts⟩ (m_X8_setProduct l dC dI nW hw lw kw wl_14 wb_14 wG_14 403 k2 k3 b_wl_14 b_wb_14 (by first | with_reducible assumption | omega | (rw [iI_t (by omega) (by omega)]; omega) | decide | assumption) (by first | with_reducible assumption | omega | (rw [iI_t (by omega) (by omega)]; omega) | decide | assumption) (by first | with_reducible assumption | omega | (rw [iI_t (by omega) (by omega)]; omega) | decide | assumption) H.size) (cwV 2 hts gwsMX6_changeCell_1 rfl rfl rfl hd_yX8_setProduct_RX8 (by decide +kernel)) (fz_pre (va_recv hK hP (ci := 8) (q0 := 5 + (403)) rfl (apR rfl (WW_o (by omega)))) hPc hKc hDc) rfl rfl hl.1 rfl (lv_room (Nat.le_of_ble_eq_true rfl)) dX6_changeCell_141 (by decide +kernel)) hS (fun q _ h => hFc q h) hFc (fun u t9_ H locs ht hvm hw9 hB9 hz1 hk1 hS => ?_)
        revert u hw9 hB9
        refine fz_p3 ?_
        intro wl_15 wb_15 wG_15 hw9 hB9
        try dsimp only at hw9 hB9
        revert hw9
        refine fz_a2 ?_
        intro b_wl_15 b_wb_15
        have p8 := cj_2_1 (WQ hQ aQ kQ hw fQ_inside fQ_outside fQ_shut iQ_rows iQ_allRows iQ_columns) (WW nW hw lw kw wl_15 wb_15 wG_15)
        obtain ⟨hP, hD⟩ := frameG p9 p8 hP hD hk1 hFc (fz_P ht hB9.1) hB9.2
        refine lv_iload hx hb dX6_changeCell_144 (lv_at hl 5 rfl) ?_
        refine W.cut (pc := 156) (fun H locs ls stk => ∃ (wb_j9 : Nat → Int32), (∀ q : Nat, 0 ≤ (wb_j9 q).toInt ∧ (wb_j9 q).toInt ≤ 1) ∧  stk = [] ∧ va_P (dC, dI) vwCl (WQ hQ aQ kQ hw fQ_inside fQ_outside fQ_shut iQ_rows iQ_allRows iQ_columns ++ (WW nW hw lw kw wl_15 wb_j9 wG_15)) H ∧ va_D A (WQ hQ aQ kQ hw fQ_inside fQ_outside fQ_shut iQ_rows iQ_allRows iQ_columns ++ (WW nW hw lw kw wl_15 wb_j9 wG_15)) ∧ va_S A s.heap H locs ∧ lv_has ls 12 [(5, .int k0_j7), (0, .ref (hQ 0)), (1, .ref (hw k1)), (2, .ref (hw k2)), (3, .ref (hw k3)), (4, .int p4)]) (fun join9 => ?_) ?_
        · refine lv_if_ne (tgt := 156) hx hb dX6_changeCell_146 (by decide) (fun c_146 => ?_) (fun c_146 => ?_)
          · have t_146 : p4.toInt ≠ 0 := toI_ne c_146 rfl (by decide : (0 : Int32).toInt = 0)
            have hl : lv_has _ _ ([(5, .int k0_j7), (0, .ref (hQ 0)), (1, .ref (hw k1)), (2, .ref (hw k2)), (3, .ref (hw k3)), (4, .int p4)]) := lv_sub hl [0, 1, 2, 3, 4, 5] rfl
            exact join9 _ _ _ _ ⟨wb_15, b_wb_15, rfl, hP, hD, hS, hl⟩
          · have t_146 : p4.toInt = 0 := toI_nne c_146 rfl (by decide : (0 : Int32).toInt = 0)
            refine lv_aload_n hx hb dX6_changeCell_149 rfl (lv_at hl 1 rfl) ?_
            refine va_get (D := (dC, dI)) (ci := 6) (v := .ref (hw 403)) (C := RX6) (T := TX6) (N := 13) hx hb hts iwsMX6_changeCell_in6 hown hK hP 0 rfl rfl 10 (by decide) (hts _ hm_m_X6_changeCell_2) (fun _ h9 => h9) rfl dX6_changeCell_150 ?_
            have p9 := cj_2_1 (WQ hQ aQ kQ hw fQ_inside fQ_outside fQ_shut iQ_rows iQ_allRows iQ_columns) (WW nW hw lw kw wl_15 wb_15 wG_15)
            have hPc := hP.mem (fun q h => p9.mem_iff.mpr (List.mem_append_left _ h))
            have hDc := (hD.perm p9).left
            have hKc : va_K (dC, dI) vwCl (tW kw) _ := hK.sub [4] rfl
            have hFc := freeG p9 hD hS hA
            refine va_callv (va_runV (As := []) (rest := []) ⟨hx, hb, hml, hown, hts⟩ (m_X8_negate l dC dI nW hw lw kw wl_15 wb_15 wG_15 403 b_wl_15 b_wb_15 (by first | with_reducible assumption | omega | (rw [iI_t (by omega) (by omega)]; omega) | decide | assumption) H.size) (cwV 0 hts gwsMX6_changeCell_2 rfl rfl rfl hd_yX8_negate_RX8 (by decide +kernel)) (fz_pre (va_recv hK hP (ci := 8) (q0 := 5 + (403)) rfl (apR rfl (WW_o (by omega)))) hPc hKc hDc) rfl rfl hl.1 rfl (lv_room (Nat.le_of_ble_eq_true rfl)) dX6_changeCell_153 (by decide +kernel)) hS (fun q _ h => hFc q h) hFc (fun wb_17 t9_ H locs ht hvm hw9 hB9 hz1 hk1 hS => ?_)
            have b_wb_17 := hw9
            try dsimp only at b_wb_17
            have p8 := cj_2_1 (WQ hQ aQ kQ hw fQ_inside fQ_outside fQ_shut iQ_rows iQ_allRows iQ_columns) (WW nW hw lw kw wl_15 wb_17 wG_15)
            obtain ⟨hP, hD⟩ := frameG p9 p8 hP hD hk1 hFc (fz_P ht hB9.1) hB9.2
            have hl : lv_has _ _ ([(5, .int k0_j7), (0, .ref (hQ 0)), (1, .ref (hw k1)), (2, .ref (hw k2)), (3, .ref (hw k3)), (4, .int p4)]) := lv_sub hl [0, 1, 2, 3, 4, 5] rfl
            exact join9 _ _ _ _ ⟨wb_17, b_wb_17, rfl, hP, hD, hS, hl⟩
        · rintro H locs ls stk ⟨wb_j9, b_wb_j9, rfl, hP, hD, hS, hl⟩
          refine lv_aload_n hx hb dX6_changeCell_156 rfl (lv_at hl 1 rfl) ?_
          refine va_get (D := (dC, dI)) (ci := 6) (v := .ref (hw 402)) (C := RX6) (T := TX6) (N := 13) hx hb hts iwsMX6_changeCell_in6 hown hK hP 0 rfl rfl 9 (by decide) (hts _ hm_m_X6_changeCell_0) (fun _ h9 => h9) rfl dX6_changeCell_157 ?_
          refine lv_aload_n hx hb dX6_changeCell_160 rfl (lv_at hl 1 rfl) ?_
          refine va_get (D := (dC, dI)) (ci := 6) (v := .ref (hw 403)) (C := RX6) (T := TX6) (N := 13) hx hb hts iwsMX6_changeCell_in6 hown hK hP 0 rfl rfl 10 (by decide) (hts _ hm_m_X6_changeCell_2) (fun _ h9 => h9) rfl dX6_changeCell_161 ?_
          have p9 := cj_2_1 (WQ hQ aQ kQ hw fQ_inside fQ_outside fQ_shut iQ_rows iQ_allRows iQ_columns) (WW nW hw lw kw wl_15 wb_j9 wG_15)
          have hPc := hP.mem (fun q h => p9.mem_iff.mpr (List.mem_append_left _ h))
          have hDc := (hD.perm p9).left
          have hKc : va_K (dC, dI) vwCl (tW kw) _ := hK.sub [4] rfl
          have hFc := freeG p9 hD hS hA
          refine va_callv (va_runV (As := [.ref (hw 403)]) (rest := []) ⟨hx, hb, hml, hown, hts⟩ (m_X8_add l dC dI nW hw lw kw wl_15 wb_j9 wG_15 402 403 b_wl_15 b_wb_j9 (by first | with_reducible assumption | omega | (rw [iI_t (by omega) (by omega)]; omega) | decide | assumption) (by first | with_reducible assumption | omega | (rw [iI_t (by omega) (by omega)]; omega) | decide | assumption) H.size) (cwV 1 hts gwsMX6_changeCell_3 rfl rfl rfl hd_yX8_add_RX8 (by decide +kernel)) (fz_pre (va_recv hK hP (ci := 8) (q0 := 5 + (402)) rfl (apR rfl (WW_o (by omega)))) hPc hKc hDc) rfl rfl hl.1 rfl (lv_room (Nat.le_of_ble_eq_true rfl)) dX6_changeCell_164 (by decide +kernel)) hS (fun q _ h => hFc q h) hFc (fun u t9_ H locs ht hvm hw9 hB9 hz1 hk1 hS => ?_)
          revert u hw9 hB9
          refine fz_p3 ?_
          intro wl_18 wb_18 wG_18 hw9 hB9
          try dsimp only at hw9 hB9
          revert hw9
          refine fz_a2 ?_
          intro b_wl_18 b_wb_18
          have p8 := cj_2_1 (WQ hQ aQ kQ hw fQ_inside fQ_outside fQ_shut iQ_rows iQ_allRows iQ_columns) (WW nW hw lw kw wl_18 wb_18 wG_18)
          obtain ⟨hP, hD⟩ := frameG p9 p8 hP hD hk1 hFc (fz_P ht hB9.1) hB9.2
          refine lv_aload_n hx hb dX6_changeCell_167 rfl (lv_at hl 1 rfl) ?_
          refine va_get (D := (dC, dI)) (ci := 6) (v := .ref (hw 402)) (C := RX6) (T := TX6) (N := 13) hx hb hts iwsMX6_changeCell_in6 hown hK hP 0 rfl rfl 9 (by decide) (hts _ hm_m_X6_changeCell_0) (fun _ h9 => h9) rfl dX6_changeCell_168 ?_
          refine lv_aload_n hx hb dX6_changeCell_171 rfl (lv_at hl 1 rfl) ?_
          refine va_get (D := (dC, dI)) (ci := 6) (v := .ref (hw 400)) (C := RX6) (T := TX6) (N := 13) hx hb hts iwsMX6_changeCell_in6 hown hK hP 0 rfl rfl 4 (by decide) (hts _ hm_m_X6_changeCell_3) (fun _ h9 => h9) rfl dX6_changeCell_172 ?_
          refine lv_aload_n hx hb dX6_changeCell_175 rfl (lv_at hl 1 rfl) ?_
          refine va_get (D := (dC, dI)) (ci := 6) (v := .ref (hw 404)) (C := RX6) (T := TX6) (N := 13) hx hb hts iwsMX6_changeCell_in6 hown hK hP 0 rfl rfl 11 (by decide) (hts _ hm_m_X6_changeCell_4) (fun _ h9 => h9) rfl dX6_changeCell_176 ?_
          refine lv_aload_n hx hb dX6_changeCell_179 rfl (lv_at hl 1 rfl) ?_
          refine va_get (D := (dC, dI)) (ci := 6) (v := .ref (hw 405)) (C := RX6) (T := TX6) (N := 13) hx hb hts iwsMX6_changeCell_in6 hown hK hP 0 rfl rfl 12 (by decide) (hts _ hm_m_X6_changeCell_5) (fun _ h9 => h9) rfl dX6_changeCell_180 ?_
          have p9 := cj_2_1 (WQ hQ aQ kQ hw fQ_inside fQ_outside fQ_shut iQ_rows iQ_allRows iQ_columns) (WW nW hw lw kw wl_18 wb_18 wG_18)
          have hPc := hP.mem (fun q h => p9.mem_iff.mpr (List.mem_append_left _ h))
          have hDc := (hD.perm p9).left
          have hKc : va_K (dC, dI) vwCl (tW kw) _ := hK.sub [4] rfl
          have hFc := freeG p9 hD hS hA
          refine va_callv (va_runV (As := [.ref (hw 400), .ref (hw 404), .ref (hw 405)]) (rest := []) ⟨hx, hb, hml, hown, hts⟩ (m_X8_divide l dC dI nW hw lw kw wl_18 wb_18 wG_18 402 400 404 405 b_wl_18 b_wb_18 (by first | with_reducible assumption | omega | (rw [iI_t (by omega) (by omega)]; omega) | decide | assumption) (by first | with_reducible assumption | omega | (rw [iI_t (by omega) (by omega)]; omega) | decide | assumption) (by first | with_reducible assumption | omega | (rw [iI_t (by omega) (by omega)]; omega) | decide | assumption) (by first | with_reducible assumption | omega | (rw [iI_t (by omega) (by omega)]; omega) | decide | assumption) (by first | with_reducible assumption | omega | (rw [iI_t (by omega) (by omega)]; omega) | decide | assumption) H.size) (cwV 3 hts gwsMX6_changeCell_4 rfl rfl rfl hd_yX8_divide_RX8 (by decide +kernel)) (fz_pre (va_recv hK hP (ci := 8) (q0 := 5 + (402)) rfl (apR rfl (WW_o (by omega)))) hPc hKc hDc) rfl rfl hl.1 rfl (lv_room (Nat.le_of_ble_eq_true rfl)) dX6_changeCell_183 (by decide +kernel)) hS (fun q _ h => hFc q h) hFc (fun u t9_ H locs ht hvm hw9 hB9 hz1 hk1 hS => ?_)
          revert u hw9 hB9
          refine fz_p3 ?_
          intro wl_19 wb_19 wG_19 hw9 hB9
          try dsimp only at hw9 hB9
          revert hw9
          refine fz_a2 ?_
          intro b_wl_19 b_wb_19
          have p8 := cj_2_1 (WQ hQ aQ kQ hw fQ_inside fQ_outside fQ_shut iQ_rows iQ_allRows iQ_columns) (WW nW hw lw kw wl_19 wb_19 wG_19)
          obtain ⟨hP, hD⟩ := frameG p9 p8 hP hD hk1 hFc (fz_P ht hB9.1) hB9.2
          refine lv_aload_n hx hb dX6_changeCell_186 rfl (lv_at hl 2 rfl) ?_
          refine lv_aload_n hx hb dX6_changeCell_187 rfl (lv_at hl 1 rfl) ?_
          refine va_get (D := (dC, dI)) (ci := 6) (v := .ref (hw 402)) (C := RX6) (T := TX6) (N := 13) hx hb hts iwsMX6_changeCell_in6 hown hK hP 0 rfl rfl 9 (by decide) (hts _ hm_m_X6_changeCell_0) (fun _ h9 => h9) rfl dX6_changeCell_188 ?_
          have p9 := cj_2_1 (WQ hQ aQ kQ hw fQ_inside fQ_outside fQ_shut iQ_rows iQ_allRows iQ_columns) (WW nW hw lw kw wl_19 wb_19 wG_19)
          have hPc := hP.mem (fun q h => p9.mem_iff.mpr (List.mem_append_left _ h))
          have hDc := (hD.perm p9).left
          have hKc : va_K (dC, dI) vwCl (tW kw) _ := hK.sub [4] rfl
          have hFc := freeG p9 hD hS hA
          refine va_callv (va_runV (As := [.ref (hw 402)]) (rest := []) ⟨hx, hb, hml, hown, hts⟩ (m_X8_copy l dC dI nW hw lw kw wl_19 wb_19 wG_19 k1 402 b_wl_19 b_wb_19 (by first | with_reducible assumption | omega | (rw [iI_t (by omega) (by omega)]; omega) | decide | assumption) (by first | with_reducible assumption | omega | (rw [iI_t (by omega) (by omega)]; omega) | decide | assumption) H.size) (cwV 1 hts gwsMX6_changeCell_5 rfl rfl rfl hd_yX8_copy_RX8 (by decide +kernel)) (fz_pre (va_recv hK hP (ci := 8) (q0 := 5 + (k1)) rfl (apR rfl (WW_o (by omega)))) hPc hKc hDc) rfl rfl hl.1 rfl (lv_room (Nat.le_of_ble_eq_true rfl)) dX6_changeCell_191 (by decide +kernel)) hS (fun q _ h => hFc q h) hFc (fun u t9_ H locs ht hvm hw9 hB9 hz1 hk1 hS => ?_)
          revert u hw9 hB9
          refine fz_p3 ?_
          intro wl_20 wb_20 wG_20 hw9 hB9
          try dsimp only at hw9 hB9
          revert hw9
          refine fz_a2 ?_
          intro b_wl_20 b_wb_20
          have p8 := cj_2_1 (WQ hQ aQ kQ hw fQ_inside fQ_outside fQ_shut iQ_rows iQ_allRows iQ_columns) (WW nW hw lw kw wl_20 wb_20 wG_20)
          obtain ⟨hP, hD⟩ := frameG p9 p8 hP hD hk1 hFc (fz_P ht hB9.1) hB9.2
          refine W.widen (k := 0) (n := 0) (by decide +kernel) (by decide +kernel) ?_
          exact W.vret hx hb hr (fun t9_ ht hW => ⟨⟨(wl_20, wb_20, wG_20), rfl, ⟨b_wl_20, b_wb_20⟩, by rw [ht]; exact hP, hD⟩, hS.F ht⟩) hS.2.2 dX6_changeCell_194
      · have t_40 : ¬ r13.toInt = 0 := toI_neq c_40 rfl (by decide : (0 : Int32).toInt = 0)
        refine lv_aload_n hx hb dX6_changeCell_43 rfl (lv_at hl 1 rfl) ?_
        refine va_get (D := (dC, dI)) (ci := 6) (v := .ref (hw 400)) (C := RX6) (T := TX6) (N := 13) hx hb hts iwsMX6_changeCell_in6 hown hK hP 0 rfl rfl 4 (by decide) (hts _ hm_m_X6_changeCell_3) (fun _ h9 => h9) rfl dX6_changeCell_44 ?_
        have p9 := cj_2_1 (WQ hQ aQ kQ hw fQ_inside fQ_outside fQ_shut iQ_rows iQ_allRows iQ_columns) (WW nW hw lw kw wl wb wG)
        have hPc := hP.mem (fun q h => p9.mem_iff.mpr (List.mem_append_left _ h))
        have hDc := (hD.perm p9).left
        have hKc : va_K (dC, dI) vwCl (tW kw) _ := hK.sub [4] rfl
        have hFc := freeG p9 hD hS hA
        refine va_calli (va_runV (As := []) (rest := []) ⟨hx, hb, hml, hown, hts⟩ (m_X8_isSmall l dC dI nW hw lw kw wl wb wG 400 b_wl b_wb (by first | with_reducible assumption | omega | (rw [iI_t (by omega) (by omega)]; omega) | decide | assumption) H.size) (cwV 0 hts gwsMX6_changeCell_0 rfl rfl rfl hd_yX8_isSmall_RX8 (by decide +kernel)) (fz_pre (va_recv hK hP (ci := 8) (q0 := 5 + (400)) rfl (apR rfl (WW_o (by omega)))) hPc hKc hDc) rfl rfl hl.1 rfl (lv_room (Nat.le_of_ble_eq_true rfl)) dX6_changeCell_47 (by decide +kernel)) hS (fun q _ h => hFc q h) hFc (fun r21 u t9_ H locs ht hvm hw9 hB9 hz1 hk1 hS => ?_)
        have b_r21 := hw9
        try dsimp only at b_r21
        have p8 := p9
        obtain ⟨hP, hD⟩ := frameG p9 p8 hP hD hk1 hFc (fz_P ht hB9.1) hB9.2
        refine lv_if_eq (tgt := 123) hx hb dX6_changeCell_50 (by decide) (fun c_50 => ?_) (fun c_50 => ?_)
        · have t_50 : r21.toInt = 0 := toI_eq c_50 rfl (by decide : (0 : Int32).toInt = 0)
          refine lv_aload_n hx hb dX6_changeCell_123 rfl (lv_at hl 1 rfl) ?_
          refine va_get (D := (dC, dI)) (ci := 6) (v := .ref (hw 402)) (C := RX6) (T := TX6) (N := 13) hx hb hts iwsMX6_changeCell_in6 hown hK hP 0 rfl rfl 9 (by decide) (hts _ hm_m_X6_changeCell_0) (fun _ h9 => h9) rfl dX6_changeCell_124 ?_
          refine lv_aload_n hx hb dX6_changeCell_127 rfl (lv_at hl 2 rfl) ?_
          refine lv_aload_n hx hb dX6_changeCell_128 rfl (lv_at hl 1 rfl) ?_
          refine va_get (D := (dC, dI)) (ci := 6) (v := .ref (hw 401)) (C := RX6) (T := TX6) (N := 13) hx hb hts iwsMX6_changeCell_in6 hown hK hP 0 rfl rfl 8 (by decide) (hts _ hm_m_X6_changeCell_1) (fun _ h9 => h9) rfl dX6_changeCell_129 ?_
          have p9 := cj_2_1 (WQ hQ aQ kQ hw fQ_inside fQ_outside fQ_shut iQ_rows iQ_allRows iQ_columns) (WW nW hw lw kw wl wb wG)
          have hPc := hP.mem (fun q h => p9.mem_iff.mpr (List.mem_append_left _ h))
          have hDc := (hD.perm p9).left
          have hKc : va_K (dC, dI) vwCl (tW kw) _ := hK.sub [4] rfl
          have hFc := freeG p9 hD hS hA
          refine va_callv (va_runV (As := [.ref (hw k1), .ref (hw 401)]) (rest := []) ⟨hx, hb, hml, hown, hts⟩ (m_X8_setProduct l dC dI nW hw lw kw wl wb wG 402 k1 401 b_wl b_wb (by first | with_reducible assumption | omega | (rw [iI_t (by omega) (by omega)]; omega) | decide | assumption) (by first | with_reducible assumption | omega | (rw [iI_t (by omega) (by omega)]; omega) | decide | assumption) (by first | with_reducible assumption | omega | (rw [iI_t (by omega) (by omega)]; omega) | decide | assumption) H.size) (cwV 2 hts gwsMX6_changeCell_1 rfl rfl rfl hd_yX8_setProduct_RX8 (by decide +kernel)) (fz_pre (va_recv hK hP (ci := 8) (q0 := 5 + (402)) rfl (apR rfl (WW_o (by omega)))) hPc hKc hDc) rfl rfl hl.1 rfl (lv_room (Nat.le_of_ble_eq_true rfl)) dX6_changeCell_132 (by decide +kernel)) hS (fun q _ h => hFc q h) hFc (fun u t9_ H locs ht hvm hw9 hB9 hz1 hk1 hS => ?_)
          revert u hw9 hB9
          refine fz_p3 ?_
          intro wl_22 wb_22 wG_22 hw9 hB9
          try dsimp only at hw9 hB9
          revert hw9
          refine fz_a2 ?_
          intro b_wl_22 b_wb_22
          have p8 := cj_2_1 (WQ hQ aQ kQ hw fQ_inside fQ_outside fQ_shut iQ_rows iQ_allRows iQ_columns) (WW nW hw lw kw wl_22 wb_22 wG_22)
          obtain ⟨hP, hD⟩ := frameG p9 p8 hP hD hk1 hFc (fz_P ht hB9.1) hB9.2
          refine lv_aload_n hx hb dX6_changeCell_135 rfl (lv_at hl 1 rfl) ?_
          refine va_get (D := (dC, dI)) (ci := 6) (v := .ref (hw 403)) (C := RX6) (T := TX6) (N := 13) hx hb hts iwsMX6_changeCell_in6 hown hK hP 0 rfl rfl 10 (by decide) (hts _ hm_m_X6_changeCell_2) (fun _ h9 => h9) rfl dX6_changeCell_136 ?_
          refine lv_aload_n hx hb dX6_changeCell_139 rfl (lv_at hl 3 rfl) ?_
          refine lv_aload_n hx hb dX6_changeCell_140 rfl (lv_at hl 4 rfl) ?_
          have p9 := cj_2_1 (WQ hQ aQ kQ hw fQ_inside fQ_outside fQ_shut iQ_rows iQ_allRows iQ_columns) (WW nW hw lw kw wl_22 wb_22 wG_22)
          have hPc := hP.mem (fun q h => p9.mem_iff.mpr (List.mem_append_left _ h))
          have hDc := (hD.perm p9).left
          have hKc : va_K (dC, dI) vwCl (tW kw) _ := hK.sub [4] rfl
          have hFc := freeG p9 hD hS hA
          refine va_callv (va_runV (As := [.ref (hw k2), .ref (hw k3)]) (rest := []) ⟨hx, hb, hml, hown, hts⟩ (m_X8_setProduct l dC dI nW hw lw kw wl_22 wb_22 wG_22 403 k2 k3 b_wl_22 b_wb_22 (by first | with_reducible assumption | omega | (rw [iI_t (by omega) (by omega)]; omega) | decide | assumption) (by first | with_reducible assumption | omega | (rw [iI_t (by omega) (by omega)]; omega) | decide | assumption) (by first | with_reducible assumption | omega | (rw [iI_t (by omega) (by omega)]; omega) | decide | assumption) H.size) (cwV 2 hts gwsMX6_changeCell_1 rfl rfl rfl hd_yX8_setProduct_RX8 (by decide +kernel)) (fz_pre (va_recv hK hP (ci := 8) (q0 := 5 + (403)) rfl (apR rfl (WW_o (by omega)))) hPc hKc hDc) rfl rfl hl.1 rfl (lv_room (Nat.le_of_ble_eq_true rfl)) dX6_changeCell_141 (by decide +kernel)) hS (fun q _ h => hFc q h) hFc (fun u t9_ H locs ht hvm hw9 hB9 hz1 hk1 hS => ?_)
          revert u hw9 hB9
          refine fz_p3 ?_
          intro wl_23 wb_23 wG_23 hw9 hB9
          try dsimp only at hw9 hB9
          revert hw9
          refine fz_a2 ?_
          intro b_wl_23 b_wb_23
          have p8 := cj_2_1 (WQ hQ aQ kQ hw fQ_inside fQ_outside fQ_shut iQ_rows iQ_allRows iQ_columns) (WW nW hw lw kw wl_23 wb_23 wG_23)
          obtain ⟨hP, hD⟩ := frameG p9 p8 hP hD hk1 hFc (fz_P ht hB9.1) hB9.2
          refine lv_iload hx hb dX6_changeCell_144 (lv_at hl 5 rfl) ?_
          refine W.cut (pc := 156) (fun H locs ls stk => ∃ (wb_j10 : Nat → Int32), (∀ q : Nat, 0 ≤ (wb_j10 q).toInt ∧ (wb_j10 q).toInt ≤ 1) ∧  stk = [] ∧ va_P (dC, dI) vwCl (WQ hQ aQ kQ hw fQ_inside fQ_outside fQ_shut iQ_rows iQ_allRows iQ_columns ++ (WW nW hw lw kw wl_23 wb_j10 wG_23)) H ∧ va_D A (WQ hQ aQ kQ hw fQ_inside fQ_outside fQ_shut iQ_rows iQ_allRows iQ_columns ++ (WW nW hw lw kw wl_23 wb_j10 wG_23)) ∧ va_S A s.heap H locs ∧ lv_has ls 12 [(5, .int k0_j7), (0, .ref (hQ 0)), (1, .ref (hw k1)), (2, .ref (hw k2)), (3, .ref (hw k3)), (4, .int p4)]) (fun join10 => ?_) ?_
          · refine lv_if_ne (tgt := 156) hx hb dX6_changeCell_146 (by decide) (fun c_146 => ?_) (fun c_146 => ?_)
            · have t_146 : p4.toInt ≠ 0 := toI_ne c_146 rfl (by decide : (0 : Int32).toInt = 0)
              have hl : lv_has _ _ ([(5, .int k0_j7), (0, .ref (hQ 0)), (1, .ref (hw k1)), (2, .ref (hw k2)), (3, .ref (hw k3)), (4, .int p4)]) := lv_sub hl [0, 1, 2, 3, 4, 5] rfl
              exact join10 _ _ _ _ ⟨wb_23, b_wb_23, rfl, hP, hD, hS, hl⟩
            · have t_146 : p4.toInt = 0 := toI_nne c_146 rfl (by decide : (0 : Int32).toInt = 0)
              refine lv_aload_n hx hb dX6_changeCell_149 rfl (lv_at hl 1 rfl) ?_
              refine va_get (D := (dC, dI)) (ci := 6) (v := .ref (hw 403)) (C := RX6) (T := TX6) (N := 13) hx hb hts iwsMX6_changeCell_in6 hown hK hP 0 rfl rfl 10 (by decide) (hts _ hm_m_X6_changeCell_2) (fun _ h9 => h9) rfl dX6_changeCell_150 ?_
              have p9 := cj_2_1 (WQ hQ aQ kQ hw fQ_inside fQ_outside fQ_shut iQ_rows iQ_allRows iQ_columns) (WW nW hw lw kw wl_23 wb_23 wG_23)
              have hPc := hP.mem (fun q h => p9.mem_iff.mpr (List.mem_append_left _ h))
              have hDc := (hD.perm p9).left
              have hKc : va_K (dC, dI) vwCl (tW kw) _ := hK.sub [4] rfl
              have hFc := freeG p9 hD hS hA
              refine va_callv (va_runV (As := []) (rest := []) ⟨hx, hb, hml, hown, hts⟩ (m_X8_negate l dC dI nW hw lw kw wl_23 wb_23 wG_23 403 b_wl_23 b_wb_23 (by first | with_reducible assumption | omega | (rw [iI_t (by omega) (by omega)]; omega) | decide | assumption) H.size) (cwV 0 hts gwsMX6_changeCell_2 rfl rfl rfl hd_yX8_negate_RX8 (by decide +kernel)) (fz_pre (va_recv hK hP (ci := 8) (q0 := 5 + (403)) rfl (apR rfl (WW_o (by omega)))) hPc hKc hDc) rfl rfl hl.1 rfl (lv_room (Nat.le_of_ble_eq_true rfl)) dX6_changeCell_153 (by decide +kernel)) hS (fun q _ h => hFc q h) hFc (fun wb_25 t9_ H locs ht hvm hw9 hB9 hz1 hk1 hS => ?_)
              have b_wb_25 := hw9
              try dsimp only at b_wb_25
              have p8 := cj_2_1 (WQ hQ aQ kQ hw fQ_inside fQ_outside fQ_shut iQ_rows iQ_allRows iQ_columns) (WW nW hw lw kw wl_23 wb_25 wG_23)
              obtain ⟨hP, hD⟩ := frameG p9 p8 hP hD hk1 hFc (fz_P ht hB9.1) hB9.2
              have hl : lv_has _ _ ([(5, .int k0_j7), (0, .ref (hQ 0)), (1, .ref (hw k1)), (2, .ref (hw k2)), (3, .ref (hw k3)), (4, .int p4)]) := lv_sub hl [0, 1, 2, 3, 4, 5] rfl
              exact join10 _ _ _ _ ⟨wb_25, b_wb_25, rfl, hP, hD, hS, hl⟩
          · rintro H locs ls stk ⟨wb_j10, b_wb_j10, rfl, hP, hD, hS, hl⟩
            refine lv_aload_n hx hb dX6_changeCell_156 rfl (lv_at hl 1 rfl) ?_
            refine va_get (D := (dC, dI)) (ci := 6) (v := .ref (hw 402)) (C := RX6) (T := TX6) (N := 13) hx hb hts iwsMX6_changeCell_in6 hown hK hP 0 rfl rfl 9 (by decide) (hts _ hm_m_X6_changeCell_0) (fun _ h9 => h9) rfl dX6_changeCell_157 ?_
            refine lv_aload_n hx hb dX6_changeCell_160 rfl (lv_at hl 1 rfl) ?_
            refine va_get (D := (dC, dI)) (ci := 6) (v := .ref (hw 403)) (C := RX6) (T := TX6) (N := 13) hx hb hts iwsMX6_changeCell_in6 hown hK hP 0 rfl rfl 10 (by decide) (hts _ hm_m_X6_changeCell_2) (fun _ h9 => h9) rfl dX6_changeCell_161 ?_
            have p9 := cj_2_1 (WQ hQ aQ kQ hw fQ_inside fQ_outside fQ_shut iQ_rows iQ_allRows iQ_columns) (WW nW hw lw kw wl_23 wb_j10 wG_23)
            have hPc := hP.mem (fun q h => p9.mem_iff.mpr (List.mem_append_left _ h))
            have hDc := (hD.perm p9).left
            have hKc : va_K (dC, dI) vwCl (tW kw) _ := hK.sub [4] rfl
            have hFc := freeG p9 hD hS hA
            refine va_callv (va_runV (As := [.ref (hw 403)]) (rest := []) ⟨hx, hb, hml, hown, hts⟩ (m_X8_add l dC dI nW hw lw kw wl_23 wb_j10 wG_23 402 403 b_wl_23 b_wb_j10 (by first | with_reducible assumption | omega | (rw [iI_t (by omega) (by omega)]; omega) | decide | assumption) (by first | with_reducible assumption | omega | (rw [iI_t (by omega) (by omega)]; omega) | decide | assumption) H.size) (cwV 1 hts gwsMX6_changeCell_3 rfl rfl rfl hd_yX8_add_RX8 (by decide +kernel)) (fz_pre (va_recv hK hP (ci := 8) (q0 := 5 + (402)) rfl (apR rfl (WW_o (by omega)))) hPc hKc hDc) rfl rfl hl.1 rfl (lv_room (Nat.le_of_ble_eq_true rfl)) dX6_changeCell_164 (by decide +kernel)) hS (fun q _ h => hFc q h) hFc (fun u t9_ H locs ht hvm hw9 hB9 hz1 hk1 hS => ?_)
            revert u hw9 hB9
            refine fz_p3 ?_
            intro wl_26 wb_26 wG_26 hw9 hB9
            try dsimp only at hw9 hB9
            revert hw9
            refine fz_a2 ?_
            intro b_wl_26 b_wb_26
            have p8 := cj_2_1 (WQ hQ aQ kQ hw fQ_inside fQ_outside fQ_shut iQ_rows iQ_allRows iQ_columns) (WW nW hw lw kw wl_26 wb_26 wG_26)
            obtain ⟨hP, hD⟩ := frameG p9 p8 hP hD hk1 hFc (fz_P ht hB9.1) hB9.2
            refine lv_aload_n hx hb dX6_changeCell_167 rfl (lv_at hl 1 rfl) ?_
            refine va_get (D := (dC, dI)) (ci := 6) (v := .ref (hw 402)) (C := RX6) (T := TX6) (N := 13) hx hb hts iwsMX6_changeCell_in6 hown hK hP 0 rfl rfl 9 (by decide) (hts _ hm_m_X6_changeCell_0) (fun _ h9 => h9) rfl dX6_changeCell_168 ?_
            refine lv_aload_n hx hb dX6_changeCell_171 rfl (lv_at hl 1 rfl) ?_
            refine va_get (D := (dC, dI)) (ci := 6) (v := .ref (hw 400)) (C := RX6) (T := TX6) (N := 13) hx hb hts iwsMX6_changeCell_in6 hown hK hP 0 rfl rfl 4 (by decide) (hts _ hm_m_X6_changeCell_3) (fun _ h9 => h9) rfl dX6_changeCell_172 ?_
            refine lv_aload_n hx hb dX6_changeCell_175 rfl (lv_at hl 1 rfl) ?_
            refine va_get (D := (dC, dI)) (ci := 6) (v := .ref (hw 404)) (C := RX6) (T := TX6) (N := 13) hx hb hts iwsMX6_changeCell_in6 hown hK hP 0 rfl rfl 11 (by decide) (hts _ hm_m_X6_changeCell_4) (fun _ h9 => h9) rfl dX6_changeCell_176 ?_
            refine lv_aload_n hx hb dX6_changeCell_179 rfl (lv_at hl 1 rfl) ?_
            refine va_get (D := (dC, dI)) (ci := 6) (v := .ref (hw 405)) (C := RX6) (T := TX6) (N := 13) hx hb hts iwsMX6_changeCell_in6 hown hK hP 0 rfl rfl 12 (by decide) (hts _ hm_m_X6_changeCell_5) (fun _ h9 => h9) rfl dX6_changeCell_180 ?_
            have p9 := cj_2_1 (WQ hQ aQ kQ hw fQ_inside fQ_outside fQ_shut iQ_rows iQ_allRows iQ_columns) (WW nW hw lw kw wl_26 wb_26 wG_26)
            have hPc := hP.mem (fun q h => p9.mem_iff.mpr (List.mem_append_left _ h))
            have hDc := (hD.perm p9).left
            have hKc : va_K (dC, dI) vwCl (tW kw) _ := hK.sub [4] rfl
            have hFc := freeG p9 hD hS hA
            refine va_callv (va_runV (As := [.ref (hw 400), .ref (hw 404), .ref (hw 405)]) (rest := []) ⟨hx, hb, hml, hown, hts⟩ (m_X8_divide l dC dI nW hw lw kw wl_26 wb_26 wG_26 402 400 404 405 b_wl_26 b_wb_26 (by first | with_reducible assumption | omega | (rw [iI_t (by omega) (by omega)]; omega) | decide | assumption) (by first | with_reducible assumption | omega | (rw [iI_t (by omega) (by omega)]; omega) | decide | assumption) (by first | with_reducible assumption | omega | (rw [iI_t (by omega) (by omega)]; omega) | decide | assumption) (by first | with_reducible assumption | omega | (rw [iI_t (by omega) (by omega)]; omega) | decide | assumption) (by first | with_reducible assumption | omega | (rw [iI_t (by omega) (by omega)]; omega) | decide | assumption) H.size) (cwV 3 hts gwsMX6_changeCell_4 rfl rfl rfl hd_yX8_divide_RX8 (by decide +kernel)) (fz_pre (va_recv hK hP (ci := 8) (q0 := 5 + (402)) rfl (apR rfl (WW_o (by omega)))) hPc hKc hDc) rfl rfl hl.1 rfl (lv_room (Nat.le_of_ble_eq_true rfl)) dX6_changeCell_183 (by decide +kernel)) hS (fun q _ h => hFc q h) hFc (fun u t9_ H locs ht hvm hw9 hB9 hz1 hk1 hS => ?_)
            revert u hw9 hB9
            refine fz_p3 ?_
            intro wl_27 wb_27 wG_27 hw9 hB9
            try dsimp only at hw9 hB9
            revert hw9
            refine fz_a2 ?_
            intro b_wl_27 b_wb_27
            have p8 := cj_2_1 (WQ hQ aQ kQ hw fQ_inside fQ_outside fQ_shut iQ_rows iQ_allRows iQ_columns) (WW nW hw lw kw wl_27 wb_27 wG_27)
            obtain ⟨hP, hD⟩ := frameG p9 p8 hP hD hk1 hFc (fz_P ht hB9.1) hB9.2
            refine lv_aload_n hx hb dX6_changeCell_186 rfl (lv_at hl 2 rfl) ?_
            refine lv_aload_n hx hb dX6_changeCell_187 rfl (lv_at hl 1 rfl) ?_
            refine va_get (D := (dC, dI)) (ci := 6) (v := .ref (hw 402)) (C := RX6) (T := TX6) (N := 13) hx hb hts iwsMX6_changeCell_in6 hown hK hP 0 rfl rfl 9 (by decide) (hts _ hm_m_X6_changeCell_0) (fun _ h9 => h9) rfl dX6_changeCell_188 ?_
            have p9 := cj_2_1 (WQ hQ aQ kQ hw fQ_inside fQ_outside fQ_shut iQ_rows iQ_allRows iQ_columns) (WW nW hw lw kw wl_27 wb_27 wG_27)
            have hPc := hP.mem (fun q h => p9.mem_iff.mpr (List.mem_append_left _ h))
            have hDc := (hD.perm p9).left
            have hKc : va_K (dC, dI) vwCl (tW kw) _ := hK.sub [4] rfl
            have hFc := freeG p9 hD hS hA
            refine va_callv (va_runV (As := [.ref (hw 402)]) (rest := []) ⟨hx, hb, hml, hown, hts⟩ (m_X8_copy l dC dI nW hw lw kw wl_27 wb_27 wG_27 k1 402 b_wl_27 b_wb_27 (by first | with_reducible assumption | omega | (rw [iI_t (by omega) (by omega)]; omega) | decide | assumption) (by first | with_reducible assumption | omega | (rw [iI_t (by omega) (by omega)]; omega) | decide | assumption) H.size) (cwV 1 hts gwsMX6_changeCell_5 rfl rfl rfl hd_yX8_copy_RX8 (by decide +kernel)) (fz_pre (va_recv hK hP (ci := 8) (q0 := 5 + (k1)) rfl (apR rfl (WW_o (by omega)))) hPc hKc hDc) rfl rfl hl.1 rfl (lv_room (Nat.le_of_ble_eq_true rfl)) dX6_changeCell_191 (by decide +kernel)) hS (fun q _ h => hFc q h) hFc (fun u t9_ H locs ht hvm hw9 hB9 hz1 hk1 hS => ?_)
            revert u hw9 hB9
            refine fz_p3 ?_
            intro wl_28 wb_28 wG_28 hw9 hB9
            try dsimp only at hw9 hB9
            revert hw9
            refine fz_a2 ?_
            intro b_wl_28 b_wb_28
            have p8 := cj_2_1 (WQ hQ aQ kQ hw fQ_inside fQ_outside fQ_shut iQ_rows iQ_allRows iQ_columns) (WW nW hw lw kw wl_28 wb_28 wG_28)
            obtain ⟨hP, hD⟩ := frameG p9 p8 hP hD hk1 hFc (fz_P ht hB9.1) hB9.2
            refine W.widen (k := 0) (n := 0) (by decide +kernel) (by decide +kernel) ?_
            exact W.vret hx hb hr (fun t9_ ht hW => ⟨⟨(wl_28, wb_28, wG_28), rfl, ⟨b_wl_28, b_wb_28⟩, by rw [ht]; exact hP, hD⟩, hS.F ht⟩) hS.2.2 dX6_changeCell_194
        · have t_50 : ¬ r21.toInt = 0 := toI_neq c_50 rfl (by decide : (0 : Int32).toInt = 0)
          refine lv_aload_n hx hb dX6_changeCell_53 rfl (lv_at hl 3 rfl) ?_
          have p9 := cj_2_1 (WQ hQ aQ kQ hw fQ_inside fQ_outside fQ_shut iQ_rows iQ_allRows iQ_columns) (WW nW hw lw kw wl wb wG)
          have hPc := hP.mem (fun q h => p9.mem_iff.mpr (List.mem_append_left _ h))
          have hDc := (hD.perm p9).left
          have hKc : va_K (dC, dI) vwCl (tW kw) _ := hK.sub [4] rfl
          have hFc := freeG p9 hD hS hA
          refine va_calll (va_runV (As := []) (rest := []) ⟨hx, hb, hml, hown, hts⟩ (m_X8_small l dC dI nW hw lw kw wl wb wG k2 b_wl b_wb (by first | with_reducible assumption | omega | (rw [iI_t (by omega) (by omega)]; omega) | decide | assumption) H.size) (cwV 0 hts gwsMX6_changeCell_6 rfl rfl rfl hd_yX8_small_RX8 (by decide +kernel)) (fz_pre (va_recv hK hP (ci := 8) (q0 := 5 + (k2)) rfl (apR rfl (WW_o (by omega)))) hPc hKc hDc) rfl rfl hl.1 rfl (lv_room (Nat.le_of_ble_eq_true rfl)) dX6_changeCell_54 (by decide +kernel)) hS (fun q _ h => hFc q h) hFc (fun r29 u t9_ H locs ht hvm hw9 hB9 hz1 hk1 hS => ?_)
          clear hw9
          have p8 := p9
          obtain ⟨hP, hD⟩ := frameG p9 p8 hP hD hk1 hFc (fz_P ht hB9.1) hB9.2
          refine lv_aload_n hx hb dX6_changeCell_57 rfl (lv_at hl 4 rfl) ?_
          have p9 := cj_2_1 (WQ hQ aQ kQ hw fQ_inside fQ_outside fQ_shut iQ_rows iQ_allRows iQ_columns) (WW nW hw lw kw wl wb wG)
          have hPc := hP.mem (fun q h => p9.mem_iff.mpr (List.mem_append_left _ h))
          have hDc := (hD.perm p9).left
          have hKc : va_K (dC, dI) vwCl (tW kw) _ := hK.sub [4] rfl
          have hFc := freeG p9 hD hS hA
          refine va_calll (va_runV (As := []) (rest := [.long r29]) ⟨hx, hb, hml, hown, hts⟩ (m_X8_small l dC dI nW hw lw kw wl wb wG k3 b_wl b_wb (by first | with_reducible assumption | omega | (rw [iI_t (by omega) (by omega)]; omega) | decide | assumption) H.size) (cwV 0 hts gwsMX6_changeCell_6 rfl rfl rfl hd_yX8_small_RX8 (by decide +kernel)) (fz_pre (va_recv hK hP (ci := 8) (q0 := 5 + (k3)) rfl (apR rfl (WW_o (by omega)))) hPc hKc hDc) rfl rfl hl.1 rfl (lv_room (Nat.le_of_ble_eq_true rfl)) dX6_changeCell_58 (by decide +kernel)) hS (fun q _ h => hFc q h) hFc (fun r30 u t9_ H locs ht hvm hw9 hB9 hz1 hk1 hS => ?_)
          clear hw9
          have p8 := p9
          obtain ⟨hP, hD⟩ := frameG p9 p8 hP hD hk1 hFc (fz_P ht hB9.1) hB9.2
          refine lv_lmul hx hb dX6_changeCell_61 ?_
          refine lv_topl (fun v31 hv31 => ?_)
          clear hv31
          refine lv_lstore hx hb dX6_changeCell_62 hl (by decide) rfl (fun ls (hl : lv_has ls _ ([(6, .long v31), (5, .int k0_j7), (0, .ref (hQ 0)), (1, .ref (hw k1)), (2, .ref (hw k2)), (3, .ref (hw k3)), (4, .int p4)])) => ?_)
          refine lv_aload_n hx hb dX6_changeCell_64 rfl (lv_at hl 3 rfl) ?_
          have p9 := cj_2_1 (WQ hQ aQ kQ hw fQ_inside fQ_outside fQ_shut iQ_rows iQ_allRows iQ_columns) (WW nW hw lw kw wl wb wG)
          have hPc := hP.mem (fun q h => p9.mem_iff.mpr (List.mem_append_left _ h))
          have hDc := (hD.perm p9).left
          have hKc : va_K (dC, dI) vwCl (tW kw) _ := hK.sub [4] rfl
          have hFc := freeG p9 hD hS hA
          refine va_calll (va_runV (As := []) (rest := []) ⟨hx, hb, hml, hown, hts⟩ (m_X8_small l dC dI nW hw lw kw wl wb wG k1 b_wl b_wb (by first | with_reducible assumption | omega | (rw [iI_t (by omega) (by omega)]; omega) | decide | assumption) H.size) (cwV 0 hts gwsMX6_changeCell_6 rfl rfl rfl hd_yX8_small_RX8 (by decide +kernel)) (fz_pre (va_recv hK hP (ci := 8) (q0 := 5 + (k1)) rfl (apR rfl (WW_o (by omega)))) hPc hKc hDc) rfl rfl hl.1 rfl (lv_room (Nat.le_of_ble_eq_true rfl)) dX6_changeCell_65 (by decide +kernel)) hS (fun q _ h => hFc q h) hFc (fun r32 u t9_ H locs ht hvm hw9 hB9 hz1 hk1 hS => ?_)
          clear hw9
          have p8 := p9
          obtain ⟨hP, hD⟩ := frameG p9 p8 hP hD hk1 hFc (fz_P ht hB9.1) hB9.2
          refine lv_aload_n hx hb dX6_changeCell_68 rfl (lv_at hl 2 rfl) ?_
          refine va_get (D := (dC, dI)) (ci := 6) (v := .ref (hw 401)) (C := RX6) (T := TX6) (N := 13) hx hb hts iwsMX6_changeCell_in6 hown hK hP 0 rfl rfl 8 (by decide) (hts _ hm_m_X6_changeCell_1) (fun _ h9 => h9) rfl dX6_changeCell_69 ?_
          have p9 := cj_2_1 (WQ hQ aQ kQ hw fQ_inside fQ_outside fQ_shut iQ_rows iQ_allRows iQ_columns) (WW nW hw lw kw wl wb wG)
          have hPc := hP.mem (fun q h => p9.mem_iff.mpr (List.mem_append_left _ h))
          have hDc := (hD.perm p9).left
          have hKc : va_K (dC, dI) vwCl (tW kw) _ := hK.sub [4] rfl
          have hFc := freeG p9 hD hS hA
          refine va_calll (va_runV (As := []) (rest := [.long r32]) ⟨hx, hb, hml, hown, hts⟩ (m_X8_small l dC dI nW hw lw kw wl wb wG 401 b_wl b_wb (by first | with_reducible assumption | omega | (rw [iI_t (by omega) (by omega)]; omega) | decide | assumption) H.size) (cwV 0 hts gwsMX6_changeCell_6 rfl rfl rfl hd_yX8_small_RX8 (by decide +kernel)) (fz_pre (va_recv hK hP (ci := 8) (q0 := 5 + (401)) rfl (apR rfl (WW_o (by omega)))) hPc hKc hDc) rfl rfl hl.1 rfl (lv_room (Nat.le_of_ble_eq_true rfl)) dX6_changeCell_72 (by decide +kernel)) hS (fun q _ h => hFc q h) hFc (fun r33 u t9_ H locs ht hvm hw9 hB9 hz1 hk1 hS => ?_)
          clear hw9
          have p8 := p9
          obtain ⟨hP, hD⟩ := frameG p9 p8 hP hD hk1 hFc (fz_P ht hB9.1) hB9.2
          refine lv_lmul hx hb dX6_changeCell_75 ?_
          refine lv_topl (fun v34 hv34 => ?_)
          clear hv34
          refine lv_iload hx hb dX6_changeCell_76 (lv_at hl 6 rfl) ?_
          refine W.cut (pc := 89) (fun H locs ls stk => ∃ (k0_j11 : Int64),  stk = [.long k0_j11, .long v34] ∧ va_P (dC, dI) vwCl (WQ hQ aQ kQ hw fQ_inside fQ_outside fQ_shut iQ_rows iQ_allRows iQ_columns ++ (WW nW hw lw kw wl wb wG)) H ∧ va_D A (WQ hQ aQ kQ hw fQ_inside fQ_outside fQ_shut iQ_rows iQ_allRows iQ_columns ++ (WW nW hw lw kw wl wb wG)) ∧ va_S A s.heap H locs ∧ lv_has ls 12 [(6, .long v31), (5, .int k0_j7), (0, .ref (hQ 0)), (1, .ref (hw k1)), (2, .ref (hw k2)), (3, .ref (hw k3)), (4, .int p4)]) (fun join11 => ?_) ?_
          · refine lv_if_eq (tgt := 86) hx hb dX6_changeCell_78 (by decide) (fun c_78 => ?_) (fun c_78 => ?_)
            · have t_78 : p4.toInt = 0 := toI_eq c_78 rfl (by decide : (0 : Int32).toInt = 0)
              refine lv_lload hx hb dX6_changeCell_86 (lv_at hl 0 rfl) ?_
              refine lv_lneg hx hb dX6_changeCell_88 ?_
              refine lv_topl (fun v36 hv36 => ?_)
              clear hv36
              have hl : lv_has _ _ ([(6, .long v31), (5, .int k0_j7), (0, .ref (hQ 0)), (1, .ref (hw k1)), (2, .ref (hw k2)), (3, .ref (hw k3)), (4, .int p4)]) := lv_sub hl [0, 1, 2, 3, 4, 5, 6] rfl
              exact join11 _ _ _ _ ⟨v36, rfl, hP, hD, hS, hl⟩
            · have t_78 : ¬ p4.toInt = 0 := toI_neq c_78 rfl (by decide : (0 : Int32).toInt = 0)
              refine lv_lload hx hb dX6_changeCell_81 (lv_at hl 0 rfl) ?_
              refine lv_goto (tgt := 89) hx hb dX6_changeCell_83 (by decide) ?_
              have hl : lv_has _ _ ([(6, .long v31), (5, .int k0_j7), (0, .ref (hQ 0)), (1, .ref (hw k1)), (2, .ref (hw k2)), (3, .ref (hw k3)), (4, .int p4)]) := lv_sub hl [0, 1, 2, 3, 4, 5, 6] rfl
              exact join11 _ _ _ _ ⟨v31, rfl, hP, hD, hS, hl⟩
          · rintro H locs ls stk ⟨k0_j11, rfl, hP, hD, hS, hl⟩
            refine lv_ladd hx hb dX6_changeCell_89 ?_
            refine lv_topl (fun v37 hv37 => ?_)
            clear hv37
            refine lv_lstore hx hb dX6_changeCell_90 hl (by decide) rfl (fun ls (hl : lv_has ls _ ([(8, .long v37), (6, .long v31), (5, .int k0_j7), (0, .ref (hQ 0)), (1, .ref (hw k1)), (2, .ref (hw k2)), (3, .ref (hw k3)), (4, .int p4)])) => ?_)
            refine lv_aload_n hx hb dX6_changeCell_92 rfl (lv_at hl 3 rfl) ?_
            refine va_get (D := (dC, dI)) (ci := 6) (v := .ref (hw 400)) (C := RX6) (T := TX6) (N := 13) hx hb hts iwsMX6_changeCell_in6 hown hK hP 0 rfl rfl 4 (by decide) (hts _ hm_m_X6_changeCell_3) (fun _ h9 => h9) rfl dX6_changeCell_93 ?_
            have p9 := cj_2_1 (WQ hQ aQ kQ hw fQ_inside fQ_outside fQ_shut iQ_rows iQ_allRows iQ_columns) (WW nW hw lw kw wl wb wG)
            have hPc := hP.mem (fun q h => p9.mem_iff.mpr (List.mem_append_left _ h))
            have hDc := (hD.perm p9).left
            have hKc : va_K (dC, dI) vwCl (tW kw) _ := hK.sub [4] rfl
            have hFc := freeG p9 hD hS hA
            refine va_calll (va_runV (As := []) (rest := []) ⟨hx, hb, hml, hown, hts⟩ (m_X8_small l dC dI nW hw lw kw wl wb wG 400 b_wl b_wb (by first | with_reducible assumption | omega | (rw [iI_t (by omega) (by omega)]; omega) | decide | assumption) H.size) (cwV 0 hts gwsMX6_changeCell_6 rfl rfl rfl hd_yX8_small_RX8 (by decide +kernel)) (fz_pre (va_recv hK hP (ci := 8) (q0 := 5 + (400)) rfl (apR rfl (WW_o (by omega)))) hPc hKc hDc) rfl rfl hl.1 rfl (lv_room (Nat.le_of_ble_eq_true rfl)) dX6_changeCell_96 (by decide +kernel)) hS (fun q _ h => hFc q h) hFc (fun r38 u t9_ H locs ht hvm hw9 hB9 hz1 hk1 hS => ?_)
            clear hw9
            have p8 := p9
            obtain ⟨hP, hD⟩ := frameG p9 p8 hP hD hk1 hFc (fz_P ht hB9.1) hB9.2
            refine lv_lstore hx hb dX6_changeCell_99 hl (by decide) rfl (fun ls (hl : lv_has ls _ ([(10, .long r38), (8, .long v37), (6, .long v31), (5, .int k0_j7), (0, .ref (hQ 0)), (1, .ref (hw k1)), (2, .ref (hw k2)), (3, .ref (hw k3)), (4, .int p4)])) => ?_)
            refine lv_aload_n hx hb dX6_changeCell_101 rfl (lv_at hl 5 rfl) ?_
            refine lv_lload hx hb dX6_changeCell_102 (lv_at hl 0 rfl) ?_
            refine lv_lconst (v := 0) hx hb dX6_changeCell_104 (by decide) ?_
            refine W.lcmp hx hb dX6_changeCell_105 ?_
            refine W.cut (pc := 119) (fun H locs ls stk => ∃ (k0_j12 : Int64),  stk = [.long k0_j12, .ref (hw k1)] ∧ va_P (dC, dI) vwCl (WQ hQ aQ kQ hw fQ_inside fQ_outside fQ_shut iQ_rows iQ_allRows iQ_columns ++ (WW nW hw lw kw wl wb wG)) H ∧ va_D A (WQ hQ aQ kQ hw fQ_inside fQ_outside fQ_shut iQ_rows iQ_allRows iQ_columns ++ (WW nW hw lw kw wl wb wG)) ∧ va_S A s.heap H locs ∧ lv_has ls 12 [(10, .long r38), (8, .long v37), (6, .long v31), (5, .int k0_j7), (0, .ref (hQ 0)), (1, .ref (hw k1)), (2, .ref (hw k2)), (3, .ref (hw k3)), (4, .int p4)]) (fun join12 => ?_) ?_
            · refine lv_if_ne (tgt := 114) hx hb dX6_changeCell_106 (by decide) (fun c_106 => ?_) (fun c_106 => ?_)
              · have t_106 : r38.toInt ≠ 0 := toL_ne c_106 rfl (by decide : (0 : Int64).toInt = 0)
                refine lv_lload hx hb dX6_changeCell_114 (lv_at hl 1 rfl) ?_
                refine lv_lload hx hb dX6_changeCell_116 (lv_at hl 0 rfl) ?_
                refine lv_ldiv hx hb dX6_changeCell_118 (nz_l (x := r38) rfl (by omega)) ?_
                refine lv_topl (fun v40 hv40 => ?_)
                clear hv40
                have hl : lv_has _ _ ([(10, .long r38), (8, .long v37), (6, .long v31), (5, .int k0_j7), (0, .ref (hQ 0)), (1, .ref (hw k1)), (2, .ref (hw k2)), (3, .ref (hw k3)), (4, .int p4)]) := lv_sub hl [0, 1, 2, 3, 4, 5, 6, 7, 8] rfl
                exact join12 _ _ _ _ ⟨v40, rfl, hP, hD, hS, hl⟩
              · have t_106 : r38.toInt = 0 := toL_nne c_106 rfl (by decide : (0 : Int64).toInt = 0)
                refine lv_lload hx hb dX6_changeCell_109 (lv_at hl 1 rfl) ?_
                refine lv_goto (tgt := 119) hx hb dX6_changeCell_111 (by decide) ?_
                have hl : lv_has _ _ ([(10, .long r38), (8, .long v37), (6, .long v31), (5, .int k0_j7), (0, .ref (hQ 0)), (1, .ref (hw k1)), (2, .ref (hw k2)), (3, .ref (hw k3)), (4, .int p4)]) := lv_sub hl [0, 1, 2, 3, 4, 5, 6, 7, 8] rfl
                exact join12 _ _ _ _ ⟨v37, rfl, hP, hD, hS, hl⟩
            · rintro H locs ls stk ⟨k0_j12, rfl, hP, hD, hS, hl⟩
              have p9 := cj_2_1 (WQ hQ aQ kQ hw fQ_inside fQ_outside fQ_shut iQ_rows iQ_allRows iQ_columns) (WW nW hw lw kw wl wb wG)
              have hPc := hP.mem (fun q h => p9.mem_iff.mpr (List.mem_append_left _ h))
              have hDc := (hD.perm p9).left
              have hKc : va_K (dC, dI) vwCl (tW kw) _ := hK.sub [4] rfl
              have hFc := freeG p9 hD hS hA
              refine va_callv (va_runV (As := [.long k0_j12]) (rest := []) ⟨hx, hb, hml, hown, hts⟩ (m_X8_setLong l dC dI nW hw lw kw wl wb wG k1 k0_j12 b_wl b_wb (by first | with_reducible assumption | omega | (rw [iI_t (by omega) (by omega)]; omega) | decide | assumption) H.size) (cwV 1 hts gwsMX6_changeCell_7 rfl rfl rfl hd_yX8_setLong_RX8 (by decide +kernel)) (fz_pre (va_recv hK hP (ci := 8) (q0 := 5 + (k1)) rfl (apR rfl (WW_o (by omega)))) hPc hKc hDc) rfl rfl hl.1 rfl (lv_room (Nat.le_of_ble_eq_true rfl)) dX6_changeCell_119 (by decide +kernel)) hS (fun q _ h => hFc q h) hFc (fun u t9_ H locs ht hvm hw9 hB9 hz1 hk1 hS => ?_)
              revert u hw9 hB9
              refine fz_p3 ?_
              intro wl_41 wb_41 wG_41 hw9 hB9
              try dsimp only at hw9 hB9
              revert hw9
              refine fz_a2 ?_
              intro b_wl_41 b_wb_41
              have p8 := cj_2_1 (WQ hQ aQ kQ hw fQ_inside fQ_outside fQ_shut iQ_rows iQ_allRows iQ_columns) (WW nW hw lw kw wl_41 wb_41 wG_41)
              obtain ⟨hP, hD⟩ := frameG p9 p8 hP hD hk1 hFc (fz_P ht hB9.1) hB9.2
              refine W.widen (k := 0) (n := 0) (by decide +kernel) (by decide +kernel) ?_
              exact W.vret hx hb hr (fun t9_ ht hW => ⟨⟨(wl_41, wb_41, wG_41), rfl, ⟨b_wl_41, b_wb_41⟩, by rw [ht]; exact hP, hD⟩, hS.F ht⟩) hS.2.2 dX6_changeCell_122
theorem dX6_exchange_0 : decode cX6_exchange 0 = .ok (.aload_n 0, 1) := dk_42 (by decide +kernel)
theorem dX6_exchange_1 : decode cX6_exchange 1 = .ok (.iload_n 1, 1) := dk_27 (by decide +kernel)
theorem dX6_exchange_2 : decode cX6_exchange 2 = .ok (.iload_n 2, 1) := dk_28 (by decide +kernel)
theorem dX6_exchange_3 : decode cX6_exchange 3 = .ok (.invokevirtual 72, 3) := dk_182 (by decide +kernel)
theorem dX6_exchange_6 : decode cX6_exchange 6 = .ok (.astore_n 3, 1) := dk_78 (by decide +kernel)
theorem dX6_exchange_7 : decode cX6_exchange 7 = .ok (.aload_n 3, 1) := dk_45 (by decide +kernel)
theorem dX6_exchange_8 : decode cX6_exchange 8 = .ok (.getfield 131, 3) := dk_180 (by decide +kernel)
theorem dX6_exchange_11 : decode cX6_exchange 11 = .ok (.istore 4, 2) := dk_54 (by decide +kernel)
theorem dX6_exchange_13 : decode cX6_exchange 13 = .ok (.aload_n 0, 1) := dk_42 (by decide +kernel)
theorem dX6_exchange_14 : decode cX6_exchange 14 = .ok (.getfield 33, 3) := dk_180 (by decide +kernel)
theorem dX6_exchange_17 : decode cX6_exchange 17 = .ok (.aload_n 3, 1) := dk_45 (by decide +kernel)
theorem dX6_exchange_18 : decode cX6_exchange 18 = .ok (.invokevirtual 135, 3) := dk_182 (by decide +kernel)
theorem dX6_exchange_21 : decode cX6_exchange 21 = .ok (.aload_n 0, 1) := dk_42 (by decide +kernel)
theorem dX6_exchange_22 : decode cX6_exchange 22 = .ok (.getfield 33, 3) := dk_180 (by decide +kernel)
theorem dX6_exchange_25 : decode cX6_exchange 25 = .ok (.iconst 0, 1) := dk_3 (by decide +kernel)
theorem dX6_exchange_26 : decode cX6_exchange 26 = .ok (.putfield 131, 3) := dk_181 (by decide +kernel)
theorem dX6_exchange_29 : decode cX6_exchange 29 = .ok (.aload_n 0, 1) := dk_42 (by decide +kernel)
theorem dX6_exchange_30 : decode cX6_exchange 30 = .ok (.getfield 33, 3) := dk_180 (by decide +kernel)
theorem dX6_exchange_33 : decode cX6_exchange 33 = .ok (.aload_n 0, 1) := dk_42 (by decide +kernel)
theorem dX6_exchange_34 : decode cX6_exchange 34 = .ok (.getfield 29, 3) := dk_180 (by decide +kernel)
theorem dX6_exchange_37 : decode cX6_exchange 37 = .ok (.invokevirtual 96, 3) := dk_182 (by decide +kernel)
theorem dX6_exchange_40 : decode cX6_exchange 40 = .ok (.ifCond .ne 7, 3) := dk_154 (by decide +kernel)
theorem dX6_exchange_43 : decode cX6_exchange 43 = .ok (.iconst 1, 1) := dk_4 (by decide +kernel)
theorem dX6_exchange_44 : decode cX6_exchange 44 = .ok (.goto 4, 3) := dk_167 (by decide +kernel)
theorem dX6_exchange_47 : decode cX6_exchange 47 = .ok (.iconst 0, 1) := dk_3 (by decide +kernel)
theorem dX6_exchange_48 : decode cX6_exchange 48 = .ok (.istore 5, 2) := dk_54 (by decide +kernel)
theorem dX6_exchange_50 : decode cX6_exchange 50 = .ok (.iconst 0, 1) := dk_3 (by decide +kernel)
theorem dX6_exchange_51 : decode cX6_exchange 51 = .ok (.istore 6, 2) := dk_54 (by decide +kernel)
theorem dX6_exchange_53 : decode cX6_exchange 53 = .ok (.iload 6, 2) := dk_21 (by decide +kernel)
theorem dX6_exchange_55 : decode cX6_exchange 55 = .ok (.aload_n 0, 1) := dk_42 (by decide +kernel)
theorem dX6_exchange_56 : decode cX6_exchange 56 = .ok (.getfield 58, 3) := dk_180 (by decide +kernel)
theorem dX6_exchange_59 : decode cX6_exchange 59 = .ok (.if_icmp .ge 163, 3) := dk_162 (by decide +kernel)
theorem dX6_exchange_62 : decode cX6_exchange 62 = .ok (.aload_n 0, 1) := dk_42 (by decide +kernel)
theorem dX6_exchange_63 : decode cX6_exchange 63 = .ok (.iload 6, 2) := dk_21 (by decide +kernel)
theorem dX6_exchange_65 : decode cX6_exchange 65 = .ok (.iload_n 2, 1) := dk_28 (by decide +kernel)
theorem dX6_exchange_66 : decode cX6_exchange 66 = .ok (.invokevirtual 72, 3) := dk_182 (by decide +kernel)
theorem dX6_exchange_69 : decode cX6_exchange 69 = .ok (.astore 7, 2) := dk_58 (by decide +kernel)
theorem dX6_exchange_71 : decode cX6_exchange 71 = .ok (.iconst 0, 1) := dk_3 (by decide +kernel)
theorem dX6_exchange_72 : decode cX6_exchange 72 = .ok (.istore 8, 2) := dk_54 (by decide +kernel)
theorem dX6_exchange_74 : decode cX6_exchange 74 = .ok (.iload 8, 2) := dk_21 (by decide +kernel)
theorem dX6_exchange_76 : decode cX6_exchange 76 = .ok (.aload_n 0, 1) := dk_42 (by decide +kernel)
theorem dX6_exchange_77 : decode cX6_exchange 77 = .ok (.getfield 54, 3) := dk_180 (by decide +kernel)
theorem dX6_exchange_80 : decode cX6_exchange 80 = .ok (.if_icmp .gt 120, 3) := dk_163 (by decide +kernel)
theorem dX6_exchange_83 : decode cX6_exchange 83 = .ok (.iload 6, 2) := dk_21 (by decide +kernel)
theorem dX6_exchange_85 : decode cX6_exchange 85 = .ok (.iload_n 1, 1) := dk_27 (by decide +kernel)
theorem dX6_exchange_86 : decode cX6_exchange 86 = .ok (.if_icmp .eq 114, 3) := dk_159 (by decide +kernel)
theorem dX6_exchange_89 : decode cX6_exchange 89 = .ok (.aload_n 0, 1) := dk_42 (by decide +kernel)
theorem dX6_exchange_90 : decode cX6_exchange 90 = .ok (.iload 6, 2) := dk_21 (by decide +kernel)
theorem dX6_exchange_92 : decode cX6_exchange 92 = .ok (.iload 8, 2) := dk_21 (by decide +kernel)
theorem dX6_exchange_94 : decode cX6_exchange 94 = .ok (.invokevirtual 72, 3) := dk_182 (by decide +kernel)
theorem dX6_exchange_97 : decode cX6_exchange 97 = .ok (.astore 9, 2) := dk_58 (by decide +kernel)
theorem dX6_exchange_99 : decode cX6_exchange 99 = .ok (.aload_n 0, 1) := dk_42 (by decide +kernel)
theorem dX6_exchange_100 : decode cX6_exchange 100 = .ok (.iload_n 1, 1) := dk_27 (by decide +kernel)
theorem dX6_exchange_101 : decode cX6_exchange 101 = .ok (.iload 8, 2) := dk_21 (by decide +kernel)
theorem dX6_exchange_103 : decode cX6_exchange 103 = .ok (.invokevirtual 72, 3) := dk_182 (by decide +kernel)
theorem dX6_exchange_106 : decode cX6_exchange 106 = .ok (.astore 10, 2) := dk_58 (by decide +kernel)
theorem dX6_exchange_108 : decode cX6_exchange 108 = .ok (.aload 7, 2) := dk_25 (by decide +kernel)
theorem dX6_exchange_110 : decode cX6_exchange 110 = .ok (.getfield 76, 3) := dk_180 (by decide +kernel)
theorem dX6_exchange_113 : decode cX6_exchange 113 = .ok (.ifCond .eq 11, 3) := dk_153 (by decide +kernel)
theorem dX6_exchange_116 : decode cX6_exchange 116 = .ok (.aload 10, 2) := dk_25 (by decide +kernel)
theorem dX6_exchange_118 : decode cX6_exchange 118 = .ok (.getfield 76, 3) := dk_180 (by decide +kernel)
theorem dX6_exchange_121 : decode cX6_exchange 121 = .ok (.ifCond .ne 7, 3) := dk_154 (by decide +kernel)
theorem dX6_exchange_124 : decode cX6_exchange 124 = .ok (.iconst 1, 1) := dk_4 (by decide +kernel)
theorem dX6_exchange_125 : decode cX6_exchange 125 = .ok (.goto 4, 3) := dk_167 (by decide +kernel)
theorem dX6_exchange_128 : decode cX6_exchange 128 = .ok (.iconst 0, 1) := dk_3 (by decide +kernel)
theorem dX6_exchange_129 : decode cX6_exchange 129 = .ok (.istore 11, 2) := dk_54 (by decide +kernel)
theorem dX6_exchange_131 : decode cX6_exchange 131 = .ok (.iload 11, 2) := dk_21 (by decide +kernel)
theorem dX6_exchange_133 : decode cX6_exchange 133 = .ok (.ifCond .eq 20, 3) := dk_153 (by decide +kernel)
theorem dX6_exchange_136 : decode cX6_exchange 136 = .ok (.iload 5, 2) := dk_21 (by decide +kernel)
theorem dX6_exchange_138 : decode cX6_exchange 138 = .ok (.ifCond .ne 11, 3) := dk_154 (by decide +kernel)
theorem dX6_exchange_141 : decode cX6_exchange 141 = .ok (.aload 9, 2) := dk_25 (by decide +kernel)
theorem dX6_exchange_143 : decode cX6_exchange 143 = .ok (.getfield 76, 3) := dk_180 (by decide +kernel)
theorem dX6_exchange_146 : decode cX6_exchange 146 = .ok (.ifCond .ne 7, 3) := dk_154 (by decide +kernel)
theorem dX6_exchange_149 : decode cX6_exchange 149 = .ok (.iconst 1, 1) := dk_4 (by decide +kernel)
theorem dX6_exchange_150 : decode cX6_exchange 150 = .ok (.goto 4, 3) := dk_167 (by decide +kernel)
theorem dX6_exchange_153 : decode cX6_exchange 153 = .ok (.iconst 0, 1) := dk_3 (by decide +kernel)
theorem dX6_exchange_154 : decode cX6_exchange 154 = .ok (.istore 12, 2) := dk_54 (by decide +kernel)
theorem dX6_exchange_156 : decode cX6_exchange 156 = .ok (.iload 8, 2) := dk_21 (by decide +kernel)
theorem dX6_exchange_158 : decode cX6_exchange 158 = .ok (.iload_n 2, 1) := dk_28 (by decide +kernel)
theorem dX6_exchange_159 : decode cX6_exchange 159 = .ok (.if_icmp .eq 35, 3) := dk_159 (by decide +kernel)
theorem dX6_exchange_162 : decode cX6_exchange 162 = .ok (.iload 12, 2) := dk_21 (by decide +kernel)
theorem dX6_exchange_164 : decode cX6_exchange 164 = .ok (.ifCond .ne 30, 3) := dk_154 (by decide +kernel)
theorem dX6_exchange_167 : decode cX6_exchange 167 = .ok (.iload 8, 2) := dk_21 (by decide +kernel)
theorem dX6_exchange_169 : decode cX6_exchange 169 = .ok (.ifCond .eq 13, 3) := dk_153 (by decide +kernel)
theorem dX6_exchange_172 : decode cX6_exchange 172 = .ok (.aload_n 0, 1) := dk_42 (by decide +kernel)
theorem dX6_exchange_173 : decode cX6_exchange 173 = .ok (.getfield 24, 3) := dk_180 (by decide +kernel)
theorem dX6_exchange_176 : decode cX6_exchange 176 = .ok (.iload 8, 2) := dk_21 (by decide +kernel)
theorem dX6_exchange_178 : decode cX6_exchange 178 = .ok (.baload, 1) := dk_51 (by decide +kernel)
theorem dX6_exchange_179 : decode cX6_exchange 179 = .ok (.ifCond .ne 15, 3) := dk_154 (by decide +kernel)
theorem dX6_exchange_182 : decode cX6_exchange 182 = .ok (.aload_n 0, 1) := dk_42 (by decide +kernel)
theorem dX6_exchange_183 : decode cX6_exchange 183 = .ok (.aload 9, 2) := dk_25 (by decide +kernel)
theorem dX6_exchange_185 : decode cX6_exchange 185 = .ok (.aload 7, 2) := dk_25 (by decide +kernel)
theorem dX6_exchange_187 : decode cX6_exchange 187 = .ok (.aload 10, 2) := dk_25 (by decide +kernel)
theorem dX6_exchange_189 : decode cX6_exchange 189 = .ok (.iload 4, 2) := dk_21 (by decide +kernel)
theorem dX6_exchange_191 : decode cX6_exchange 191 = .ok (.invokevirtual 138, 3) := dk_182 (by decide +kernel)
theorem dX6_exchange_194 : decode cX6_exchange 194 = .ok (.iinc 8 1, 3) := dk_132 (by decide +kernel)
theorem dX6_exchange_197 : decode cX6_exchange 197 = .ok (.goto (-123), 3) := dk_167 (by decide +kernel)
theorem dX6_exchange_200 : decode cX6_exchange 200 = .ok (.iload 4, 2) := dk_21 (by decide +kernel)
theorem dX6_exchange_202 : decode cX6_exchange 202 = .ok (.ifCond .eq 14, 3) := dk_153 (by decide +kernel)
theorem dX6_exchange_205 : decode cX6_exchange 205 = .ok (.iload 6, 2) := dk_21 (by decide +kernel)
theorem dX6_exchange_207 : decode cX6_exchange 207 = .ok (.iload_n 1, 1) := dk_27 (by decide +kernel)
theorem dX6_exchange_208 : decode cX6_exchange 208 = .ok (.if_icmp .eq 8, 3) := dk_159 (by decide +kernel)
theorem dX6_exchange_211 : decode cX6_exchange 211 = .ok (.aload 7, 2) := dk_25 (by decide +kernel)
theorem dX6_exchange_213 : decode cX6_exchange 213 = .ok (.invokevirtual 124, 3) := dk_182 (by decide +kernel)
theorem dX6_exchange_216 : decode cX6_exchange 216 = .ok (.iinc 6 1, 3) := dk_132 (by decide +kernel)
theorem dX6_exchange_219 : decode cX6_exchange 219 = .ok (.goto (-166), 3) := dk_167 (by decide +kernel)
theorem dX6_exchange_222 : decode cX6_exchange 222 = .ok (.iconst 0, 1) := dk_3 (by decide +kernel)
theorem dX6_exchange_223 : decode cX6_exchange 223 = .ok (.istore 6, 2) := dk_54 (by decide +kernel)
theorem dX6_exchange_225 : decode cX6_exchange 225 = .ok (.iload 6, 2) := dk_21 (by decide +kernel)
theorem dX6_exchange_227 : decode cX6_exchange 227 = .ok (.aload_n 0, 1) := dk_42 (by decide +kernel)
theorem dX6_exchange_228 : decode cX6_exchange 228 = .ok (.getfield 54, 3) := dk_180 (by decide +kernel)
theorem dX6_exchange_231 : decode cX6_exchange 231 = .ok (.if_icmp .gt 24, 3) := dk_163 (by decide +kernel)
theorem dX6_exchange_234 : decode cX6_exchange 234 = .ok (.iload 4, 2) := dk_21 (by decide +kernel)
theorem dX6_exchange_236 : decode cX6_exchange 236 = .ok (.ifCond .ne 19, 3) := dk_154 (by decide +kernel)
theorem dX6_exchange_239 : decode cX6_exchange 239 = .ok (.aload_n 0, 1) := dk_42 (by decide +kernel)
theorem dX6_exchange_240 : decode cX6_exchange 240 = .ok (.iload_n 1, 1) := dk_27 (by decide +kernel)
theorem dX6_exchange_241 : decode cX6_exchange 241 = .ok (.iload 6, 2) := dk_21 (by decide +kernel)
theorem dX6_exchange_243 : decode cX6_exchange 243 = .ok (.invokevirtual 72, 3) := dk_182 (by decide +kernel)
theorem dX6_exchange_246 : decode cX6_exchange 246 = .ok (.invokevirtual 124, 3) := dk_182 (by decide +kernel)
theorem dX6_exchange_249 : decode cX6_exchange 249 = .ok (.iinc 6 1, 3) := dk_132 (by decide +kernel)
theorem dX6_exchange_252 : decode cX6_exchange 252 = .ok (.goto (-27), 3) := dk_167 (by decide +kernel)
theorem dX6_exchange_255 : decode cX6_exchange 255 = .ok (.aload_n 3, 1) := dk_45 (by decide +kernel)
theorem dX6_exchange_256 : decode cX6_exchange 256 = .ok (.aload_n 0, 1) := dk_42 (by decide +kernel)
theorem dX6_exchange_257 : decode cX6_exchange 257 = .ok (.getfield 29, 3) := dk_180 (by decide +kernel)
theorem dX6_exchange_260 : decode cX6_exchange 260 = .ok (.invokevirtual 135, 3) := dk_182 (by decide +kernel)
theorem dX6_exchange_263 : decode cX6_exchange 263 = .ok (.aload_n 3, 1) := dk_45 (by decide +kernel)
theorem dX6_exchange_264 : decode cX6_exchange 264 = .ok (.iload 4, 2) := dk_21 (by decide +kernel)
theorem dX6_exchange_266 : decode cX6_exchange 266 = .ok (.putfield 131, 3) := dk_181 (by decide +kernel)
theorem dX6_exchange_269 : decode cX6_exchange 269 = .ok (.aload_n 0, 1) := dk_42 (by decide +kernel)
theorem dX6_exchange_270 : decode cX6_exchange 270 = .ok (.getfield 29, 3) := dk_180 (by decide +kernel)
theorem dX6_exchange_273 : decode cX6_exchange 273 = .ok (.aload_n 0, 1) := dk_42 (by decide +kernel)
theorem dX6_exchange_274 : decode cX6_exchange 274 = .ok (.getfield 33, 3) := dk_180 (by decide +kernel)
theorem dX6_exchange_277 : decode cX6_exchange 277 = .ok (.invokevirtual 135, 3) := dk_182 (by decide +kernel)
theorem dX6_exchange_280 : decode cX6_exchange 280 = .ok (.aload_n 0, 1) := dk_42 (by decide +kernel)
theorem dX6_exchange_281 : decode cX6_exchange 281 = .ok (.getfield 17, 3) := dk_180 (by decide +kernel)
theorem dX6_exchange_284 : decode cX6_exchange 284 = .ok (.iload_n 1, 1) := dk_27 (by decide +kernel)
theorem dX6_exchange_285 : decode cX6_exchange 285 = .ok (.iaload, 1) := dk_46 (by decide +kernel)
theorem dX6_exchange_286 : decode cX6_exchange 286 = .ok (.istore 6, 2) := dk_54 (by decide +kernel)
theorem dX6_exchange_288 : decode cX6_exchange 288 = .ok (.aload_n 0, 1) := dk_42 (by decide +kernel)
theorem dX6_exchange_289 : decode cX6_exchange 289 = .ok (.getfield 17, 3) := dk_180 (by decide +kernel)
theorem dX6_exchange_292 : decode cX6_exchange 292 = .ok (.iload_n 1, 1) := dk_27 (by decide +kernel)
theorem dX6_exchange_293 : decode cX6_exchange 293 = .ok (.aload_n 0, 1) := dk_42 (by decide +kernel)
theorem dX6_exchange_294 : decode cX6_exchange 294 = .ok (.getfield 21, 3) := dk_180 (by decide +kernel)
theorem dX6_exchange_297 : decode cX6_exchange 297 = .ok (.iload_n 2, 1) := dk_28 (by decide +kernel)
theorem dX6_exchange_298 : decode cX6_exchange 298 = .ok (.iaload, 1) := dk_46 (by decide +kernel)
theorem dX6_exchange_299 : decode cX6_exchange 299 = .ok (.iastore, 1) := dk_79 (by decide +kernel)
theorem dX6_exchange_300 : decode cX6_exchange 300 = .ok (.aload_n 0, 1) := dk_42 (by decide +kernel)
theorem dX6_exchange_301 : decode cX6_exchange 301 = .ok (.getfield 21, 3) := dk_180 (by decide +kernel)
theorem dX6_exchange_304 : decode cX6_exchange 304 = .ok (.iload_n 2, 1) := dk_28 (by decide +kernel)
theorem dX6_exchange_305 : decode cX6_exchange 305 = .ok (.iload 6, 2) := dk_21 (by decide +kernel)
theorem dX6_exchange_307 : decode cX6_exchange 307 = .ok (.iastore, 1) := dk_79 (by decide +kernel)
theorem dX6_exchange_308 : decode cX6_exchange 308 = .ok (.return_, 1) := dk_177 (by decide +kernel)
def wsMX6_exchange : List Cond := .code yX6_exchange cX6_exchange 13 none :: ([.fieldLink RX6 131 "OptimaWorks$Whole" "below" "Z", .fieldLink RX6 33 "OptimaWorks$Tableau" "turning" "LOptimaWorks$Whole;", .fieldLink RX6 29 "OptimaWorks$Tableau" "under" "LOptimaWorks$Whole;", .fieldLink RX6 58 "OptimaWorks$Tableau" "allRows" "I", .fieldLink RX6 54 "OptimaWorks$Tableau" "columns" "I", .fieldLink RX6 76 "OptimaWorks$Whole" "length" "I", .fieldLink RX6 24 "OptimaWorks$Tableau" "shut" "[Z", .fieldLink RX6 17 "OptimaWorks$Tableau" "inside" "[I", .fieldLink RX6 21 "OptimaWorks$Tableau" "outside" "[I"] ++ wsX60 ++ wsX80 ++ (wsV RX6 72 RX6 yX6_cellAt wsMX6_cellAt) ++ (wsV RX6 135 RX8 yX8_copy wsMX8_copy) ++ (wsV RX6 96 RX8 yX8_compareSize wsMX8_compareSize) ++ (wsV RX6 138 RX6 yX6_changeCell wsMX6_changeCell) ++ (wsV RX6 124 RX8 yX8_negate wsMX8_negate))
theorem iwsMX6_exchange_in6 : ∀ w ∈ wsX60, w ∈ wsMX6_exchange := fun _ h => List.mem_cons_of_mem _ (List.mem_append_left _ (List.mem_append_left _ (List.mem_append_left _ (List.mem_append_left _ (List.mem_append_left _ (List.mem_append_left _ (List.mem_append_right _ h)))))))
theorem iwsMX6_exchange_in8 : ∀ w ∈ wsX80, w ∈ wsMX6_exchange := fun _ h => List.mem_cons_of_mem _ (List.mem_append_left _ (List.mem_append_left _ (List.mem_append_left _ (List.mem_append_left _ (List.mem_append_left _ (List.mem_append_right _ h))))))
theorem gwsMX6_exchange_0 : GoodIn wsMX6_exchange (wsV RX6 72 RX6 yX6_cellAt wsMX6_cellAt) := goodIn_sub (fun _ h => List.mem_cons_of_mem _ (List.mem_append_left _ (List.mem_append_left _ (List.mem_append_left _ (List.mem_append_left _ (List.mem_append_right _ h)))))) (gdV (by decide +kernel) gdwsMX6_cellAt)
theorem gwsMX6_exchange_1 : GoodIn wsMX6_exchange (wsV RX6 135 RX8 yX8_copy wsMX8_copy) := goodIn_sub (fun _ h => List.mem_cons_of_mem _ (List.mem_append_left _ (List.mem_append_left _ (List.mem_append_left _ (List.mem_append_right _ h))))) (gdV (by decide +kernel) gdwsMX8_copy)
theorem gwsMX6_exchange_2 : GoodIn wsMX6_exchange (wsV RX6 96 RX8 yX8_compareSize wsMX8_compareSize) := goodIn_sub (fun _ h => List.mem_cons_of_mem _ (List.mem_append_left _ (List.mem_append_left _ (List.mem_append_right _ h)))) (gdV (by decide +kernel) gdwsMX8_compareSize)
theorem gwsMX6_exchange_3 : GoodIn wsMX6_exchange (wsV RX6 138 RX6 yX6_changeCell wsMX6_changeCell) := goodIn_sub (fun _ h => List.mem_cons_of_mem _ (List.mem_append_left _ (List.mem_append_right _ h))) (gdV (by decide +kernel) gdwsMX6_changeCell)
theorem gwsMX6_exchange_4 : GoodIn wsMX6_exchange (wsV RX6 124 RX8 yX8_negate wsMX8_negate) := goodIn_sub (fun _ h => List.mem_cons_of_mem _ (List.mem_append_right _ h)) (gdV (by decide +kernel) gdwsMX8_negate)
theorem gdwsMX6_exchange : wsMX6_exchange.all goodWord = true := gdC rfl (gdA (gdA (gdA (gdA (gdA (gdA (gdA (by decide +kernel : ([.fieldLink RX6 131 "OptimaWorks$Whole" "below" "Z", .fieldLink RX6 33 "OptimaWorks$Tableau" "turning" "LOptimaWorks$Whole;", .fieldLink RX6 29 "OptimaWorks$Tableau" "under" "LOptimaWorks$Whole;", .fieldLink RX6 58 "OptimaWorks$Tableau" "allRows" "I", .fieldLink RX6 54 "OptimaWorks$Tableau" "columns" "I", .fieldLink RX6 76 "OptimaWorks$Whole" "length" "I", .fieldLink RX6 24 "OptimaWorks$Tableau" "shut" "[Z", .fieldLink RX6 17 "OptimaWorks$Tableau" "inside" "[I", .fieldLink RX6 21 "OptimaWorks$Tableau" "outside" "[I"] : List Cond).all goodWord = true) gdwsX60) gdwsX80) (gdV (by decide +kernel) gdwsMX6_cellAt)) (gdV (by decide +kernel) gdwsMX8_copy)) (gdV (by decide +kernel) gdwsMX8_compareSize)) (gdV (by decide +kernel) gdwsMX6_changeCell)) (gdV (by decide +kernel) gdwsMX8_negate))
theorem hm_m_X6_exchange_0 : (.fieldLink RX6 131 "OptimaWorks$Whole" "below" "Z" : Cond) ∈ wsMX6_exchange := by decide +kernel
theorem hm_m_X6_exchange_1 : (.fieldLink RX6 33 "OptimaWorks$Tableau" "turning" "LOptimaWorks$Whole;" : Cond) ∈ wsMX6_exchange := by decide +kernel
theorem hm_m_X6_exchange_2 : (.fieldLink RX6 29 "OptimaWorks$Tableau" "under" "LOptimaWorks$Whole;" : Cond) ∈ wsMX6_exchange := by decide +kernel
theorem hm_m_X6_exchange_3 : (.fieldLink RX6 54 "OptimaWorks$Tableau" "columns" "I" : Cond) ∈ wsMX6_exchange := by decide +kernel
theorem hm_m_X6_exchange_4 : (.fieldLink RX6 17 "OptimaWorks$Tableau" "inside" "[I" : Cond) ∈ wsMX6_exchange := by decide +kernel
theorem hm_m_X6_exchange_5 : (.fieldLink RX6 21 "OptimaWorks$Tableau" "outside" "[I" : Cond) ∈ wsMX6_exchange := by decide +kernel
theorem hm_m_X6_exchange_6 : (.fieldLink RX6 76 "OptimaWorks$Whole" "length" "I" : Cond) ∈ wsMX6_exchange := by decide +kernel
set_option maxHeartbeats 4000000 in
set_option maxRecDepth 100000 in
/-- an exchange -/
theorem m_X6_exchange (l : Launch) (dC : Nat → ClassId) (dI : Nat → Nat → Nat) (hQ : Nat → Nat) (aQ : Nat → Nat) (kQ : Nat → ClassId) (hw : Nat → Nat) (fQ_inside : Nat → Int32) (fQ_outside : Nat → Int32) (fQ_shut : Nat → Int32) (iQ_rows : Int32) (iQ_allRows : Int32) (iQ_columns : Int32) (nW : Nat) (lw : Nat → Nat) (kw : ClassId) (wl : Nat → Int32) (wb : Nat → Int32) (wG : Nat → Nat → Int64) (p1 : Int32) (p2 : Int32) (b_iQ_rows : 0 ≤ iQ_rows.toInt ∧ iQ_rows.toInt ≤ 40) (b_iQ_allRows : 0 ≤ iQ_allRows.toInt ∧ iQ_allRows.toInt ≤ 40) (b_iQ_columns : 0 ≤ iQ_columns.toInt ∧ iQ_columns.toInt ≤ 40) (b_tb : TbO iQ_rows iQ_allRows iQ_columns) (b_wl : ∀ q : Nat, 0 ≤ (wl q).toInt ∧ (wl q).toInt ≤ 14) (b_wb : ∀ q : Nat, 0 ≤ (wb q).toInt ∧ (wb q).toInt ≤ 1) (b_p1 : 0 ≤ p1.toInt ∧ p1.toInt ≤ 39) (b_p2 : 0 ≤ p2.toInt ∧ p2.toInt ≤ 40) (hnW : 406 ≤ nW) (hrow : FitR p1.toInt iQ_columns.toInt) (hp2 : p2.toInt ≤ iQ_columns.toInt) (sz : Nat) : Met l yX6_exchange wsMX6_exchange ({ frames := 4, cells := 0, slots := 0, locals := 99 }) (va_Pc [.ref (hQ 0), .int p1, .int p2] (fun U => U.heap.size = sz ∧ va_P (dC, dI) vwCl (WQ hQ aQ kQ hw fQ_inside fQ_outside fQ_shut iQ_rows iQ_allRows iQ_columns ++ (WW nW hw lw kw wl wb wG)) U.heap ∧ va_K (dC, dI) vwCl (tQ kQ ++ (tW kw)) U ∧ va_D (fun _ => True) (WQ hQ aQ kQ hw fQ_inside fQ_outside fQ_shut iQ_rows iQ_allRows iQ_columns ++ (WW nW hw lw kw wl wb wG)))) (va_Qv (fun (u : (Nat → Int32) × (Nat → Int32) × (Nat → Int32) × (Nat → Int32) × (Nat → Nat → Int64)) => (∀ q : Nat, 0 ≤ ((u.2.2.1) q).toInt ∧ ((u.2.2.1) q).toInt ≤ 14) ∧ (∀ q : Nat, 0 ≤ ((u.2.2.2.1) q).toInt ∧ ((u.2.2.2.1) q).toInt ≤ 1)) (fun (u : (Nat → Int32) × (Nat → Int32) × (Nat → Int32) × (Nat → Int32) × (Nat → Nat → Int64)) t => va_P (dC, dI) vwCl (WQ hQ aQ kQ hw (u.1) (u.2.1) fQ_shut iQ_rows iQ_allRows iQ_columns ++ (WW nW hw lw kw (u.2.2.1) (u.2.2.2.1) (u.2.2.2.2))) t.heap ∧ va_D (va_A (WQ hQ aQ kQ hw fQ_inside fQ_outside fQ_shut iQ_rows iQ_allRows iQ_columns ++ (WW nW hw lw kw wl wb wG)) sz) (WQ hQ aQ kQ hw (u.1) (u.2.1) fQ_shut iQ_rows iQ_allRows iQ_columns ++ (WW nW hw lw kw (u.2.2.1) (u.2.2.2.1) (u.2.2.2.2)))) (va_A (WQ hQ aQ kQ hw fQ_inside fQ_outside fQ_shut iQ_rows iQ_allRows iQ_columns ++ (WW nW hw lw kw wl wb wG)) sz)) 0 0 (va_A (WQ hQ aQ kQ hw fQ_inside fQ_outside fQ_shut iQ_rows iQ_allRows iQ_columns ++ (WW nW hw lw kw wl wb wG)) sz) := by
  refine Met.ofW (cc := cX6_exchange) (maxL := 13) (ret := none) (by decide) rfl ?_
  intro p e s m args below meth c s₁ B hml hv
  obtain ⟨rfl, hsz, hP, hK, hD0⟩ := hv
  have hx := B.exec
  have hb := B.bytes
  have hr := B.returns
  have hts := atoms_spec (ws := wsMX6_exchange) B.pre
  have hown : s.vm.findClass RX6 = some m.cls := findClass_of_methodNamed B.named
  have hlocks := B.notSynchronized
  subst hsz
  have hD := hD0.self (sz := s.heap.size)
  generalize hAe : va_A (WQ hQ aQ kQ hw fQ_inside fQ_outside fQ_shut iQ_rows iQ_allRows iQ_columns ++ (WW nW hw lw kw wl wb wG)) s.heap.size = A at hD ⊢
  have hA : ∀ q : Nat, s.heap.size ≤ q → A q := fun q h => by rw [← hAe]; exact Or.inr h
  have hS : va_S A s.heap s.heap [] := va_S.rf
  have hl := lv_entry ([.ref (hQ 0), .int p1, .int p2]) (n := 13) (Nat.le_of_ble_eq_true rfl)
  rw [lg_entry_eq]
  generalize (lg_sl ([.ref (hQ 0), .int p1, .int p2]) ++ List.replicate (13 - (lg_sl ([.ref (hQ 0), .int p1, .int p2])).length) Slot.unset).toArray = ls at hl ⊢
  have hl : lv_has ls 13 [(0, .ref (hQ 0)), (1, .int p1), (2, .int p2)] := hl
  have hTb := b_tb.1
  refine lv_aload_n hx hb dX6_exchange_0 rfl (lv_at hl 0 rfl) ?_
  refine lv_iload_n hx hb dX6_exchange_1 rfl (lv_at hl 1 rfl) ?_
  refine lv_iload_n hx hb dX6_exchange_2 rfl (lv_at hl 2 rfl) ?_
  have hFc := allFree hD hS hA
  refine va_callr (va_runV (As := [.int p1, .int p2]) (rest := []) ⟨hx, hb, hml, hown, hts⟩ (m_X6_cellAt l dC dI hQ aQ kQ hw fQ_inside fQ_outside fQ_shut iQ_rows iQ_allRows iQ_columns nW lw kw wl wb wG p1 p2 (b_iQ_rows) (b_iQ_allRows) (b_iQ_columns) (by first | with_reducible assumption | omega | assumption) b_wl b_wb (b_p1) (b_p2) (by first | with_reducible assumption | omega | (rw [iI_t (by omega) (by omega)]; omega) | decide | assumption) (hrow.ix (by omega) (by omega)) s.heap.size) (cwV 2 hts gwsMX6_exchange_0 rfl rfl rfl hd_yX6_cellAt_RX6 (by decide +kernel)) (fz_pre (va_recv hK hP (ci := 6) (q0 := 0) rfl rfl) hP hK hD) rfl rfl hl.1 rfl (lv_room (Nat.le_of_ble_eq_true rfl)) dX6_exchange_3 (by decide +kernel)) hS (fun q _ h => hFc q h) hFc (fun kR_1 ra1 t9_ H locs ht hvm hw9 hB9 hz1 hk1 hS => ?_)
  revert hB9
  refine fz_a2 ?_
  intro hra hB9
  subst hra
  have f1_0 := hw9
  try dsimp only at f1_0
  have hP : va_P (dC, dI) vwCl (WQ hQ aQ kQ hw fQ_inside fQ_outside fQ_shut iQ_rows iQ_allRows iQ_columns ++ (WW nW hw lw kw wl wb wG)) H := fz_P ht hB9.1
  have hD := fz_sd hP (hB9.2.weaken (fun _ q _ h => hFc q.1 h)) rfl
  refine lv_astore_n hx hb dX6_exchange_6 rfl hl (by decide) rfl (fun ls (hl : lv_has ls _ ([(3, .ref (hw kR_1)), (0, .ref (hQ 0)), (1, .int p1), (2, .int p2)])) => ?_)
  refine lv_aload_n hx hb dX6_exchange_7 rfl (lv_at hl 0 rfl) ?_
  refine va_get (D := (dC, dI)) (ci := 8) (v := .int (wb kR_1)) (C := RX8) (T := TX8) (N := 3) hx hb hts iwsMX6_exchange_in8 hown hK hP (5 + (kR_1)) (apR rfl (WW_o (by omega))) rfl 2 (by decide) (hts _ hm_m_X6_exchange_0) (fun _ h9 => h9) rfl dX6_exchange_8 ?_
  have br8 := b_wb kR_1
  refine lv_istore hx hb dX6_exchange_11 hl (by decide) rfl (fun ls (hl : lv_has ls _ ([(4, .int (wb kR_1)), (3, .ref (hw kR_1)), (0, .ref (hQ 0)), (1, .int p1), (2, .int p2)])) => ?_)
  refine lv_aload_n hx hb dX6_exchange_13 rfl (lv_at hl 2 rfl) ?_
  refine va_get (D := (dC, dI)) (ci := 6) (v := .ref (hw 401)) (C := RX6) (T := TX6) (N := 13) hx hb hts iwsMX6_exchange_in6 hown hK hP 0 rfl rfl 8 (by decide) (hts _ hm_m_X6_exchange_1) (fun _ h9 => h9) rfl dX6_exchange_14 ?_
  refine lv_aload_n hx hb dX6_exchange_17 rfl (lv_at hl 1 rfl) ?_
  have p9 := cj_2_1 (WQ hQ aQ kQ hw fQ_inside fQ_outside fQ_shut iQ_rows iQ_allRows iQ_columns) (WW nW hw lw kw wl wb wG)
  have hPc := hP.mem (fun q h => p9.mem_iff.mpr (List.mem_append_left _ h))
  have hDc := (hD.perm p9).left
  have hKc : va_K (dC, dI) vwCl (tW kw) _ := hK.sub [4] rfl
  have hFc := freeG p9 hD hS hA
  refine va_callv (va_runV (As := [.ref (hw kR_1)]) (rest := []) ⟨hx, hb, hml, hown, hts⟩ (m_X8_copy l dC dI nW hw lw kw wl wb wG 401 kR_1 b_wl b_wb (by first | with_reducible assumption | omega | (rw [iI_t (by omega) (by omega)]; omega) | decide | assumption) (by first | with_reducible assumption | omega | (rw [iI_t (by omega) (by omega)]; omega) | decide | assumption) H.size) (cwV 1 hts gwsMX6_exchange_1 rfl rfl rfl hd_yX8_copy_RX8 (by decide +kernel)) (fz_pre (va_recv hK hP (ci := 8) (q0 := 5 + (401)) rfl (apR rfl (WW_o (by omega)))) hPc hKc hDc) rfl rfl hl.1 rfl (lv_room (Nat.le_of_ble_eq_true rfl)) dX6_exchange_18 (by decide +kernel)) hS (fun q _ h => hFc q h) hFc (fun u t9_ H locs ht hvm hw9 hB9 hz1 hk1 hS => ?_)
  revert u hw9 hB9
  refine fz_p3 ?_
  intro wl_2 wb_2 wG_2 hw9 hB9
  try dsimp only at hw9 hB9
  revert hw9
  refine fz_a2 ?_
  intro b_wl_2 b_wb_2
  have p8 := cj_2_1 (WQ hQ aQ kQ hw fQ_inside fQ_outside fQ_shut iQ_rows iQ_allRows iQ_columns) (WW nW hw lw kw wl_2 wb_2 wG_2)
  obtain ⟨hP, hD⟩ := frameG p9 p8 hP hD hk1 hFc (fz_P ht hB9.1) hB9.2
  refine lv_aload_n hx hb dX6_exchange_21 rfl (lv_at hl 2 rfl) ?_
  refine va_get (D := (dC, dI)) (ci := 6) (v := .ref (hw 401)) (C := RX6) (T := TX6) (N := 13) hx hb hts iwsMX6_exchange_in6 hown hK hP 0 rfl rfl 8 (by decide) (hts _ hm_m_X6_exchange_1) (fun _ h9 => h9) rfl dX6_exchange_22 ?_
  refine lv_iconst (v := 0) hx hb dX6_exchange_25 (by decide) ?_
  refine va_put (D := (dC, dI)) (ci := 8) (v := .int 0) (ty := .boolean) (C := RX8) (T := TX8) (N := 3) hx hb hts iwsMX6_exchange_in8 tyX8 tyX8_ok nmX8 hown hK hP hD hS (5 + (401)) (apR rfl (WW_o (by omega))) rfl 2 (by decide) (hts _ hm_m_X6_exchange_0) (fun _ h9 => h9) rfl (by decide +kernel) rfl rfl (Nat.le_of_ble_eq_true rfl) dX6_exchange_26 (fun H locs hP hD hS => ?_)
  obtain ⟨u3, hu3⟩ : ∃ f9, f9 = fT wb_2 401 (0 : Int32) := ⟨_, rfl⟩
  have hP : va_P (dC, dI) vwCl (WQ hQ aQ kQ hw fQ_inside fQ_outside fQ_shut iQ_rows iQ_allRows iQ_columns ++ (WW nW hw lw kw wl_2 u3 wG_2)) H := by rw [hu3]; exact Eq.mp (congrArg (fun z9 => va_P (dC, dI) vwCl z9 H) ((stR rfl).trans (congrArg (fun z9 => WQ hQ aQ kQ hw fQ_inside fQ_outside fQ_shut iQ_rows iQ_allRows iQ_columns ++ z9) (WW_sb (by omega) (0 : Int32))))) hP
  have hD : va_D A (WQ hQ aQ kQ hw fQ_inside fQ_outside fQ_shut iQ_rows iQ_allRows iQ_columns ++ (WW nW hw lw kw wl_2 u3 wG_2)) := by rw [hu3]; exact Eq.mp (congrArg (fun z9 => va_D A z9) ((stR rfl).trans (congrArg (fun z9 => WQ hQ aQ kQ hw fQ_inside fQ_outside fQ_shut iQ_rows iQ_allRows iQ_columns ++ z9) (WW_sb (by omega) (0 : Int32))))) hD
  have b_u3 : ∀ q : Nat, 0 ≤ (u3 q).toInt ∧ (u3 q).toInt ≤ 1 := by rw [hu3]; exact fT_r b_wb_2 (show 0 ≤ (0 : Int32).toInt ∧ (0 : Int32).toInt ≤ 1 from by decide)
  have q_u3 : (u3 401).toInt = 0 := by rw [hu3, fT_eq]; exact (by decide : (0 : Int32).toInt = 0)
  clear hu3
  refine lv_aload_n hx hb dX6_exchange_29 rfl (lv_at hl 2 rfl) ?_
  refine va_get (D := (dC, dI)) (ci := 6) (v := .ref (hw 401)) (C := RX6) (T := TX6) (N := 13) hx hb hts iwsMX6_exchange_in6 hown hK hP 0 rfl rfl 8 (by decide) (hts _ hm_m_X6_exchange_1) (fun _ h9 => h9) rfl dX6_exchange_30 ?_
  refine lv_aload_n hx hb dX6_exchange_33 rfl (lv_at hl 2 rfl) ?_
  refine va_get (D := (dC, dI)) (ci := 6) (v := .ref (hw 400)) (C := RX6) (T := TX6) (N := 13) hx hb hts iwsMX6_exchange_in6 hown hK hP 0 rfl rfl 4 (by decide) (hts _ hm_m_X6_exchange_2) (fun _ h9 => h9) rfl dX6_exchange_34 ?_
  have p9 := cj_2_1 (WQ hQ aQ kQ hw fQ_inside fQ_outside fQ_shut iQ_rows iQ_allRows iQ_columns) (WW nW hw lw kw wl_2 u3 wG_2)
  have hPc := hP.mem (fun q h => p9.mem_iff.mpr (List.mem_append_left _ h))
  have hDc := (hD.perm p9).left
  have hKc : va_K (dC, dI) vwCl (tW kw) _ := hK.sub [4] rfl
  have hFc := freeG p9 hD hS hA
  refine va_calli (va_runV (As := [.ref (hw 400)]) (rest := []) ⟨hx, hb, hml, hown, hts⟩ (m_X8_compareSize l dC dI nW hw lw kw wl_2 u3 wG_2 401 400 b_wl_2 b_u3 (by first | with_reducible assumption | omega | (rw [iI_t (by omega) (by omega)]; omega) | decide | assumption) (by first | with_reducible assumption | omega | (rw [iI_t (by omega) (by omega)]; omega) | decide | assumption) H.size) (cwV 1 hts gwsMX6_exchange_2 rfl rfl rfl hd_yX8_compareSize_RX8 (by decide +kernel)) (fz_pre (va_recv hK hP (ci := 8) (q0 := 5 + (401)) rfl (apR rfl (WW_o (by omega)))) hPc hKc hDc) rfl rfl hl.1 rfl (lv_room (Nat.le_of_ble_eq_true rfl)) dX6_exchange_37 (by decide +kernel)) hS (fun q _ h => hFc q h) hFc (fun r4 u t9_ H locs ht hvm hw9 hB9 hz1 hk1 hS => ?_)
  have b_r4 := hw9
  try dsimp only at b_r4
  have p8 := p9
  obtain ⟨hP, hD⟩ := frameG p9 p8 hP hD hk1 hFc (fz_P ht hB9.1) hB9.2
  refine W.cut (pc := 48) (fun H locs ls stk => ∃ (k0_j155 : Int32), (0 ≤ k0_j155.toInt ∧ k0_j155.toInt ≤ 1) ∧  stk = [.int k0_j155] ∧ va_P (dC, dI) vwCl (WQ hQ aQ kQ hw fQ_inside fQ_outside fQ_shut iQ_rows iQ_allRows iQ_columns ++ (WW nW hw lw kw wl_2 u3 wG_2)) H ∧ va_D A (WQ hQ aQ kQ hw fQ_inside fQ_outside fQ_shut iQ_rows iQ_allRows iQ_columns ++ (WW nW hw lw kw wl_2 u3 wG_2)) ∧ va_S A s.heap H locs ∧ lv_has ls 13 [(4, .int (wb kR_1)), (3, .ref (hw kR_1)), (0, .ref (hQ 0)), (1, .int p1), (2, .int p2)]) (fun join155 => ?_) ?_
  · refine lv_if_ne (tgt := 47) hx hb dX6_exchange_40 (by decide) (fun c_40 => ?_) (fun c_40 => ?_)
    · have t_40 : r4.toInt ≠ 0 := toI_ne c_40 rfl (by decide : (0 : Int32).toInt = 0)
      refine lv_iconst (v := 0) hx hb dX6_exchange_47 (by decide) ?_
      have hl : lv_has _ _ ([(4, .int (wb kR_1)), (3, .ref (hw kR_1)), (0, .ref (hQ 0)), (1, .int p1), (2, .int p2)]) := lv_sub hl [0, 1, 2, 3, 4] rfl
      exact join155 _ _ _ _ ⟨0, (show 0 ≤ (0 : Int32).toInt ∧ (0 : Int32).toInt ≤ 1 from by decide), rfl, hP, hD, hS, hl⟩
    · have t_40 : r4.toInt = 0 := toI_nne c_40 rfl (by decide : (0 : Int32).toInt = 0)
      refine lv_iconst (v := 1) hx hb dX6_exchange_43 (by decide) ?_
      refine lv_goto (tgt := 48) hx hb dX6_exchange_44 (by decide) ?_
      have hl : lv_has _ _ ([(4, .int (wb kR_1)), (3, .ref (hw kR_1)), (0, .ref (hQ 0)), (1, .int p1), (2, .int p2)]) := lv_sub hl [0, 1, 2, 3, 4] rfl
      exact join155 _ _ _ _ ⟨1, (show 0 ≤ (1 : Int32).toInt ∧ (1 : Int32).toInt ≤ 1 from by decide), rfl, hP, hD, hS, hl⟩
  · rintro H locs ls stk ⟨k0_j155, b_k0_j155, rfl, hP, hD, hS, hl⟩
    refine lv_istore hx hb dX6_exchange_48 hl (by decide) rfl (fun ls (hl : lv_has ls _ ([(5, .int k0_j155), (4, .int (wb kR_1)), (3, .ref (hw kR_1)), (0, .ref (hQ 0)), (1, .int p1), (2, .int p2)])) => ?_)
    refine lv_iconst (v := 0) hx hb dX6_exchange_50 (by decide) ?_
    refine lv_istore hx hb dX6_exchange_51 hl (by decide) rfl (fun ls (hl : lv_has ls _ ([(6, .int 0), (5, .int k0_j155), (4, .int (wb kR_1)), (3, .ref (hw kR_1)), (0, .ref (hQ 0)), (1, .int p1), (2, .int p2)])) => ?_)
    have hl : lv_has _ _ ([(6, .int 0), (5, .int k0_j155), (4, .int (wb kR_1)), (3, .ref (hw kR_1)), (0, .ref (hQ 0)), (1, .int p1), (2, .int p2)]) := lv_sub hl [0, 1, 2, 3, 4, 5, 6] rfl
    refine (fun (loop : ∀ (n9 : Nat) (wl_x53 : Nat → Int32) (wb_x53 : Nat → Int32) (wG_x53 : Nat → Nat → Int64) (l6_x53 : Int32) (H : Heap) (locs : List Loc) (ls : Array Slot), (∀ q : Nat, 0 ≤ (wl_x53 q).toInt ∧ (wl_x53 q).toInt ≤ 14) → (∀ q : Nat, 0 ≤ (wb_x53 q).toInt ∧ (wb_x53 q).toInt ≤ 1) → (0 ≤ l6_x53.toInt ∧ l6_x53.toInt ≤ 40) → (40 - l6_x53.toInt < ((n9 : Nat) : Int)) → va_P (dC, dI) vwCl (WQ hQ aQ kQ hw fQ_inside fQ_outside fQ_shut iQ_rows iQ_allRows iQ_columns ++ (WW nW hw lw kw wl_x53 wb_x53 wG_x53)) H → va_D A (WQ hQ aQ kQ hw fQ_inside fQ_outside fQ_shut iQ_rows iQ_allRows iQ_columns ++ (WW nW hw lw kw wl_x53 wb_x53 wG_x53)) → va_S A s.heap H locs → lv_has ls 13 [(6, .int l6_x53), (5, .int k0_j155), (4, .int (wb kR_1)), (3, .ref (hw kR_1)), (0, .ref (hQ 0)), (1, .int p1), (2, .int p2)] → W p l e _ s m _ below meth c H locs 0 0 _ (F0 m 53 ls [])) => loop (41) wl_2 u3 wG_2 0 _ _ _ b_wl_2 b_u3 (show 0 ≤ (0 : Int32).toInt ∧ (0 : Int32).toInt ≤ 40 from by decide) ((by have e9 : (0 : Int32).toInt = 0 := (by decide : (0 : Int32).toInt = 0); omega)) hP hD hS hl) ?_
    intro n9
    induction n9 with
    | zero => intro wl_x53 wb_x53 wG_x53 l6_x53 H locs ls b_wl_x53 b_wb_x53 b_l6_x53 hf9; exact False.elim (by omega)
    | succ n9 ihx53 =>
      intro wl_x53 wb_x53 wG_x53 l6_x53 H locs ls b_wl_x53 b_wb_x53 b_l6_x53 hfx53 hP hD hS hl
      refine lv_iload hx hb dX6_exchange_53 (lv_at hl 0 rfl) ?_
      refine lv_aload_n hx hb dX6_exchange_55 rfl (lv_at hl 4 rfl) ?_
      refine va_get (D := (dC, dI)) (ci := 6) (v := .int iQ_allRows) (C := RX6) (T := TX6) (N := 13) hx hb hts iwsMX6_exchange_in6 hown hK hP 0 rfl rfl 6 (by decide) (hts (.fieldLink RX6 58 "OptimaWorks$Tableau" "allRows" "I") (by decide +kernel)) (fun _ h9 => h9) rfl dX6_exchange_56 ?_
      refine lv_icmp_ge (tgt := 222) hx hb dX6_exchange_59 (by decide) (fun c_59 => ?_) (fun c_59 => ?_)
      · have t_59 : l6_x53.toInt ≥ iQ_allRows.toInt := toI_ge c_59 rfl rfl
        refine lv_iconst (v := 0) hx hb dX6_exchange_222 (by decide) ?_
        refine lv_istore hx hb dX6_exchange_223 hl (by decide) rfl (fun ls (hl : lv_has ls _ ([(6, .int 0), (5, .int k0_j155), (4, .int (wb kR_1)), (3, .ref (hw kR_1)), (0, .ref (hQ 0)), (1, .int p1), (2, .int p2)])) => ?_)
        have hl : lv_has _ _ ([(6, .int 0), (5, .int k0_j155), (4, .int (wb kR_1)), (3, .ref (hw kR_1)), (0, .ref (hQ 0)), (1, .int p1), (2, .int p2)]) := lv_sub hl [0, 1, 2, 3, 4, 5, 6] rfl
        refine (fun (loop : ∀ (n9 : Nat) (wb_x225 : Nat → Int32) (l6_x225 : Int32) (H : Heap) (locs : List Loc) (ls : Array Slot), (∀ q : Nat, 0 ≤ (wb_x225 q).toInt ∧ (wb_x225 q).toInt ≤ 1) → (0 ≤ l6_x225.toInt ∧ l6_x225.toInt ≤ 41) → (41 - l6_x225.toInt < ((n9 : Nat) : Int)) → va_P (dC, dI) vwCl (WQ hQ aQ kQ hw fQ_inside fQ_outside fQ_shut iQ_rows iQ_allRows iQ_columns ++ (WW nW hw lw kw wl_x53 wb_x225 wG_x53)) H → va_D A (WQ hQ aQ kQ hw fQ_inside fQ_outside fQ_shut iQ_rows iQ_allRows iQ_columns ++ (WW nW hw lw kw wl_x53 wb_x225 wG_x53)) → va_S A s.heap H locs → lv_has ls 13 [(6, .int l6_x225), (5, .int k0_j155), (4, .int (wb kR_1)), (3, .ref (hw kR_1)), (0, .ref (hQ 0)), (1, .int p1), (2, .int p2)] → W p l e _ s m _ below meth c H locs 0 0 _ (F0 m 225 ls [])) => loop (42) wb_x53 0 _ _ _ b_wb_x53 (show 0 ≤ (0 : Int32).toInt ∧ (0 : Int32).toInt ≤ 41 from by decide) ((by have e9 : (0 : Int32).toInt = 0 := (by decide : (0 : Int32).toInt = 0); omega)) hP hD hS hl) ?_
        intro n9
        induction n9 with
        | zero => intro wb_x225 l6_x225 H locs ls b_wb_x225 b_l6_x225 hf9; exact False.elim (by omega)
        | succ n9 ihx225 =>
          intro wb_x225 l6_x225 H locs ls b_wb_x225 b_l6_x225 hfx225 hP hD hS hl
          refine lv_iload hx hb dX6_exchange_225 (lv_at hl 0 rfl) ?_
          refine lv_aload_n hx hb dX6_exchange_227 rfl (lv_at hl 4 rfl) ?_
          refine va_get (D := (dC, dI)) (ci := 6) (v := .int iQ_columns) (C := RX6) (T := TX6) (N := 13) hx hb hts iwsMX6_exchange_in6 hown hK hP 0 rfl rfl 7 (by decide) (hts _ hm_m_X6_exchange_3) (fun _ h9 => h9) rfl dX6_exchange_228 ?_
          refine W.cut (pc := 255) (fun H locs ls stk =>  stk = [] ∧ va_P (dC, dI) vwCl (WQ hQ aQ kQ hw fQ_inside fQ_outside fQ_shut iQ_rows iQ_allRows iQ_columns ++ (WW nW hw lw kw wl_x53 wb_x225 wG_x53)) H ∧ va_D A (WQ hQ aQ kQ hw fQ_inside fQ_outside fQ_shut iQ_rows iQ_allRows iQ_columns ++ (WW nW hw lw kw wl_x53 wb_x225 wG_x53)) ∧ va_S A s.heap H locs ∧ lv_has ls 13 [(6, .int l6_x225), (5, .int k0_j155), (4, .int (wb kR_1)), (3, .ref (hw kR_1)), (0, .ref (hQ 0)), (1, .int p1), (2, .int p2)]) (fun join284 => ?_) ?_
          · refine lv_icmp_gt (tgt := 255) hx hb dX6_exchange_231 (by decide) (fun c_231 => ?_) (fun c_231 => ?_)
            · have t_231 : l6_x225.toInt > iQ_columns.toInt := toI_gt c_231 rfl rfl
              have hl : lv_has _ _ ([(6, .int l6_x225), (5, .int k0_j155), (4, .int (wb kR_1)), (3, .ref (hw kR_1)), (0, .ref (hQ 0)), (1, .int p1), (2, .int p2)]) := lv_sub hl [0, 1, 2, 3, 4, 5, 6] rfl
              exact join284 _ _ _ _ ⟨rfl, hP, hD, hS, hl⟩
            · have t_231 : ¬ l6_x225.toInt > iQ_columns.toInt := toI_ngt c_231 rfl rfl
              refine lv_iload hx hb dX6_exchange_234 (lv_at hl 2 rfl) ?_
              refine lv_if_ne (tgt := 255) hx hb dX6_exchange_236 (by decide) (fun c_236 => ?_) (fun c_236 => ?_)
              · have t_236 : (wb kR_1).toInt ≠ 0 := toI_ne c_236 rfl (by decide : (0 : Int32).toInt = 0)
                have hl : lv_has _ _ ([(6, .int l6_x225), (5, .int k0_j155), (4, .int (wb kR_1)), (3, .ref (hw kR_1)), (0, .ref (hQ 0)), (1, .int p1), (2, .int p2)]) := lv_sub hl [0, 1, 2, 3, 4, 5, 6] rfl
                exact join284 _ _ _ _ ⟨rfl, hP, hD, hS, hl⟩
              · have t_236 : (wb kR_1).toInt = 0 := toI_nne c_236 rfl (by decide : (0 : Int32).toInt = 0)
                refine lv_aload_n hx hb dX6_exchange_239 rfl (lv_at hl 4 rfl) ?_
                refine lv_iload_n hx hb dX6_exchange_240 rfl (lv_at hl 5 rfl) ?_
                refine lv_iload hx hb dX6_exchange_241 (lv_at hl 0 rfl) ?_
                have hFc := allFree hD hS hA
                refine va_callr (va_runV (As := [.int p1, .int l6_x225]) (rest := []) ⟨hx, hb, hml, hown, hts⟩ (m_X6_cellAt l dC dI hQ aQ kQ hw fQ_inside fQ_outside fQ_shut iQ_rows iQ_allRows iQ_columns nW lw kw wl_x53 wb_x225 wG_x53 p1 l6_x225 (b_iQ_rows) (b_iQ_allRows) (b_iQ_columns) (by first | with_reducible assumption | omega | assumption) b_wl_x53 b_wb_x225 (b_p1) (by first | exact b_l6_x225 | with_reducible assumption | exact ⟨by omega, by omega⟩ | assumption) (by first | with_reducible assumption | omega | (rw [iI_t (by omega) (by omega)]; omega) | decide | assumption) (hrow.ix (by omega) (by omega)) H.size) (cwV 2 hts gwsMX6_exchange_0 rfl rfl rfl hd_yX6_cellAt_RX6 (by decide +kernel)) (fz_pre (va_recv hK hP (ci := 6) (q0 := 0) rfl rfl) hP hK hD) rfl rfl hl.1 rfl (lv_room (Nat.le_of_ble_eq_true rfl)) dX6_exchange_243 (by decide +kernel)) hS (fun q _ h => hFc q h) hFc (fun kR_330 ra330 t9_ H locs ht hvm hw9 hB9 hz1 hk1 hS => ?_)
                revert hB9
                refine fz_a2 ?_
                intro hra hB9
                subst hra
                have f330_0 := hw9
                try dsimp only at f330_0
                have hP : va_P (dC, dI) vwCl (WQ hQ aQ kQ hw fQ_inside fQ_outside fQ_shut iQ_rows iQ_allRows iQ_columns ++ (WW nW hw lw kw wl_x53 wb_x225 wG_x53)) H := fz_P ht hB9.1
                have hD := fz_sd hP (hB9.2.weaken (fun _ q _ h => hFc q.1 h)) rfl
                have p9 := cj_2_1 (WQ hQ aQ kQ hw fQ_inside fQ_outside fQ_shut iQ_rows iQ_allRows iQ_columns) (WW nW hw lw kw wl_x53 wb_x225 wG_x53)
                have hPc := hP.mem (fun q h => p9.mem_iff.mpr (List.mem_append_left _ h))
                have hDc := (hD.perm p9).left
                have hKc : va_K (dC, dI) vwCl (tW kw) _ := hK.sub [4] rfl
                have hFc := freeG p9 hD hS hA
                refine va_callv (va_runV (As := []) (rest := []) ⟨hx, hb, hml, hown, hts⟩ (m_X8_negate l dC dI nW hw lw kw wl_x53 wb_x225 wG_x53 kR_330 b_wl_x53 b_wb_x225 (by first | with_reducible assumption | omega | (rw [iI_t (by omega) (by omega)]; omega) | decide | assumption) H.size) (cwV 0 hts gwsMX6_exchange_4 rfl rfl rfl hd_yX8_negate_RX8 (by decide +kernel)) (fz_pre (va_recv hK hP (ci := 8) (q0 := 5 + (kR_330)) rfl (apR rfl (WW_o (by omega)))) hPc hKc hDc) rfl rfl hl.1 rfl (lv_room (Nat.le_of_ble_eq_true rfl)) dX6_exchange_246 (by decide +kernel)) hS (fun q _ h => hFc q h) hFc (fun wb_331 t9_ H locs ht hvm hw9 hB9 hz1 hk1 hS => ?_)
                have b_wb_331 := hw9
                try dsimp only at b_wb_331
                have p8 := cj_2_1 (WQ hQ aQ kQ hw fQ_inside fQ_outside fQ_shut iQ_rows iQ_allRows iQ_columns) (WW nW hw lw kw wl_x53 wb_331 wG_x53)
                obtain ⟨hP, hD⟩ := frameG p9 p8 hP hD hk1 hFc (fz_P ht hB9.1) hB9.2
                refine lv_iinc (v := (iI (l6_x225.toInt + 1))) hx hb dX6_exchange_249 hl (k := 0) rfl (iI_add2 (iI_of _) (by decide : (1 : Int32) = iI 1)) (by decide) rfl (fun ls (hl : lv_has ls _ ([(6, .int (iI (l6_x225.toInt + 1))), (5, .int k0_j155), (4, .int (wb kR_1)), (3, .ref (hw kR_1)), (0, .ref (hQ 0)), (1, .int p1), (2, .int p2)])) => ?_)
                refine lv_goto (tgt := 225) hx hb dX6_exchange_252 (by decide) ?_
                have hl : lv_has _ _ ([(6, .int (iI (l6_x225.toInt + 1))), (5, .int k0_j155), (4, .int (wb kR_1)), (3, .ref (hw kR_1)), (0, .ref (hQ 0)), (1, .int p1), (2, .int p2)]) := lv_sub hl [0, 1, 2, 3, 4, 5, 6] rfl
                exact ihx225 wb_331 (iI (l6_x225.toInt + 1)) _ _ _ b_wb_331 (iI_rng (Int.le_trans (by decide) (Int.add_le_add (b_l6_x225.1) (Int.le_refl _))) (by omega) (by decide) (by decide)) (by have e9 : ((iI (l6_x225.toInt + 1))).toInt = (l6_x225.toInt + 1) := (iI_t (Int.le_trans (by decide) (Int.add_le_add (b_l6_x225.1) (Int.le_refl _))) (Int.le_trans (Int.add_le_add (b_l6_x225.2) (Int.le_refl _)) (by decide))); omega) hP hD hS hl
          · rintro H locs ls stk ⟨rfl, hP, hD, hS, hl⟩
            refine lv_aload_n hx hb dX6_exchange_255 rfl (lv_at hl 3 rfl) ?_
            refine lv_aload_n hx hb dX6_exchange_256 rfl (lv_at hl 4 rfl) ?_
            refine va_get (D := (dC, dI)) (ci := 6) (v := .ref (hw 400)) (C := RX6) (T := TX6) (N := 13) hx hb hts iwsMX6_exchange_in6 hown hK hP 0 rfl rfl 4 (by decide) (hts _ hm_m_X6_exchange_2) (fun _ h9 => h9) rfl dX6_exchange_257 ?_
            have p9 := cj_2_1 (WQ hQ aQ kQ hw fQ_inside fQ_outside fQ_shut iQ_rows iQ_allRows iQ_columns) (WW nW hw lw kw wl_x53 wb_x225 wG_x53)
            have hPc := hP.mem (fun q h => p9.mem_iff.mpr (List.mem_append_left _ h))
            have hDc := (hD.perm p9).left
            have hKc : va_K (dC, dI) vwCl (tW kw) _ := hK.sub [4] rfl
            have hFc := freeG p9 hD hS hA
            refine va_callv (va_runV (As := [.ref (hw 400)]) (rest := []) ⟨hx, hb, hml, hown, hts⟩ (m_X8_copy l dC dI nW hw lw kw wl_x53 wb_x225 wG_x53 kR_1 400 b_wl_x53 b_wb_x225 (by first | with_reducible assumption | omega | (rw [iI_t (by omega) (by omega)]; omega) | decide | assumption) (by first | with_reducible assumption | omega | (rw [iI_t (by omega) (by omega)]; omega) | decide | assumption) H.size) (cwV 1 hts gwsMX6_exchange_1 rfl rfl rfl hd_yX8_copy_RX8 (by decide +kernel)) (fz_pre (va_recv hK hP (ci := 8) (q0 := 5 + (kR_1)) rfl (apR rfl (WW_o (by omega)))) hPc hKc hDc) rfl rfl hl.1 rfl (lv_room (Nat.le_of_ble_eq_true rfl)) dX6_exchange_260 (by decide +kernel)) hS (fun q _ h => hFc q h) hFc (fun u t9_ H locs ht hvm hw9 hB9 hz1 hk1 hS => ?_)
            revert u hw9 hB9
            refine fz_p3 ?_
            intro wl_332 wb_332 wG_332 hw9 hB9
            try dsimp only at hw9 hB9
            revert hw9
            refine fz_a2 ?_
            intro b_wl_332 b_wb_332
            have p8 := cj_2_1 (WQ hQ aQ kQ hw fQ_inside fQ_outside fQ_shut iQ_rows iQ_allRows iQ_columns) (WW nW hw lw kw wl_332 wb_332 wG_332)
            obtain ⟨hP, hD⟩ := frameG p9 p8 hP hD hk1 hFc (fz_P ht hB9.1) hB9.2
            refine lv_aload_n hx hb dX6_exchange_263 rfl (lv_at hl 3 rfl) ?_
            refine lv_iload hx hb dX6_exchange_264 (lv_at hl 2 rfl) ?_
            refine va_put (D := (dC, dI)) (ci := 8) (v := .int (wb kR_1)) (ty := .boolean) (C := RX8) (T := TX8) (N := 3) hx hb hts iwsMX6_exchange_in8 tyX8 tyX8_ok nmX8 hown hK hP hD hS (5 + (kR_1)) (apR rfl (WW_o (by omega))) rfl 2 (by decide) (hts _ hm_m_X6_exchange_0) (fun _ h9 => h9) rfl (by decide +kernel) (by rcases z01 (x := (wb kR_1)) (by first | assumption | exact ⟨by omega, by omega⟩) with h9 | h9 <;> rw [h9] <;> rfl) (by rcases z01 (x := (wb kR_1)) (by first | assumption | exact ⟨by omega, by omega⟩) with h9 | h9 <;> rw [h9] <;> rfl) (Nat.le_of_ble_eq_true rfl) dX6_exchange_266 (fun H locs hP hD hS => ?_)
            obtain ⟨u333, hu333⟩ : ∃ f9, f9 = fT wb_332 kR_1 (wb kR_1) := ⟨_, rfl⟩
            have hP : va_P (dC, dI) vwCl (WQ hQ aQ kQ hw fQ_inside fQ_outside fQ_shut iQ_rows iQ_allRows iQ_columns ++ (WW nW hw lw kw wl_332 u333 wG_332)) H := by rw [hu333]; exact Eq.mp (congrArg (fun z9 => va_P (dC, dI) vwCl z9 H) ((stR rfl).trans (congrArg (fun z9 => WQ hQ aQ kQ hw fQ_inside fQ_outside fQ_shut iQ_rows iQ_allRows iQ_columns ++ z9) (WW_sb (by omega) (wb kR_1))))) hP
            have hD : va_D A (WQ hQ aQ kQ hw fQ_inside fQ_outside fQ_shut iQ_rows iQ_allRows iQ_columns ++ (WW nW hw lw kw wl_332 u333 wG_332)) := by rw [hu333]; exact Eq.mp (congrArg (fun z9 => va_D A z9) ((stR rfl).trans (congrArg (fun z9 => WQ hQ aQ kQ hw fQ_inside fQ_outside fQ_shut iQ_rows iQ_allRows iQ_columns ++ z9) (WW_sb (by omega) (wb kR_1))))) hD
            have b_u333 : ∀ q : Nat, 0 ≤ (u333 q).toInt ∧ (u333 q).toInt ≤ 1 := by rw [hu333]; exact fT_r b_wb_332 (by first | assumption | exact ⟨by omega, by omega⟩)
            have q_u333 : (u333 kR_1).toInt = (wb kR_1).toInt := by rw [hu333, fT_eq]
            clear hu333
            refine lv_aload_n hx hb dX6_exchange_269 rfl (lv_at hl 4 rfl) ?_
            refine va_get (D := (dC, dI)) (ci := 6) (v := .ref (hw 400)) (C := RX6) (T := TX6) (N := 13) hx hb hts iwsMX6_exchange_in6 hown hK hP 0 rfl rfl 4 (by decide) (hts _ hm_m_X6_exchange_2) (fun _ h9 => h9) rfl dX6_exchange_270 ?_
            refine lv_aload_n hx hb dX6_exchange_273 rfl (lv_at hl 4 rfl) ?_
            refine va_get (D := (dC, dI)) (ci := 6) (v := .ref (hw 401)) (C := RX6) (T := TX6) (N := 13) hx hb hts iwsMX6_exchange_in6 hown hK hP 0 rfl rfl 8 (by decide) (hts _ hm_m_X6_exchange_1) (fun _ h9 => h9) rfl dX6_exchange_274 ?_
            have p9 := cj_2_1 (WQ hQ aQ kQ hw fQ_inside fQ_outside fQ_shut iQ_rows iQ_allRows iQ_columns) (WW nW hw lw kw wl_332 u333 wG_332)
            have hPc := hP.mem (fun q h => p9.mem_iff.mpr (List.mem_append_left _ h))
            have hDc := (hD.perm p9).left
            have hKc : va_K (dC, dI) vwCl (tW kw) _ := hK.sub [4] rfl
            have hFc := freeG p9 hD hS hA
            refine va_callv (va_runV (As := [.ref (hw 401)]) (rest := []) ⟨hx, hb, hml, hown, hts⟩ (m_X8_copy l dC dI nW hw lw kw wl_332 u333 wG_332 400 401 b_wl_332 b_u333 (by first | with_reducible assumption | omega | (rw [iI_t (by omega) (by omega)]; omega) | decide | assumption) (by first | with_reducible assumption | omega | (rw [iI_t (by omega) (by omega)]; omega) | decide | assumption) H.size) (cwV 1 hts gwsMX6_exchange_1 rfl rfl rfl hd_yX8_copy_RX8 (by decide +kernel)) (fz_pre (va_recv hK hP (ci := 8) (q0 := 5 + (400)) rfl (apR rfl (WW_o (by omega)))) hPc hKc hDc) rfl rfl hl.1 rfl (lv_room (Nat.le_of_ble_eq_true rfl)) dX6_exchange_277 (by decide +kernel)) hS (fun q _ h => hFc q h) hFc (fun u t9_ H locs ht hvm hw9 hB9 hz1 hk1 hS => ?_)
            revert u hw9 hB9
            refine fz_p3 ?_
            intro wl_334 wb_334 wG_334 hw9 hB9
            try dsimp only at hw9 hB9
            revert hw9
            refine fz_a2 ?_
            intro b_wl_334 b_wb_334
            have p8 := cj_2_1 (WQ hQ aQ kQ hw fQ_inside fQ_outside fQ_shut iQ_rows iQ_allRows iQ_columns) (WW nW hw lw kw wl_334 wb_334 wG_334)
            obtain ⟨hP, hD⟩ := frameG p9 p8 hP hD hk1 hFc (fz_P ht hB9.1) hB9.2
            refine lv_aload_n hx hb dX6_exchange_280 rfl (lv_at hl 4 rfl) ?_
            refine va_get (D := (dC, dI)) (ci := 6) (v := .ref (aQ 1)) (C := RX6) (T := TX6) (N := 13) hx hb hts iwsMX6_exchange_in6 hown hK hP 0 rfl rfl 1 (by decide) (hts _ hm_m_X6_exchange_4) (fun _ h9 => h9) rfl dX6_exchange_281 ?_
            refine lv_iload_n hx hb dX6_exchange_284 rfl (lv_at hl 5 rfl) ?_
            refine va_iald (cA := kQ 1) (n := 40) (f := fQ_inside) hx hb hK hP 2 1 rfl rfl (vp_in_iff.mpr ⟨b_p1.1, (Int.lt_of_le_of_lt (b_p1.2) (by decide))⟩) dX6_exchange_285 ?_
            refine lv_topi (fun v335 hv335 => ?_)
            clear hv335
            refine lv_istore hx hb dX6_exchange_286 hl (by decide) rfl (fun ls (hl : lv_has ls _ ([(6, .int v335), (5, .int k0_j155), (4, .int (wb kR_1)), (3, .ref (hw kR_1)), (0, .ref (hQ 0)), (1, .int p1), (2, .int p2)])) => ?_)
            refine lv_aload_n hx hb dX6_exchange_288 rfl (lv_at hl 4 rfl) ?_
            refine va_get (D := (dC, dI)) (ci := 6) (v := .ref (aQ 1)) (C := RX6) (T := TX6) (N := 13) hx hb hts iwsMX6_exchange_in6 hown hK hP 0 rfl rfl 1 (by decide) (hts _ hm_m_X6_exchange_4) (fun _ h9 => h9) rfl dX6_exchange_289 ?_
            refine lv_iload_n hx hb dX6_exchange_292 rfl (lv_at hl 5 rfl) ?_
            refine lv_aload_n hx hb dX6_exchange_293 rfl (lv_at hl 4 rfl) ?_
            refine va_get (D := (dC, dI)) (ci := 6) (v := .ref (aQ 2)) (C := RX6) (T := TX6) (N := 13) hx hb hts iwsMX6_exchange_in6 hown hK hP 0 rfl rfl 2 (by decide) (hts _ hm_m_X6_exchange_5) (fun _ h9 => h9) rfl dX6_exchange_294 ?_
            refine lv_iload_n hx hb dX6_exchange_297 rfl (lv_at hl 6 rfl) ?_
            refine va_iald (cA := kQ 2) (n := 41) (f := fQ_outside) hx hb hK hP 3 2 rfl rfl (vp_in_iff.mpr ⟨b_p2.1, (Int.lt_of_le_of_lt (b_p2.2) (by decide))⟩) dX6_exchange_298 ?_
            refine lv_topi (fun v336 hv336 => ?_)
            clear hv336
            refine va_iast (cA := kQ 1) (n := 40) (f := fQ_inside) hx hb hK hP hD hS 2 1 rfl rfl (vp_in_iff.mpr ⟨b_p1.1, (Int.lt_of_le_of_lt (b_p1.2) (by decide))⟩) dX6_exchange_299 (fun H locs hP hD hS => ?_)
            obtain ⟨u337, hu337⟩ : ∃ f9, f9 = upd fQ_inside (p1).toNatClampNeg v336 := ⟨_, rfl⟩
            have hP : va_P (dC, dI) vwCl (WQ hQ aQ kQ hw u337 fQ_outside fQ_shut iQ_rows iQ_allRows iQ_columns ++ (WW nW hw lw kw wl_334 wb_334 wG_334)) H := by rw [hu337]; exact hP
            have hD : va_D A (WQ hQ aQ kQ hw u337 fQ_outside fQ_shut iQ_rows iQ_allRows iQ_columns ++ (WW nW hw lw kw wl_334 wb_334 wG_334)) := by rw [hu337]; exact hD
            clear hu337
            refine lv_aload_n hx hb dX6_exchange_300 rfl (lv_at hl 4 rfl) ?_
            refine va_get (D := (dC, dI)) (ci := 6) (v := .ref (aQ 2)) (C := RX6) (T := TX6) (N := 13) hx hb hts iwsMX6_exchange_in6 hown hK hP 0 rfl rfl 2 (by decide) (hts _ hm_m_X6_exchange_5) (fun _ h9 => h9) rfl dX6_exchange_301 ?_
            refine lv_iload_n hx hb dX6_exchange_304 rfl (lv_at hl 6 rfl) ?_
            refine lv_iload hx hb dX6_exchange_305 (lv_at hl 0 rfl) ?_
            refine va_iast (cA := kQ 2) (n := 41) (f := fQ_outside) hx hb hK hP hD hS 3 2 rfl rfl (vp_in_iff.mpr ⟨b_p2.1, (Int.lt_of_le_of_lt (b_p2.2) (by decide))⟩) dX6_exchange_307 (fun H locs hP hD hS => ?_)
            obtain ⟨u338, hu338⟩ : ∃ f9, f9 = upd fQ_outside (p2).toNatClampNeg v335 := ⟨_, rfl⟩
            have hP : va_P (dC, dI) vwCl (WQ hQ aQ kQ hw u337 u338 fQ_shut iQ_rows iQ_allRows iQ_columns ++ (WW nW hw lw kw wl_334 wb_334 wG_334)) H := by rw [hu338]; exact hP
            have hD : va_D A (WQ hQ aQ kQ hw u337 u338 fQ_shut iQ_rows iQ_allRows iQ_columns ++ (WW nW hw lw kw wl_334 wb_334 wG_334)) := by rw [hu338]; exact hD
            clear hu338
            refine W.widen (k := 0) (n := 0) (by decide +kernel) (by decide +kernel) ?_
            exact W.vret hx hb hr (fun t9_ ht hW => ⟨⟨(u337, u338, wl_334, wb_334, wG_334), rfl, ⟨b_wl_334, b_wb_334⟩, by rw [ht]; exact hP, hD⟩, hS.F ht⟩) hS.2.2 dX6_exchange_308
      · have t_59 : ¬ l6_x53.toInt ≥ iQ_allRows.toInt := toI_nge c_59 rfl rfl
        refine lv_aload_n hx hb dX6_exchange_62 rfl (lv_at hl 4 rfl) ?_
        refine lv_iload hx hb dX6_exchange_63 (lv_at hl 0 rfl) ?_
        refine lv_iload_n hx hb dX6_exchange_65 rfl (lv_at hl 6 rfl) ?_
        have hFc := allFree hD hS hA
        refine va_callr (va_runV (As := [.int l6_x53, .int p2]) (rest := []) ⟨hx, hb, hml, hown, hts⟩ (m_X6_cellAt l dC dI hQ aQ kQ hw fQ_inside fQ_outside fQ_shut iQ_rows iQ_allRows iQ_columns nW lw kw wl_x53 wb_x53 wG_x53 l6_x53 p2 (b_iQ_rows) (b_iQ_allRows) (b_iQ_columns) (by first | with_reducible assumption | omega | assumption) b_wl_x53 b_wb_x53 (by first | exact b_l6_x53 | with_reducible assumption | exact ⟨by omega, by omega⟩ | assumption) (b_p2) (by first | with_reducible assumption | omega | (rw [iI_t (by omega) (by omega)]; omega) | decide | assumption) (cell_ix b_tb (by omega) (by omega) (by omega) (by omega)) H.size) (cwV 2 hts gwsMX6_exchange_0 rfl rfl rfl hd_yX6_cellAt_RX6 (by decide +kernel)) (fz_pre (va_recv hK hP (ci := 6) (q0 := 0) rfl rfl) hP hK hD) rfl rfl hl.1 rfl (lv_room (Nat.le_of_ble_eq_true rfl)) dX6_exchange_66 (by decide +kernel)) hS (fun q _ h => hFc q h) hFc (fun kR_339 ra339 t9_ H locs ht hvm hw9 hB9 hz1 hk1 hS => ?_)
        revert hB9
        refine fz_a2 ?_
        intro hra hB9
        subst hra
        have f339_0 := hw9
        try dsimp only at f339_0
        have hP : va_P (dC, dI) vwCl (WQ hQ aQ kQ hw fQ_inside fQ_outside fQ_shut iQ_rows iQ_allRows iQ_columns ++ (WW nW hw lw kw wl_x53 wb_x53 wG_x53)) H := fz_P ht hB9.1
        have hD := fz_sd hP (hB9.2.weaken (fun _ q _ h => hFc q.1 h)) rfl
        refine lv_astore hx hb dX6_exchange_69 hl (by decide) rfl (fun ls (hl : lv_has ls _ ([(7, .ref (hw kR_339)), (6, .int l6_x53), (5, .int k0_j155), (4, .int (wb kR_1)), (3, .ref (hw kR_1)), (0, .ref (hQ 0)), (1, .int p1), (2, .int p2)])) => ?_)
        refine lv_iconst (v := 0) hx hb dX6_exchange_71 (by decide) ?_
        refine lv_istore hx hb dX6_exchange_72 hl (by decide) rfl (fun ls (hl : lv_has ls _ ([(8, .int 0), (7, .ref (hw kR_339)), (6, .int l6_x53), (5, .int k0_j155), (4, .int (wb kR_1)), (3, .ref (hw kR_1)), (0, .ref (hQ 0)), (1, .int p1), (2, .int p2)])) => ?_)
        have hl : lv_has _ _ ([(8, .int 0), (7, .ref (hw kR_339)), (6, .int l6_x53), (5, .int k0_j155), (4, .int (wb kR_1)), (3, .ref (hw kR_1)), (0, .ref (hQ 0)), (1, .int p1), (2, .int p2)]) := lv_sub hl [0, 1, 2, 3, 4, 5, 6, 7, 8] rfl
        refine (fun (loop : ∀ (n9 : Nat) (wl_x74 : Nat → Int32) (wb_x74 : Nat → Int32) (wG_x74 : Nat → Nat → Int64) (l8_x74 : Int32) (H : Heap) (locs : List Loc) (ls : Array Slot), (∀ q : Nat, 0 ≤ (wl_x74 q).toInt ∧ (wl_x74 q).toInt ≤ 14) → (∀ q : Nat, 0 ≤ (wb_x74 q).toInt ∧ (wb_x74 q).toInt ≤ 1) → (0 ≤ l8_x74.toInt ∧ l8_x74.toInt ≤ 41) → (41 - l8_x74.toInt < ((n9 : Nat) : Int)) → va_P (dC, dI) vwCl (WQ hQ aQ kQ hw fQ_inside fQ_outside fQ_shut iQ_rows iQ_allRows iQ_columns ++ (WW nW hw lw kw wl_x74 wb_x74 wG_x74)) H → va_D A (WQ hQ aQ kQ hw fQ_inside fQ_outside fQ_shut iQ_rows iQ_allRows iQ_columns ++ (WW nW hw lw kw wl_x74 wb_x74 wG_x74)) → va_S A s.heap H locs → lv_has ls 13 [(8, .int l8_x74), (7, .ref (hw kR_339)), (6, .int l6_x53), (5, .int k0_j155), (4, .int (wb kR_1)), (3, .ref (hw kR_1)), (0, .ref (hQ 0)), (1, .int p1), (2, .int p2)] → W p l e _ s m _ below meth c H locs 0 0 _ (F0 m 74 ls [])) => loop (42) wl_x53 wb_x53 wG_x53 0 _ _ _ b_wl_x53 b_wb_x53 (show 0 ≤ (0 : Int32).toInt ∧ (0 : Int32).toInt ≤ 41 from by decide) ((by have e9 : (0 : Int32).toInt = 0 := (by decide : (0 : Int32).toInt = 0); omega)) hP hD hS hl) ?_
        intro n9
        induction n9 with
        | zero => intro wl_x74 wb_x74 wG_x74 l8_x74 H locs ls b_wl_x74 b_wb_x74 b_l8_x74 hf9; exact False.elim (by omega)
        | succ n9 ihx74 =>
          intro wl_x74 wb_x74 wG_x74 l8_x74 H locs ls b_wl_x74 b_wb_x74 b_l8_x74 hfx74 hP hD hS hl
          refine lv_iload hx hb dX6_exchange_74 (lv_at hl 0 rfl) ?_
          refine lv_aload_n hx hb dX6_exchange_76 rfl (lv_at hl 6 rfl) ?_
          refine va_get (D := (dC, dI)) (ci := 6) (v := .int iQ_columns) (C := RX6) (T := TX6) (N := 13) hx hb hts iwsMX6_exchange_in6 hown hK hP 0 rfl rfl 7 (by decide) (hts _ hm_m_X6_exchange_3) (fun _ h9 => h9) rfl dX6_exchange_77 ?_
          refine W.cut (pc := 200) (fun H locs ls stk =>  stk = [] ∧ va_P (dC, dI) vwCl (WQ hQ aQ kQ hw fQ_inside fQ_outside fQ_shut iQ_rows iQ_allRows iQ_columns ++ (WW nW hw lw kw wl_x74 wb_x74 wG_x74)) H ∧ va_D A (WQ hQ aQ kQ hw fQ_inside fQ_outside fQ_shut iQ_rows iQ_allRows iQ_columns ++ (WW nW hw lw kw wl_x74 wb_x74 wG_x74)) ∧ va_S A s.heap H locs ∧ lv_has ls 13 [(8, .int l8_x74), (7, .ref (hw kR_339)), (6, .int l6_x53), (5, .int k0_j155), (4, .int (wb kR_1)), (3, .ref (hw kR_1)), (0, .ref (hQ 0)), (1, .int p1), (2, .int p2)]) (fun join304 => ?_) ?_
          · refine lv_icmp_gt (tgt := 200) hx hb dX6_exchange_80 (by decide) (fun c_80 => ?_) (fun c_80 => ?_)
            · have t_80 : l8_x74.toInt > iQ_columns.toInt := toI_gt c_80 rfl rfl
              have hl : lv_has _ _ ([(8, .int l8_x74), (7, .ref (hw kR_339)), (6, .int l6_x53), (5, .int k0_j155), (4, .int (wb kR_1)), (3, .ref (hw kR_1)), (0, .ref (hQ 0)), (1, .int p1), (2, .int p2)]) := lv_sub hl [0, 1, 2, 3, 4, 5, 6, 7, 8] rfl
              exact join304 _ _ _ _ ⟨rfl, hP, hD, hS, hl⟩
            · have t_80 : ¬ l8_x74.toInt > iQ_columns.toInt := toI_ngt c_80 rfl rfl
              refine lv_iload hx hb dX6_exchange_83 (lv_at hl 2 rfl) ?_
              refine lv_iload_n hx hb dX6_exchange_85 rfl (lv_at hl 7 rfl) ?_
              refine lv_icmp_eq (tgt := 200) hx hb dX6_exchange_86 (by decide) (fun c_86 => ?_) (fun c_86 => ?_)
              · have t_86 : l6_x53.toInt = p1.toInt := toI_eq c_86 rfl rfl
                have hl : lv_has _ _ ([(8, .int l8_x74), (7, .ref (hw kR_339)), (6, .int l6_x53), (5, .int k0_j155), (4, .int (wb kR_1)), (3, .ref (hw kR_1)), (0, .ref (hQ 0)), (1, .int p1), (2, .int p2)]) := lv_sub hl [0, 1, 2, 3, 4, 5, 6, 7, 8] rfl
                exact join304 _ _ _ _ ⟨rfl, hP, hD, hS, hl⟩
              · have t_86 : ¬ l6_x53.toInt = p1.toInt := toI_neq c_86 rfl rfl
                refine lv_aload_n hx hb dX6_exchange_89 rfl (lv_at hl 6 rfl) ?_
                refine lv_iload hx hb dX6_exchange_90 (lv_at hl 2 rfl) ?_
                refine lv_iload hx hb dX6_exchange_92 (lv_at hl 0 rfl) ?_
                have hFc := allFree hD hS hA
                refine va_callr (va_runV (As := [.int l6_x53, .int l8_x74]) (rest := []) ⟨hx, hb, hml, hown, hts⟩ (m_X6_cellAt l dC dI hQ aQ kQ hw fQ_inside fQ_outside fQ_shut iQ_rows iQ_allRows iQ_columns nW lw kw wl_x74 wb_x74 wG_x74 l6_x53 l8_x74 (b_iQ_rows) (b_iQ_allRows) (b_iQ_columns) (by first | with_reducible assumption | omega | assumption) b_wl_x74 b_wb_x74 (by first | exact b_l6_x53 | with_reducible assumption | exact ⟨by omega, by omega⟩ | assumption) (by first | exact b_l8_x74 | with_reducible assumption | exact ⟨by omega, by omega⟩ | assumption) (by first | with_reducible assumption | omega | (rw [iI_t (by omega) (by omega)]; omega) | decide | assumption) (cell_ix b_tb (by omega) (by omega) (by omega) (by omega)) H.size) (cwV 2 hts gwsMX6_exchange_0 rfl rfl rfl hd_yX6_cellAt_RX6 (by decide +kernel)) (fz_pre (va_recv hK hP (ci := 6) (q0 := 0) rfl rfl) hP hK hD) rfl rfl hl.1 rfl (lv_room (Nat.le_of_ble_eq_true rfl)) dX6_exchange_94 (by decide +kernel)) hS (fun q _ h => hFc q h) hFc (fun kR_376 ra376 t9_ H locs ht hvm hw9 hB9 hz1 hk1 hS => ?_)
                revert hB9
                refine fz_a2 ?_
                intro hra hB9
                subst hra
                have f376_0 := hw9
                try dsimp only at f376_0
                have hP : va_P (dC, dI) vwCl (WQ hQ aQ kQ hw fQ_inside fQ_outside fQ_shut iQ_rows iQ_allRows iQ_columns ++ (WW nW hw lw kw wl_x74 wb_x74 wG_x74)) H := fz_P ht hB9.1
                have hD := fz_sd hP (hB9.2.weaken (fun _ q _ h => hFc q.1 h)) rfl
                refine lv_astore hx hb dX6_exchange_97 hl (by decide) rfl (fun ls (hl : lv_has ls _ ([(9, .ref (hw kR_376)), (8, .int l8_x74), (7, .ref (hw kR_339)), (6, .int l6_x53), (5, .int k0_j155), (4, .int (wb kR_1)), (3, .ref (hw kR_1)), (0, .ref (hQ 0)), (1, .int p1), (2, .int p2)])) => ?_)
                refine lv_aload_n hx hb dX6_exchange_99 rfl (lv_at hl 7 rfl) ?_
                refine lv_iload_n hx hb dX6_exchange_100 rfl (lv_at hl 8 rfl) ?_
                refine lv_iload hx hb dX6_exchange_101 (lv_at hl 1 rfl) ?_
                have hFc := allFree hD hS hA
                refine va_callr (va_runV (As := [.int p1, .int l8_x74]) (rest := []) ⟨hx, hb, hml, hown, hts⟩ (m_X6_cellAt l dC dI hQ aQ kQ hw fQ_inside fQ_outside fQ_shut iQ_rows iQ_allRows iQ_columns nW lw kw wl_x74 wb_x74 wG_x74 p1 l8_x74 (b_iQ_rows) (b_iQ_allRows) (b_iQ_columns) (by first | with_reducible assumption | omega | assumption) b_wl_x74 b_wb_x74 (b_p1) (by first | exact b_l8_x74 | with_reducible assumption | exact ⟨by omega, by omega⟩ | assumption) (by first | with_reducible assumption | omega | (rw [iI_t (by omega) (by omega)]; omega) | decide | assumption) (hrow.ix (by omega) (by omega)) H.size) (cwV 2 hts gwsMX6_exchange_0 rfl rfl rfl hd_yX6_cellAt_RX6 (by decide +kernel)) (fz_pre (va_recv hK hP (ci := 6) (q0 := 0) rfl rfl) hP hK hD) rfl rfl hl.1 rfl (lv_room (Nat.le_of_ble_eq_true rfl)) dX6_exchange_103 (by decide +kernel)) hS (fun q _ h => hFc q h) hFc (fun kR_377 ra377 t9_ H locs ht hvm hw9 hB9 hz1 hk1 hS => ?_)
                revert hB9
                refine fz_a2 ?_
                intro hra hB9
                subst hra
                have f377_0 := hw9
                try dsimp only at f377_0
                have hP : va_P (dC, dI) vwCl (WQ hQ aQ kQ hw fQ_inside fQ_outside fQ_shut iQ_rows iQ_allRows iQ_columns ++ (WW nW hw lw kw wl_x74 wb_x74 wG_x74)) H := fz_P ht hB9.1
                have hD := fz_sd hP (hB9.2.weaken (fun _ q _ h => hFc q.1 h)) rfl
                refine lv_astore hx hb dX6_exchange_106 hl (by decide) rfl (fun ls (hl : lv_has ls _ ([(10, .ref (hw kR_377)), (9, .ref (hw kR_376)), (8, .int l8_x74), (7, .ref (hw kR_339)), (6, .int l6_x53), (5, .int k0_j155), (4, .int (wb kR_1)), (3, .ref (hw kR_1)), (0, .ref (hQ 0)), (1, .int p1), (2, .int p2)])) => ?_)
                refine lv_aload hx hb dX6_exchange_108 (lv_at hl 3 rfl) ?_
                refine va_get (D := (dC, dI)) (ci := 8) (v := .int (wl_x74 kR_339)) (C := RX8) (T := TX8) (N := 3) hx hb hts iwsMX6_exchange_in8 hown hK hP (5 + (kR_339)) (apR rfl (WW_o (by omega))) rfl 1 (by decide) (hts _ hm_m_X6_exchange_6) (fun _ h9 => h9) rfl dX6_exchange_110 ?_
                have br110 := b_wl_x74 kR_339
                refine W.cut (pc := 129) (fun H locs ls stk => ∃ (k0_j305 : Int32), (0 ≤ k0_j305.toInt ∧ k0_j305.toInt ≤ 1) ∧  stk = [.int k0_j305] ∧ va_P (dC, dI) vwCl (WQ hQ aQ kQ hw fQ_inside fQ_outside fQ_shut iQ_rows iQ_allRows iQ_columns ++ (WW nW hw lw kw wl_x74 wb_x74 wG_x74)) H ∧ va_D A (WQ hQ aQ kQ hw fQ_inside fQ_outside fQ_shut iQ_rows iQ_allRows iQ_columns ++ (WW nW hw lw kw wl_x74 wb_x74 wG_x74)) ∧ va_S A s.heap H locs ∧ lv_has ls 13 [(10, .ref (hw kR_377)), (9, .ref (hw kR_376)), (8, .int l8_x74), (7, .ref (hw kR_339)), (6, .int l6_x53), (5, .int k0_j155), (4, .int (wb kR_1)), (3, .ref (hw kR_1)), (0, .ref (hQ 0)), (1, .int p1), (2, .int p2)]) (fun join305 => ?_) ?_
                · refine lv_if_eq (tgt := 124) hx hb dX6_exchange_113 (by decide) (fun c_113 => ?_) (fun c_113 => ?_)
                  · have t_113 : (wl_x74 kR_339).toInt = 0 := toI_eq c_113 rfl (by decide : (0 : Int32).toInt = 0)
                    refine lv_iconst (v := 1) hx hb dX6_exchange_124 (by decide) ?_
                    refine lv_goto (tgt := 129) hx hb dX6_exchange_125 (by decide) ?_
                    have hl : lv_has _ _ ([(10, .ref (hw kR_377)), (9, .ref (hw kR_376)), (8, .int l8_x74), (7, .ref (hw kR_339)), (6, .int l6_x53), (5, .int k0_j155), (4, .int (wb kR_1)), (3, .ref (hw kR_1)), (0, .ref (hQ 0)), (1, .int p1), (2, .int p2)]) := lv_sub hl [0, 1, 2, 3, 4, 5, 6, 7, 8, 9, 10] rfl
                    exact join305 _ _ _ _ ⟨1, (show 0 ≤ (1 : Int32).toInt ∧ (1 : Int32).toInt ≤ 1 from by decide), rfl, hP, hD, hS, hl⟩
                  · have t_113 : ¬ (wl_x74 kR_339).toInt = 0 := toI_neq c_113 rfl (by decide : (0 : Int32).toInt = 0)
                    refine lv_aload hx hb dX6_exchange_116 (lv_at hl 0 rfl) ?_
                    refine va_get (D := (dC, dI)) (ci := 8) (v := .int (wl_x74 kR_377)) (C := RX8) (T := TX8) (N := 3) hx hb hts iwsMX6_exchange_in8 hown hK hP (5 + (kR_377)) (apR rfl (WW_o (by omega))) rfl 1 (by decide) (hts _ hm_m_X6_exchange_6) (fun _ h9 => h9) rfl dX6_exchange_118 ?_
                    have br118 := b_wl_x74 kR_377
                    refine lv_if_ne (tgt := 128) hx hb dX6_exchange_121 (by decide) (fun c_121 => ?_) (fun c_121 => ?_)
                    · have t_121 : (wl_x74 kR_377).toInt ≠ 0 := toI_ne c_121 rfl (by decide : (0 : Int32).toInt = 0)
                      refine lv_iconst (v := 0) hx hb dX6_exchange_128 (by decide) ?_
                      have hl : lv_has _ _ ([(10, .ref (hw kR_377)), (9, .ref (hw kR_376)), (8, .int l8_x74), (7, .ref (hw kR_339)), (6, .int l6_x53), (5, .int k0_j155), (4, .int (wb kR_1)), (3, .ref (hw kR_1)), (0, .ref (hQ 0)), (1, .int p1), (2, .int p2)]) := lv_sub hl [0, 1, 2, 3, 4, 5, 6, 7, 8, 9, 10] rfl
                      exact join305 _ _ _ _ ⟨0, (show 0 ≤ (0 : Int32).toInt ∧ (0 : Int32).toInt ≤ 1 from by decide), rfl, hP, hD, hS, hl⟩
                    · have t_121 : (wl_x74 kR_377).toInt = 0 := toI_nne c_121 rfl (by decide : (0 : Int32).toInt = 0)
                      refine lv_iconst (v := 1) hx hb dX6_exchange_124 (by decide) ?_
                      refine lv_goto (tgt := 129) hx hb dX6_exchange_125 (by decide) ?_
                      have hl : lv_has _ _ ([(10, .ref (hw kR_377)), (9, .ref (hw kR_376)), (8, .int l8_x74), (7, .ref (hw kR_339)), (6, .int l6_x53), (5, .int k0_j155), (4, .int (wb kR_1)), (3, .ref (hw kR_1)), (0, .ref (hQ 0)), (1, .int p1), (2, .int p2)]) := lv_sub hl [0, 1, 2, 3, 4, 5, 6, 7, 8, 9, 10] rfl
                      exact join305 _ _ _ _ ⟨1, (show 0 ≤ (1 : Int32).toInt ∧ (1 : Int32).toInt ≤ 1 from by decide), rfl, hP, hD, hS, hl⟩
                · rintro H locs ls stk ⟨k0_j305, b_k0_j305, rfl, hP, hD, hS, hl⟩
                  refine lv_istore hx hb dX6_exchange_129 hl (by decide) rfl (fun ls (hl : lv_has ls _ ([(11, .int k0_j305), (10, .ref (hw kR_377)), (9, .ref (hw kR_376)), (8, .int l8_x74), (7, .ref (hw kR_339)), (6, .int l6_x53), (5, .int k0_j155), (4, .int (wb kR_1)), (3, .ref (hw kR_1)), (0, .ref (hQ 0)), (1, .int p1), (2, .int p2)])) => ?_)
                  refine lv_iload hx hb dX6_exchange_131 (lv_at hl 0 rfl) ?_
                  refine W.cut (pc := 154) (fun H locs ls stk => ∃ (k0_j306 : Int32), (0 ≤ k0_j306.toInt ∧ k0_j306.toInt ≤ 1) ∧  stk = [.int k0_j306] ∧ va_P (dC, dI) vwCl (WQ hQ aQ kQ hw fQ_inside fQ_outside fQ_shut iQ_rows iQ_allRows iQ_columns ++ (WW nW hw lw kw wl_x74 wb_x74 wG_x74)) H ∧ va_D A (WQ hQ aQ kQ hw fQ_inside fQ_outside fQ_shut iQ_rows iQ_allRows iQ_columns ++ (WW nW hw lw kw wl_x74 wb_x74 wG_x74)) ∧ va_S A s.heap H locs ∧ lv_has ls 13 [(11, .int k0_j305), (10, .ref (hw kR_377)), (9, .ref (hw kR_376)), (8, .int l8_x74), (7, .ref (hw kR_339)), (6, .int l6_x53), (5, .int k0_j155), (4, .int (wb kR_1)), (3, .ref (hw kR_1)), (0, .ref (hQ 0)), (1, .int p1), (2, .int p2)]) (fun join306 => ?_) ?_
                  · refine lv_if_eq (tgt := 153) hx hb dX6_exchange_133 (by decide) (fun c_133 => ?_) (fun c_133 => ?_)
                    · have t_133 : k0_j305.toInt = 0 := toI_eq c_133 rfl (by decide : (0 : Int32).toInt = 0)
                      refine lv_iconst (v := 0) hx hb dX6_exchange_153 (by decide) ?_
                      have hl : lv_has _ _ ([(11, .int k0_j305), (10, .ref (hw kR_377)), (9, .ref (hw kR_376)), (8, .int l8_x74), (7, .ref (hw kR_339)), (6, .int l6_x53), (5, .int k0_j155), (4, .int (wb kR_1)), (3, .ref (hw kR_1)), (0, .ref (hQ 0)), (1, .int p1), (2, .int p2)]) := lv_sub hl [0, 1, 2, 3, 4, 5, 6, 7, 8, 9, 10, 11] rfl
                      exact join306 _ _ _ _ ⟨0, (show 0 ≤ (0 : Int32).toInt ∧ (0 : Int32).toInt ≤ 1 from by decide), rfl, hP, hD, hS, hl⟩
                    · have t_133 : ¬ k0_j305.toInt = 0 := toI_neq c_133 rfl (by decide : (0 : Int32).toInt = 0)
                      refine lv_iload hx hb dX6_exchange_136 (lv_at hl 6 rfl) ?_
                      refine lv_if_ne (tgt := 149) hx hb dX6_exchange_138 (by decide) (fun c_138 => ?_) (fun c_138 => ?_)
                      · have t_138 : k0_j155.toInt ≠ 0 := toI_ne c_138 rfl (by decide : (0 : Int32).toInt = 0)
                        refine lv_iconst (v := 1) hx hb dX6_exchange_149 (by decide) ?_
                        refine lv_goto (tgt := 154) hx hb dX6_exchange_150 (by decide) ?_
                        have hl : lv_has _ _ ([(11, .int k0_j305), (10, .ref (hw kR_377)), (9, .ref (hw kR_376)), (8, .int l8_x74), (7, .ref (hw kR_339)), (6, .int l6_x53), (5, .int k0_j155), (4, .int (wb kR_1)), (3, .ref (hw kR_1)), (0, .ref (hQ 0)), (1, .int p1), (2, .int p2)]) := lv_sub hl [0, 1, 2, 3, 4, 5, 6, 7, 8, 9, 10, 11] rfl
                        exact join306 _ _ _ _ ⟨1, (show 0 ≤ (1 : Int32).toInt ∧ (1 : Int32).toInt ≤ 1 from by decide), rfl, hP, hD, hS, hl⟩
                      · have t_138 : k0_j155.toInt = 0 := toI_nne c_138 rfl (by decide : (0 : Int32).toInt = 0)
                        refine lv_aload hx hb dX6_exchange_141 (lv_at hl 2 rfl) ?_
                        refine va_get (D := (dC, dI)) (ci := 8) (v := .int (wl_x74 kR_376)) (C := RX8) (T := TX8) (N := 3) hx hb hts iwsMX6_exchange_in8 hown hK hP (5 + (kR_376)) (apR rfl (WW_o (by omega))) rfl 1 (by decide) (hts _ hm_m_X6_exchange_6) (fun _ h9 => h9) rfl dX6_exchange_143 ?_
                        have br143 := b_wl_x74 kR_376
                        refine lv_if_ne (tgt := 153) hx hb dX6_exchange_146 (by decide) (fun c_146 => ?_) (fun c_146 => ?_)
                        · have t_146 : (wl_x74 kR_376).toInt ≠ 0 := toI_ne c_146 rfl (by decide : (0 : Int32).toInt = 0)
                          refine lv_iconst (v := 0) hx hb dX6_exchange_153 (by decide) ?_
                          have hl : lv_has _ _ ([(11, .int k0_j305), (10, .ref (hw kR_377)), (9, .ref (hw kR_376)), (8, .int l8_x74), (7, .ref (hw kR_339)), (6, .int l6_x53), (5, .int k0_j155), (4, .int (wb kR_1)), (3, .ref (hw kR_1)), (0, .ref (hQ 0)), (1, .int p1), (2, .int p2)]) := lv_sub hl [0, 1, 2, 3, 4, 5, 6, 7, 8, 9, 10, 11] rfl
                          exact join306 _ _ _ _ ⟨0, (show 0 ≤ (0 : Int32).toInt ∧ (0 : Int32).toInt ≤ 1 from by decide), rfl, hP, hD, hS, hl⟩
                        · have t_146 : (wl_x74 kR_376).toInt = 0 := toI_nne c_146 rfl (by decide : (0 : Int32).toInt = 0)
                          refine lv_iconst (v := 1) hx hb dX6_exchange_149 (by decide) ?_
                          refine lv_goto (tgt := 154) hx hb dX6_exchange_150 (by decide) ?_
                          have hl : lv_has _ _ ([(11, .int k0_j305), (10, .ref (hw kR_377)), (9, .ref (hw kR_376)), (8, .int l8_x74), (7, .ref (hw kR_339)), (6, .int l6_x53), (5, .int k0_j155), (4, .int (wb kR_1)), (3, .ref (hw kR_1)), (0, .ref (hQ 0)), (1, .int p1), (2, .int p2)]) := lv_sub hl [0, 1, 2, 3, 4, 5, 6, 7, 8, 9, 10, 11] rfl
                          exact join306 _ _ _ _ ⟨1, (show 0 ≤ (1 : Int32).toInt ∧ (1 : Int32).toInt ≤ 1 from by decide), rfl, hP, hD, hS, hl⟩
                  · rintro H locs ls stk ⟨k0_j306, b_k0_j306, rfl, hP, hD, hS, hl⟩
                    refine lv_istore hx hb dX6_exchange_154 hl (by decide) rfl (fun ls (hl : lv_has ls _ ([(12, .int k0_j306), (11, .int k0_j305), (10, .ref (hw kR_377)), (9, .ref (hw kR_376)), (8, .int l8_x74), (7, .ref (hw kR_339)), (6, .int l6_x53), (5, .int k0_j155), (4, .int (wb kR_1)), (3, .ref (hw kR_1)), (0, .ref (hQ 0)), (1, .int p1), (2, .int p2)])) => ?_)
                    refine lv_iload hx hb dX6_exchange_156 (lv_at hl 4 rfl) ?_
                    refine lv_iload_n hx hb dX6_exchange_158 rfl (lv_at hl 12 rfl) ?_
                    refine W.cut (pc := 194) (fun H locs ls stk => ∃ (wl_j307 : Nat → Int32) (wb_j307 : Nat → Int32) (wG_j307 : Nat → Nat → Int64), (∀ q : Nat, 0 ≤ (wl_j307 q).toInt ∧ (wl_j307 q).toInt ≤ 14) ∧ (∀ q : Nat, 0 ≤ (wb_j307 q).toInt ∧ (wb_j307 q).toInt ≤ 1) ∧  stk = [] ∧ va_P (dC, dI) vwCl (WQ hQ aQ kQ hw fQ_inside fQ_outside fQ_shut iQ_rows iQ_allRows iQ_columns ++ (WW nW hw lw kw wl_j307 wb_j307 wG_j307)) H ∧ va_D A (WQ hQ aQ kQ hw fQ_inside fQ_outside fQ_shut iQ_rows iQ_allRows iQ_columns ++ (WW nW hw lw kw wl_j307 wb_j307 wG_j307)) ∧ va_S A s.heap H locs ∧ lv_has ls 13 [(12, .int k0_j306), (11, .int k0_j305), (10, .ref (hw kR_377)), (9, .ref (hw kR_376)), (8, .int l8_x74), (7, .ref (hw kR_339)), (6, .int l6_x53), (5, .int k0_j155), (4, .int (wb kR_1)), (3, .ref (hw kR_1)), (0, .ref (hQ 0)), (1, .int p1), (2, .int p2)]) (fun join307 => ?_) ?_
                    · refine lv_icmp_eq (tgt := 194) hx hb dX6_exchange_159 (by decide) (fun c_159 => ?_) (fun c_159 => ?_)
                      · have t_159 : l8_x74.toInt = p2.toInt := toI_eq c_159 rfl rfl
                        have hl : lv_has _ _ ([(12, .int k0_j306), (11, .int k0_j305), (10, .ref (hw kR_377)), (9, .ref (hw kR_376)), (8, .int l8_x74), (7, .ref (hw kR_339)), (6, .int l6_x53), (5, .int k0_j155), (4, .int (wb kR_1)), (3, .ref (hw kR_1)), (0, .ref (hQ 0)), (1, .int p1), (2, .int p2)]) := lv_sub hl [0, 1, 2, 3, 4, 5, 6, 7, 8, 9, 10, 11, 12] rfl
                        exact join307 _ _ _ _ ⟨wl_x74, wb_x74, wG_x74, b_wl_x74, b_wb_x74, rfl, hP, hD, hS, hl⟩
                      · have t_159 : ¬ l8_x74.toInt = p2.toInt := toI_neq c_159 rfl rfl
                        refine lv_iload hx hb dX6_exchange_162 (lv_at hl 0 rfl) ?_
                        refine lv_if_ne (tgt := 194) hx hb dX6_exchange_164 (by decide) (fun c_164 => ?_) (fun c_164 => ?_)
                        · have t_164 : k0_j306.toInt ≠ 0 := toI_ne c_164 rfl (by decide : (0 : Int32).toInt = 0)
                          have hl : lv_has _ _ ([(12, .int k0_j306), (11, .int k0_j305), (10, .ref (hw kR_377)), (9, .ref (hw kR_376)), (8, .int l8_x74), (7, .ref (hw kR_339)), (6, .int l6_x53), (5, .int k0_j155), (4, .int (wb kR_1)), (3, .ref (hw kR_1)), (0, .ref (hQ 0)), (1, .int p1), (2, .int p2)]) := lv_sub hl [0, 1, 2, 3, 4, 5, 6, 7, 8, 9, 10, 11, 12] rfl
                          exact join307 _ _ _ _ ⟨wl_x74, wb_x74, wG_x74, b_wl_x74, b_wb_x74, rfl, hP, hD, hS, hl⟩
                        · have t_164 : k0_j306.toInt = 0 := toI_nne c_164 rfl (by decide : (0 : Int32).toInt = 0)
                          refine lv_iload hx hb dX6_exchange_167 (lv_at hl 4 rfl) ?_
                          refine lv_if_eq (tgt := 182) hx hb dX6_exchange_169 (by decide) (fun c_169 => ?_) (fun c_169 => ?_)
                          · have t_169 : l8_x74.toInt = 0 := toI_eq c_169 rfl (by decide : (0 : Int32).toInt = 0)
                            refine lv_aload_n hx hb dX6_exchange_182 rfl (lv_at hl 10 rfl) ?_
                            refine lv_aload hx hb dX6_exchange_183 (lv_at hl 3 rfl) ?_
                            refine lv_aload hx hb dX6_exchange_185 (lv_at hl 5 rfl) ?_
                            refine lv_aload hx hb dX6_exchange_187 (lv_at hl 2 rfl) ?_
                            refine lv_iload hx hb dX6_exchange_189 (lv_at hl 8 rfl) ?_
                            have hFc := allFree hD hS hA
                            refine va_callv (va_runV (As := [.ref (hw kR_376), .ref (hw kR_339), .ref (hw kR_377), .int (wb kR_1)]) (rest := []) ⟨hx, hb, hml, hown, hts⟩ (m_X6_changeCell l dC dI hQ aQ kQ hw fQ_inside fQ_outside fQ_shut iQ_rows iQ_allRows iQ_columns nW lw kw wl_x74 wb_x74 wG_x74 kR_376 kR_339 kR_377 (wb kR_1) (b_iQ_rows) (b_iQ_allRows) (b_iQ_columns) (by first | with_reducible assumption | omega | assumption) b_wl_x74 b_wb_x74 (by first | with_reducible assumption | omega | (rw [iI_t (by omega) (by omega)]; omega) | decide | assumption) (by first | with_reducible assumption | omega | (rw [iI_t (by omega) (by omega)]; omega) | decide | assumption) (by first | with_reducible assumption | omega | (rw [iI_t (by omega) (by omega)]; omega) | decide | assumption) (by first | with_reducible assumption | omega | (rw [iI_t (by omega) (by omega)]; omega) | decide | assumption) H.size) (cwV 4 hts gwsMX6_exchange_3 rfl rfl rfl hd_yX6_changeCell_RX6 (by decide +kernel)) (fz_pre (va_recv hK hP (ci := 6) (q0 := 0) rfl rfl) hP hK hD) rfl rfl hl.1 rfl (lv_room (Nat.le_of_ble_eq_true rfl)) dX6_exchange_191 (by decide +kernel)) hS (fun q _ h => hFc q h) hFc (fun u t9_ H locs ht hvm hw9 hB9 hz1 hk1 hS => ?_)
                            revert u hw9 hB9
                            refine fz_p3 ?_
                            intro wl_381 wb_381 wG_381 hw9 hB9
                            try dsimp only at hw9 hB9
                            revert hw9
                            refine fz_a2 ?_
                            intro b_wl_381 b_wb_381
                            have hP : va_P (dC, dI) vwCl (WQ hQ aQ kQ hw fQ_inside fQ_outside fQ_shut iQ_rows iQ_allRows iQ_columns ++ (WW nW hw lw kw wl_381 wb_381 wG_381)) H := fz_P ht hB9.1
                            have hD := fz_sd hP (hB9.2.weaken (fun _ q _ h => hFc q.1 h)) rfl
                            have hl : lv_has _ _ ([(12, .int k0_j306), (11, .int k0_j305), (10, .ref (hw kR_377)), (9, .ref (hw kR_376)), (8, .int l8_x74), (7, .ref (hw kR_339)), (6, .int l6_x53), (5, .int k0_j155), (4, .int (wb kR_1)), (3, .ref (hw kR_1)), (0, .ref (hQ 0)), (1, .int p1), (2, .int p2)]) := lv_sub hl [0, 1, 2, 3, 4, 5, 6, 7, 8, 9, 10, 11, 12] rfl
                            exact join307 _ _ _ _ ⟨wl_381, wb_381, wG_381, b_wl_381, b_wb_381, rfl, hP, hD, hS, hl⟩
                          · have t_169 : ¬ l8_x74.toInt = 0 := toI_neq c_169 rfl (by decide : (0 : Int32).toInt = 0)
                            refine lv_aload_n hx hb dX6_exchange_172 rfl (lv_at hl 10 rfl) ?_
                            refine va_get (D := (dC, dI)) (ci := 6) (v := .ref (aQ 3)) (C := RX6) (T := TX6) (N := 13) hx hb hts iwsMX6_exchange_in6 hown hK hP 0 rfl rfl 3 (by decide) (hts (.fieldLink RX6 24 "OptimaWorks$Tableau" "shut" "[Z") (by decide +kernel)) (fun _ h9 => h9) rfl dX6_exchange_173 ?_
                            refine lv_iload hx hb dX6_exchange_176 (lv_at hl 4 rfl) ?_
                            refine va_zald (cA := kQ 3) (n := 41) (f := fQ_shut) hx hb hK hP 4 3 rfl rfl (vp_in_iff.mpr ⟨b_l8_x74.1, (by omega)⟩) dX6_exchange_178 ?_
                            refine lv_topi (fun v382 hv382 => ?_)
                            clear hv382
                            refine lv_if_ne (tgt := 194) hx hb dX6_exchange_179 (by decide) (fun c_179 => ?_) (fun c_179 => ?_)
                            · have t_179 : v382.toInt ≠ 0 := toI_ne c_179 rfl (by decide : (0 : Int32).toInt = 0)
                              have hl : lv_has _ _ ([(12, .int k0_j306), (11, .int k0_j305), (10, .ref (hw kR_377)), (9, .ref (hw kR_376)), (8, .int l8_x74), (7, .ref (hw kR_339)), (6, .int l6_x53), (5, .int k0_j155), (4, .int (wb kR_1)), (3, .ref (hw kR_1)), (0, .ref (hQ 0)), (1, .int p1), (2, .int p2)]) := lv_sub hl [0, 1, 2, 3, 4, 5, 6, 7, 8, 9, 10, 11, 12] rfl
                              exact join307 _ _ _ _ ⟨wl_x74, wb_x74, wG_x74, b_wl_x74, b_wb_x74, rfl, hP, hD, hS, hl⟩
                            · have t_179 : v382.toInt = 0 := toI_nne c_179 rfl (by decide : (0 : Int32).toInt = 0)
                              refine lv_aload_n hx hb dX6_exchange_182 rfl (lv_at hl 10 rfl) ?_
                              refine lv_aload hx hb dX6_exchange_183 (lv_at hl 3 rfl) ?_
                              refine lv_aload hx hb dX6_exchange_185 (lv_at hl 5 rfl) ?_
                              refine lv_aload hx hb dX6_exchange_187 (lv_at hl 2 rfl) ?_
                              refine lv_iload hx hb dX6_exchange_189 (lv_at hl 8 rfl) ?_
                              have hFc := allFree hD hS hA
                              refine va_callv (va_runV (As := [.ref (hw kR_376), .ref (hw kR_339), .ref (hw kR_377), .int (wb kR_1)]) (rest := []) ⟨hx, hb, hml, hown, hts⟩ (m_X6_changeCell l dC dI hQ aQ kQ hw fQ_inside fQ_outside fQ_shut iQ_rows iQ_allRows iQ_columns nW lw kw wl_x74 wb_x74 wG_x74 kR_376 kR_339 kR_377 (wb kR_1) (b_iQ_rows) (b_iQ_allRows) (b_iQ_columns) (by first | with_reducible assumption | omega | assumption) b_wl_x74 b_wb_x74 (by first | with_reducible assumption | omega | (rw [iI_t (by omega) (by omega)]; omega) | decide | assumption) (by first | with_reducible assumption | omega | (rw [iI_t (by omega) (by omega)]; omega) | decide | assumption) (by first | with_reducible assumption | omega | (rw [iI_t (by omega) (by omega)]; omega) | decide | assumption) (by first | with_reducible assumption | omega | (rw [iI_t (by omega) (by omega)]; omega) | decide | assumption) H.size) (cwV 4 hts gwsMX6_exchange_3 rfl rfl rfl hd_yX6_changeCell_RX6 (by decide +kernel)) (fz_pre (va_recv hK hP (ci := 6) (q0 := 0) rfl rfl) hP hK hD) rfl rfl hl.1 rfl (lv_room (Nat.le_of_ble_eq_true rfl)) dX6_exchange_191 (by decide +kernel)) hS (fun q _ h => hFc q h) hFc (fun u t9_ H locs ht hvm hw9 hB9 hz1 hk1 hS => ?_)
                              revert u hw9 hB9
                              refine fz_p3 ?_
                              intro wl_383 wb_383 wG_383 hw9 hB9
                              try dsimp only at hw9 hB9
                              revert hw9
                              refine fz_a2 ?_
                              intro b_wl_383 b_wb_383
                              have hP : va_P (dC, dI) vwCl (WQ hQ aQ kQ hw fQ_inside fQ_outside fQ_shut iQ_rows iQ_allRows iQ_columns ++ (WW nW hw lw kw wl_383 wb_383 wG_383)) H := fz_P ht hB9.1
                              have hD := fz_sd hP (hB9.2.weaken (fun _ q _ h => hFc q.1 h)) rfl
                              have hl : lv_has _ _ ([(12, .int k0_j306), (11, .int k0_j305), (10, .ref (hw kR_377)), (9, .ref (hw kR_376)), (8, .int l8_x74), (7, .ref (hw kR_339)), (6, .int l6_x53), (5, .int k0_j155), (4, .int (wb kR_1)), (3, .ref (hw kR_1)), (0, .ref (hQ 0)), (1, .int p1), (2, .int p2)]) := lv_sub hl [0, 1, 2, 3, 4, 5, 6, 7, 8, 9, 10, 11, 12] rfl
                              exact join307 _ _ _ _ ⟨wl_383, wb_383, wG_383, b_wl_383, b_wb_383, rfl, hP, hD, hS, hl⟩
                    · rintro H locs ls stk ⟨wl_j307, wb_j307, wG_j307, b_wl_j307, b_wb_j307, rfl, hP, hD, hS, hl⟩
                      refine lv_iinc (v := (iI (l8_x74.toInt + 1))) hx hb dX6_exchange_194 hl (k := 4) rfl (iI_add2 (iI_of _) (by decide : (1 : Int32) = iI 1)) (by decide) rfl (fun ls (hl : lv_has ls _ ([(8, .int (iI (l8_x74.toInt + 1))), (12, .int k0_j306), (11, .int k0_j305), (10, .ref (hw kR_377)), (9, .ref (hw kR_376)), (7, .ref (hw kR_339)), (6, .int l6_x53), (5, .int k0_j155), (4, .int (wb kR_1)), (3, .ref (hw kR_1)), (0, .ref (hQ 0)), (1, .int p1), (2, .int p2)])) => ?_)
                      refine lv_goto (tgt := 74) hx hb dX6_exchange_197 (by decide) ?_
                      have hl : lv_has _ _ ([(8, .int (iI (l8_x74.toInt + 1))), (7, .ref (hw kR_339)), (6, .int l6_x53), (5, .int k0_j155), (4, .int (wb kR_1)), (3, .ref (hw kR_1)), (0, .ref (hQ 0)), (1, .int p1), (2, .int p2)]) := lv_sub hl [0, 5, 6, 7, 8, 9, 10, 11, 12] rfl
                      exact ihx74 wl_j307 wb_j307 wG_j307 (iI (l8_x74.toInt + 1)) _ _ _ b_wl_j307 b_wb_j307 (iI_rng (Int.le_trans (by decide) (Int.add_le_add (b_l8_x74.1) (Int.le_refl _))) (by omega) (by decide) (by decide)) (by have e9 : ((iI (l8_x74.toInt + 1))).toInt = (l8_x74.toInt + 1) := (iI_t (Int.le_trans (by decide) (Int.add_le_add (b_l8_x74.1) (Int.le_refl _))) (Int.le_trans (Int.add_le_add (b_l8_x74.2) (Int.le_refl _)) (by decide))); omega) hP hD hS hl
          · rintro H locs ls stk ⟨rfl, hP, hD, hS, hl⟩
            refine lv_iload hx hb dX6_exchange_200 (lv_at hl 4 rfl) ?_
            refine W.cut (pc := 216) (fun H locs ls stk => ∃ (wb_j308 : Nat → Int32), (∀ q : Nat, 0 ≤ (wb_j308 q).toInt ∧ (wb_j308 q).toInt ≤ 1) ∧  stk = [] ∧ va_P (dC, dI) vwCl (WQ hQ aQ kQ hw fQ_inside fQ_outside fQ_shut iQ_rows iQ_allRows iQ_columns ++ (WW nW hw lw kw wl_x74 wb_j308 wG_x74)) H ∧ va_D A (WQ hQ aQ kQ hw fQ_inside fQ_outside fQ_shut iQ_rows iQ_allRows iQ_columns ++ (WW nW hw lw kw wl_x74 wb_j308 wG_x74)) ∧ va_S A s.heap H locs ∧ lv_has ls 13 [(8, .int l8_x74), (7, .ref (hw kR_339)), (6, .int l6_x53), (5, .int k0_j155), (4, .int (wb kR_1)), (3, .ref (hw kR_1)), (0, .ref (hQ 0)), (1, .int p1), (2, .int p2)]) (fun join308 => ?_) ?_
            · refine lv_if_eq (tgt := 216) hx hb dX6_exchange_202 (by decide) (fun c_202 => ?_) (fun c_202 => ?_)
              · have t_202 : (wb kR_1).toInt = 0 := toI_eq c_202 rfl (by decide : (0 : Int32).toInt = 0)
                have hl : lv_has _ _ ([(8, .int l8_x74), (7, .ref (hw kR_339)), (6, .int l6_x53), (5, .int k0_j155), (4, .int (wb kR_1)), (3, .ref (hw kR_1)), (0, .ref (hQ 0)), (1, .int p1), (2, .int p2)]) := lv_sub hl [0, 1, 2, 3, 4, 5, 6, 7, 8] rfl
                exact join308 _ _ _ _ ⟨wb_x74, b_wb_x74, rfl, hP, hD, hS, hl⟩
              · have t_202 : ¬ (wb kR_1).toInt = 0 := toI_neq c_202 rfl (by decide : (0 : Int32).toInt = 0)
                refine lv_iload hx hb dX6_exchange_205 (lv_at hl 2 rfl) ?_
                refine lv_iload_n hx hb dX6_exchange_207 rfl (lv_at hl 7 rfl) ?_
                refine lv_icmp_eq (tgt := 216) hx hb dX6_exchange_208 (by decide) (fun c_208 => ?_) (fun c_208 => ?_)
                · have t_208 : l6_x53.toInt = p1.toInt := toI_eq c_208 rfl rfl
                  have hl : lv_has _ _ ([(8, .int l8_x74), (7, .ref (hw kR_339)), (6, .int l6_x53), (5, .int k0_j155), (4, .int (wb kR_1)), (3, .ref (hw kR_1)), (0, .ref (hQ 0)), (1, .int p1), (2, .int p2)]) := lv_sub hl [0, 1, 2, 3, 4, 5, 6, 7, 8] rfl
                  exact join308 _ _ _ _ ⟨wb_x74, b_wb_x74, rfl, hP, hD, hS, hl⟩
                · have t_208 : ¬ l6_x53.toInt = p1.toInt := toI_neq c_208 rfl rfl
                  refine lv_aload hx hb dX6_exchange_211 (lv_at hl 1 rfl) ?_
                  have p9 := cj_2_1 (WQ hQ aQ kQ hw fQ_inside fQ_outside fQ_shut iQ_rows iQ_allRows iQ_columns) (WW nW hw lw kw wl_x74 wb_x74 wG_x74)
                  have hPc := hP.mem (fun q h => p9.mem_iff.mpr (List.mem_append_left _ h))
                  have hDc := (hD.perm p9).left
                  have hKc : va_K (dC, dI) vwCl (tW kw) _ := hK.sub [4] rfl
                  have hFc := freeG p9 hD hS hA
                  refine va_callv (va_runV (As := []) (rest := []) ⟨hx, hb, hml, hown, hts⟩ (m_X8_negate l dC dI nW hw lw kw wl_x74 wb_x74 wG_x74 kR_339 b_wl_x74 b_wb_x74 (by first | with_reducible assumption | omega | (rw [iI_t (by omega) (by omega)]; omega) | decide | assumption) H.size) (cwV 0 hts gwsMX6_exchange_4 rfl rfl rfl hd_yX8_negate_RX8 (by decide +kernel)) (fz_pre (va_recv hK hP (ci := 8) (q0 := 5 + (kR_339)) rfl (apR rfl (WW_o (by omega)))) hPc hKc hDc) rfl rfl hl.1 rfl (lv_room (Nat.le_of_ble_eq_true rfl)) dX6_exchange_213 (by decide +kernel)) hS (fun q _ h => hFc q h) hFc (fun wb_385 t9_ H locs ht hvm hw9 hB9 hz1 hk1 hS => ?_)
                  have b_wb_385 := hw9
                  try dsimp only at b_wb_385
                  have p8 := cj_2_1 (WQ hQ aQ kQ hw fQ_inside fQ_outside fQ_shut iQ_rows iQ_allRows iQ_columns) (WW nW hw lw kw wl_x74 wb_385 wG_x74)
                  obtain ⟨hP, hD⟩ := frameG p9 p8 hP hD hk1 hFc (fz_P ht hB9.1) hB9.2
                  have hl : lv_has _ _ ([(8, .int l8_x74), (7, .ref (hw kR_339)), (6, .int l6_x53), (5, .int k0_j155), (4, .int (wb kR_1)), (3, .ref (hw kR_1)), (0, .ref (hQ 0)), (1, .int p1), (2, .int p2)]) := lv_sub hl [0, 1, 2, 3, 4, 5, 6, 7, 8] rfl
                  exact join308 _ _ _ _ ⟨wb_385, b_wb_385, rfl, hP, hD, hS, hl⟩
            · rintro H locs ls stk ⟨wb_j308, b_wb_j308, rfl, hP, hD, hS, hl⟩
              refine lv_iinc (v := (iI (l6_x53.toInt + 1))) hx hb dX6_exchange_216 hl (k := 2) rfl (iI_add2 (iI_of _) (by decide : (1 : Int32) = iI 1)) (by decide) rfl (fun ls (hl : lv_has ls _ ([(6, .int (iI (l6_x53.toInt + 1))), (8, .int l8_x74), (7, .ref (hw kR_339)), (5, .int k0_j155), (4, .int (wb kR_1)), (3, .ref (hw kR_1)), (0, .ref (hQ 0)), (1, .int p1), (2, .int p2)])) => ?_)
              refine lv_goto (tgt := 53) hx hb dX6_exchange_219 (by decide) ?_
              have hl : lv_has _ _ ([(6, .int (iI (l6_x53.toInt + 1))), (5, .int k0_j155), (4, .int (wb kR_1)), (3, .ref (hw kR_1)), (0, .ref (hQ 0)), (1, .int p1), (2, .int p2)]) := lv_sub hl [0, 3, 4, 5, 6, 7, 8] rfl
              exact ihx53 wl_x74 wb_j308 wG_x74 (iI (l6_x53.toInt + 1)) _ _ _ b_wl_x74 b_wb_j308 (iI_rng (Int.le_trans (by decide) (Int.add_le_add (b_l6_x53.1) (Int.le_refl _))) (by omega) (by decide) (by decide)) (by have e9 : ((iI (l6_x53.toInt + 1))).toInt = (l6_x53.toInt + 1) := (iI_t (Int.le_trans (by decide) (Int.add_le_add (b_l6_x53.1) (Int.le_refl _))) (Int.le_trans (Int.add_le_add (b_l6_x53.2) (Int.le_refl _)) (by decide))); omega) hP hD hS hl
end

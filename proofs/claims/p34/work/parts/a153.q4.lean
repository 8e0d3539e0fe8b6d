theorem dX6_begin_0 : decode cX6_begin 0 = .ok (.aload_n 0, 1) := dk_42 (by decide +kernel)
theorem dX6_begin_1 : decode cX6_begin 1 = .ok (.iload_n 3, 1) := dk_29 (by decide +kernel)
theorem dX6_begin_2 : decode cX6_begin 2 = .ok (.bipush 40, 2) := dk_16 (by decide +kernel)
theorem dX6_begin_4 : decode cX6_begin 4 = .ok (.invokestatic 48, 3) := dk_184 (by decide +kernel)
theorem dX6_begin_7 : decode cX6_begin 7 = .ok (.putfield 54, 3) := dk_181 (by decide +kernel)
theorem dX6_begin_10 : decode cX6_begin 10 = .ok (.aload_n 0, 1) := dk_42 (by decide +kernel)
theorem dX6_begin_11 : decode cX6_begin 11 = .ok (.iload_n 1, 1) := dk_27 (by decide +kernel)
theorem dX6_begin_12 : decode cX6_begin 12 = .ok (.iload_n 2, 1) := dk_28 (by decide +kernel)
theorem dX6_begin_13 : decode cX6_begin 13 = .ok (.iadd, 1) := dk_96 (by decide +kernel)
theorem dX6_begin_14 : decode cX6_begin 14 = .ok (.bipush 40, 2) := dk_16 (by decide +kernel)
theorem dX6_begin_16 : decode cX6_begin 16 = .ok (.sipush 400, 3) := dk_17 (by decide +kernel)
theorem dX6_begin_19 : decode cX6_begin 19 = .ok (.aload_n 0, 1) := dk_42 (by decide +kernel)
theorem dX6_begin_20 : decode cX6_begin 20 = .ok (.getfield 54, 3) := dk_180 (by decide +kernel)
theorem dX6_begin_23 : decode cX6_begin 23 = .ok (.iconst 1, 1) := dk_4 (by decide +kernel)
theorem dX6_begin_24 : decode cX6_begin 24 = .ok (.iadd, 1) := dk_96 (by decide +kernel)
theorem dX6_begin_25 : decode cX6_begin 25 = .ok (.idiv, 1) := dk_108 (by decide +kernel)
theorem dX6_begin_26 : decode cX6_begin 26 = .ok (.invokestatic 48, 3) := dk_184 (by decide +kernel)
theorem dX6_begin_29 : decode cX6_begin 29 = .ok (.invokestatic 48, 3) := dk_184 (by decide +kernel)
theorem dX6_begin_32 : decode cX6_begin 32 = .ok (.putfield 58, 3) := dk_181 (by decide +kernel)
theorem dX6_begin_35 : decode cX6_begin 35 = .ok (.aload_n 0, 1) := dk_42 (by decide +kernel)
theorem dX6_begin_36 : decode cX6_begin 36 = .ok (.iload_n 1, 1) := dk_27 (by decide +kernel)
theorem dX6_begin_37 : decode cX6_begin 37 = .ok (.aload_n 0, 1) := dk_42 (by decide +kernel)
theorem dX6_begin_38 : decode cX6_begin 38 = .ok (.getfield 58, 3) := dk_180 (by decide +kernel)
theorem dX6_begin_41 : decode cX6_begin 41 = .ok (.invokestatic 48, 3) := dk_184 (by decide +kernel)
theorem dX6_begin_44 : decode cX6_begin 44 = .ok (.putfield 61, 3) := dk_181 (by decide +kernel)
theorem dX6_begin_47 : decode cX6_begin 47 = .ok (.aload_n 0, 1) := dk_42 (by decide +kernel)
theorem dX6_begin_48 : decode cX6_begin 48 = .ok (.getfield 29, 3) := dk_180 (by decide +kernel)
theorem dX6_begin_51 : decode cX6_begin 51 = .ok (.lconst 1, 1) := dk_10 (by decide +kernel)
theorem dX6_begin_52 : decode cX6_begin 52 = .ok (.invokevirtual 64, 3) := dk_182 (by decide +kernel)
theorem dX6_begin_55 : decode cX6_begin 55 = .ok (.iconst 0, 1) := dk_3 (by decide +kernel)
theorem dX6_begin_56 : decode cX6_begin 56 = .ok (.istore 4, 2) := dk_54 (by decide +kernel)
theorem dX6_begin_58 : decode cX6_begin 58 = .ok (.iload 4, 2) := dk_21 (by decide +kernel)
theorem dX6_begin_60 : decode cX6_begin 60 = .ok (.aload_n 0, 1) := dk_42 (by decide +kernel)
theorem dX6_begin_61 : decode cX6_begin 61 = .ok (.getfield 58, 3) := dk_180 (by decide +kernel)
theorem dX6_begin_64 : decode cX6_begin 64 = .ok (.aload_n 0, 1) := dk_42 (by decide +kernel)
theorem dX6_begin_65 : decode cX6_begin 65 = .ok (.getfield 54, 3) := dk_180 (by decide +kernel)
theorem dX6_begin_68 : decode cX6_begin 68 = .ok (.iconst 1, 1) := dk_4 (by decide +kernel)
theorem dX6_begin_69 : decode cX6_begin 69 = .ok (.iadd, 1) := dk_96 (by decide +kernel)
theorem dX6_begin_70 : decode cX6_begin 70 = .ok (.imul, 1) := dk_104 (by decide +kernel)
theorem dX6_begin_71 : decode cX6_begin 71 = .ok (.if_icmp .ge 20, 3) := dk_162 (by decide +kernel)
theorem dX6_begin_74 : decode cX6_begin 74 = .ok (.aload_n 0, 1) := dk_42 (by decide +kernel)
theorem dX6_begin_75 : decode cX6_begin 75 = .ok (.getfield 13, 3) := dk_180 (by decide +kernel)
theorem dX6_begin_78 : decode cX6_begin 78 = .ok (.iload 4, 2) := dk_21 (by decide +kernel)
theorem dX6_begin_80 : decode cX6_begin 80 = .ok (.aaload, 1) := dk_50 (by decide +kernel)
theorem dX6_begin_81 : decode cX6_begin 81 = .ok (.lconst 0, 1) := dk_9 (by decide +kernel)
theorem dX6_begin_82 : decode cX6_begin 82 = .ok (.invokevirtual 64, 3) := dk_182 (by decide +kernel)
theorem dX6_begin_85 : decode cX6_begin 85 = .ok (.iinc 4 1, 3) := dk_132 (by decide +kernel)
theorem dX6_begin_88 : decode cX6_begin 88 = .ok (.goto (-30), 3) := dk_167 (by decide +kernel)
theorem dX6_begin_91 : decode cX6_begin 91 = .ok (.iconst 1, 1) := dk_4 (by decide +kernel)
theorem dX6_begin_92 : decode cX6_begin 92 = .ok (.istore 4, 2) := dk_54 (by decide +kernel)
theorem dX6_begin_94 : decode cX6_begin 94 = .ok (.iload 4, 2) := dk_21 (by decide +kernel)
theorem dX6_begin_96 : decode cX6_begin 96 = .ok (.aload_n 0, 1) := dk_42 (by decide +kernel)
theorem dX6_begin_97 : decode cX6_begin 97 = .ok (.getfield 54, 3) := dk_180 (by decide +kernel)
theorem dX6_begin_100 : decode cX6_begin 100 = .ok (.if_icmp .gt 28, 3) := dk_163 (by decide +kernel)
theorem dX6_begin_103 : decode cX6_begin 103 = .ok (.aload_n 0, 1) := dk_42 (by decide +kernel)
theorem dX6_begin_104 : decode cX6_begin 104 = .ok (.getfield 21, 3) := dk_180 (by decide +kernel)
theorem dX6_begin_107 : decode cX6_begin 107 = .ok (.iload 4, 2) := dk_21 (by decide +kernel)
theorem dX6_begin_109 : decode cX6_begin 109 = .ok (.iload 4, 2) := dk_21 (by decide +kernel)
theorem dX6_begin_111 : decode cX6_begin 111 = .ok (.iconst 1, 1) := dk_4 (by decide +kernel)
theorem dX6_begin_112 : decode cX6_begin 112 = .ok (.isub, 1) := dk_100 (by decide +kernel)
theorem dX6_begin_113 : decode cX6_begin 113 = .ok (.iastore, 1) := dk_79 (by decide +kernel)
theorem dX6_begin_114 : decode cX6_begin 114 = .ok (.aload_n 0, 1) := dk_42 (by decide +kernel)
theorem dX6_begin_115 : decode cX6_begin 115 = .ok (.getfield 24, 3) := dk_180 (by decide +kernel)
theorem dX6_begin_118 : decode cX6_begin 118 = .ok (.iload 4, 2) := dk_21 (by decide +kernel)
theorem dX6_begin_120 : decode cX6_begin 120 = .ok (.iconst 0, 1) := dk_3 (by decide +kernel)
theorem dX6_begin_121 : decode cX6_begin 121 = .ok (.bastore, 1) := dk_84 (by decide +kernel)
theorem dX6_begin_122 : decode cX6_begin 122 = .ok (.iinc 4 1, 3) := dk_132 (by decide +kernel)
theorem dX6_begin_125 : decode cX6_begin 125 = .ok (.goto (-31), 3) := dk_167 (by decide +kernel)
theorem dX6_begin_128 : decode cX6_begin 128 = .ok (.iconst 0, 1) := dk_3 (by decide +kernel)
theorem dX6_begin_129 : decode cX6_begin 129 = .ok (.istore 4, 2) := dk_54 (by decide +kernel)
theorem dX6_begin_131 : decode cX6_begin 131 = .ok (.iload 4, 2) := dk_21 (by decide +kernel)
theorem dX6_begin_133 : decode cX6_begin 133 = .ok (.aload_n 0, 1) := dk_42 (by decide +kernel)
theorem dX6_begin_134 : decode cX6_begin 134 = .ok (.getfield 61, 3) := dk_180 (by decide +kernel)
theorem dX6_begin_137 : decode cX6_begin 137 = .ok (.if_icmp .ge 23, 3) := dk_162 (by decide +kernel)
theorem dX6_begin_140 : decode cX6_begin 140 = .ok (.aload_n 0, 1) := dk_42 (by decide +kernel)
theorem dX6_begin_141 : decode cX6_begin 141 = .ok (.getfield 17, 3) := dk_180 (by decide +kernel)
theorem dX6_begin_144 : decode cX6_begin 144 = .ok (.iload 4, 2) := dk_21 (by decide +kernel)
theorem dX6_begin_146 : decode cX6_begin 146 = .ok (.aload_n 0, 1) := dk_42 (by decide +kernel)
theorem dX6_begin_147 : decode cX6_begin 147 = .ok (.getfield 54, 3) := dk_180 (by decide +kernel)
theorem dX6_begin_150 : decode cX6_begin 150 = .ok (.iload 4, 2) := dk_21 (by decide +kernel)
theorem dX6_begin_152 : decode cX6_begin 152 = .ok (.iadd, 1) := dk_96 (by decide +kernel)
theorem dX6_begin_153 : decode cX6_begin 153 = .ok (.iastore, 1) := dk_79 (by decide +kernel)
theorem dX6_begin_154 : decode cX6_begin 154 = .ok (.iinc 4 1, 3) := dk_132 (by decide +kernel)
theorem dX6_begin_157 : decode cX6_begin 157 = .ok (.goto (-26), 3) := dk_167 (by decide +kernel)
theorem dX6_begin_160 : decode cX6_begin 160 = .ok (.return_, 1) := dk_177 (by decide +kernel)
def wsMX6_begin : List Cond := .code yX6_begin cX6_begin 5 none :: ([.methodLink RX6 48 Lib.Math.min.name, .static Lib.Math.min.name, .initialized "java/lang/Math", .code Lib.Math.min.name Lib.Math.min.code 2 (some .int), .fieldLink RX6 54 "OptimaWorks$Tableau" "columns" "I", .fieldLink RX6 58 "OptimaWorks$Tableau" "allRows" "I", .fieldLink RX6 61 "OptimaWorks$Tableau" "rows" "I", .fieldLink RX6 29 "OptimaWorks$Tableau" "under" "LOptimaWorks$Whole;", .fieldLink RX6 13 "OptimaWorks$Tableau" "cell" "[LOptimaWorks$Whole;", .fieldLink RX6 21 "OptimaWorks$Tableau" "outside" "[I", .fieldLink RX6 24 "OptimaWorks$Tableau" "shut" "[Z", .fieldLink RX6 17 "OptimaWorks$Tableau" "inside" "[I"] ++ wsX60 ++ (wsV RX6 64 RX8 yX8_setLong wsMX8_setLong))
theorem iwsMX6_begin_in6 : ∀ w ∈ wsX60, w ∈ wsMX6_begin := fun _ h => List.mem_cons_of_mem _ (List.mem_append_left _ (List.mem_append_right _ h))
theorem gwsMX6_begin_0 : GoodIn wsMX6_begin (wsV RX6 64 RX8 yX8_setLong wsMX8_setLong) := goodIn_sub (fun _ h => List.mem_cons_of_mem _ (List.mem_append_right _ h)) (gdV (by decide +kernel) gdwsMX8_setLong)
theorem gdwsMX6_begin : wsMX6_begin.all goodWord = true := gdC rfl (gdA (gdA (by decide +kernel : ([.methodLink RX6 48 Lib.Math.min.name, .static Lib.Math.min.name, .initialized "java/lang/Math", .code Lib.Math.min.name Lib.Math.min.code 2 (some .int), .fieldLink RX6 54 "OptimaWorks$Tableau" "columns" "I", .fieldLink RX6 58 "OptimaWorks$Tableau" "allRows" "I", .fieldLink RX6 61 "OptimaWorks$Tableau" "rows" "I", .fieldLink RX6 29 "OptimaWorks$Tableau" "under" "LOptimaWorks$Whole;", .fieldLink RX6 13 "OptimaWorks$Tableau" "cell" "[LOptimaWorks$Whole;", .fieldLink RX6 21 "OptimaWorks$Tableau" "outside" "[I", .fieldLink RX6 24 "OptimaWorks$Tableau" "shut" "[Z", .fieldLink RX6 17 "OptimaWorks$Tableau" "inside" "[I"] : List Cond).all goodWord = true) gdwsX60) (gdV (by decide +kernel) gdwsMX8_setLong))
set_option maxHeartbeats 4000000 in
set_option maxRecDepth 100000 in
/-- laid anew -/
theorem m_X6_begin (l : Launch) (dC : Nat → ClassId) (dI : Nat → Nat → Nat) (hQ : Nat → Nat) (aQ : Nat → Nat) (kQ : Nat → ClassId) (hw : Nat → Nat) (fQ_inside : Nat → Int32) (fQ_outside : Nat → Int32) (fQ_shut : Nat → Int32) (iQ_rows : Int32) (iQ_allRows : Int32) (iQ_columns : Int32) (nW : Nat) (lw : Nat → Nat) (kw : ClassId) (wl : Nat → Int32) (wb : Nat → Int32) (wG : Nat → Nat → Int64) (p1 : Int32) (p2 : Int32) (p3 : Int32) (b_iQ_rows : 0 ≤ iQ_rows.toInt ∧ iQ_rows.toInt ≤ 40) (b_iQ_allRows : 0 ≤ iQ_allRows.toInt ∧ iQ_allRows.toInt ≤ 40) (b_iQ_columns : 0 ≤ iQ_columns.toInt ∧ iQ_columns.toInt ≤ 40) (b_tb : TbO iQ_rows iQ_allRows iQ_columns) (b_wl : ∀ q : Nat, 0 ≤ (wl q).toInt ∧ (wl q).toInt ≤ 14) (b_wb : ∀ q : Nat, 0 ≤ (wb q).toInt ∧ (wb q).toInt ≤ 1) (b_p1 : 0 ≤ p1.toInt ∧ p1.toInt ≤ 40) (b_p2 : 0 ≤ p2.toInt ∧ p2.toInt ≤ 40) (b_p3 : 0 ≤ p3.toInt ∧ p3.toInt ≤ 40) (hnW : 406 ≤ nW) (h40 : p1.toInt + p2.toInt ≤ 40) (h400 : (p1.toInt + p2.toInt) * (p3.toInt + 1) ≤ 400) (sz : Nat) : Met l yX6_begin wsMX6_begin ({ frames := 1, cells := 0, slots := 0, locals := 25 }) (va_Pc [.ref (hQ 0), .int p1, .int p2, .int p3] (fun U => U.heap.size = sz ∧ va_P (dC, dI) vwCl (WQ hQ aQ kQ hw fQ_inside fQ_outside fQ_shut iQ_rows iQ_allRows iQ_columns ++ (WW nW hw lw kw wl wb wG)) U.heap ∧ va_K (dC, dI) vwCl (tQ kQ ++ (tW kw)) U ∧ va_D (fun _ => True) (WQ hQ aQ kQ hw fQ_inside fQ_outside fQ_shut iQ_rows iQ_allRows iQ_columns ++ (WW nW hw lw kw wl wb wG)))) (va_Qv (fun (u : (Nat → Int32) × (Nat → Int32) × (Nat → Int32) × (Int32) × (Int32) × (Int32) × (Nat → Int32) × (Nat → Int32) × (Nat → Nat → Int64)) => (0 ≤ (u.2.2.2.1).toInt ∧ (u.2.2.2.1).toInt ≤ 40) ∧ (0 ≤ (u.2.2.2.2.1).toInt ∧ (u.2.2.2.2.1).toInt ≤ 40) ∧ (0 ≤ (u.2.2.2.2.2.1).toInt ∧ (u.2.2.2.2.2.1).toInt ≤ 40) ∧ (∀ q : Nat, 0 ≤ ((u.2.2.2.2.2.2.1) q).toInt ∧ ((u.2.2.2.2.2.2.1) q).toInt ≤ 14) ∧ (∀ q : Nat, 0 ≤ ((u.2.2.2.2.2.2.2.1) q).toInt ∧ ((u.2.2.2.2.2.2.2.1) q).toInt ≤ 1) ∧ (TbO (u.2.2.2.1) (u.2.2.2.2.1) (u.2.2.2.2.2.1)) ∧ ((u.2.2.2.1).toInt = p1.toInt) ∧ ((u.2.2.2.2.1).toInt = p1.toInt + p2.toInt) ∧ ((u.2.2.2.2.2.1).toInt = p3.toInt)) (fun (u : (Nat → Int32) × (Nat → Int32) × (Nat → Int32) × (Int32) × (Int32) × (Int32) × (Nat → Int32) × (Nat → Int32) × (Nat → Nat → Int64)) t => va_P (dC, dI) vwCl (WQ hQ aQ kQ hw (u.1) (u.2.1) (u.2.2.1) (u.2.2.2.1) (u.2.2.2.2.1) (u.2.2.2.2.2.1) ++ (WW nW hw lw kw (u.2.2.2.2.2.2.1) (u.2.2.2.2.2.2.2.1) (u.2.2.2.2.2.2.2.2))) t.heap ∧ va_D (va_A (WQ hQ aQ kQ hw fQ_inside fQ_outside fQ_shut iQ_rows iQ_allRows iQ_columns ++ (WW nW hw lw kw wl wb wG)) sz) (WQ hQ aQ kQ hw (u.1) (u.2.1) (u.2.2.1) (u.2.2.2.1) (u.2.2.2.2.1) (u.2.2.2.2.2.1) ++ (WW nW hw lw kw (u.2.2.2.2.2.2.1) (u.2.2.2.2.2.2.2.1) (u.2.2.2.2.2.2.2.2)))) (va_A (WQ hQ aQ kQ hw fQ_inside fQ_outside fQ_shut iQ_rows iQ_allRows iQ_columns ++ (WW nW hw lw kw wl wb wG)) sz)) 0 0 (va_A (WQ hQ aQ kQ hw fQ_inside fQ_outside fQ_shut iQ_rows iQ_allRows iQ_columns ++ (WW nW hw lw kw wl wb wG)) sz) := by
  refine Met.ofW (cc := cX6_begin) (maxL := 5) (ret := none) (by decide) rfl ?_
  intro p e s m args below meth c s₁ B hml hv
  obtain ⟨rfl, hsz, hP, hK, hD0⟩ := hv
  have hx := B.exec
  have hb := B.bytes
  have hr := B.returns
  have hts := atoms_spec (ws := wsMX6_begin) B.pre
  have hown : s.vm.findClass RX6 = some m.cls := findClass_of_methodNamed B.named
  have hlocks := B.notSynchronized
  subst hsz
  have hD := hD0.self (sz := s.heap.size)
  generalize hAe : va_A (WQ hQ aQ kQ hw fQ_inside fQ_outside fQ_shut iQ_rows iQ_allRows iQ_columns ++ (WW nW hw lw kw wl wb wG)) s.heap.size = A at hD ⊢
  have hA : ∀ q : Nat, s.heap.size ≤ q → A q := fun q h => by rw [← hAe]; exact Or.inr h
  have hS : va_S A s.heap s.heap [] := va_S.rf
  have hl := lv_entry ([.ref (hQ 0), .int p1, .int p2, .int p3]) (n := 5) (Nat.le_of_ble_eq_true rfl)
  rw [lg_entry_eq]
  generalize (lg_sl ([.ref (hQ 0), .int p1, .int p2, .int p3]) ++ List.replicate (5 - (lg_sl ([.ref (hQ 0), .int p1, .int p2, .int p3])).length) Slot.unset).toArray = ls at hl ⊢
  have hl : lv_has ls 5 [(0, .ref (hQ 0)), (1, .int p1), (2, .int p2), (3, .int p3)] := hl
  have hTb := b_tb.1
  refine lv_aload_n hx hb dX6_begin_0 rfl (lv_at hl 0 rfl) ?_
  refine lv_iload_n hx hb dX6_begin_1 rfl (lv_at hl 3 rfl) ?_
  refine lv_bipush (v := 40) hx hb dX6_begin_2 (by decide) ?_
  refine va_mmin hx hb (by rw [hml]; exact hl.1.symm) hown (hts (.methodLink RX6 48 Lib.Math.min.name) (by decide +kernel)) (hts (.static Lib.Math.min.name) (by decide +kernel)) (hts (.initialized "java/lang/Math") (by decide +kernel)) (hts (.code Lib.Math.min.name Lib.Math.min.code 2 (some .int)) (by decide +kernel)) (by decide +kernel) (Nat.le_of_ble_eq_true rfl) (by decide +kernel) (by decide +kernel) dX6_begin_4 ?_
  refine lv_topi (fun v1 hv1 => ?_)
  have b_v1 : (v1.toInt ≤ p3.toInt ∧ v1.toInt ≤ 40) ∧ (v1.toInt = p3.toInt ∨ v1.toInt = 40) := by rw [hv1]; exact min_t rfl (by decide : (40 : Int32).toInt = 40)
  clear hv1
  refine va_put (D := (dC, dI)) (ci := 6) (v := .int v1) (ty := .int) (C := RX6) (T := TX6) (N := 13) hx hb hts iwsMX6_begin_in6 tyX6 tyX6_ok nmX6 hown hK hP hD hS 0 rfl rfl 7 (by decide) (hts (.fieldLink RX6 54 "OptimaWorks$Tableau" "columns" "I") (by decide +kernel)) (fun _ h9 => h9) rfl (by decide +kernel) rfl rfl (Nat.le_of_ble_eq_true rfl) dX6_begin_7 (fun H locs hP hD hS => ?_)
  have hP : va_P (dC, dI) vwCl (WQ hQ aQ kQ hw fQ_inside fQ_outside fQ_shut iQ_rows iQ_allRows v1 ++ (WW nW hw lw kw wl wb wG)) H := hP
  have hD : va_D A (WQ hQ aQ kQ hw fQ_inside fQ_outside fQ_shut iQ_rows iQ_allRows v1 ++ (WW nW hw lw kw wl wb wG)) := hD
  refine lv_aload_n hx hb dX6_begin_10 rfl (lv_at hl 0 rfl) ?_
  refine lv_iload_n hx hb dX6_begin_11 rfl (lv_at hl 1 rfl) ?_
  refine lv_iload_n hx hb dX6_begin_12 rfl (lv_at hl 2 rfl) ?_
  refine lv_iadd hx hb dX6_begin_13 ?_
  refine lv_topi (fun y2 hy2 => ?_)
  obtain rfl : (iI (p1.toInt + p2.toInt)) = y2 := (hy2.trans (iI_add2 (iI_of _) (iI_of _))).symm
  refine lv_bipush (v := 40) hx hb dX6_begin_14 (by decide) ?_
  refine lv_sipush (v := 400) hx hb dX6_begin_16 (by decide) ?_
  refine lv_aload_n hx hb dX6_begin_19 rfl (lv_at hl 0 rfl) ?_
  refine va_get (D := (dC, dI)) (ci := 6) (v := .int v1) (C := RX6) (T := TX6) (N := 13) hx hb hts iwsMX6_begin_in6 hown hK hP 0 rfl rfl 7 (by decide) (hts (.fieldLink RX6 54 "OptimaWorks$Tableau" "columns" "I") (by decide +kernel)) (fun _ h9 => h9) rfl dX6_begin_20 ?_
  refine lv_iconst (v := 1) hx hb dX6_begin_23 (by decide) ?_
  refine lv_iadd hx hb dX6_begin_24 ?_
  refine lv_topi (fun y3 hy3 => ?_)
  obtain rfl : (iI (v1.toInt + 1)) = y3 := (hy3.trans (iI_add2 (iI_of _) (by decide : (1 : Int32) = iI 1))).symm
  refine lv_idiv hx hb dX6_begin_25 (nz_i (x := (iI (v1.toInt + 1))) (iI_t (by omega) (by omega)) (by omega)) ?_
  refine lv_topi (fun v4 hv4 => ?_)
  have b_v4 : (p1.toInt + p2.toInt) ≤ v4.toInt := by rw [hv4]; exact idiv_ge (by decide : (400 : Int32).toInt = 400) (iI_t (by omega) (by omega)) (by omega) (by omega) (by first | assumption | (rw [show ((iI (v1.toInt + 1)).toInt) = p3.toInt + 1 by rw [iI_t (by omega) (by omega)]; omega]; assumption) | (rw [show v1.toInt = p3.toInt by omega]; assumption))
  clear hv4
  refine va_mmin hx hb (by rw [hml]; exact hl.1.symm) hown (hts (.methodLink RX6 48 Lib.Math.min.name) (by decide +kernel)) (hts (.static Lib.Math.min.name) (by decide +kernel)) (hts (.initialized "java/lang/Math") (by decide +kernel)) (hts (.code Lib.Math.min.name Lib.Math.min.code 2 (some .int)) (by decide +kernel)) (by decide +kernel) (Nat.le_of_ble_eq_true rfl) (by decide +kernel) (by decide +kernel) dX6_begin_26 ?_
  refine lv_topi (fun v5 hv5 => ?_)
  have b_v5 : (v5.toInt ≤ 40 ∧ v5.toInt ≤ v4.toInt) ∧ (v5.toInt = 40 ∨ v5.toInt = v4.toInt) := by rw [hv5]; exact min_t (by decide : (40 : Int32).toInt = 40) rfl
  clear hv5
  refine va_mmin hx hb (by rw [hml]; exact hl.1.symm) hown (hts (.methodLink RX6 48 Lib.Math.min.name) (by decide +kernel)) (hts (.static Lib.Math.min.name) (by decide +kernel)) (hts (.initialized "java/lang/Math") (by decide +kernel)) (hts (.code Lib.Math.min.name Lib.Math.min.code 2 (some .int)) (by decide +kernel)) (by decide +kernel) (Nat.le_of_ble_eq_true rfl) (by decide +kernel) (by decide +kernel) dX6_begin_29 ?_
  refine lv_topi (fun v6 hv6 => ?_)
  have b_v6 : (v6.toInt ≤ (p1.toInt + p2.toInt) ∧ v6.toInt ≤ v5.toInt) ∧ (v6.toInt = (p1.toInt + p2.toInt) ∨ v6.toInt = v5.toInt) := by rw [hv6]; exact min_t (iI_t (Int.le_trans (by decide) (Int.add_le_add (b_p1.1) (b_p2.1))) (Int.le_trans (Int.add_le_add (b_p1.2) (b_p2.2)) (by decide))) rfl
  clear hv6
  refine va_put (D := (dC, dI)) (ci := 6) (v := .int v6) (ty := .int) (C := RX6) (T := TX6) (N := 13) hx hb hts iwsMX6_begin_in6 tyX6 tyX6_ok nmX6 hown hK hP hD hS 0 rfl rfl 6 (by decide) (hts (.fieldLink RX6 58 "OptimaWorks$Tableau" "allRows" "I") (by decide +kernel)) (fun _ h9 => h9) rfl (by decide +kernel) rfl rfl (Nat.le_of_ble_eq_true rfl) dX6_begin_32 (fun H locs hP hD hS => ?_)
  have hP : va_P (dC, dI) vwCl (WQ hQ aQ kQ hw fQ_inside fQ_outside fQ_shut iQ_rows v6 v1 ++ (WW nW hw lw kw wl wb wG)) H := hP
  have hD : va_D A (WQ hQ aQ kQ hw fQ_inside fQ_outside fQ_shut iQ_rows v6 v1 ++ (WW nW hw lw kw wl wb wG)) := hD
  refine lv_aload_n hx hb dX6_begin_35 rfl (lv_at hl 0 rfl) ?_
  refine lv_iload_n hx hb dX6_begin_36 rfl (lv_at hl 1 rfl) ?_
  refine lv_aload_n hx hb dX6_begin_37 rfl (lv_at hl 0 rfl) ?_
  refine va_get (D := (dC, dI)) (ci := 6) (v := .int v6) (C := RX6) (T := TX6) (N := 13) hx hb hts iwsMX6_begin_in6 hown hK hP 0 rfl rfl 6 (by decide) (hts (.fieldLink RX6 58 "OptimaWorks$Tableau" "allRows" "I") (by decide +kernel)) (fun _ h9 => h9) rfl dX6_begin_38 ?_
  refine va_mmin hx hb (by rw [hml]; exact hl.1.symm) hown (hts (.methodLink RX6 48 Lib.Math.min.name) (by decide +kernel)) (hts (.static Lib.Math.min.name) (by decide +kernel)) (hts (.initialized "java/lang/Math") (by decide +kernel)) (hts (.code Lib.Math.min.name Lib.Math.min.code 2 (some .int)) (by decide +kernel)) (by decide +kernel) (Nat.le_of_ble_eq_true rfl) (by decide +kernel) (by decide +kernel) dX6_begin_41 ?_
  refine lv_topi (fun v7 hv7 => ?_)
  have b_v7 : (v7.toInt ≤ p1.toInt ∧ v7.toInt ≤ v6.toInt) ∧ (v7.toInt = p1.toInt ∨ v7.toInt = v6.toInt) := by rw [hv7]; exact min_t rfl rfl
  clear hv7
  refine va_put (D := (dC, dI)) (ci := 6) (v := .int v7) (ty := .int) (C := RX6) (T := TX6) (N := 13) hx hb hts iwsMX6_begin_in6 tyX6 tyX6_ok nmX6 hown hK hP hD hS 0 rfl rfl 5 (by decide) (hts (.fieldLink RX6 61 "OptimaWorks$Tableau" "rows" "I") (by decide +kernel)) (fun _ h9 => h9) rfl (by decide +kernel) rfl rfl (Nat.le_of_ble_eq_true rfl) dX6_begin_44 (fun H locs hP hD hS => ?_)
  have hP : va_P (dC, dI) vwCl (WQ hQ aQ kQ hw fQ_inside fQ_outside fQ_shut v7 v6 v1 ++ (WW nW hw lw kw wl wb wG)) H := hP
  have hD : va_D A (WQ hQ aQ kQ hw fQ_inside fQ_outside fQ_shut v7 v6 v1 ++ (WW nW hw lw kw wl wb wG)) := hD
  have htb : TbO v7 v6 v1 := TbO.of (N := p1.toInt + p2.toInt) (C := p3.toInt) (by omega) (by omega) h400 (by omega) (by omega) (by omega)
  obtain ⟨hT1, hT2, hT3⟩ := id htb
  refine lv_aload_n hx hb dX6_begin_47 rfl (lv_at hl 0 rfl) ?_
  refine va_get (D := (dC, dI)) (ci := 6) (v := .ref (hw 400)) (C := RX6) (T := TX6) (N := 13) hx hb hts iwsMX6_begin_in6 hown hK hP 0 rfl rfl 4 (by decide) (hts (.fieldLink RX6 29 "OptimaWorks$Tableau" "under" "LOptimaWorks$Whole;") (by decide +kernel)) (fun _ h9 => h9) rfl dX6_begin_48 ?_
  refine lv_lconst (v := 1) hx hb dX6_begin_51 (by decide) ?_
  have p9 : List.Perm (WQ hQ aQ kQ hw fQ_inside fQ_outside fQ_shut v7 v6 v1 ++ (WW nW hw lw kw wl wb wG)) ((WW nW hw lw kw wl wb wG) ++ (WQ hQ aQ kQ hw fQ_inside fQ_outside fQ_shut v7 v6 v1)) := (List.perm_append_comm)
  have hPc := hP.mem (fun q h => p9.mem_iff.mpr (List.mem_append_left _ h))
  have hDc := (hD.perm p9).left
  have hKc : va_K (dC, dI) vwCl (tW kw) _ := hK.sub [4] rfl
  have hFc := freeG p9 hD hS hA
  refine va_callv (va_runV (As := [.long 1]) (rest := []) ⟨hx, hb, hml, hown, hts⟩ (m_X8_setLong l dC dI nW hw lw kw wl wb wG 400 1 b_wl b_wb (by first | assumption | omega | (rw [iI_t (by omega) (by omega)]; omega) | decide) H.size) (cwV 1 hts gwsMX6_begin_0 rfl rfl rfl hd_yX8_setLong_RX8 (by decide +kernel)) (fz_pre (va_recv hK hP (ci := 8) (q0 := 5 + (400)) rfl (apR rfl (WW_o (by omega)))) hPc hKc hDc) rfl rfl hl.1 rfl (lv_room (Nat.le_of_ble_eq_true rfl)) dX6_begin_52 (by decide +kernel)) hS (fun q _ h => hFc q h) hFc (fun u t9_ H locs ht hvm hw9 hB9 hz1 hk1 hS => ?_)
  obtain ⟨wl_8, wb_8, wG_8⟩ := u
  try dsimp only at hw9 hB9
  obtain ⟨b_wl_8, b_wb_8⟩ := hw9
  have p8 : List.Perm (WQ hQ aQ kQ hw fQ_inside fQ_outside fQ_shut v7 v6 v1 ++ (WW nW hw lw kw wl_8 wb_8 wG_8)) ((WW nW hw lw kw wl_8 wb_8 wG_8) ++ (WQ hQ aQ kQ hw fQ_inside fQ_outside fQ_shut v7 v6 v1)) := (List.perm_append_comm)
  obtain ⟨hP, hD⟩ := frameG p9 p8 hP hD hk1 hFc (fz_P ht hB9.1) hB9.2
  have hP : va_P (dC, dI) vwCl (WQ hQ aQ kQ hw fQ_inside fQ_outside fQ_shut v7 v6 v1 ++ (WW nW hw lw kw wl_8 wb_8 wG_8)) H := hP
  have hD : va_D A (WQ hQ aQ kQ hw fQ_inside fQ_outside fQ_shut v7 v6 v1 ++ (WW nW hw lw kw wl_8 wb_8 wG_8)) := hD
  refine lv_iconst (v := 0) hx hb dX6_begin_55 (by decide) ?_
  refine lv_istore hx hb dX6_begin_56 hl (by decide) rfl (fun ls (hl : lv_has ls _ ([(4, .int 0), (0, .ref (hQ 0)), (1, .int p1), (2, .int p2), (3, .int p3)])) => ?_)
  have hl : lv_has _ _ ([(4, .int 0), (0, .ref (hQ 0)), (1, .int p1), (2, .int p2), (3, .int p3)]) := lv_sub hl [0, 1, 2, 3, 4] rfl
  refine (fun (loop : ∀ (n9 : Nat) (wl_x58 : Nat → Int32) (wb_x58 : Nat → Int32) (wG_x58 : Nat → Nat → Int64) (l4_x58 : Int32) (H : Heap) (locs : List Loc) (ls : Array Slot), (∀ q : Nat, 0 ≤ (wl_x58 q).toInt ∧ (wl_x58 q).toInt ≤ 14) → (∀ q : Nat, 0 ≤ (wb_x58 q).toInt ∧ (wb_x58 q).toInt ≤ 1) → (0 ≤ l4_x58.toInt ∧ l4_x58.toInt ≤ 400) → (400 - l4_x58.toInt < ((n9 : Nat) : Int)) → va_P (dC, dI) vwCl (WQ hQ aQ kQ hw fQ_inside fQ_outside fQ_shut v7 v6 v1 ++ (WW nW hw lw kw wl_x58 wb_x58 wG_x58)) H → va_D A (WQ hQ aQ kQ hw fQ_inside fQ_outside fQ_shut v7 v6 v1 ++ (WW nW hw lw kw wl_x58 wb_x58 wG_x58)) → va_S A s.heap H locs → lv_has ls 5 [(4, .int l4_x58), (0, .ref (hQ 0)), (1, .int p1), (2, .int p2), (3, .int p3)] → W p l e _ s m _ below meth c H locs 0 0 _ (F0 m 58 ls [])) => loop (401) wl_8 wb_8 wG_8 0 _ _ _ b_wl_8 b_wb_8 (show 0 ≤ (0 : Int32).toInt ∧ (0 : Int32).toInt ≤ 400 from by decide) ((by have e9 : (0 : Int32).toInt = 0 := (by decide : (0 : Int32).toInt = 0); omega)) hP hD hS hl) ?_
  intro n9
  induction n9 with
  | zero => intro wl_x58 wb_x58 wG_x58 l4_x58 H locs ls b_wl_x58 b_wb_x58 b_l4_x58 hf9; exact False.elim (by omega)
  | succ n9 ihx58 =>
    intro wl_x58 wb_x58 wG_x58 l4_x58 H locs ls b_wl_x58 b_wb_x58 b_l4_x58 hfx58 hP hD hS hl
    refine lv_iload hx hb dX6_begin_58 (lv_at hl 0 rfl) ?_
    refine lv_aload_n hx hb dX6_begin_60 rfl (lv_at hl 1 rfl) ?_
    refine va_get (D := (dC, dI)) (ci := 6) (v := .int v6) (C := RX6) (T := TX6) (N := 13) hx hb hts iwsMX6_begin_in6 hown hK hP 0 rfl rfl 6 (by decide) (hts (.fieldLink RX6 58 "OptimaWorks$Tableau" "allRows" "I") (by decide +kernel)) (fun _ h9 => h9) rfl dX6_begin_61 ?_
    refine lv_aload_n hx hb dX6_begin_64 rfl (lv_at hl 1 rfl) ?_
    refine va_get (D := (dC, dI)) (ci := 6) (v := .int v1) (C := RX6) (T := TX6) (N := 13) hx hb hts iwsMX6_begin_in6 hown hK hP 0 rfl rfl 7 (by decide) (hts (.fieldLink RX6 54 "OptimaWorks$Tableau" "columns" "I") (by decide +kernel)) (fun _ h9 => h9) rfl dX6_begin_65 ?_
    refine lv_iconst (v := 1) hx hb dX6_begin_68 (by decide) ?_
    refine lv_iadd hx hb dX6_begin_69 ?_
    refine lv_topi (fun y129 hy129 => ?_)
    obtain rfl : (iI (v1.toInt + 1)) = y129 := (hy129.trans (iI_add2 (iI_of _) (by decide : (1 : Int32) = iI 1))).symm
    refine lv_imul hx hb dX6_begin_70 ?_
    refine lv_topi (fun y130 hy130 => ?_)
    obtain rfl : (iI (v6.toInt * (v1.toInt + 1))) = y130 := (hy130.trans (iI_mul2 (iI_of _) rfl)).symm
    refine lv_icmp_ge (tgt := 91) hx hb dX6_begin_71 (by decide) (fun c_71 => ?_) (fun c_71 => ?_)
    · first | (have t_71 : l4_x58.toInt ≥ (v6.toInt * (v1.toInt + 1)) := toI_ge c_71 rfl (iI_t (by omega) (by omega))) | skip
      refine lv_iconst (v := 1) hx hb dX6_begin_91 (by decide) ?_
      refine lv_istore hx hb dX6_begin_92 hl (by decide) rfl (fun ls (hl : lv_has ls _ ([(4, .int 1), (0, .ref (hQ 0)), (1, .int p1), (2, .int p2), (3, .int p3)])) => ?_)
      have hl : lv_has _ _ ([(4, .int 1), (0, .ref (hQ 0)), (1, .int p1), (2, .int p2), (3, .int p3)]) := lv_sub hl [0, 1, 2, 3, 4] rfl
      refine (fun (loop : ∀ (n9 : Nat) (fQ_outside_x94 : Nat → Int32) (fQ_shut_x94 : Nat → Int32) (l4_x94 : Int32) (H : Heap) (locs : List Loc) (ls : Array Slot), (1 ≤ l4_x94.toInt ∧ l4_x94.toInt ≤ 41) → (41 - l4_x94.toInt < ((n9 : Nat) : Int)) → va_P (dC, dI) vwCl (WQ hQ aQ kQ hw fQ_inside fQ_outside_x94 fQ_shut_x94 v7 v6 v1 ++ (WW nW hw lw kw wl_x58 wb_x58 wG_x58)) H → va_D A (WQ hQ aQ kQ hw fQ_inside fQ_outside_x94 fQ_shut_x94 v7 v6 v1 ++ (WW nW hw lw kw wl_x58 wb_x58 wG_x58)) → va_S A s.heap H locs → lv_has ls 5 [(4, .int l4_x94), (0, .ref (hQ 0)), (1, .int p1), (2, .int p2), (3, .int p3)] → W p l e _ s m _ below meth c H locs 0 0 _ (F0 m 94 ls [])) => loop (41) fQ_outside fQ_shut 1 _ _ _ (show 1 ≤ (1 : Int32).toInt ∧ (1 : Int32).toInt ≤ 41 from by decide) ((by have e9 : (1 : Int32).toInt = 1 := (by decide : (1 : Int32).toInt = 1); omega)) hP hD hS hl) ?_
      intro n9
      induction n9 with
      | zero => intro fQ_outside_x94 fQ_shut_x94 l4_x94 H locs ls b_l4_x94 hf9; exact False.elim (by omega)
      | succ n9 ihx94 =>
        intro fQ_outside_x94 fQ_shut_x94 l4_x94 H locs ls b_l4_x94 hfx94 hP hD hS hl
        refine lv_iload hx hb dX6_begin_94 (lv_at hl 0 rfl) ?_
        refine lv_aload_n hx hb dX6_begin_96 rfl (lv_at hl 1 rfl) ?_
        refine va_get (D := (dC, dI)) (ci := 6) (v := .int v1) (C := RX6) (T := TX6) (N := 13) hx hb hts iwsMX6_begin_in6 hown hK hP 0 rfl rfl 7 (by decide) (hts (.fieldLink RX6 54 "OptimaWorks$Tableau" "columns" "I") (by decide +kernel)) (fun _ h9 => h9) rfl dX6_begin_97 ?_
        refine lv_icmp_gt (tgt := 128) hx hb dX6_begin_100 (by decide) (fun c_100 => ?_) (fun c_100 => ?_)
        · have t_100 : l4_x94.toInt > v1.toInt := toI_gt c_100 rfl rfl
          refine lv_iconst (v := 0) hx hb dX6_begin_128 (by decide) ?_
          refine lv_istore hx hb dX6_begin_129 hl (by decide) rfl (fun ls (hl : lv_has ls _ ([(4, .int 0), (0, .ref (hQ 0)), (1, .int p1), (2, .int p2), (3, .int p3)])) => ?_)
          have hl : lv_has _ _ ([(4, .int 0), (0, .ref (hQ 0)), (1, .int p1), (2, .int p2), (3, .int p3)]) := lv_sub hl [0, 1, 2, 3, 4] rfl
          refine (fun (loop : ∀ (n9 : Nat) (fQ_inside_x131 : Nat → Int32) (l4_x131 : Int32) (H : Heap) (locs : List Loc) (ls : Array Slot), (0 ≤ l4_x131.toInt ∧ l4_x131.toInt ≤ 40) → (40 - l4_x131.toInt < ((n9 : Nat) : Int)) → va_P (dC, dI) vwCl (WQ hQ aQ kQ hw fQ_inside_x131 fQ_outside_x94 fQ_shut_x94 v7 v6 v1 ++ (WW nW hw lw kw wl_x58 wb_x58 wG_x58)) H → va_D A (WQ hQ aQ kQ hw fQ_inside_x131 fQ_outside_x94 fQ_shut_x94 v7 v6 v1 ++ (WW nW hw lw kw wl_x58 wb_x58 wG_x58)) → va_S A s.heap H locs → lv_has ls 5 [(4, .int l4_x131), (0, .ref (hQ 0)), (1, .int p1), (2, .int p2), (3, .int p3)] → W p l e _ s m _ below meth c H locs 0 0 _ (F0 m 131 ls [])) => loop (41) fQ_inside 0 _ _ _ (show 0 ≤ (0 : Int32).toInt ∧ (0 : Int32).toInt ≤ 40 from by decide) ((by have e9 : (0 : Int32).toInt = 0 := (by decide : (0 : Int32).toInt = 0); omega)) hP hD hS hl) ?_
          intro n9
          induction n9 with
          | zero => intro fQ_inside_x131 l4_x131 H locs ls b_l4_x131 hf9; exact False.elim (by omega)
          | succ n9 ihx131 =>
            intro fQ_inside_x131 l4_x131 H locs ls b_l4_x131 hfx131 hP hD hS hl
            refine lv_iload hx hb dX6_begin_131 (lv_at hl 0 rfl) ?_
            refine lv_aload_n hx hb dX6_begin_133 rfl (lv_at hl 1 rfl) ?_
            refine va_get (D := (dC, dI)) (ci := 6) (v := .int v7) (C := RX6) (T := TX6) (N := 13) hx hb hts iwsMX6_begin_in6 hown hK hP 0 rfl rfl 5 (by decide) (hts (.fieldLink RX6 61 "OptimaWorks$Tableau" "rows" "I") (by decide +kernel)) (fun _ h9 => h9) rfl dX6_begin_134 ?_
            refine lv_icmp_ge (tgt := 160) hx hb dX6_begin_137 (by decide) (fun c_137 => ?_) (fun c_137 => ?_)
            · have t_137 : l4_x131.toInt ≥ v7.toInt := toI_ge c_137 rfl rfl
              refine W.widen (k := 0) (n := 0) (by decide +kernel) (by decide +kernel) ?_
              exact W.vret hx hb hr (fun t9_ ht hW => ⟨⟨(fQ_inside_x131, fQ_outside_x94, fQ_shut_x94, v7, v6, v1, wl_x58, wb_x58, wG_x58), rfl, ⟨(by (try dsimp only); exact (by first | exact b_v7 | assumption | exact ⟨by omega, by omega⟩)), (by (try dsimp only); exact (by first | exact b_v6 | assumption | exact ⟨by omega, by omega⟩)), (by (try dsimp only); exact (by first | exact b_v1 | assumption | exact ⟨by omega, by omega⟩)), b_wl_x58, b_wb_x58, (by (try dsimp only); exact (htb)), (by (try dsimp only); omega), (by (try dsimp only); omega), (by (try dsimp only); omega)⟩, by rw [ht]; exact hP, hD⟩, hS.F ht⟩) hS.2.2 dX6_begin_160
            · have t_137 : ¬ l4_x131.toInt ≥ v7.toInt := toI_nge c_137 rfl rfl
              refine lv_aload_n hx hb dX6_begin_140 rfl (lv_at hl 1 rfl) ?_
              refine va_get (D := (dC, dI)) (ci := 6) (v := .ref (aQ 1)) (C := RX6) (T := TX6) (N := 13) hx hb hts iwsMX6_begin_in6 hown hK hP 0 rfl rfl 1 (by decide) (hts (.fieldLink RX6 17 "OptimaWorks$Tableau" "inside" "[I") (by decide +kernel)) (fun _ h9 => h9) rfl dX6_begin_141 ?_
              refine lv_iload hx hb dX6_begin_144 (lv_at hl 0 rfl) ?_
              refine lv_aload_n hx hb dX6_begin_146 rfl (lv_at hl 1 rfl) ?_
              refine va_get (D := (dC, dI)) (ci := 6) (v := .int v1) (C := RX6) (T := TX6) (N := 13) hx hb hts iwsMX6_begin_in6 hown hK hP 0 rfl rfl 7 (by decide) (hts (.fieldLink RX6 54 "OptimaWorks$Tableau" "columns" "I") (by decide +kernel)) (fun _ h9 => h9) rfl dX6_begin_147 ?_
              refine lv_iload hx hb dX6_begin_150 (lv_at hl 0 rfl) ?_
              refine lv_iadd hx hb dX6_begin_152 ?_
              refine lv_topi (fun y182 hy182 => ?_)
              obtain rfl : (iI (v1.toInt + l4_x131.toInt)) = y182 := (hy182.trans (iI_add2 (iI_of _) (iI_of _))).symm
              refine va_iast (cA := kQ 1) (n := 40) (f := fQ_inside_x131) hx hb hK hP hD hS 2 1 rfl rfl (vp_in_iff.mpr ⟨b_l4_x131.1, (by omega)⟩) dX6_begin_153 (fun H locs hP hD hS => ?_)
              obtain ⟨u183, hu183⟩ : ∃ f9, f9 = upd fQ_inside_x131 (l4_x131).toNatClampNeg (iI (v1.toInt + l4_x131.toInt)) := ⟨_, rfl⟩
              have hP : va_P (dC, dI) vwCl (WQ hQ aQ kQ hw u183 fQ_outside_x94 fQ_shut_x94 v7 v6 v1 ++ (WW nW hw lw kw wl_x58 wb_x58 wG_x58)) H := by rw [hu183]; exact hP
              have hD : va_D A (WQ hQ aQ kQ hw u183 fQ_outside_x94 fQ_shut_x94 v7 v6 v1 ++ (WW nW hw lw kw wl_x58 wb_x58 wG_x58)) := by rw [hu183]; exact hD
              clear hu183
              refine lv_iinc (v := (iI (l4_x131.toInt + 1))) hx hb dX6_begin_154 hl (k := 0) rfl (iI_add2 (iI_of _) (by decide : (1 : Int32) = iI 1)) (by decide) rfl (fun ls (hl : lv_has ls _ ([(4, .int (iI (l4_x131.toInt + 1))), (0, .ref (hQ 0)), (1, .int p1), (2, .int p2), (3, .int p3)])) => ?_)
              refine lv_goto (tgt := 131) hx hb dX6_begin_157 (by decide) ?_
              have hl : lv_has _ _ ([(4, .int (iI (l4_x131.toInt + 1))), (0, .ref (hQ 0)), (1, .int p1), (2, .int p2), (3, .int p3)]) := lv_sub hl [0, 1, 2, 3, 4] rfl
              exact ihx131 u183 (iI (l4_x131.toInt + 1)) _ _ _ (iI_rng (Int.le_trans (by decide) (Int.add_le_add (b_l4_x131.1) (Int.le_refl _))) (by omega) (by decide) (by decide)) (by have e9 : ((iI (l4_x131.toInt + 1))).toInt = (l4_x131.toInt + 1) := (iI_t (Int.le_trans (by decide) (Int.add_le_add (b_l4_x131.1) (Int.le_refl _))) (Int.le_trans (Int.add_le_add (b_l4_x131.2) (Int.le_refl _)) (by decide))); omega) hP hD hS hl
        · have t_100 : ¬ l4_x94.toInt > v1.toInt := toI_ngt c_100 rfl rfl
          refine lv_aload_n hx hb dX6_begin_103 rfl (lv_at hl 1 rfl) ?_
          refine va_get (D := (dC, dI)) (ci := 6) (v := .ref (aQ 2)) (C := RX6) (T := TX6) (N := 13) hx hb hts iwsMX6_begin_in6 hown hK hP 0 rfl rfl 2 (by decide) (hts (.fieldLink RX6 21 "OptimaWorks$Tableau" "outside" "[I") (by decide +kernel)) (fun _ h9 => h9) rfl dX6_begin_104 ?_
          refine lv_iload hx hb dX6_begin_107 (lv_at hl 0 rfl) ?_
          refine lv_iload hx hb dX6_begin_109 (lv_at hl 0 rfl) ?_
          refine lv_iconst (v := 1) hx hb dX6_begin_111 (by decide) ?_
          refine lv_isub hx hb dX6_begin_112 ?_
          refine lv_topi (fun y184 hy184 => ?_)
          obtain rfl : (iI (l4_x94.toInt - 1)) = y184 := (hy184.trans (iI_sub2 (iI_of _) (by decide : (1 : Int32) = iI 1))).symm
          refine va_iast (cA := kQ 2) (n := 41) (f := fQ_outside_x94) hx hb hK hP hD hS 3 2 rfl rfl (vp_in_iff.mpr ⟨(Int.le_trans (by decide) (b_l4_x94.1)), (by omega)⟩) dX6_begin_113 (fun H locs hP hD hS => ?_)
          obtain ⟨u185, hu185⟩ : ∃ f9, f9 = upd fQ_outside_x94 (l4_x94).toNatClampNeg (iI (l4_x94.toInt - 1)) := ⟨_, rfl⟩
          have hP : va_P (dC, dI) vwCl (WQ hQ aQ kQ hw fQ_inside u185 fQ_shut_x94 v7 v6 v1 ++ (WW nW hw lw kw wl_x58 wb_x58 wG_x58)) H := by rw [hu185]; exact hP
          have hD : va_D A (WQ hQ aQ kQ hw fQ_inside u185 fQ_shut_x94 v7 v6 v1 ++ (WW nW hw lw kw wl_x58 wb_x58 wG_x58)) := by rw [hu185]; exact hD
          clear hu185
          refine lv_aload_n hx hb dX6_begin_114 rfl (lv_at hl 1 rfl) ?_
          refine va_get (D := (dC, dI)) (ci := 6) (v := .ref (aQ 3)) (C := RX6) (T := TX6) (N := 13) hx hb hts iwsMX6_begin_in6 hown hK hP 0 rfl rfl 3 (by decide) (hts (.fieldLink RX6 24 "OptimaWorks$Tableau" "shut" "[Z") (by decide +kernel)) (fun _ h9 => h9) rfl dX6_begin_115 ?_
          refine lv_iload hx hb dX6_begin_118 (lv_at hl 0 rfl) ?_
          refine lv_iconst (v := 0) hx hb dX6_begin_120 (by decide) ?_
          refine va_zast (cA := kQ 3) (n := 41) (f := fQ_shut_x94) hx hb hK hP hD hS 4 3 rfl rfl (vp_in_iff.mpr ⟨(Int.le_trans (by decide) (b_l4_x94.1)), (by omega)⟩) dX6_begin_121 (fun H locs hP hD hS => ?_)
          obtain ⟨u186, hu186⟩ : ∃ f9, f9 = upd fQ_shut_x94 (l4_x94).toNatClampNeg (vp_nar FieldType.boolean (0 : Int32)) := ⟨_, rfl⟩
          have hP : va_P (dC, dI) vwCl (WQ hQ aQ kQ hw fQ_inside u185 u186 v7 v6 v1 ++ (WW nW hw lw kw wl_x58 wb_x58 wG_x58)) H := by rw [hu186]; exact hP
          have hD : va_D A (WQ hQ aQ kQ hw fQ_inside u185 u186 v7 v6 v1 ++ (WW nW hw lw kw wl_x58 wb_x58 wG_x58)) := by rw [hu186]; exact hD
          clear hu186
          refine lv_iinc (v := (iI (l4_x94.toInt + 1))) hx hb dX6_begin_122 hl (k := 0) rfl (iI_add2 (iI_of _) (by decide : (1 : Int32) = iI 1)) (by decide) rfl (fun ls (hl : lv_has ls _ ([(4, .int (iI (l4_x94.toInt + 1))), (0, .ref (hQ 0)), (1, .int p1), (2, .int p2), (3, .int p3)])) => ?_)
          refine lv_goto (tgt := 94) hx hb dX6_begin_125 (by decide) ?_
          have hl : lv_has _ _ ([(4, .int (iI (l4_x94.toInt + 1))), (0, .ref (hQ 0)), (1, .int p1), (2, .int p2), (3, .int p3)]) := lv_sub hl [0, 1, 2, 3, 4] rfl
          exact ihx94 u185 u186 (iI (l4_x94.toInt + 1)) _ _ _ (iI_rng (Int.le_trans (by decide) (Int.add_le_add (b_l4_x94.1) (Int.le_refl _))) (by omega) (by decide) (by decide)) (by have e9 : ((iI (l4_x94.toInt + 1))).toInt = (l4_x94.toInt + 1) := (iI_t (Int.le_trans (by decide) (Int.add_le_add (b_l4_x94.1) (Int.le_refl _))) (Int.le_trans (Int.add_le_add (b_l4_x94.2) (Int.le_refl _)) (by decide))); omega) hP hD hS hl
    · first | (have t_71 : ¬ l4_x58.toInt ≥ (v6.toInt * (v1.toInt + 1)) := toI_nge c_71 rfl (iI_t (by omega) (by omega))) | skip
      refine lv_aload_n hx hb dX6_begin_74 rfl (lv_at hl 1 rfl) ?_
      refine va_get (D := (dC, dI)) (ci := 6) (v := .ref (aQ 0)) (C := RX6) (T := TX6) (N := 13) hx hb hts iwsMX6_begin_in6 hown hK hP 0 rfl rfl 0 (by decide) (hts (.fieldLink RX6 13 "OptimaWorks$Tableau" "cell" "[LOptimaWorks$Whole;") (by decide +kernel)) (fun _ h9 => h9) rfl dX6_begin_75 ?_
      refine lv_iload hx hb dX6_begin_78 (lv_at hl 0 rfl) ?_
      refine va_aldq (cA := kQ 0) (n := 400) (f := fun q => some (hw q)) hx hb hK hP 1 0 rfl rfl (vp_in_iff.mpr ⟨b_l4_x58.1, (by omega)⟩) dX6_begin_80 ?_
      obtain ⟨k187, hk187, b_k187⟩ : ∃ k9 : Nat, k9 = (l4_x58).toNatClampNeg ∧ (k9 < 400 ∧ (k9 : Int) = l4_x58.toInt) := ⟨_, rfl, ald_0 (x := (l4_x58)) rfl (by omega) (by omega)⟩
      refine W.eq (g2 := F0 m 81 ls [.ref (hw k187)]) (by rw [hk187]; rfl) ?_
      clear hk187
      refine lv_lconst (v := 0) hx hb dX6_begin_81 (by decide) ?_
      have p9 : List.Perm (WQ hQ aQ kQ hw fQ_inside fQ_outside fQ_shut v7 v6 v1 ++ (WW nW hw lw kw wl_x58 wb_x58 wG_x58)) ((WW nW hw lw kw wl_x58 wb_x58 wG_x58) ++ (WQ hQ aQ kQ hw fQ_inside fQ_outside fQ_shut v7 v6 v1)) := (List.perm_append_comm)
      have hPc := hP.mem (fun q h => p9.mem_iff.mpr (List.mem_append_left _ h))
      have hDc := (hD.perm p9).left
      have hKc : va_K (dC, dI) vwCl (tW kw) _ := hK.sub [4] rfl
      have hFc := freeG p9 hD hS hA
      refine va_callv (va_runV (As := [.long 0]) (rest := []) ⟨hx, hb, hml, hown, hts⟩ (m_X8_setLong l dC dI nW hw lw kw wl_x58 wb_x58 wG_x58 k187 0 b_wl_x58 b_wb_x58 (by first | assumption | omega | (rw [iI_t (by omega) (by omega)]; omega) | decide) H.size) (cwV 1 hts gwsMX6_begin_0 rfl rfl rfl hd_yX8_setLong_RX8 (by decide +kernel)) (fz_pre (va_recv hK hP (ci := 8) (q0 := 5 + (k187)) rfl (apR rfl (WW_o (by omega)))) hPc hKc hDc) rfl rfl hl.1 rfl (lv_room (Nat.le_of_ble_eq_true rfl)) dX6_begin_82 (by decide +kernel)) hS (fun q _ h => hFc q h) hFc (fun u t9_ H locs ht hvm hw9 hB9 hz1 hk1 hS => ?_)
      obtain ⟨wl_188, wb_188, wG_188⟩ := u
      try dsimp only at hw9 hB9
      obtain ⟨b_wl_188, b_wb_188⟩ := hw9
      have p8 : List.Perm (WQ hQ aQ kQ hw fQ_inside fQ_outside fQ_shut v7 v6 v1 ++ (WW nW hw lw kw wl_188 wb_188 wG_188)) ((WW nW hw lw kw wl_188 wb_188 wG_188) ++ (WQ hQ aQ kQ hw fQ_inside fQ_outside fQ_shut v7 v6 v1)) := (List.perm_append_comm)
      obtain ⟨hP, hD⟩ := frameG p9 p8 hP hD hk1 hFc (fz_P ht hB9.1) hB9.2
      have hP : va_P (dC, dI) vwCl (WQ hQ aQ kQ hw fQ_inside fQ_outside fQ_shut v7 v6 v1 ++ (WW nW hw lw kw wl_188 wb_188 wG_188)) H := hP
      have hD : va_D A (WQ hQ aQ kQ hw fQ_inside fQ_outside fQ_shut v7 v6 v1 ++ (WW nW hw lw kw wl_188 wb_188 wG_188)) := hD
      refine lv_iinc (v := (iI (l4_x58.toInt + 1))) hx hb dX6_begin_85 hl (k := 0) rfl (iI_add2 (iI_of _) (by decide : (1 : Int32) = iI 1)) (by decide) rfl (fun ls (hl : lv_has ls _ ([(4, .int (iI (l4_x58.toInt + 1))), (0, .ref (hQ 0)), (1, .int p1), (2, .int p2), (3, .int p3)])) => ?_)
      refine lv_goto (tgt := 58) hx hb dX6_begin_88 (by decide) ?_
      have hl : lv_has _ _ ([(4, .int (iI (l4_x58.toInt + 1))), (0, .ref (hQ 0)), (1, .int p1), (2, .int p2), (3, .int p3)]) := lv_sub hl [0, 1, 2, 3, 4] rfl
      exact ihx58 wl_188 wb_188 wG_188 (iI (l4_x58.toInt + 1)) _ _ _ b_wl_188 b_wb_188 (iI_rng (Int.le_trans (by decide) (Int.add_le_add (b_l4_x58.1) (Int.le_refl _))) (by omega) (by decide) (by decide)) (by have e9 : ((iI (l4_x58.toInt + 1))).toInt = (l4_x58.toInt + 1) := (iI_t (Int.le_trans (by decide) (Int.add_le_add (b_l4_x58.1) (Int.le_refl _))) (Int.le_trans (Int.add_le_add (b_l4_x58.2) (Int.le_refl _)) (by decide))); omega) hP hD hS hl

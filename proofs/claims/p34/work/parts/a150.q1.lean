theorem hd_yX6_cellAt_RX6 : yX6_cellAt.cls = RX6 ∧ yX6_cellAt.cls ≠ "java/lang/invoke/MethodHandle" ∧ yX6_cellAt.cls ≠ "java/lang/invoke/VarHandle" ∧ (parseMethodDescriptor yX6_cellAt.desc).map (fun d => d.parameters.length) = some 2 := by decide +kernel
theorem hd_yX8_sign_RX8 : yX8_sign.cls = RX8 ∧ yX8_sign.cls ≠ "java/lang/invoke/MethodHandle" ∧ yX8_sign.cls ≠ "java/lang/invoke/VarHandle" ∧ (parseMethodDescriptor yX8_sign.desc).map (fun d => d.parameters.length) = some 0 := by decide +kernel
def WQ (hQ : Nat → Nat) (aQ : Nat → Nat) (kQ : Nat → ClassId) (hw : Nat → Nat) (fQ_inside : Nat → Int32) (fQ_outside : Nat → Int32) (fQ_shut : Nat → Int32) (iQ_rows : Int32) (iQ_allRows : Int32) (iQ_columns : Int32) : va_W := [(hQ 0, .inr (6, [.ref (aQ 0), .ref (aQ 1), .ref (aQ 2), .ref (aQ 3), .ref (hw 400), .int iQ_rows, .int iQ_allRows, .int iQ_columns, .ref (hw 401), .ref (hw 402), .ref (hw 403), .ref (hw 404), .ref (hw 405)])), (aQ 0, .inl (kQ 0, 400, .inr (.inr (.inr (.inr (fun q => some (hw q))))))), (aQ 1, .inl (kQ 1, 40, .inl fQ_inside)), (aQ 2, .inl (kQ 2, 41, .inl fQ_outside)), (aQ 3, .inl (kQ 3, 41, .inl fQ_shut))]
def tQ (kQ : Nat → ClassId) : List (ClassId × FieldType) := [(kQ 0, .object "OptimaWorks$Whole"), (kQ 1, .int), (kQ 2, .int), (kQ 3, .boolean)]
theorem dX6_cellAt_0 : decode cX6_cellAt 0 = .ok (.aload_n 0, 1) := dk_42 (by decide +kernel)
theorem dX6_cellAt_1 : decode cX6_cellAt 1 = .ok (.getfield 13, 3) := dk_180 (by decide +kernel)
theorem dX6_cellAt_4 : decode cX6_cellAt 4 = .ok (.iload_n 1, 1) := dk_27 (by decide +kernel)
theorem dX6_cellAt_5 : decode cX6_cellAt 5 = .ok (.aload_n 0, 1) := dk_42 (by decide +kernel)
theorem dX6_cellAt_6 : decode cX6_cellAt 6 = .ok (.getfield 54, 3) := dk_180 (by decide +kernel)
theorem dX6_cellAt_9 : decode cX6_cellAt 9 = .ok (.iconst 1, 1) := dk_4 (by decide +kernel)
theorem dX6_cellAt_10 : decode cX6_cellAt 10 = .ok (.iadd, 1) := dk_96 (by decide +kernel)
theorem dX6_cellAt_11 : decode cX6_cellAt 11 = .ok (.imul, 1) := dk_104 (by decide +kernel)
theorem dX6_cellAt_12 : decode cX6_cellAt 12 = .ok (.iload_n 2, 1) := dk_28 (by decide +kernel)
theorem dX6_cellAt_13 : decode cX6_cellAt 13 = .ok (.iadd, 1) := dk_96 (by decide +kernel)
theorem dX6_cellAt_14 : decode cX6_cellAt 14 = .ok (.aaload, 1) := dk_50 (by decide +kernel)
theorem dX6_cellAt_15 : decode cX6_cellAt 15 = .ok (.areturn, 1) := dk_176 (by decide +kernel)
def wsMX6_cellAt : List Cond := .code yX6_cellAt cX6_cellAt 3 (some (.object "OptimaWorks$Whole")) :: ([.fieldLink RX6 13 "OptimaWorks$Tableau" "cell" "[LOptimaWorks$Whole;", .fieldLink RX6 54 "OptimaWorks$Tableau" "columns" "I"] ++ wsX60)
theorem iwsMX6_cellAt_in6 : ∀ w ∈ wsX60, w ∈ wsMX6_cellAt := fun _ h => List.mem_cons_of_mem _ (List.mem_append_right _ h)
theorem gdwsMX6_cellAt : wsMX6_cellAt.all goodWord = true := gdC rfl (gdA (by decide +kernel : ([.fieldLink RX6 13 "OptimaWorks$Tableau" "cell" "[LOptimaWorks$Whole;", .fieldLink RX6 54 "OptimaWorks$Tableau" "columns" "I"] : List Cond).all goodWord = true) gdwsX60)
set_option maxHeartbeats 4000000 in
set_option maxRecDepth 100000 in
/-- a cell -/
theorem m_X6_cellAt (l : Launch) (dC : Nat → ClassId) (dI : Nat → Nat → Nat) (hQ : Nat → Nat) (aQ : Nat → Nat) (kQ : Nat → ClassId) (hw : Nat → Nat) (fQ_inside : Nat → Int32) (fQ_outside : Nat → Int32) (fQ_shut : Nat → Int32) (iQ_rows : Int32) (iQ_allRows : Int32) (iQ_columns : Int32) (nW : Nat) (lw : Nat → Nat) (kw : ClassId) (wl : Nat → Int32) (wb : Nat → Int32) (wG : Nat → Nat → Int64) (p1 : Int32) (p2 : Int32) (b_iQ_rows : 0 ≤ iQ_rows.toInt ∧ iQ_rows.toInt ≤ 40) (b_iQ_allRows : 0 ≤ iQ_allRows.toInt ∧ iQ_allRows.toInt ≤ 40) (b_iQ_columns : 0 ≤ iQ_columns.toInt ∧ iQ_columns.toInt ≤ 40) (b_tb : TbO iQ_rows iQ_allRows iQ_columns) (b_wl : ∀ q : Nat, 0 ≤ (wl q).toInt ∧ (wl q).toInt ≤ 14) (b_wb : ∀ q : Nat, 0 ≤ (wb q).toInt ∧ (wb q).toInt ≤ 1) (b_p1 : 0 ≤ p1.toInt ∧ p1.toInt ≤ 39) (b_p2 : 0 ≤ p2.toInt ∧ p2.toInt ≤ 40) (hnW : 406 ≤ nW) (hix : 0 ≤ p1.toInt * (iQ_columns.toInt + 1) + p2.toInt ∧ p1.toInt * (iQ_columns.toInt + 1) + p2.toInt < 400) (sz : Nat) : Met l yX6_cellAt wsMX6_cellAt ({ frames := 0, cells := 0, slots := 0, locals := 0 }) (va_Pc [.ref (hQ 0), .int p1, .int p2] (fun U => U.heap.size = sz ∧ va_P (dC, dI) vwCl (WQ hQ aQ kQ hw fQ_inside fQ_outside fQ_shut iQ_rows iQ_allRows iQ_columns ++ (WW nW hw lw kw wl wb wG)) U.heap ∧ va_K (dC, dI) vwCl (tQ kQ ++ (tW kw)) U ∧ va_D (fun _ => True) (WQ hQ aQ kQ hw fQ_inside fQ_outside fQ_shut iQ_rows iQ_allRows iQ_columns ++ (WW nW hw lw kw wl wb wG)))) (va_Qr (fun (u : Nat) => (u < 400)) (fun (u : Nat) ra t => ra = hw u ∧ va_P (dC, dI) vwCl (WQ hQ aQ kQ hw fQ_inside fQ_outside fQ_shut iQ_rows iQ_allRows iQ_columns ++ (WW nW hw lw kw wl wb wG)) t.heap ∧ va_D (va_A (WQ hQ aQ kQ hw fQ_inside fQ_outside fQ_shut iQ_rows iQ_allRows iQ_columns ++ (WW nW hw lw kw wl wb wG)) sz) (WQ hQ aQ kQ hw fQ_inside fQ_outside fQ_shut iQ_rows iQ_allRows iQ_columns ++ (WW nW hw lw kw wl wb wG))) (va_A (WQ hQ aQ kQ hw fQ_inside fQ_outside fQ_shut iQ_rows iQ_allRows iQ_columns ++ (WW nW hw lw kw wl wb wG)) sz)) 0 0 (va_A (WQ hQ aQ kQ hw fQ_inside fQ_outside fQ_shut iQ_rows iQ_allRows iQ_columns ++ (WW nW hw lw kw wl wb wG)) sz) := by
  refine Met.ofW (cc := cX6_cellAt) (maxL := 3) (ret := (some (.object "OptimaWorks$Whole"))) (by decide) rfl ?_
  intro p e s m args below meth c s₁ B hml hv
  obtain ⟨rfl, hsz, hP, hK, hD0⟩ := hv
  have hx := B.exec
  have hb := B.bytes
  have hr := B.returns
  have hts := atoms_spec (ws := wsMX6_cellAt) B.pre
  have hown : s.vm.findClass RX6 = some m.cls := findClass_of_methodNamed B.named
  have hlocks := B.notSynchronized
  subst hsz
  have hD := hD0.self (sz := s.heap.size)
  generalize hAe : va_A (WQ hQ aQ kQ hw fQ_inside fQ_outside fQ_shut iQ_rows iQ_allRows iQ_columns ++ (WW nW hw lw kw wl wb wG)) s.heap.size = A at hD ⊢
  have hA : ∀ q : Nat, s.heap.size ≤ q → A q := fun q h => by rw [← hAe]; exact Or.inr h
  have hS : va_S A s.heap s.heap [] := va_S.rf
  have hl := lv_entry ([.ref (hQ 0), .int p1, .int p2]) (n := 3) (Nat.le_of_ble_eq_true rfl)
  rw [lg_entry_eq]
  generalize (lg_sl ([.ref (hQ 0), .int p1, .int p2]) ++ List.replicate (3 - (lg_sl ([.ref (hQ 0), .int p1, .int p2])).length) Slot.unset).toArray = ls at hl ⊢
  have hl : lv_has ls 3 [(0, .ref (hQ 0)), (1, .int p1), (2, .int p2)] := hl
  have hTb := b_tb.1
  refine lv_aload_n hx hb dX6_cellAt_0 rfl (lv_at hl 0 rfl) ?_
  refine va_get (D := (dC, dI)) (ci := 6) (v := .ref (aQ 0)) (C := RX6) (T := TX6) (N := 13) hx hb hts iwsMX6_cellAt_in6 hown hK hP 0 rfl rfl 0 (by decide) (hts (.fieldLink RX6 13 "OptimaWorks$Tableau" "cell" "[LOptimaWorks$Whole;") (by decide +kernel)) (fun _ h9 => h9) rfl dX6_cellAt_1 ?_
  refine lv_iload_n hx hb dX6_cellAt_4 rfl (lv_at hl 1 rfl) ?_
  refine lv_aload_n hx hb dX6_cellAt_5 rfl (lv_at hl 0 rfl) ?_
  refine va_get (D := (dC, dI)) (ci := 6) (v := .int iQ_columns) (C := RX6) (T := TX6) (N := 13) hx hb hts iwsMX6_cellAt_in6 hown hK hP 0 rfl rfl 7 (by decide) (hts (.fieldLink RX6 54 "OptimaWorks$Tableau" "columns" "I") (by decide +kernel)) (fun _ h9 => h9) rfl dX6_cellAt_6 ?_
  refine lv_iconst (v := 1) hx hb dX6_cellAt_9 (by decide) ?_
  refine lv_iadd hx hb dX6_cellAt_10 ?_
  refine lv_topi (fun y1 hy1 => ?_)
  obtain rfl : (iI (iQ_columns.toInt + 1)) = y1 := (hy1.trans (iI_add2 (iI_of _) (by decide : (1 : Int32) = iI 1))).symm
  refine lv_imul hx hb dX6_cellAt_11 ?_
  refine lv_topi (fun y2 hy2 => ?_)
  obtain rfl : (iI (p1.toInt * (iQ_columns.toInt + 1))) = y2 := (hy2.trans (iI_mul2 (iI_of _) rfl)).symm
  refine lv_iload_n hx hb dX6_cellAt_12 rfl (lv_at hl 2 rfl) ?_
  refine lv_iadd hx hb dX6_cellAt_13 ?_
  refine lv_topi (fun y3 hy3 => ?_)
  obtain rfl : (iI ((p1.toInt * (iQ_columns.toInt + 1)) + p2.toInt)) = y3 := (hy3.trans (iI_add2 rfl (iI_of _))).symm
  refine va_aldq (cA := kQ 0) (n := 400) (f := fun q => some (hw q)) hx hb hK hP 1 0 rfl rfl (vp_iI (by omega) (by omega) (by decide)) dX6_cellAt_14 ?_
  obtain ⟨k4, hk4, b_k4⟩ : ∃ k9 : Nat, k9 = ((iI ((p1.toInt * (iQ_columns.toInt + 1)) + p2.toInt))).toNatClampNeg ∧ (k9 < 400 ∧ (k9 : Int) = ((p1.toInt * (iQ_columns.toInt + 1)) + p2.toInt)) := ⟨_, rfl, ald_0 (x := ((iI ((p1.toInt * (iQ_columns.toInt + 1)) + p2.toInt)))) (iI_t (by omega) (by omega)) (by omega) (by omega)⟩
  refine W.eq (g2 := F0 m 15 ls [.ref (hw k4)]) (by rw [hk4]; rfl) ?_
  clear hk4
  refine W.widen (k := 0) (n := 0) (by decide +kernel) (by decide +kernel) ?_
  exact W.aret hx hb hr (Or.inl ⟨_, rfl⟩) (Or.inr ⟨_, rfl⟩) (fun t9_ ht hW => ⟨⟨k4, _, rfl, (by (try dsimp only); omega), rfl, by rw [ht]; exact hP, hD⟩, hS.F ht⟩) hS.2.2 dX6_cellAt_15
theorem dX6_rowCount_0 : decode cX6_rowCount 0 = .ok (.aload_n 0, 1) := dk_42 (by decide +kernel)
theorem dX6_rowCount_1 : decode cX6_rowCount 1 = .ok (.getfield 61, 3) := dk_180 (by decide +kernel)
theorem dX6_rowCount_4 : decode cX6_rowCount 4 = .ok (.ireturn, 1) := dk_172 (by decide +kernel)
def wsMX6_rowCount : List Cond := .code yX6_rowCount cX6_rowCount 1 (some .int) :: ([.fieldLink RX6 61 "OptimaWorks$Tableau" "rows" "I"] ++ wsX60)
theorem iwsMX6_rowCount_in6 : ∀ w ∈ wsX60, w ∈ wsMX6_rowCount := fun _ h => List.mem_cons_of_mem _ (List.mem_append_right _ h)
theorem gdwsMX6_rowCount : wsMX6_rowCount.all goodWord = true := gdC rfl (gdA (by decide +kernel : ([.fieldLink RX6 61 "OptimaWorks$Tableau" "rows" "I"] : List Cond).all goodWord = true) gdwsX60)
set_option maxHeartbeats 4000000 in
set_option maxRecDepth 100000 in
/-- rows -/
theorem m_X6_rowCount (l : Launch) (dC : Nat → ClassId) (dI : Nat → Nat → Nat) (hQ : Nat → Nat) (aQ : Nat → Nat) (kQ : Nat → ClassId) (hw : Nat → Nat) (fQ_inside : Nat → Int32) (fQ_outside : Nat → Int32) (fQ_shut : Nat → Int32) (iQ_rows : Int32) (iQ_allRows : Int32) (iQ_columns : Int32) (nW : Nat) (lw : Nat → Nat) (kw : ClassId) (wl : Nat → Int32) (wb : Nat → Int32) (wG : Nat → Nat → Int64) (b_iQ_rows : 0 ≤ iQ_rows.toInt ∧ iQ_rows.toInt ≤ 40) (b_iQ_allRows : 0 ≤ iQ_allRows.toInt ∧ iQ_allRows.toInt ≤ 40) (b_iQ_columns : 0 ≤ iQ_columns.toInt ∧ iQ_columns.toInt ≤ 40) (b_tb : TbO iQ_rows iQ_allRows iQ_columns) (b_wl : ∀ q : Nat, 0 ≤ (wl q).toInt ∧ (wl q).toInt ≤ 14) (b_wb : ∀ q : Nat, 0 ≤ (wb q).toInt ∧ (wb q).toInt ≤ 1) (hnW : 406 ≤ nW) (sz : Nat) : Met l yX6_rowCount wsMX6_rowCount ({ frames := 0, cells := 0, slots := 0, locals := 0 }) (va_Pc [.ref (hQ 0)] (fun U => U.heap.size = sz ∧ va_P (dC, dI) vwCl (WQ hQ aQ kQ hw fQ_inside fQ_outside fQ_shut iQ_rows iQ_allRows iQ_columns ++ (WW nW hw lw kw wl wb wG)) U.heap ∧ va_K (dC, dI) vwCl (tQ kQ ++ (tW kw)) U ∧ va_D (fun _ => True) (WQ hQ aQ kQ hw fQ_inside fQ_outside fQ_shut iQ_rows iQ_allRows iQ_columns ++ (WW nW hw lw kw wl wb wG)))) (va_Qi (fun (r : Int32) (u : Unit) => (0 ≤ r.toInt ∧ r.toInt ≤ 40) ∧ (0 + r.toInt = iQ_rows.toInt)) (fun (u : Unit) t => va_P (dC, dI) vwCl (WQ hQ aQ kQ hw fQ_inside fQ_outside fQ_shut iQ_rows iQ_allRows iQ_columns ++ (WW nW hw lw kw wl wb wG)) t.heap ∧ va_D (va_A (WQ hQ aQ kQ hw fQ_inside fQ_outside fQ_shut iQ_rows iQ_allRows iQ_columns ++ (WW nW hw lw kw wl wb wG)) sz) (WQ hQ aQ kQ hw fQ_inside fQ_outside fQ_shut iQ_rows iQ_allRows iQ_columns ++ (WW nW hw lw kw wl wb wG))) (va_A (WQ hQ aQ kQ hw fQ_inside fQ_outside fQ_shut iQ_rows iQ_allRows iQ_columns ++ (WW nW hw lw kw wl wb wG)) sz)) 0 0 (va_A (WQ hQ aQ kQ hw fQ_inside fQ_outside fQ_shut iQ_rows iQ_allRows iQ_columns ++ (WW nW hw lw kw wl wb wG)) sz) := by
  refine Met.ofW (cc := cX6_rowCount) (maxL := 1) (ret := (some .int)) (by decide) rfl ?_
  intro p e s m args below meth c s₁ B hml hv
  obtain ⟨rfl, hsz, hP, hK, hD0⟩ := hv
  have hx := B.exec
  have hb := B.bytes
  have hr := B.returns
  have hts := atoms_spec (ws := wsMX6_rowCount) B.pre
  have hown : s.vm.findClass RX6 = some m.cls := findClass_of_methodNamed B.named
  have hlocks := B.notSynchronized
  subst hsz
  have hD := hD0.self (sz := s.heap.size)
  generalize hAe : va_A (WQ hQ aQ kQ hw fQ_inside fQ_outside fQ_shut iQ_rows iQ_allRows iQ_columns ++ (WW nW hw lw kw wl wb wG)) s.heap.size = A at hD ⊢
  have hA : ∀ q : Nat, s.heap.size ≤ q → A q := fun q h => by rw [← hAe]; exact Or.inr h
  have hS : va_S A s.heap s.heap [] := va_S.rf
  have hl := lv_entry ([.ref (hQ 0)]) (n := 1) (Nat.le_of_ble_eq_true rfl)
  rw [lg_entry_eq]
  generalize (lg_sl ([.ref (hQ 0)]) ++ List.replicate (1 - (lg_sl ([.ref (hQ 0)])).length) Slot.unset).toArray = ls at hl ⊢
  have hl : lv_has ls 1 [(0, .ref (hQ 0))] := hl
  have hTb := b_tb.1
  refine lv_aload_n hx hb dX6_rowCount_0 rfl (lv_at hl 0 rfl) ?_
  refine va_get (D := (dC, dI)) (ci := 6) (v := .int iQ_rows) (C := RX6) (T := TX6) (N := 13) hx hb hts iwsMX6_rowCount_in6 hown hK hP 0 rfl rfl 5 (by decide) (hts (.fieldLink RX6 61 "OptimaWorks$Tableau" "rows" "I") (by decide +kernel)) (fun _ h9 => h9) rfl dX6_rowCount_1 ?_
  refine W.widen (k := 0) (n := 0) (by decide +kernel) (by decide +kernel) ?_
  exact W.iret (v := iQ_rows) hx hb hr (fun t9_ ht hW => ⟨⟨iQ_rows, (), rfl, ⟨(b_iQ_rows), (by (try dsimp only); omega)⟩, by rw [ht]; exact hP, hD⟩, hS.F ht⟩) hS.2.2 dX6_rowCount_4
theorem dX6_rowOf_0 : decode cX6_rowOf 0 = .ok (.iconst 0, 1) := dk_3 (by decide +kernel)
theorem dX6_rowOf_1 : decode cX6_rowOf 1 = .ok (.istore_n 2, 1) := dk_61 (by decide +kernel)
theorem dX6_rowOf_2 : decode cX6_rowOf 2 = .ok (.iload_n 2, 1) := dk_28 (by decide +kernel)
theorem dX6_rowOf_3 : decode cX6_rowOf 3 = .ok (.aload_n 0, 1) := dk_42 (by decide +kernel)
theorem dX6_rowOf_4 : decode cX6_rowOf 4 = .ok (.getfield 61, 3) := dk_180 (by decide +kernel)
theorem dX6_rowOf_7 : decode cX6_rowOf 7 = .ok (.if_icmp .ge 21, 3) := dk_162 (by decide +kernel)
theorem dX6_rowOf_10 : decode cX6_rowOf 10 = .ok (.aload_n 0, 1) := dk_42 (by decide +kernel)
theorem dX6_rowOf_11 : decode cX6_rowOf 11 = .ok (.getfield 17, 3) := dk_180 (by decide +kernel)
theorem dX6_rowOf_14 : decode cX6_rowOf 14 = .ok (.iload_n 2, 1) := dk_28 (by decide +kernel)
theorem dX6_rowOf_15 : decode cX6_rowOf 15 = .ok (.iaload, 1) := dk_46 (by decide +kernel)
theorem dX6_rowOf_16 : decode cX6_rowOf 16 = .ok (.iload_n 1, 1) := dk_27 (by decide +kernel)
theorem dX6_rowOf_17 : decode cX6_rowOf 17 = .ok (.if_icmp .ne 5, 3) := dk_160 (by decide +kernel)
theorem dX6_rowOf_20 : decode cX6_rowOf 20 = .ok (.iload_n 2, 1) := dk_28 (by decide +kernel)
theorem dX6_rowOf_21 : decode cX6_rowOf 21 = .ok (.ireturn, 1) := dk_172 (by decide +kernel)
theorem dX6_rowOf_22 : decode cX6_rowOf 22 = .ok (.iinc 2 1, 3) := dk_132 (by decide +kernel)
theorem dX6_rowOf_25 : decode cX6_rowOf 25 = .ok (.goto (-23), 3) := dk_167 (by decide +kernel)
theorem dX6_rowOf_28 : decode cX6_rowOf 28 = .ok (.iconst (-1), 1) := dk_2 (by decide +kernel)
theorem dX6_rowOf_29 : decode cX6_rowOf 29 = .ok (.ireturn, 1) := dk_172 (by decide +kernel)
def wsMX6_rowOf : List Cond := .code yX6_rowOf cX6_rowOf 3 (some .int) :: ([.fieldLink RX6 61 "OptimaWorks$Tableau" "rows" "I", .fieldLink RX6 17 "OptimaWorks$Tableau" "inside" "[I"] ++ wsX60)
theorem iwsMX6_rowOf_in6 : ∀ w ∈ wsX60, w ∈ wsMX6_rowOf := fun _ h => List.mem_cons_of_mem _ (List.mem_append_right _ h)
theorem gdwsMX6_rowOf : wsMX6_rowOf.all goodWord = true := gdC rfl (gdA (by decide +kernel : ([.fieldLink RX6 61 "OptimaWorks$Tableau" "rows" "I", .fieldLink RX6 17 "OptimaWorks$Tableau" "inside" "[I"] : List Cond).all goodWord = true) gdwsX60)
set_option maxHeartbeats 4000000 in
set_option maxRecDepth 100000 in
/-- the row of a variable -/
theorem m_X6_rowOf (l : Launch) (dC : Nat → ClassId) (dI : Nat → Nat → Nat) (hQ : Nat → Nat) (aQ : Nat → Nat) (kQ : Nat → ClassId) (hw : Nat → Nat) (fQ_inside : Nat → Int32) (fQ_outside : Nat → Int32) (fQ_shut : Nat → Int32) (iQ_rows : Int32) (iQ_allRows : Int32) (iQ_columns : Int32) (nW : Nat) (lw : Nat → Nat) (kw : ClassId) (wl : Nat → Int32) (wb : Nat → Int32) (wG : Nat → Nat → Int64) (p1 : Int32) (b_iQ_rows : 0 ≤ iQ_rows.toInt ∧ iQ_rows.toInt ≤ 40) (b_iQ_allRows : 0 ≤ iQ_allRows.toInt ∧ iQ_allRows.toInt ≤ 40) (b_iQ_columns : 0 ≤ iQ_columns.toInt ∧ iQ_columns.toInt ≤ 40) (b_tb : TbO iQ_rows iQ_allRows iQ_columns) (b_wl : ∀ q : Nat, 0 ≤ (wl q).toInt ∧ (wl q).toInt ≤ 14) (b_wb : ∀ q : Nat, 0 ≤ (wb q).toInt ∧ (wb q).toInt ≤ 1) (hnW : 406 ≤ nW) (sz : Nat) : Met l yX6_rowOf wsMX6_rowOf ({ frames := 0, cells := 0, slots := 0, locals := 0 }) (va_Pc [.ref (hQ 0), .int p1] (fun U => U.heap.size = sz ∧ va_P (dC, dI) vwCl (WQ hQ aQ kQ hw fQ_inside fQ_outside fQ_shut iQ_rows iQ_allRows iQ_columns ++ (WW nW hw lw kw wl wb wG)) U.heap ∧ va_K (dC, dI) vwCl (tQ kQ ++ (tW kw)) U ∧ va_D (fun _ => True) (WQ hQ aQ kQ hw fQ_inside fQ_outside fQ_shut iQ_rows iQ_allRows iQ_columns ++ (WW nW hw lw kw wl wb wG)))) (va_Qi (fun (r : Int32) (u : Unit) => ((-1) ≤ r.toInt ∧ r.toInt ≤ 39) ∧ (r.toInt < iQ_rows.toInt)) (fun (u : Unit) t => va_P (dC, dI) vwCl (WQ hQ aQ kQ hw fQ_inside fQ_outside fQ_shut iQ_rows iQ_allRows iQ_columns ++ (WW nW hw lw kw wl wb wG)) t.heap ∧ va_D (va_A (WQ hQ aQ kQ hw fQ_inside fQ_outside fQ_shut iQ_rows iQ_allRows iQ_columns ++ (WW nW hw lw kw wl wb wG)) sz) (WQ hQ aQ kQ hw fQ_inside fQ_outside fQ_shut iQ_rows iQ_allRows iQ_columns ++ (WW nW hw lw kw wl wb wG))) (va_A (WQ hQ aQ kQ hw fQ_inside fQ_outside fQ_shut iQ_rows iQ_allRows iQ_columns ++ (WW nW hw lw kw wl wb wG)) sz)) 0 0 (va_A (WQ hQ aQ kQ hw fQ_inside fQ_outside fQ_shut iQ_rows iQ_allRows iQ_columns ++ (WW nW hw lw kw wl wb wG)) sz) := by
  refine Met.ofW (cc := cX6_rowOf) (maxL := 3) (ret := (some .int)) (by decide) rfl ?_
  intro p e s m args below meth c s₁ B hml hv
  obtain ⟨rfl, hsz, hP, hK, hD0⟩ := hv
  have hx := B.exec
  have hb := B.bytes
  have hr := B.returns
  have hts := atoms_spec (ws := wsMX6_rowOf) B.pre
  have hown : s.vm.findClass RX6 = some m.cls := findClass_of_methodNamed B.named
  have hlocks := B.notSynchronized
  subst hsz
  have hD := hD0.self (sz := s.heap.size)
  generalize hAe : va_A (WQ hQ aQ kQ hw fQ_inside fQ_outside fQ_shut iQ_rows iQ_allRows iQ_columns ++ (WW nW hw lw kw wl wb wG)) s.heap.size = A at hD ⊢
  have hA : ∀ q : Nat, s.heap.size ≤ q → A q := fun q h => by rw [← hAe]; exact Or.inr h
  have hS : va_S A s.heap s.heap [] := va_S.rf
  have hl := lv_entry ([.ref (hQ 0), .int p1]) (n := 3) (Nat.le_of_ble_eq_true rfl)
  rw [lg_entry_eq]
  generalize (lg_sl ([.ref (hQ 0), .int p1]) ++ List.replicate (3 - (lg_sl ([.ref (hQ 0), .int p1])).length) Slot.unset).toArray = ls at hl ⊢
  have hl : lv_has ls 3 [(0, .ref (hQ 0)), (1, .int p1)] := hl
  have hTb := b_tb.1
  refine lv_iconst (v := 0) hx hb dX6_rowOf_0 (by decide) ?_
  refine lv_istore_n hx hb dX6_rowOf_1 rfl hl (by decide) rfl (fun ls (hl : lv_has ls _ ([(2, .int 0), (0, .ref (hQ 0)), (1, .int p1)])) => ?_)
  have hl : lv_has _ _ ([(2, .int 0), (0, .ref (hQ 0)), (1, .int p1)]) := lv_sub hl [0, 1, 2] rfl
  refine (fun (loop : ∀ (n9 : Nat) (l2_x2 : Int32) (H : Heap) (locs : List Loc) (ls : Array Slot), (0 ≤ l2_x2.toInt ∧ l2_x2.toInt ≤ 40) → (40 - l2_x2.toInt < ((n9 : Nat) : Int)) → va_P (dC, dI) vwCl (WQ hQ aQ kQ hw fQ_inside fQ_outside fQ_shut iQ_rows iQ_allRows iQ_columns ++ (WW nW hw lw kw wl wb wG)) H → va_D A (WQ hQ aQ kQ hw fQ_inside fQ_outside fQ_shut iQ_rows iQ_allRows iQ_columns ++ (WW nW hw lw kw wl wb wG)) → va_S A s.heap H locs → lv_has ls 3 [(2, .int l2_x2), (0, .ref (hQ 0)), (1, .int p1)] → W p l e _ s m _ below meth c H locs 0 0 _ (F0 m 2 ls [])) => loop (41) 0 _ _ _ (show 0 ≤ (0 : Int32).toInt ∧ (0 : Int32).toInt ≤ 40 from by decide) ((by have e9 : (0 : Int32).toInt = 0 := (by decide : (0 : Int32).toInt = 0); omega)) hP hD hS hl) ?_
  intro n9
  induction n9 with
  | zero => intro l2_x2 H locs ls b_l2_x2 hf9; exact False.elim (by omega)
  | succ n9 ihx2 =>
    intro l2_x2 H locs ls b_l2_x2 hfx2 hP hD hS hl
    refine lv_iload_n hx hb dX6_rowOf_2 rfl (lv_at hl 0 rfl) ?_
    refine lv_aload_n hx hb dX6_rowOf_3 rfl (lv_at hl 1 rfl) ?_
    refine va_get (D := (dC, dI)) (ci := 6) (v := .int iQ_rows) (C := RX6) (T := TX6) (N := 13) hx hb hts iwsMX6_rowOf_in6 hown hK hP 0 rfl rfl 5 (by decide) (hts (.fieldLink RX6 61 "OptimaWorks$Tableau" "rows" "I") (by decide +kernel)) (fun _ h9 => h9) rfl dX6_rowOf_4 ?_
    refine lv_icmp_ge (tgt := 28) hx hb dX6_rowOf_7 (by decide) (fun c_7 => ?_) (fun c_7 => ?_)
    · have t_7 : l2_x2.toInt ≥ iQ_rows.toInt := toI_ge c_7 rfl rfl
      refine lv_iconst (v := (-1)) hx hb dX6_rowOf_28 (by decide) ?_
      refine W.widen (k := 0) (n := 0) (by decide +kernel) (by decide +kernel) ?_
      exact W.iret (v := (-1)) hx hb hr (fun t9_ ht hW => ⟨⟨((-1) : Int32), (), rfl, ⟨(show (-1) ≤ ((-1) : Int32).toInt ∧ ((-1) : Int32).toInt ≤ 39 from by decide), (by (try dsimp only); first | assumption | omega | (have h9 : ((-1) : Int32).toInt = -1 := (by decide); omega))⟩, by rw [ht]; exact hP, hD⟩, hS.F ht⟩) hS.2.2 dX6_rowOf_29
    · have t_7 : ¬ l2_x2.toInt ≥ iQ_rows.toInt := toI_nge c_7 rfl rfl
      refine lv_aload_n hx hb dX6_rowOf_10 rfl (lv_at hl 1 rfl) ?_
      refine va_get (D := (dC, dI)) (ci := 6) (v := .ref (aQ 1)) (C := RX6) (T := TX6) (N := 13) hx hb hts iwsMX6_rowOf_in6 hown hK hP 0 rfl rfl 1 (by decide) (hts (.fieldLink RX6 17 "OptimaWorks$Tableau" "inside" "[I") (by decide +kernel)) (fun _ h9 => h9) rfl dX6_rowOf_11 ?_
      refine lv_iload_n hx hb dX6_rowOf_14 rfl (lv_at hl 0 rfl) ?_
      refine va_iald (cA := kQ 1) (n := 40) (f := fQ_inside) hx hb hK hP 2 1 rfl rfl (vp_in_iff.mpr ⟨b_l2_x2.1, (Int.lt_of_lt_of_le (Int.not_le.mp t_7) (Int.le_trans b_iQ_rows.2 (by decide)))⟩) dX6_rowOf_15 ?_
      refine lv_topi (fun v3 hv3 => ?_)
      clear hv3
      refine lv_iload_n hx hb dX6_rowOf_16 rfl (lv_at hl 2 rfl) ?_
      refine lv_icmp_ne (tgt := 22) hx hb dX6_rowOf_17 (by decide) (fun c_17 => ?_) (fun c_17 => ?_)
      · have t_17 : v3.toInt ≠ p1.toInt := toI_ne c_17 rfl rfl
        refine lv_iinc (v := (iI (l2_x2.toInt + 1))) hx hb dX6_rowOf_22 hl (k := 0) rfl (iI_add2 (iI_of _) (by decide : (1 : Int32) = iI 1)) (by decide) rfl (fun ls (hl : lv_has ls _ ([(2, .int (iI (l2_x2.toInt + 1))), (0, .ref (hQ 0)), (1, .int p1)])) => ?_)
        refine lv_goto (tgt := 2) hx hb dX6_rowOf_25 (by decide) ?_
        have hl : lv_has _ _ ([(2, .int (iI (l2_x2.toInt + 1))), (0, .ref (hQ 0)), (1, .int p1)]) := lv_sub hl [0, 1, 2] rfl
        exact ihx2 (iI (l2_x2.toInt + 1)) _ _ _ (iI_rng (Int.le_trans (by decide) (Int.add_le_add (b_l2_x2.1) (Int.le_refl _))) (by omega) (by decide) (by decide)) (by have e9 : ((iI (l2_x2.toInt + 1))).toInt = (l2_x2.toInt + 1) := (iI_t (Int.le_trans (by decide) (Int.add_le_add (b_l2_x2.1) (Int.le_refl _))) (Int.le_trans (Int.add_le_add (b_l2_x2.2) (Int.le_refl _)) (by decide))); omega) hP hD hS hl
      · have t_17 : v3.toInt = p1.toInt := toI_nne c_17 rfl rfl
        refine lv_iload_n hx hb dX6_rowOf_20 rfl (lv_at hl 0 rfl) ?_
        refine W.widen (k := 0) (n := 0) (by decide +kernel) (by decide +kernel) ?_
        exact W.iret (v := l2_x2) hx hb hr (fun t9_ ht hW => ⟨⟨l2_x2, (), rfl, ⟨(by first | exact b_l2_x2 | assumption | exact ⟨by omega, by omega⟩), (by (try dsimp only); first | assumption | omega | (have h9 : ((-1) : Int32).toInt = -1 := (by decide); omega))⟩, by rw [ht]; exact hP, hD⟩, hS.F ht⟩) hS.2.2 dX6_rowOf_21
theorem dX6_columnOf_0 : decode cX6_columnOf 0 = .ok (.iconst 1, 1) := dk_4 (by decide +kernel)
theorem dX6_columnOf_1 : decode cX6_columnOf 1 = .ok (.istore_n 2, 1) := dk_61 (by decide +kernel)
theorem dX6_columnOf_2 : decode cX6_columnOf 2 = .ok (.iload_n 2, 1) := dk_28 (by decide +kernel)
theorem dX6_columnOf_3 : decode cX6_columnOf 3 = .ok (.aload_n 0, 1) := dk_42 (by decide +kernel)
theorem dX6_columnOf_4 : decode cX6_columnOf 4 = .ok (.getfield 54, 3) := dk_180 (by decide +kernel)
theorem dX6_columnOf_7 : decode cX6_columnOf 7 = .ok (.if_icmp .gt 21, 3) := dk_163 (by decide +kernel)
theorem dX6_columnOf_10 : decode cX6_columnOf 10 = .ok (.aload_n 0, 1) := dk_42 (by decide +kernel)
theorem dX6_columnOf_11 : decode cX6_columnOf 11 = .ok (.getfield 21, 3) := dk_180 (by decide +kernel)
theorem dX6_columnOf_14 : decode cX6_columnOf 14 = .ok (.iload_n 2, 1) := dk_28 (by decide +kernel)
theorem dX6_columnOf_15 : decode cX6_columnOf 15 = .ok (.iaload, 1) := dk_46 (by decide +kernel)
theorem dX6_columnOf_16 : decode cX6_columnOf 16 = .ok (.iload_n 1, 1) := dk_27 (by decide +kernel)
theorem dX6_columnOf_17 : decode cX6_columnOf 17 = .ok (.if_icmp .ne 5, 3) := dk_160 (by decide +kernel)
theorem dX6_columnOf_20 : decode cX6_columnOf 20 = .ok (.iload_n 2, 1) := dk_28 (by decide +kernel)
theorem dX6_columnOf_21 : decode cX6_columnOf 21 = .ok (.ireturn, 1) := dk_172 (by decide +kernel)
theorem dX6_columnOf_22 : decode cX6_columnOf 22 = .ok (.iinc 2 1, 3) := dk_132 (by decide +kernel)
theorem dX6_columnOf_25 : decode cX6_columnOf 25 = .ok (.goto (-23), 3) := dk_167 (by decide +kernel)
theorem dX6_columnOf_28 : decode cX6_columnOf 28 = .ok (.iconst (-1), 1) := dk_2 (by decide +kernel)
theorem dX6_columnOf_29 : decode cX6_columnOf 29 = .ok (.ireturn, 1) := dk_172 (by decide +kernel)
def wsMX6_columnOf : List Cond := .code yX6_columnOf cX6_columnOf 3 (some .int) :: ([.fieldLink RX6 54 "OptimaWorks$Tableau" "columns" "I", .fieldLink RX6 21 "OptimaWorks$Tableau" "outside" "[I"] ++ wsX60)
theorem iwsMX6_columnOf_in6 : ∀ w ∈ wsX60, w ∈ wsMX6_columnOf := fun _ h => List.mem_cons_of_mem _ (List.mem_append_right _ h)
theorem gdwsMX6_columnOf : wsMX6_columnOf.all goodWord = true := gdC rfl (gdA (by decide +kernel : ([.fieldLink RX6 54 "OptimaWorks$Tableau" "columns" "I", .fieldLink RX6 21 "OptimaWorks$Tableau" "outside" "[I"] : List Cond).all goodWord = true) gdwsX60)
set_option maxHeartbeats 4000000 in
set_option maxRecDepth 100000 in
/-- the column of a variable -/
theorem m_X6_columnOf (l : Launch) (dC : Nat → ClassId) (dI : Nat → Nat → Nat) (hQ : Nat → Nat) (aQ : Nat → Nat) (kQ : Nat → ClassId) (hw : Nat → Nat) (fQ_inside : Nat → Int32) (fQ_outside : Nat → Int32) (fQ_shut : Nat → Int32) (iQ_rows : Int32) (iQ_allRows : Int32) (iQ_columns : Int32) (nW : Nat) (lw : Nat → Nat) (kw : ClassId) (wl : Nat → Int32) (wb : Nat → Int32) (wG : Nat → Nat → Int64) (p1 : Int32) (b_iQ_rows : 0 ≤ iQ_rows.toInt ∧ iQ_rows.toInt ≤ 40) (b_iQ_allRows : 0 ≤ iQ_allRows.toInt ∧ iQ_allRows.toInt ≤ 40) (b_iQ_columns : 0 ≤ iQ_columns.toInt ∧ iQ_columns.toInt ≤ 40) (b_tb : TbO iQ_rows iQ_allRows iQ_columns) (b_wl : ∀ q : Nat, 0 ≤ (wl q).toInt ∧ (wl q).toInt ≤ 14) (b_wb : ∀ q : Nat, 0 ≤ (wb q).toInt ∧ (wb q).toInt ≤ 1) (hnW : 406 ≤ nW) (sz : Nat) : Met l yX6_columnOf wsMX6_columnOf ({ frames := 0, cells := 0, slots := 0, locals := 0 }) (va_Pc [.ref (hQ 0), .int p1] (fun U => U.heap.size = sz ∧ va_P (dC, dI) vwCl (WQ hQ aQ kQ hw fQ_inside fQ_outside fQ_shut iQ_rows iQ_allRows iQ_columns ++ (WW nW hw lw kw wl wb wG)) U.heap ∧ va_K (dC, dI) vwCl (tQ kQ ++ (tW kw)) U ∧ va_D (fun _ => True) (WQ hQ aQ kQ hw fQ_inside fQ_outside fQ_shut iQ_rows iQ_allRows iQ_columns ++ (WW nW hw lw kw wl wb wG)))) (va_Qi (fun (r : Int32) (u : Unit) => ((-1) ≤ r.toInt ∧ r.toInt ≤ 40) ∧ (r.toInt ≤ iQ_columns.toInt)) (fun (u : Unit) t => va_P (dC, dI) vwCl (WQ hQ aQ kQ hw fQ_inside fQ_outside fQ_shut iQ_rows iQ_allRows iQ_columns ++ (WW nW hw lw kw wl wb wG)) t.heap ∧ va_D (va_A (WQ hQ aQ kQ hw fQ_inside fQ_outside fQ_shut iQ_rows iQ_allRows iQ_columns ++ (WW nW hw lw kw wl wb wG)) sz) (WQ hQ aQ kQ hw fQ_inside fQ_outside fQ_shut iQ_rows iQ_allRows iQ_columns ++ (WW nW hw lw kw wl wb wG))) (va_A (WQ hQ aQ kQ hw fQ_inside fQ_outside fQ_shut iQ_rows iQ_allRows iQ_columns ++ (WW nW hw lw kw wl wb wG)) sz)) 0 0 (va_A (WQ hQ aQ kQ hw fQ_inside fQ_outside fQ_shut iQ_rows iQ_allRows iQ_columns ++ (WW nW hw lw kw wl wb wG)) sz) := by
  refine Met.ofW (cc := cX6_columnOf) (maxL := 3) (ret := (some .int)) (by decide) rfl ?_
  intro p e s m args below meth c s₁ B hml hv
  obtain ⟨rfl, hsz, hP, hK, hD0⟩ := hv
  have hx := B.exec
  have hb := B.bytes
  have hr := B.returns
  have hts := atoms_spec (ws := wsMX6_columnOf) B.pre
  have hown : s.vm.findClass RX6 = some m.cls := findClass_of_methodNamed B.named
  have hlocks := B.notSynchronized
  subst hsz
  have hD := hD0.self (sz := s.heap.size)
  generalize hAe : va_A (WQ hQ aQ kQ hw fQ_inside fQ_outside fQ_shut iQ_rows iQ_allRows iQ_columns ++ (WW nW hw lw kw wl wb wG)) s.heap.size = A at hD ⊢
  have hA : ∀ q : Nat, s.heap.size ≤ q → A q := fun q h => by rw [← hAe]; exact Or.inr h
  have hS : va_S A s.heap s.heap [] := va_S.rf
  have hl := lv_entry ([.ref (hQ 0), .int p1]) (n := 3) (Nat.le_of_ble_eq_true rfl)
  rw [lg_entry_eq]
  generalize (lg_sl ([.ref (hQ 0), .int p1]) ++ List.replicate (3 - (lg_sl ([.ref (hQ 0), .int p1])).length) Slot.unset).toArray = ls at hl ⊢
  have hl : lv_has ls 3 [(0, .ref (hQ 0)), (1, .int p1)] := hl
  have hTb := b_tb.1
  refine lv_iconst (v := 1) hx hb dX6_columnOf_0 (by decide) ?_
  refine lv_istore_n hx hb dX6_columnOf_1 rfl hl (by decide) rfl (fun ls (hl : lv_has ls _ ([(2, .int 1), (0, .ref (hQ 0)), (1, .int p1)])) => ?_)
  have hl : lv_has _ _ ([(2, .int 1), (0, .ref (hQ 0)), (1, .int p1)]) := lv_sub hl [0, 1, 2] rfl
  refine (fun (loop : ∀ (n9 : Nat) (l2_x2 : Int32) (H : Heap) (locs : List Loc) (ls : Array Slot), (1 ≤ l2_x2.toInt ∧ l2_x2.toInt ≤ 41) → (41 - l2_x2.toInt < ((n9 : Nat) : Int)) → va_P (dC, dI) vwCl (WQ hQ aQ kQ hw fQ_inside fQ_outside fQ_shut iQ_rows iQ_allRows iQ_columns ++ (WW nW hw lw kw wl wb wG)) H → va_D A (WQ hQ aQ kQ hw fQ_inside fQ_outside fQ_shut iQ_rows iQ_allRows iQ_columns ++ (WW nW hw lw kw wl wb wG)) → va_S A s.heap H locs → lv_has ls 3 [(2, .int l2_x2), (0, .ref (hQ 0)), (1, .int p1)] → W p l e _ s m _ below meth c H locs 0 0 _ (F0 m 2 ls [])) => loop (41) 1 _ _ _ (show 1 ≤ (1 : Int32).toInt ∧ (1 : Int32).toInt ≤ 41 from by decide) ((by have e9 : (1 : Int32).toInt = 1 := (by decide : (1 : Int32).toInt = 1); omega)) hP hD hS hl) ?_
  intro n9
  induction n9 with
  | zero => intro l2_x2 H locs ls b_l2_x2 hf9; exact False.elim (by omega)
  | succ n9 ihx2 =>
    intro l2_x2 H locs ls b_l2_x2 hfx2 hP hD hS hl
    refine lv_iload_n hx hb dX6_columnOf_2 rfl (lv_at hl 0 rfl) ?_
    refine lv_aload_n hx hb dX6_columnOf_3 rfl (lv_at hl 1 rfl) ?_
    refine va_get (D := (dC, dI)) (ci := 6) (v := .int iQ_columns) (C := RX6) (T := TX6) (N := 13) hx hb hts iwsMX6_columnOf_in6 hown hK hP 0 rfl rfl 7 (by decide) (hts (.fieldLink RX6 54 "OptimaWorks$Tableau" "columns" "I") (by decide +kernel)) (fun _ h9 => h9) rfl dX6_columnOf_4 ?_
    refine lv_icmp_gt (tgt := 28) hx hb dX6_columnOf_7 (by decide) (fun c_7 => ?_) (fun c_7 => ?_)
    · have t_7 : l2_x2.toInt > iQ_columns.toInt := toI_gt c_7 rfl rfl
      refine lv_iconst (v := (-1)) hx hb dX6_columnOf_28 (by decide) ?_
      refine W.widen (k := 0) (n := 0) (by decide +kernel) (by decide +kernel) ?_
      exact W.iret (v := (-1)) hx hb hr (fun t9_ ht hW => ⟨⟨((-1) : Int32), (), rfl, ⟨(show (-1) ≤ ((-1) : Int32).toInt ∧ ((-1) : Int32).toInt ≤ 40 from by decide), (by (try dsimp only); first | assumption | omega | (have h9 : ((-1) : Int32).toInt = -1 := (by decide); omega))⟩, by rw [ht]; exact hP, hD⟩, hS.F ht⟩) hS.2.2 dX6_columnOf_29
    · have t_7 : ¬ l2_x2.toInt > iQ_columns.toInt := toI_ngt c_7 rfl rfl
      refine lv_aload_n hx hb dX6_columnOf_10 rfl (lv_at hl 1 rfl) ?_
      refine va_get (D := (dC, dI)) (ci := 6) (v := .ref (aQ 2)) (C := RX6) (T := TX6) (N := 13) hx hb hts iwsMX6_columnOf_in6 hown hK hP 0 rfl rfl 2 (by decide) (hts (.fieldLink RX6 21 "OptimaWorks$Tableau" "outside" "[I") (by decide +kernel)) (fun _ h9 => h9) rfl dX6_columnOf_11 ?_
      refine lv_iload_n hx hb dX6_columnOf_14 rfl (lv_at hl 0 rfl) ?_
      refine va_iald (cA := kQ 2) (n := 41) (f := fQ_outside) hx hb hK hP 3 2 rfl rfl (vp_in_iff.mpr ⟨(Int.le_trans (by decide) (b_l2_x2.1)), (by omega)⟩) dX6_columnOf_15 ?_
      refine lv_topi (fun v3 hv3 => ?_)
      clear hv3
      refine lv_iload_n hx hb dX6_columnOf_16 rfl (lv_at hl 2 rfl) ?_
      refine lv_icmp_ne (tgt := 22) hx hb dX6_columnOf_17 (by decide) (fun c_17 => ?_) (fun c_17 => ?_)
      · have t_17 : v3.toInt ≠ p1.toInt := toI_ne c_17 rfl rfl
        refine lv_iinc (v := (iI (l2_x2.toInt + 1))) hx hb dX6_columnOf_22 hl (k := 0) rfl (iI_add2 (iI_of _) (by decide : (1 : Int32) = iI 1)) (by decide) rfl (fun ls (hl : lv_has ls _ ([(2, .int (iI (l2_x2.toInt + 1))), (0, .ref (hQ 0)), (1, .int p1)])) => ?_)
        refine lv_goto (tgt := 2) hx hb dX6_columnOf_25 (by decide) ?_
        have hl : lv_has _ _ ([(2, .int (iI (l2_x2.toInt + 1))), (0, .ref (hQ 0)), (1, .int p1)]) := lv_sub hl [0, 1, 2] rfl
        exact ihx2 (iI (l2_x2.toInt + 1)) _ _ _ (iI_rng (Int.le_trans (by decide) (Int.add_le_add (b_l2_x2.1) (Int.le_refl _))) (by omega) (by decide) (by decide)) (by have e9 : ((iI (l2_x2.toInt + 1))).toInt = (l2_x2.toInt + 1) := (iI_t (Int.le_trans (by decide) (Int.add_le_add (b_l2_x2.1) (Int.le_refl _))) (Int.le_trans (Int.add_le_add (b_l2_x2.2) (Int.le_refl _)) (by decide))); omega) hP hD hS hl
      · have t_17 : v3.toInt = p1.toInt := toI_nne c_17 rfl rfl
        refine lv_iload_n hx hb dX6_columnOf_20 rfl (lv_at hl 0 rfl) ?_
        refine W.widen (k := 0) (n := 0) (by decide +kernel) (by decide +kernel) ?_
        exact W.iret (v := l2_x2) hx hb hr (fun t9_ ht hW => ⟨⟨l2_x2, (), rfl, ⟨(by first | exact b_l2_x2 | assumption | exact ⟨by omega, by omega⟩), (by (try dsimp only); first | assumption | omega | (have h9 : ((-1) : Int32).toInt = -1 := (by decide); omega))⟩, by rw [ht]; exact hP, hD⟩, hS.F ht⟩) hS.2.2 dX6_columnOf_21
theorem dX6_columnWith_0 : decode cX6_columnWith 0 = .ok (.iconst 1, 1) := dk_4 (by decide +kernel)
theorem dX6_columnWith_1 : decode cX6_columnWith 1 = .ok (.istore_n 2, 1) := dk_61 (by decide +kernel)
theorem dX6_columnWith_2 : decode cX6_columnWith 2 = .ok (.iload_n 2, 1) := dk_28 (by decide +kernel)
theorem dX6_columnWith_3 : decode cX6_columnWith 3 = .ok (.aload_n 0, 1) := dk_42 (by decide +kernel)
theorem dX6_columnWith_4 : decode cX6_columnWith 4 = .ok (.getfield 54, 3) := dk_180 (by decide +kernel)
theorem dX6_columnWith_7 : decode cX6_columnWith 7 = .ok (.if_icmp .gt 32, 3) := dk_163 (by decide +kernel)
theorem dX6_columnWith_10 : decode cX6_columnWith 10 = .ok (.aload_n 0, 1) := dk_42 (by decide +kernel)
theorem dX6_columnWith_11 : decode cX6_columnWith 11 = .ok (.getfield 24, 3) := dk_180 (by decide +kernel)
theorem dX6_columnWith_14 : decode cX6_columnWith 14 = .ok (.iload_n 2, 1) := dk_28 (by decide +kernel)
theorem dX6_columnWith_15 : decode cX6_columnWith 15 = .ok (.baload, 1) := dk_51 (by decide +kernel)
theorem dX6_columnWith_16 : decode cX6_columnWith 16 = .ok (.ifCond .ne 17, 3) := dk_154 (by decide +kernel)
theorem dX6_columnWith_19 : decode cX6_columnWith 19 = .ok (.aload_n 0, 1) := dk_42 (by decide +kernel)
theorem dX6_columnWith_20 : decode cX6_columnWith 20 = .ok (.iload_n 1, 1) := dk_27 (by decide +kernel)
theorem dX6_columnWith_21 : decode cX6_columnWith 21 = .ok (.iload_n 2, 1) := dk_28 (by decide +kernel)
theorem dX6_columnWith_22 : decode cX6_columnWith 22 = .ok (.invokevirtual 72, 3) := dk_182 (by decide +kernel)
theorem dX6_columnWith_25 : decode cX6_columnWith 25 = .ok (.getfield 76, 3) := dk_180 (by decide +kernel)
theorem dX6_columnWith_28 : decode cX6_columnWith 28 = .ok (.ifCond .eq 5, 3) := dk_153 (by decide +kernel)
theorem dX6_columnWith_31 : decode cX6_columnWith 31 = .ok (.iload_n 2, 1) := dk_28 (by decide +kernel)
theorem dX6_columnWith_32 : decode cX6_columnWith 32 = .ok (.ireturn, 1) := dk_172 (by decide +kernel)
theorem dX6_columnWith_33 : decode cX6_columnWith 33 = .ok (.iinc 2 1, 3) := dk_132 (by decide +kernel)
theorem dX6_columnWith_36 : decode cX6_columnWith 36 = .ok (.goto (-34), 3) := dk_167 (by decide +kernel)
theorem dX6_columnWith_39 : decode cX6_columnWith 39 = .ok (.iconst (-1), 1) := dk_2 (by decide +kernel)
theorem dX6_columnWith_40 : decode cX6_columnWith 40 = .ok (.ireturn, 1) := dk_172 (by decide +kernel)
def wsMX6_columnWith : List Cond := .code yX6_columnWith cX6_columnWith 3 (some .int) :: ([.fieldLink RX6 54 "OptimaWorks$Tableau" "columns" "I", .fieldLink RX6 24 "OptimaWorks$Tableau" "shut" "[Z", .fieldLink RX6 76 "OptimaWorks$Whole" "length" "I"] ++ wsX60 ++ wsX80 ++ (wsV RX6 72 RX6 yX6_cellAt wsMX6_cellAt))
theorem iwsMX6_columnWith_in6 : ∀ w ∈ wsX60, w ∈ wsMX6_columnWith := fun _ h => List.mem_cons_of_mem _ (List.mem_append_left _ (List.mem_append_left _ (List.mem_append_right _ h)))
theorem iwsMX6_columnWith_in8 : ∀ w ∈ wsX80, w ∈ wsMX6_columnWith := fun _ h => List.mem_cons_of_mem _ (List.mem_append_left _ (List.mem_append_right _ h))
theorem gwsMX6_columnWith_0 : GoodIn wsMX6_columnWith (wsV RX6 72 RX6 yX6_cellAt wsMX6_cellAt) := goodIn_sub (fun _ h => List.mem_cons_of_mem _ (List.mem_append_right _ h)) (gdV (by decide +kernel) gdwsMX6_cellAt)
theorem gdwsMX6_columnWith : wsMX6_columnWith.all goodWord = true := gdC rfl (gdA (gdA (gdA (by decide +kernel : ([.fieldLink RX6 54 "OptimaWorks$Tableau" "columns" "I", .fieldLink RX6 24 "OptimaWorks$Tableau" "shut" "[Z", .fieldLink RX6 76 "OptimaWorks$Whole" "length" "I"] : List Cond).all goodWord = true) gdwsX60) gdwsX80) (gdV (by decide +kernel) gdwsMX6_cellAt))
set_option maxHeartbeats 4000000 in
set_option maxRecDepth 100000 in
/-- a column with a number -/
theorem m_X6_columnWith (l : Launch) (dC : Nat → ClassId) (dI : Nat → Nat → Nat) (hQ : Nat → Nat) (aQ : Nat → Nat) (kQ : Nat → ClassId) (hw : Nat → Nat) (fQ_inside : Nat → Int32) (fQ_outside : Nat → Int32) (fQ_shut : Nat → Int32) (iQ_rows : Int32) (iQ_allRows : Int32) (iQ_columns : Int32) (nW : Nat) (lw : Nat → Nat) (kw : ClassId) (wl : Nat → Int32) (wb : Nat → Int32) (wG : Nat → Nat → Int64) (p1 : Int32) (b_iQ_rows : 0 ≤ iQ_rows.toInt ∧ iQ_rows.toInt ≤ 40) (b_iQ_allRows : 0 ≤ iQ_allRows.toInt ∧ iQ_allRows.toInt ≤ 40) (b_iQ_columns : 0 ≤ iQ_columns.toInt ∧ iQ_columns.toInt ≤ 40) (b_tb : TbO iQ_rows iQ_allRows iQ_columns) (b_wl : ∀ q : Nat, 0 ≤ (wl q).toInt ∧ (wl q).toInt ≤ 14) (b_wb : ∀ q : Nat, 0 ≤ (wb q).toInt ∧ (wb q).toInt ≤ 1) (b_p1 : 0 ≤ p1.toInt ∧ p1.toInt ≤ 39) (hnW : 406 ≤ nW) (hrow : FitR p1.toInt iQ_columns.toInt) (sz : Nat) : Met l yX6_columnWith wsMX6_columnWith ({ frames := 1, cells := 0, slots := 0, locals := 22 }) (va_Pc [.ref (hQ 0), .int p1] (fun U => U.heap.size = sz ∧ va_P (dC, dI) vwCl (WQ hQ aQ kQ hw fQ_inside fQ_outside fQ_shut iQ_rows iQ_allRows iQ_columns ++ (WW nW hw lw kw wl wb wG)) U.heap ∧ va_K (dC, dI) vwCl (tQ kQ ++ (tW kw)) U ∧ va_D (fun _ => True) (WQ hQ aQ kQ hw fQ_inside fQ_outside fQ_shut iQ_rows iQ_allRows iQ_columns ++ (WW nW hw lw kw wl wb wG)))) (va_Qi (fun (r : Int32) (u : Unit) => ((-1) ≤ r.toInt ∧ r.toInt ≤ 40) ∧ (r.toInt ≤ iQ_columns.toInt)) (fun (u : Unit) t => va_P (dC, dI) vwCl (WQ hQ aQ kQ hw fQ_inside fQ_outside fQ_shut iQ_rows iQ_allRows iQ_columns ++ (WW nW hw lw kw wl wb wG)) t.heap ∧ va_D (va_A (WQ hQ aQ kQ hw fQ_inside fQ_outside fQ_shut iQ_rows iQ_allRows iQ_columns ++ (WW nW hw lw kw wl wb wG)) sz) (WQ hQ aQ kQ hw fQ_inside fQ_outside fQ_shut iQ_rows iQ_allRows iQ_columns ++ (WW nW hw lw kw wl wb wG))) (va_A (WQ hQ aQ kQ hw fQ_inside fQ_outside fQ_shut iQ_rows iQ_allRows iQ_columns ++ (WW nW hw lw kw wl wb wG)) sz)) 0 0 (va_A (WQ hQ aQ kQ hw fQ_inside fQ_outside fQ_shut iQ_rows iQ_allRows iQ_columns ++ (WW nW hw lw kw wl wb wG)) sz) := by
  refine Met.ofW (cc := cX6_columnWith) (maxL := 3) (ret := (some .int)) (by decide) rfl ?_
  intro p e s m args below meth c s₁ B hml hv
  obtain ⟨rfl, hsz, hP, hK, hD0⟩ := hv
  have hx := B.exec
  have hb := B.bytes
  have hr := B.returns
  have hts := atoms_spec (ws := wsMX6_columnWith) B.pre
  have hown : s.vm.findClass RX6 = some m.cls := findClass_of_methodNamed B.named
  have hlocks := B.notSynchronized
  subst hsz
  have hD := hD0.self (sz := s.heap.size)
  generalize hAe : va_A (WQ hQ aQ kQ hw fQ_inside fQ_outside fQ_shut iQ_rows iQ_allRows iQ_columns ++ (WW nW hw lw kw wl wb wG)) s.heap.size = A at hD ⊢
  have hA : ∀ q : Nat, s.heap.size ≤ q → A q := fun q h => by rw [← hAe]; exact Or.inr h
  have hS : va_S A s.heap s.heap [] := va_S.rf
  have hl := lv_entry ([.ref (hQ 0), .int p1]) (n := 3) (Nat.le_of_ble_eq_true rfl)
  rw [lg_entry_eq]
  generalize (lg_sl ([.ref (hQ 0), .int p1]) ++ List.replicate (3 - (lg_sl ([.ref (hQ 0), .int p1])).length) Slot.unset).toArray = ls at hl ⊢
  have hl : lv_has ls 3 [(0, .ref (hQ 0)), (1, .int p1)] := hl
  have hTb := b_tb.1
  refine lv_iconst (v := 1) hx hb dX6_columnWith_0 (by decide) ?_
  refine lv_istore_n hx hb dX6_columnWith_1 rfl hl (by decide) rfl (fun ls (hl : lv_has ls _ ([(2, .int 1), (0, .ref (hQ 0)), (1, .int p1)])) => ?_)
  have hl : lv_has _ _ ([(2, .int 1), (0, .ref (hQ 0)), (1, .int p1)]) := lv_sub hl [0, 1, 2] rfl
  refine (fun (loop : ∀ (n9 : Nat) (l2_x2 : Int32) (H : Heap) (locs : List Loc) (ls : Array Slot), (1 ≤ l2_x2.toInt ∧ l2_x2.toInt ≤ 41) → (41 - l2_x2.toInt < ((n9 : Nat) : Int)) → va_P (dC, dI) vwCl (WQ hQ aQ kQ hw fQ_inside fQ_outside fQ_shut iQ_rows iQ_allRows iQ_columns ++ (WW nW hw lw kw wl wb wG)) H → va_D A (WQ hQ aQ kQ hw fQ_inside fQ_outside fQ_shut iQ_rows iQ_allRows iQ_columns ++ (WW nW hw lw kw wl wb wG)) → va_S A s.heap H locs → lv_has ls 3 [(2, .int l2_x2), (0, .ref (hQ 0)), (1, .int p1)] → W p l e _ s m _ below meth c H locs 0 0 _ (F0 m 2 ls [])) => loop (41) 1 _ _ _ (show 1 ≤ (1 : Int32).toInt ∧ (1 : Int32).toInt ≤ 41 from by decide) ((by have e9 : (1 : Int32).toInt = 1 := (by decide : (1 : Int32).toInt = 1); omega)) hP hD hS hl) ?_
  intro n9
  induction n9 with
  | zero => intro l2_x2 H locs ls b_l2_x2 hf9; exact False.elim (by omega)
  | succ n9 ihx2 =>
    intro l2_x2 H locs ls b_l2_x2 hfx2 hP hD hS hl
    refine lv_iload_n hx hb dX6_columnWith_2 rfl (lv_at hl 0 rfl) ?_
    refine lv_aload_n hx hb dX6_columnWith_3 rfl (lv_at hl 1 rfl) ?_
    refine va_get (D := (dC, dI)) (ci := 6) (v := .int iQ_columns) (C := RX6) (T := TX6) (N := 13) hx hb hts iwsMX6_columnWith_in6 hown hK hP 0 rfl rfl 7 (by decide) (hts (.fieldLink RX6 54 "OptimaWorks$Tableau" "columns" "I") (by decide +kernel)) (fun _ h9 => h9) rfl dX6_columnWith_4 ?_
    refine lv_icmp_gt (tgt := 39) hx hb dX6_columnWith_7 (by decide) (fun c_7 => ?_) (fun c_7 => ?_)
    · have t_7 : l2_x2.toInt > iQ_columns.toInt := toI_gt c_7 rfl rfl
      refine lv_iconst (v := (-1)) hx hb dX6_columnWith_39 (by decide) ?_
      refine W.widen (k := 0) (n := 0) (by decide +kernel) (by decide +kernel) ?_
      exact W.iret (v := (-1)) hx hb hr (fun t9_ ht hW => ⟨⟨((-1) : Int32), (), rfl, ⟨(show (-1) ≤ ((-1) : Int32).toInt ∧ ((-1) : Int32).toInt ≤ 40 from by decide), (by (try dsimp only); first | assumption | omega | (have h9 : ((-1) : Int32).toInt = -1 := (by decide); omega))⟩, by rw [ht]; exact hP, hD⟩, hS.F ht⟩) hS.2.2 dX6_columnWith_40
    · have t_7 : ¬ l2_x2.toInt > iQ_columns.toInt := toI_ngt c_7 rfl rfl
      refine lv_aload_n hx hb dX6_columnWith_10 rfl (lv_at hl 1 rfl) ?_
      refine va_get (D := (dC, dI)) (ci := 6) (v := .ref (aQ 3)) (C := RX6) (T := TX6) (N := 13) hx hb hts iwsMX6_columnWith_in6 hown hK hP 0 rfl rfl 3 (by decide) (hts (.fieldLink RX6 24 "OptimaWorks$Tableau" "shut" "[Z") (by decide +kernel)) (fun _ h9 => h9) rfl dX6_columnWith_11 ?_
      refine lv_iload_n hx hb dX6_columnWith_14 rfl (lv_at hl 0 rfl) ?_
      refine va_zald (cA := kQ 3) (n := 41) (f := fQ_shut) hx hb hK hP 4 3 rfl rfl (vp_in_iff.mpr ⟨(Int.le_trans (by decide) (b_l2_x2.1)), (by omega)⟩) dX6_columnWith_15 ?_
      refine lv_topi (fun v5 hv5 => ?_)
      clear hv5
      refine lv_if_ne (tgt := 33) hx hb dX6_columnWith_16 (by decide) (fun c_16 => ?_) (fun c_16 => ?_)
      · have t_16 : v5.toInt ≠ 0 := toI_ne c_16 rfl (by decide : (0 : Int32).toInt = 0)
        refine lv_iinc (v := (iI (l2_x2.toInt + 1))) hx hb dX6_columnWith_33 hl (k := 0) rfl (iI_add2 (iI_of _) (by decide : (1 : Int32) = iI 1)) (by decide) rfl (fun ls (hl : lv_has ls _ ([(2, .int (iI (l2_x2.toInt + 1))), (0, .ref (hQ 0)), (1, .int p1)])) => ?_)
        refine lv_goto (tgt := 2) hx hb dX6_columnWith_36 (by decide) ?_
        have hl : lv_has _ _ ([(2, .int (iI (l2_x2.toInt + 1))), (0, .ref (hQ 0)), (1, .int p1)]) := lv_sub hl [0, 1, 2] rfl
        exact ihx2 (iI (l2_x2.toInt + 1)) _ _ _ (iI_rng (Int.le_trans (by decide) (Int.add_le_add (b_l2_x2.1) (Int.le_refl _))) (by omega) (by decide) (by decide)) (by have e9 : ((iI (l2_x2.toInt + 1))).toInt = (l2_x2.toInt + 1) := (iI_t (Int.le_trans (by decide) (Int.add_le_add (b_l2_x2.1) (Int.le_refl _))) (Int.le_trans (Int.add_le_add (b_l2_x2.2) (Int.le_refl _)) (by decide))); omega) hP hD hS hl
      · have t_16 : v5.toInt = 0 := toI_nne c_16 rfl (by decide : (0 : Int32).toInt = 0)
        refine lv_aload_n hx hb dX6_columnWith_19 rfl (lv_at hl 1 rfl) ?_
        refine lv_iload_n hx hb dX6_columnWith_20 rfl (lv_at hl 2 rfl) ?_
        refine lv_iload_n hx hb dX6_columnWith_21 rfl (lv_at hl 0 rfl) ?_
        have hFc := allFree hD hS hA
        refine va_callr (va_runV (As := [.int p1, .int l2_x2]) (rest := []) ⟨hx, hb, hml, hown, hts⟩ (m_X6_cellAt l dC dI hQ aQ kQ hw fQ_inside fQ_outside fQ_shut iQ_rows iQ_allRows iQ_columns nW lw kw wl wb wG p1 l2_x2 (b_iQ_rows) (b_iQ_allRows) (b_iQ_columns) (by first | assumption | omega) b_wl b_wb (b_p1) (by first | exact b_l2_x2 | assumption | exact ⟨by omega, by omega⟩) (by first | assumption | omega | (rw [iI_t (by omega) (by omega)]; omega) | decide) (hrow.ix (by omega) (by omega)) H.size) (cwV 2 hts gwsMX6_columnWith_0 rfl rfl rfl hd_yX6_cellAt_RX6 (by decide +kernel)) (fz_pre (va_recv hK hP (ci := 6) (q0 := 0) rfl rfl) hP hK hD) rfl rfl hl.1 rfl (lv_room (Nat.le_of_ble_eq_true rfl)) dX6_columnWith_22 (by decide +kernel)) hS (fun q _ h => hFc q h) hFc (fun u ra6 t9_ H locs ht hvm hw9 hB9 hz1 hk1 hS => ?_)
        obtain ⟨kR_6, hwit6⟩ : ∃ w9, w9 = u := ⟨u, rfl⟩
        subst hwit6
        obtain ⟨hra, hB9⟩ := hB9
        subst hra
        have f6_0 := hw9
        try dsimp only at f6_0
        have hP : va_P (dC, dI) vwCl (WQ hQ aQ kQ hw fQ_inside fQ_outside fQ_shut iQ_rows iQ_allRows iQ_columns ++ (WW nW hw lw kw wl wb wG)) H := fz_P ht hB9.1
        have hD : va_D A (WQ hQ aQ kQ hw fQ_inside fQ_outside fQ_shut iQ_rows iQ_allRows iQ_columns ++ (WW nW hw lw kw wl wb wG)) := hB9.2.weaken (fun _ q _ h => hFc q.1 h)
        refine va_get (D := (dC, dI)) (ci := 8) (v := .int (wl kR_6)) (C := RX8) (T := TX8) (N := 3) hx hb hts iwsMX6_columnWith_in8 hown hK hP (5 + (kR_6)) (apR rfl (WW_o (by omega))) rfl 1 (by decide) (hts (.fieldLink RX6 76 "OptimaWorks$Whole" "length" "I") (by decide +kernel)) (fun _ h9 => h9) rfl dX6_columnWith_25 ?_
        have br25 := b_wl kR_6
        refine lv_if_eq (tgt := 33) hx hb dX6_columnWith_28 (by decide) (fun c_28 => ?_) (fun c_28 => ?_)
        · have t_28 : (wl kR_6).toInt = 0 := toI_eq c_28 rfl (by decide : (0 : Int32).toInt = 0)
          refine lv_iinc (v := (iI (l2_x2.toInt + 1))) hx hb dX6_columnWith_33 hl (k := 0) rfl (iI_add2 (iI_of _) (by decide : (1 : Int32) = iI 1)) (by decide) rfl (fun ls (hl : lv_has ls _ ([(2, .int (iI (l2_x2.toInt + 1))), (0, .ref (hQ 0)), (1, .int p1)])) => ?_)
          refine lv_goto (tgt := 2) hx hb dX6_columnWith_36 (by decide) ?_
          have hl : lv_has _ _ ([(2, .int (iI (l2_x2.toInt + 1))), (0, .ref (hQ 0)), (1, .int p1)]) := lv_sub hl [0, 1, 2] rfl
          exact ihx2 (iI (l2_x2.toInt + 1)) _ _ _ (iI_rng (Int.le_trans (by decide) (Int.add_le_add (b_l2_x2.1) (Int.le_refl _))) (by omega) (by decide) (by decide)) (by have e9 : ((iI (l2_x2.toInt + 1))).toInt = (l2_x2.toInt + 1) := (iI_t (Int.le_trans (by decide) (Int.add_le_add (b_l2_x2.1) (Int.le_refl _))) (Int.le_trans (Int.add_le_add (b_l2_x2.2) (Int.le_refl _)) (by decide))); omega) hP hD hS hl
        · have t_28 : ¬ (wl kR_6).toInt = 0 := toI_neq c_28 rfl (by decide : (0 : Int32).toInt = 0)
          refine lv_iload_n hx hb dX6_columnWith_31 rfl (lv_at hl 0 rfl) ?_
          refine W.widen (k := 0) (n := 0) (by decide +kernel) (by decide +kernel) ?_
          exact W.iret (v := l2_x2) hx hb hr (fun t9_ ht hW => ⟨⟨l2_x2, (), rfl, ⟨(by first | exact b_l2_x2 | assumption | exact ⟨by omega, by omega⟩), (by (try dsimp only); first | assumption | omega | (have h9 : ((-1) : Int32).toInt = -1 := (by decide); omega))⟩, by rw [ht]; exact hP, hD⟩, hS.F ht⟩) hS.2.2 dX6_columnWith_32
theorem dX6_rowBelow_0 : decode cX6_rowBelow 0 = .ok (.iconst (-1), 1) := dk_2 (by decide +kernel)
theorem dX6_rowBelow_1 : decode cX6_rowBelow 1 = .ok (.istore_n 2, 1) := dk_61 (by decide +kernel)
theorem dX6_rowBelow_2 : decode cX6_rowBelow 2 = .ok (.iconst 0, 1) := dk_3 (by decide +kernel)
theorem dX6_rowBelow_3 : decode cX6_rowBelow 3 = .ok (.istore_n 3, 1) := dk_62 (by decide +kernel)
theorem dX6_rowBelow_4 : decode cX6_rowBelow 4 = .ok (.iload_n 3, 1) := dk_29 (by decide +kernel)
theorem dX6_rowBelow_5 : decode cX6_rowBelow 5 = .ok (.aload_n 0, 1) := dk_42 (by decide +kernel)
theorem dX6_rowBelow_6 : decode cX6_rowBelow 6 = .ok (.getfield 61, 3) := dk_180 (by decide +kernel)
theorem dX6_rowBelow_9 : decode cX6_rowBelow 9 = .ok (.if_icmp .ge 68, 3) := dk_162 (by decide +kernel)
theorem dX6_rowBelow_12 : decode cX6_rowBelow 12 = .ok (.aload_n 0, 1) := dk_42 (by decide +kernel)
theorem dX6_rowBelow_13 : decode cX6_rowBelow 13 = .ok (.iload_n 3, 1) := dk_29 (by decide +kernel)
theorem dX6_rowBelow_14 : decode cX6_rowBelow 14 = .ok (.iconst 0, 1) := dk_3 (by decide +kernel)
theorem dX6_rowBelow_15 : decode cX6_rowBelow 15 = .ok (.invokevirtual 72, 3) := dk_182 (by decide +kernel)
theorem dX6_rowBelow_18 : decode cX6_rowBelow 18 = .ok (.astore 4, 2) := dk_58 (by decide +kernel)
theorem dX6_rowBelow_20 : decode cX6_rowBelow 20 = .ok (.aload 4, 2) := dk_25 (by decide +kernel)
theorem dX6_rowBelow_22 : decode cX6_rowBelow 22 = .ok (.invokevirtual 92, 3) := dk_182 (by decide +kernel)
theorem dX6_rowBelow_25 : decode cX6_rowBelow 25 = .ok (.ifCond .ge 46, 3) := dk_156 (by decide +kernel)
theorem dX6_rowBelow_28 : decode cX6_rowBelow 28 = .ok (.iload_n 2, 1) := dk_28 (by decide +kernel)
theorem dX6_rowBelow_29 : decode cX6_rowBelow 29 = .ok (.iconst (-1), 1) := dk_2 (by decide +kernel)
theorem dX6_rowBelow_30 : decode cX6_rowBelow 30 = .ok (.if_icmp .eq 39, 3) := dk_159 (by decide +kernel)
theorem dX6_rowBelow_33 : decode cX6_rowBelow 33 = .ok (.iload_n 1, 1) := dk_27 (by decide +kernel)
theorem dX6_rowBelow_34 : decode cX6_rowBelow 34 = .ok (.ifCond .eq 20, 3) := dk_153 (by decide +kernel)
theorem dX6_rowBelow_37 : decode cX6_rowBelow 37 = .ok (.aload 4, 2) := dk_25 (by decide +kernel)
theorem dX6_rowBelow_39 : decode cX6_rowBelow 39 = .ok (.aload_n 0, 1) := dk_42 (by decide +kernel)
theorem dX6_rowBelow_40 : decode cX6_rowBelow 40 = .ok (.iload_n 2, 1) := dk_28 (by decide +kernel)
theorem dX6_rowBelow_41 : decode cX6_rowBelow 41 = .ok (.iconst 0, 1) := dk_3 (by decide +kernel)
theorem dX6_rowBelow_42 : decode cX6_rowBelow 42 = .ok (.invokevirtual 72, 3) := dk_182 (by decide +kernel)
theorem dX6_rowBelow_45 : decode cX6_rowBelow 45 = .ok (.invokevirtual 96, 3) := dk_182 (by decide +kernel)
theorem dX6_rowBelow_48 : decode cX6_rowBelow 48 = .ok (.ifCond .le 23, 3) := dk_158 (by decide +kernel)
theorem dX6_rowBelow_51 : decode cX6_rowBelow 51 = .ok (.goto 18, 3) := dk_167 (by decide +kernel)
theorem dX6_rowBelow_54 : decode cX6_rowBelow 54 = .ok (.aload_n 0, 1) := dk_42 (by decide +kernel)
theorem dX6_rowBelow_55 : decode cX6_rowBelow 55 = .ok (.getfield 17, 3) := dk_180 (by decide +kernel)
theorem dX6_rowBelow_58 : decode cX6_rowBelow 58 = .ok (.iload_n 3, 1) := dk_29 (by decide +kernel)
theorem dX6_rowBelow_59 : decode cX6_rowBelow 59 = .ok (.iaload, 1) := dk_46 (by decide +kernel)
theorem dX6_rowBelow_60 : decode cX6_rowBelow 60 = .ok (.aload_n 0, 1) := dk_42 (by decide +kernel)
theorem dX6_rowBelow_61 : decode cX6_rowBelow 61 = .ok (.getfield 17, 3) := dk_180 (by decide +kernel)
theorem dX6_rowBelow_64 : decode cX6_rowBelow 64 = .ok (.iload_n 2, 1) := dk_28 (by decide +kernel)
theorem dX6_rowBelow_65 : decode cX6_rowBelow 65 = .ok (.iaload, 1) := dk_46 (by decide +kernel)
theorem dX6_rowBelow_66 : decode cX6_rowBelow 66 = .ok (.if_icmp .ge 5, 3) := dk_162 (by decide +kernel)
theorem dX6_rowBelow_69 : decode cX6_rowBelow 69 = .ok (.iload_n 3, 1) := dk_29 (by decide +kernel)
theorem dX6_rowBelow_70 : decode cX6_rowBelow 70 = .ok (.istore_n 2, 1) := dk_61 (by decide +kernel)
theorem dX6_rowBelow_71 : decode cX6_rowBelow 71 = .ok (.iinc 3 1, 3) := dk_132 (by decide +kernel)
theorem dX6_rowBelow_74 : decode cX6_rowBelow 74 = .ok (.goto (-70), 3) := dk_167 (by decide +kernel)
theorem dX6_rowBelow_77 : decode cX6_rowBelow 77 = .ok (.iload_n 2, 1) := dk_28 (by decide +kernel)
theorem dX6_rowBelow_78 : decode cX6_rowBelow 78 = .ok (.ireturn, 1) := dk_172 (by decide +kernel)
def wsMX6_rowBelow : List Cond := .code yX6_rowBelow cX6_rowBelow 5 (some .int) :: ([.fieldLink RX6 61 "OptimaWorks$Tableau" "rows" "I", .fieldLink RX6 17 "OptimaWorks$Tableau" "inside" "[I"] ++ wsX60 ++ (wsV RX6 72 RX6 yX6_cellAt wsMX6_cellAt) ++ (wsV RX6 92 RX8 yX8_sign wsMX8_sign) ++ (wsV RX6 96 RX8 yX8_compareSize wsMX8_compareSize))
theorem iwsMX6_rowBelow_in6 : ∀ w ∈ wsX60, w ∈ wsMX6_rowBelow := fun _ h => List.mem_cons_of_mem _ (List.mem_append_left _ (List.mem_append_left _ (List.mem_append_left _ (List.mem_append_right _ h))))
theorem gwsMX6_rowBelow_0 : GoodIn wsMX6_rowBelow (wsV RX6 72 RX6 yX6_cellAt wsMX6_cellAt) := goodIn_sub (fun _ h => List.mem_cons_of_mem _ (List.mem_append_left _ (List.mem_append_left _ (List.mem_append_right _ h)))) (gdV (by decide +kernel) gdwsMX6_cellAt)
theorem gwsMX6_rowBelow_1 : GoodIn wsMX6_rowBelow (wsV RX6 92 RX8 yX8_sign wsMX8_sign) := goodIn_sub (fun _ h => List.mem_cons_of_mem _ (List.mem_append_left _ (List.mem_append_right _ h))) (gdV (by decide +kernel) gdwsMX8_sign)
theorem gwsMX6_rowBelow_2 : GoodIn wsMX6_rowBelow (wsV RX6 96 RX8 yX8_compareSize wsMX8_compareSize) := goodIn_sub (fun _ h => List.mem_cons_of_mem _ (List.mem_append_right _ h)) (gdV (by decide +kernel) gdwsMX8_compareSize)
theorem gdwsMX6_rowBelow : wsMX6_rowBelow.all goodWord = true := gdC rfl (gdA (gdA (gdA (gdA (by decide +kernel : ([.fieldLink RX6 61 "OptimaWorks$Tableau" "rows" "I", .fieldLink RX6 17 "OptimaWorks$Tableau" "inside" "[I"] : List Cond).all goodWord = true) gdwsX60) (gdV (by decide +kernel) gdwsMX6_cellAt)) (gdV (by decide +kernel) gdwsMX8_sign)) (gdV (by decide +kernel) gdwsMX8_compareSize))
set_option maxHeartbeats 4000000 in
set_option maxRecDepth 100000 in
/-- a row below nought -/
theorem m_X6_rowBelow (l : Launch) (dC : Nat → ClassId) (dI : Nat → Nat → Nat) (hQ : Nat → Nat) (aQ : Nat → Nat) (kQ : Nat → ClassId) (hw : Nat → Nat) (fQ_inside : Nat → Int32) (fQ_outside : Nat → Int32) (fQ_shut : Nat → Int32) (iQ_rows : Int32) (iQ_allRows : Int32) (iQ_columns : Int32) (nW : Nat) (lw : Nat → Nat) (kw : ClassId) (wl : Nat → Int32) (wb : Nat → Int32) (wG : Nat → Nat → Int64) (p1 : Int32) (b_iQ_rows : 0 ≤ iQ_rows.toInt ∧ iQ_rows.toInt ≤ 40) (b_iQ_allRows : 0 ≤ iQ_allRows.toInt ∧ iQ_allRows.toInt ≤ 40) (b_iQ_columns : 0 ≤ iQ_columns.toInt ∧ iQ_columns.toInt ≤ 40) (b_tb : TbO iQ_rows iQ_allRows iQ_columns) (b_wl : ∀ q : Nat, 0 ≤ (wl q).toInt ∧ (wl q).toInt ≤ 14) (b_wb : ∀ q : Nat, 0 ≤ (wb q).toInt ∧ (wb q).toInt ≤ 1) (hnW : 406 ≤ nW) (sz : Nat) : Met l yX6_rowBelow wsMX6_rowBelow ({ frames := 1, cells := 0, slots := 0, locals := 22 }) (va_Pc [.ref (hQ 0), .int p1] (fun U => U.heap.size = sz ∧ va_P (dC, dI) vwCl (WQ hQ aQ kQ hw fQ_inside fQ_outside fQ_shut iQ_rows iQ_allRows iQ_columns ++ (WW nW hw lw kw wl wb wG)) U.heap ∧ va_K (dC, dI) vwCl (tQ kQ ++ (tW kw)) U ∧ va_D (fun _ => True) (WQ hQ aQ kQ hw fQ_inside fQ_outside fQ_shut iQ_rows iQ_allRows iQ_columns ++ (WW nW hw lw kw wl wb wG)))) (va_Qi (fun (r : Int32) (u : Unit) => ((-1) ≤ r.toInt ∧ r.toInt ≤ 39) ∧ (r.toInt < iQ_rows.toInt)) (fun (u : Unit) t => va_P (dC, dI) vwCl (WQ hQ aQ kQ hw fQ_inside fQ_outside fQ_shut iQ_rows iQ_allRows iQ_columns ++ (WW nW hw lw kw wl wb wG)) t.heap ∧ va_D (va_A (WQ hQ aQ kQ hw fQ_inside fQ_outside fQ_shut iQ_rows iQ_allRows iQ_columns ++ (WW nW hw lw kw wl wb wG)) sz) (WQ hQ aQ kQ hw fQ_inside fQ_outside fQ_shut iQ_rows iQ_allRows iQ_columns ++ (WW nW hw lw kw wl wb wG))) (va_A (WQ hQ aQ kQ hw fQ_inside fQ_outside fQ_shut iQ_rows iQ_allRows iQ_columns ++ (WW nW hw lw kw wl wb wG)) sz)) 0 0 (va_A (WQ hQ aQ kQ hw fQ_inside fQ_outside fQ_shut iQ_rows iQ_allRows iQ_columns ++ (WW nW hw lw kw wl wb wG)) sz) := by
  refine Met.ofW (cc := cX6_rowBelow) (maxL := 5) (ret := (some .int)) (by decide) rfl ?_
  intro p e s m args below meth c s₁ B hml hv
  obtain ⟨rfl, hsz, hP, hK, hD0⟩ := hv
  have hx := B.exec
  have hb := B.bytes
  have hr := B.returns
  have hts := atoms_spec (ws := wsMX6_rowBelow) B.pre
  have hown : s.vm.findClass RX6 = some m.cls := findClass_of_methodNamed B.named
  have hlocks := B.notSynchronized
  subst hsz
  have hD := hD0.self (sz := s.heap.size)
  generalize hAe : va_A (WQ hQ aQ kQ hw fQ_inside fQ_outside fQ_shut iQ_rows iQ_allRows iQ_columns ++ (WW nW hw lw kw wl wb wG)) s.heap.size = A at hD ⊢
  have hA : ∀ q : Nat, s.heap.size ≤ q → A q := fun q h => by rw [← hAe]; exact Or.inr h
  have hS : va_S A s.heap s.heap [] := va_S.rf
  have hl := lv_entry ([.ref (hQ 0), .int p1]) (n := 5) (Nat.le_of_ble_eq_true rfl)
  rw [lg_entry_eq]
  generalize (lg_sl ([.ref (hQ 0), .int p1]) ++ List.replicate (5 - (lg_sl ([.ref (hQ 0), .int p1])).length) Slot.unset).toArray = ls at hl ⊢
  have hl : lv_has ls 5 [(0, .ref (hQ 0)), (1, .int p1)] := hl
  have hTb := b_tb.1
  refine lv_iconst (v := (-1)) hx hb dX6_rowBelow_0 (by decide) ?_
  refine lv_istore_n hx hb dX6_rowBelow_1 rfl hl (by decide) rfl (fun ls (hl : lv_has ls _ ([(2, .int (-1)), (0, .ref (hQ 0)), (1, .int p1)])) => ?_)
  refine lv_iconst (v := 0) hx hb dX6_rowBelow_2 (by decide) ?_
  refine lv_istore_n hx hb dX6_rowBelow_3 rfl hl (by decide) rfl (fun ls (hl : lv_has ls _ ([(3, .int 0), (2, .int (-1)), (0, .ref (hQ 0)), (1, .int p1)])) => ?_)
  have hl : lv_has _ _ ([(3, .int 0), (2, .int (-1)), (0, .ref (hQ 0)), (1, .int p1)]) := lv_sub hl [0, 1, 2, 3] rfl
  refine (fun (loop : ∀ (n9 : Nat) (l3_x4 : Int32) (l2_x4 : Int32) (H : Heap) (locs : List Loc) (ls : Array Slot), (0 ≤ l3_x4.toInt ∧ l3_x4.toInt ≤ 40) → ((-1) ≤ l2_x4.toInt ∧ l2_x4.toInt ≤ 39) → (l2_x4.toInt < iQ_rows.toInt) → (40 - l3_x4.toInt < ((n9 : Nat) : Int)) → va_P (dC, dI) vwCl (WQ hQ aQ kQ hw fQ_inside fQ_outside fQ_shut iQ_rows iQ_allRows iQ_columns ++ (WW nW hw lw kw wl wb wG)) H → va_D A (WQ hQ aQ kQ hw fQ_inside fQ_outside fQ_shut iQ_rows iQ_allRows iQ_columns ++ (WW nW hw lw kw wl wb wG)) → va_S A s.heap H locs → lv_has ls 5 [(3, .int l3_x4), (2, .int l2_x4), (0, .ref (hQ 0)), (1, .int p1)] → W p l e _ s m _ below meth c H locs 0 0 _ (F0 m 4 ls [])) => loop (41) 0 (-1) _ _ _ (show 0 ≤ (0 : Int32).toInt ∧ (0 : Int32).toInt ≤ 40 from by decide) (show (-1) ≤ ((-1) : Int32).toInt ∧ ((-1) : Int32).toInt ≤ 39 from by decide) (show ((-1) : Int32).toInt < iQ_rows.toInt from by first | assumption | omega | (have h9 : ((-1) : Int32).toInt = -1 := (by decide); omega)) ((by have e9 : (0 : Int32).toInt = 0 := (by decide : (0 : Int32).toInt = 0); omega)) hP hD hS hl) ?_
  intro n9
  induction n9 with
  | zero => intro l3_x4 l2_x4 H locs ls b_l3_x4 b_l2_x4 hfr hf9; exact False.elim (by omega)
  | succ n9 ihx4 =>
    intro l3_x4 l2_x4 H locs ls b_l3_x4 b_l2_x4 hfr hfx4 hP hD hS hl
    refine lv_iload_n hx hb dX6_rowBelow_4 rfl (lv_at hl 0 rfl) ?_
    refine lv_aload_n hx hb dX6_rowBelow_5 rfl (lv_at hl 2 rfl) ?_
    refine va_get (D := (dC, dI)) (ci := 6) (v := .int iQ_rows) (C := RX6) (T := TX6) (N := 13) hx hb hts iwsMX6_rowBelow_in6 hown hK hP 0 rfl rfl 5 (by decide) (hts (.fieldLink RX6 61 "OptimaWorks$Tableau" "rows" "I") (by decide +kernel)) (fun _ h9 => h9) rfl dX6_rowBelow_6 ?_
    refine lv_icmp_ge (tgt := 77) hx hb dX6_rowBelow_9 (by decide) (fun c_9 => ?_) (fun c_9 => ?_)
    · have t_9 : l3_x4.toInt ≥ iQ_rows.toInt := toI_ge c_9 rfl rfl
      refine lv_iload_n hx hb dX6_rowBelow_77 rfl (lv_at hl 1 rfl) ?_
      refine W.widen (k := 0) (n := 0) (by decide +kernel) (by decide +kernel) ?_
      exact W.iret (v := l2_x4) hx hb hr (fun t9_ ht hW => ⟨⟨l2_x4, (), rfl, ⟨(b_l2_x4), (by (try dsimp only); exact (hfr))⟩, by rw [ht]; exact hP, hD⟩, hS.F ht⟩) hS.2.2 dX6_rowBelow_78
    · have t_9 : ¬ l3_x4.toInt ≥ iQ_rows.toInt := toI_nge c_9 rfl rfl
      refine lv_aload_n hx hb dX6_rowBelow_12 rfl (lv_at hl 2 rfl) ?_
      refine lv_iload_n hx hb dX6_rowBelow_13 rfl (lv_at hl 0 rfl) ?_
      refine lv_iconst (v := 0) hx hb dX6_rowBelow_14 (by decide) ?_
      have hFc := allFree hD hS hA
      refine va_callr (va_runV (As := [.int l3_x4, .int 0]) (rest := []) ⟨hx, hb, hml, hown, hts⟩ (m_X6_cellAt l dC dI hQ aQ kQ hw fQ_inside fQ_outside fQ_shut iQ_rows iQ_allRows iQ_columns nW lw kw wl wb wG l3_x4 0 (b_iQ_rows) (b_iQ_allRows) (b_iQ_columns) (by first | assumption | omega) b_wl b_wb (by first | exact b_l3_x4 | assumption | exact ⟨by omega, by omega⟩) (show 0 ≤ (0 : Int32).toInt ∧ (0 : Int32).toInt ≤ 40 from by decide) (by first | assumption | omega | (rw [iI_t (by omega) (by omega)]; omega) | decide) (cell_ix0 b_tb (by omega) (by omega) (by omega)) H.size) (cwV 2 hts gwsMX6_rowBelow_0 rfl rfl rfl hd_yX6_cellAt_RX6 (by decide +kernel)) (fz_pre (va_recv hK hP (ci := 6) (q0 := 0) rfl rfl) hP hK hD) rfl rfl hl.1 rfl (lv_room (Nat.le_of_ble_eq_true rfl)) dX6_rowBelow_15 (by decide +kernel)) hS (fun q _ h => hFc q h) hFc (fun u ra35 t9_ H locs ht hvm hw9 hB9 hz1 hk1 hS => ?_)
      obtain ⟨kR_35, hwit35⟩ : ∃ w9, w9 = u := ⟨u, rfl⟩
      subst hwit35
      obtain ⟨hra, hB9⟩ := hB9
      subst hra
      have f35_0 := hw9
      try dsimp only at f35_0
      have hP : va_P (dC, dI) vwCl (WQ hQ aQ kQ hw fQ_inside fQ_outside fQ_shut iQ_rows iQ_allRows iQ_columns ++ (WW nW hw lw kw wl wb wG)) H := fz_P ht hB9.1
      have hD : va_D A (WQ hQ aQ kQ hw fQ_inside fQ_outside fQ_shut iQ_rows iQ_allRows iQ_columns ++ (WW nW hw lw kw wl wb wG)) := hB9.2.weaken (fun _ q _ h => hFc q.1 h)
      refine lv_astore hx hb dX6_rowBelow_18 hl (by decide) rfl (fun ls (hl : lv_has ls _ ([(4, .ref (hw kR_35)), (3, .int l3_x4), (2, .int l2_x4), (0, .ref (hQ 0)), (1, .int p1)])) => ?_)
      refine lv_aload hx hb dX6_rowBelow_20 (lv_at hl 0 rfl) ?_
      have p9 : List.Perm (WQ hQ aQ kQ hw fQ_inside fQ_outside fQ_shut iQ_rows iQ_allRows iQ_columns ++ (WW nW hw lw kw wl wb wG)) ((WW nW hw lw kw wl wb wG) ++ (WQ hQ aQ kQ hw fQ_inside fQ_outside fQ_shut iQ_rows iQ_allRows iQ_columns)) := (List.perm_append_comm)
      have hPc := hP.mem (fun q h => p9.mem_iff.mpr (List.mem_append_left _ h))
      have hDc := (hD.perm p9).left
      have hKc : va_K (dC, dI) vwCl (tW kw) _ := hK.sub [4] rfl
      have hFc := freeG p9 hD hS hA
      refine va_calli (va_runV (As := []) (rest := []) ⟨hx, hb, hml, hown, hts⟩ (m_X8_sign l dC dI nW hw lw kw wl wb wG kR_35 b_wl b_wb (by first | assumption | omega | (rw [iI_t (by omega) (by omega)]; omega) | decide) H.size) (cwV 0 hts gwsMX6_rowBelow_1 rfl rfl rfl hd_yX8_sign_RX8 (by decide +kernel)) (fz_pre (va_recv hK hP (ci := 8) (q0 := 5 + (kR_35)) rfl (apR rfl (WW_o (by omega)))) hPc hKc hDc) rfl rfl hl.1 rfl (lv_room (Nat.le_of_ble_eq_true rfl)) dX6_rowBelow_22 (by decide +kernel)) hS (fun q _ h => hFc q h) hFc (fun r36 u t9_ H locs ht hvm hw9 hB9 hz1 hk1 hS => ?_)
      have b_r36 := hw9
      try dsimp only at b_r36
      have p8 : List.Perm (WQ hQ aQ kQ hw fQ_inside fQ_outside fQ_shut iQ_rows iQ_allRows iQ_columns ++ (WW nW hw lw kw wl wb wG)) ((WW nW hw lw kw wl wb wG) ++ (WQ hQ aQ kQ hw fQ_inside fQ_outside fQ_shut iQ_rows iQ_allRows iQ_columns)) := (List.perm_append_comm)
      obtain ⟨hP, hD⟩ := frameG p9 p8 hP hD hk1 hFc (fz_P ht hB9.1) hB9.2
      have hP : va_P (dC, dI) vwCl (WQ hQ aQ kQ hw fQ_inside fQ_outside fQ_shut iQ_rows iQ_allRows iQ_columns ++ (WW nW hw lw kw wl wb wG)) H := hP
      have hD : va_D A (WQ hQ aQ kQ hw fQ_inside fQ_outside fQ_shut iQ_rows iQ_allRows iQ_columns ++ (WW nW hw lw kw wl wb wG)) := hD
      refine W.cut (pc := 71) (fun H locs ls stk => ∃ (l2_j12 : Int32), ((-1) ≤ l2_j12.toInt ∧ l2_j12.toInt ≤ 39) ∧ (l2_j12.toInt < iQ_rows.toInt) ∧  stk = [] ∧ va_P (dC, dI) vwCl (WQ hQ aQ kQ hw fQ_inside fQ_outside fQ_shut iQ_rows iQ_allRows iQ_columns ++ (WW nW hw lw kw wl wb wG)) H ∧ va_D A (WQ hQ aQ kQ hw fQ_inside fQ_outside fQ_shut iQ_rows iQ_allRows iQ_columns ++ (WW nW hw lw kw wl wb wG)) ∧ va_S A s.heap H locs ∧ lv_has ls 5 [(4, .ref (hw kR_35)), (3, .int l3_x4), (2, .int l2_j12), (0, .ref (hQ 0)), (1, .int p1)]) (fun join12 => ?_) ?_
      · refine lv_if_ge (tgt := 71) hx hb dX6_rowBelow_25 (by decide) (fun c_25 => ?_) (fun c_25 => ?_)
        · have t_25 : r36.toInt ≥ 0 := toI_ge c_25 rfl (by decide : (0 : Int32).toInt = 0)
          have hl : lv_has _ _ ([(4, .ref (hw kR_35)), (3, .int l3_x4), (2, .int l2_x4), (0, .ref (hQ 0)), (1, .int p1)]) := lv_sub hl [0, 1, 2, 3, 4] rfl
          exact join12 _ _ _ _ ⟨l2_x4, (b_l2_x4), (show l2_x4.toInt < iQ_rows.toInt from by first | assumption | omega | (have h9 : ((-1) : Int32).toInt = -1 := (by decide); omega)), rfl, hP, hD, hS, hl⟩
        · have t_25 : ¬ r36.toInt ≥ 0 := toI_nge c_25 rfl (by decide : (0 : Int32).toInt = 0)
          refine lv_iload_n hx hb dX6_rowBelow_28 rfl (lv_at hl 2 rfl) ?_
          refine lv_iconst (v := (-1)) hx hb dX6_rowBelow_29 (by decide) ?_
          refine lv_icmp_eq (tgt := 69) hx hb dX6_rowBelow_30 (by decide) (fun c_30 => ?_) (fun c_30 => ?_)
          · have t_30 : l2_x4.toInt = (-1) := toI_eq c_30 rfl (by decide : ((-1) : Int32).toInt = (-1))
            refine lv_iload_n hx hb dX6_rowBelow_69 rfl (lv_at hl 1 rfl) ?_
            refine lv_istore_n hx hb dX6_rowBelow_70 rfl hl (by decide) rfl (fun ls (hl : lv_has ls _ ([(2, .int l3_x4), (4, .ref (hw kR_35)), (3, .int l3_x4), (0, .ref (hQ 0)), (1, .int p1)])) => ?_)
            have hl : lv_has _ _ ([(4, .ref (hw kR_35)), (3, .int l3_x4), (2, .int l3_x4), (0, .ref (hQ 0)), (1, .int p1)]) := lv_sub hl [1, 2, 0, 3, 4] rfl
            exact join12 _ _ _ _ ⟨l3_x4, (by first | exact b_l3_x4 | assumption | exact ⟨by omega, by omega⟩), (show l3_x4.toInt < iQ_rows.toInt from by first | assumption | omega | (have h9 : ((-1) : Int32).toInt = -1 := (by decide); omega)), rfl, hP, hD, hS, hl⟩
          · have t_30 : ¬ l2_x4.toInt = (-1) := toI_neq c_30 rfl (by decide : ((-1) : Int32).toInt = (-1))
            refine lv_iload_n hx hb dX6_rowBelow_33 rfl (lv_at hl 4 rfl) ?_
            refine lv_if_eq (tgt := 54) hx hb dX6_rowBelow_34 (by decide) (fun c_34 => ?_) (fun c_34 => ?_)
            · have t_34 : p1.toInt = 0 := toI_eq c_34 rfl (by decide : (0 : Int32).toInt = 0)
              refine lv_aload_n hx hb dX6_rowBelow_54 rfl (lv_at hl 3 rfl) ?_
              refine va_get (D := (dC, dI)) (ci := 6) (v := .ref (aQ 1)) (C := RX6) (T := TX6) (N := 13) hx hb hts iwsMX6_rowBelow_in6 hown hK hP 0 rfl rfl 1 (by decide) (hts (.fieldLink RX6 17 "OptimaWorks$Tableau" "inside" "[I") (by decide +kernel)) (fun _ h9 => h9) rfl dX6_rowBelow_55 ?_
              refine lv_iload_n hx hb dX6_rowBelow_58 rfl (lv_at hl 1 rfl) ?_
              refine va_iald (cA := kQ 1) (n := 40) (f := fQ_inside) hx hb hK hP 2 1 rfl rfl (vp_in_iff.mpr ⟨b_l3_x4.1, (by omega)⟩) dX6_rowBelow_59 ?_
              refine lv_topi (fun v41 hv41 => ?_)
              clear hv41
              refine lv_aload_n hx hb dX6_rowBelow_60 rfl (lv_at hl 3 rfl) ?_
              refine va_get (D := (dC, dI)) (ci := 6) (v := .ref (aQ 1)) (C := RX6) (T := TX6) (N := 13) hx hb hts iwsMX6_rowBelow_in6 hown hK hP 0 rfl rfl 1 (by decide) (hts (.fieldLink RX6 17 "OptimaWorks$Tableau" "inside" "[I") (by decide +kernel)) (fun _ h9 => h9) rfl dX6_rowBelow_61 ?_
              refine lv_iload_n hx hb dX6_rowBelow_64 rfl (lv_at hl 2 rfl) ?_
              refine va_iald (cA := kQ 1) (n := 40) (f := fQ_inside) hx hb hK hP 2 1 rfl rfl (vp_in_iff.mpr ⟨(by omega), (Int.lt_of_le_of_lt (b_l2_x4.2) (by decide))⟩) dX6_rowBelow_65 ?_
              refine lv_topi (fun v42 hv42 => ?_)
              clear hv42
              refine lv_icmp_ge (tgt := 71) hx hb dX6_rowBelow_66 (by decide) (fun c_66 => ?_) (fun c_66 => ?_)
              · have t_66 : v41.toInt ≥ v42.toInt := toI_ge c_66 rfl rfl
                have hl : lv_has _ _ ([(4, .ref (hw kR_35)), (3, .int l3_x4), (2, .int l2_x4), (0, .ref (hQ 0)), (1, .int p1)]) := lv_sub hl [0, 1, 2, 3, 4] rfl
                exact join12 _ _ _ _ ⟨l2_x4, (b_l2_x4), (show l2_x4.toInt < iQ_rows.toInt from by first | assumption | omega | (have h9 : ((-1) : Int32).toInt = -1 := (by decide); omega)), rfl, hP, hD, hS, hl⟩
              · have t_66 : ¬ v41.toInt ≥ v42.toInt := toI_nge c_66 rfl rfl
                refine lv_iload_n hx hb dX6_rowBelow_69 rfl (lv_at hl 1 rfl) ?_
                refine lv_istore_n hx hb dX6_rowBelow_70 rfl hl (by decide) rfl (fun ls (hl : lv_has ls _ ([(2, .int l3_x4), (4, .ref (hw kR_35)), (3, .int l3_x4), (0, .ref (hQ 0)), (1, .int p1)])) => ?_)
                have hl : lv_has _ _ ([(4, .ref (hw kR_35)), (3, .int l3_x4), (2, .int l3_x4), (0, .ref (hQ 0)), (1, .int p1)]) := lv_sub hl [1, 2, 0, 3, 4] rfl
                exact join12 _ _ _ _ ⟨l3_x4, (by first | exact b_l3_x4 | assumption | exact ⟨by omega, by omega⟩), (show l3_x4.toInt < iQ_rows.toInt from by first | assumption | omega | (have h9 : ((-1) : Int32).toInt = -1 := (by decide); omega)), rfl, hP, hD, hS, hl⟩
            · have t_34 : ¬ p1.toInt = 0 := toI_neq c_34 rfl (by decide : (0 : Int32).toInt = 0)
              refine lv_aload hx hb dX6_rowBelow_37 (lv_at hl 0 rfl) ?_
              refine lv_aload_n hx hb dX6_rowBelow_39 rfl (lv_at hl 3 rfl) ?_
              refine lv_iload_n hx hb dX6_rowBelow_40 rfl (lv_at hl 2 rfl) ?_
              refine lv_iconst (v := 0) hx hb dX6_rowBelow_41 (by decide) ?_
              have hFc := allFree hD hS hA
              refine va_callr (va_runV (As := [.int l2_x4, .int 0]) (rest := [.ref (hw kR_35)]) ⟨hx, hb, hml, hown, hts⟩ (m_X6_cellAt l dC dI hQ aQ kQ hw fQ_inside fQ_outside fQ_shut iQ_rows iQ_allRows iQ_columns nW lw kw wl wb wG l2_x4 0 (b_iQ_rows) (b_iQ_allRows) (b_iQ_columns) (by first | assumption | omega) b_wl b_wb (by first | exact b_l2_x4 | assumption | exact ⟨by omega, by omega⟩) (show 0 ≤ (0 : Int32).toInt ∧ (0 : Int32).toInt ≤ 40 from by decide) (by first | assumption | omega | (rw [iI_t (by omega) (by omega)]; omega) | decide) (cell_ix0 b_tb (by omega) (by omega) (by omega)) H.size) (cwV 2 hts gwsMX6_rowBelow_0 rfl rfl rfl hd_yX6_cellAt_RX6 (by decide +kernel)) (fz_pre (va_recv hK hP (ci := 6) (q0 := 0) rfl rfl) hP hK hD) rfl rfl hl.1 rfl (lv_room (Nat.le_of_ble_eq_true rfl)) dX6_rowBelow_42 (by decide +kernel)) hS (fun q _ h => hFc q h) hFc (fun u ra43 t9_ H locs ht hvm hw9 hB9 hz1 hk1 hS => ?_)
              obtain ⟨kR_43, hwit43⟩ : ∃ w9, w9 = u := ⟨u, rfl⟩
              subst hwit43
              obtain ⟨hra, hB9⟩ := hB9
              subst hra
              have f43_0 := hw9
              try dsimp only at f43_0
              have hP : va_P (dC, dI) vwCl (WQ hQ aQ kQ hw fQ_inside fQ_outside fQ_shut iQ_rows iQ_allRows iQ_columns ++ (WW nW hw lw kw wl wb wG)) H := fz_P ht hB9.1
              have hD : va_D A (WQ hQ aQ kQ hw fQ_inside fQ_outside fQ_shut iQ_rows iQ_allRows iQ_columns ++ (WW nW hw lw kw wl wb wG)) := hB9.2.weaken (fun _ q _ h => hFc q.1 h)
              have p9 : List.Perm (WQ hQ aQ kQ hw fQ_inside fQ_outside fQ_shut iQ_rows iQ_allRows iQ_columns ++ (WW nW hw lw kw wl wb wG)) ((WW nW hw lw kw wl wb wG) ++ (WQ hQ aQ kQ hw fQ_inside fQ_outside fQ_shut iQ_rows iQ_allRows iQ_columns)) := (List.perm_append_comm)
              have hPc := hP.mem (fun q h => p9.mem_iff.mpr (List.mem_append_left _ h))
              have hDc := (hD.perm p9).left
              have hKc : va_K (dC, dI) vwCl (tW kw) _ := hK.sub [4] rfl
              have hFc := freeG p9 hD hS hA
              refine va_calli (va_runV (As := [.ref (hw kR_43)]) (rest := []) ⟨hx, hb, hml, hown, hts⟩ (m_X8_compareSize l dC dI nW hw lw kw wl wb wG kR_35 kR_43 b_wl b_wb (by first | assumption | omega | (rw [iI_t (by omega) (by omega)]; omega) | decide) (by first | assumption | omega | (rw [iI_t (by omega) (by omega)]; omega) | decide) H.size) (cwV 1 hts gwsMX6_rowBelow_2 rfl rfl rfl hd_yX8_compareSize_RX8 (by decide +kernel)) (fz_pre (va_recv hK hP (ci := 8) (q0 := 5 + (kR_35)) rfl (apR rfl (WW_o (by omega)))) hPc hKc hDc) rfl rfl hl.1 rfl (lv_room (Nat.le_of_ble_eq_true rfl)) dX6_rowBelow_45 (by decide +kernel)) hS (fun q _ h => hFc q h) hFc (fun r44 u t9_ H locs ht hvm hw9 hB9 hz1 hk1 hS => ?_)
              have b_r44 := hw9
              try dsimp only at b_r44
              have p8 : List.Perm (WQ hQ aQ kQ hw fQ_inside fQ_outside fQ_shut iQ_rows iQ_allRows iQ_columns ++ (WW nW hw lw kw wl wb wG)) ((WW nW hw lw kw wl wb wG) ++ (WQ hQ aQ kQ hw fQ_inside fQ_outside fQ_shut iQ_rows iQ_allRows iQ_columns)) := (List.perm_append_comm)
              obtain ⟨hP, hD⟩ := frameG p9 p8 hP hD hk1 hFc (fz_P ht hB9.1) hB9.2
              have hP : va_P (dC, dI) vwCl (WQ hQ aQ kQ hw fQ_inside fQ_outside fQ_shut iQ_rows iQ_allRows iQ_columns ++ (WW nW hw lw kw wl wb wG)) H := hP
              have hD : va_D A (WQ hQ aQ kQ hw fQ_inside fQ_outside fQ_shut iQ_rows iQ_allRows iQ_columns ++ (WW nW hw lw kw wl wb wG)) := hD
              refine lv_if_le (tgt := 71) hx hb dX6_rowBelow_48 (by decide) (fun c_48 => ?_) (fun c_48 => ?_)
              · have t_48 : r44.toInt ≤ 0 := toI_le c_48 rfl (by decide : (0 : Int32).toInt = 0)
                have hl : lv_has _ _ ([(4, .ref (hw kR_35)), (3, .int l3_x4), (2, .int l2_x4), (0, .ref (hQ 0)), (1, .int p1)]) := lv_sub hl [0, 1, 2, 3, 4] rfl
                exact join12 _ _ _ _ ⟨l2_x4, (b_l2_x4), (show l2_x4.toInt < iQ_rows.toInt from by first | assumption | omega | (have h9 : ((-1) : Int32).toInt = -1 := (by decide); omega)), rfl, hP, hD, hS, hl⟩
              · have t_48 : ¬ r44.toInt ≤ 0 := toI_nle c_48 rfl (by decide : (0 : Int32).toInt = 0)
                refine lv_goto (tgt := 69) hx hb dX6_rowBelow_51 (by decide) ?_
                refine lv_iload_n hx hb dX6_rowBelow_69 rfl (lv_at hl 1 rfl) ?_
                refine lv_istore_n hx hb dX6_rowBelow_70 rfl hl (by decide) rfl (fun ls (hl : lv_has ls _ ([(2, .int l3_x4), (4, .ref (hw kR_35)), (3, .int l3_x4), (0, .ref (hQ 0)), (1, .int p1)])) => ?_)
                have hl : lv_has _ _ ([(4, .ref (hw kR_35)), (3, .int l3_x4), (2, .int l3_x4), (0, .ref (hQ 0)), (1, .int p1)]) := lv_sub hl [1, 2, 0, 3, 4] rfl
                exact join12 _ _ _ _ ⟨l3_x4, (by first | exact b_l3_x4 | assumption | exact ⟨by omega, by omega⟩), (show l3_x4.toInt < iQ_rows.toInt from by first | assumption | omega | (have h9 : ((-1) : Int32).toInt = -1 := (by decide); omega)), rfl, hP, hD, hS, hl⟩
      · rintro H locs ls stk ⟨l2_j12, b_l2_j12, hfj, rfl, hP, hD, hS, hl⟩
        refine lv_iinc (v := (iI (l3_x4.toInt + 1))) hx hb dX6_rowBelow_71 hl (k := 1) rfl (iI_add2 (iI_of _) (by decide : (1 : Int32) = iI 1)) (by decide) rfl (fun ls (hl : lv_has ls _ ([(3, .int (iI (l3_x4.toInt + 1))), (4, .ref (hw kR_35)), (2, .int l2_j12), (0, .ref (hQ 0)), (1, .int p1)])) => ?_)
        refine lv_goto (tgt := 4) hx hb dX6_rowBelow_74 (by decide) ?_
        have hl : lv_has _ _ ([(3, .int (iI (l3_x4.toInt + 1))), (2, .int l2_j12), (0, .ref (hQ 0)), (1, .int p1)]) := lv_sub hl [0, 2, 3, 4] rfl
        exact ihx4 (iI (l3_x4.toInt + 1)) l2_j12 _ _ _ (iI_rng (Int.le_trans (by decide) (Int.add_le_add (b_l3_x4.1) (Int.le_refl _))) (by omega) (by decide) (by decide)) (b_l2_j12) (show l2_j12.toInt < iQ_rows.toInt from by first | assumption | omega | (have h9 : ((-1) : Int32).toInt = -1 := (by decide); omega)) (by have e9 : ((iI (l3_x4.toInt + 1))).toInt = (l3_x4.toInt + 1) := (iI_t (Int.le_trans (by decide) (Int.add_le_add (b_l3_x4.1) (Int.le_refl _))) (Int.le_trans (Int.add_le_add (b_l3_x4.2) (Int.le_refl _)) (by decide))); omega) hP hD hS hl
theorem dX6_columnOfSign_0 : decode cX6_columnOfSign 0 = .ok (.iconst (-1), 1) := dk_2 (by decide +kernel)
theorem dX6_columnOfSign_1 : decode cX6_columnOfSign 1 = .ok (.istore 4, 2) := dk_54 (by decide +kernel)
theorem dX6_columnOfSign_3 : decode cX6_columnOfSign 3 = .ok (.iconst 1, 1) := dk_4 (by decide +kernel)
theorem dX6_columnOfSign_4 : decode cX6_columnOfSign 4 = .ok (.istore 5, 2) := dk_54 (by decide +kernel)
theorem dX6_columnOfSign_6 : decode cX6_columnOfSign 6 = .ok (.iload 5, 2) := dk_21 (by decide +kernel)
theorem dX6_columnOfSign_8 : decode cX6_columnOfSign 8 = .ok (.aload_n 0, 1) := dk_42 (by decide +kernel)
theorem dX6_columnOfSign_9 : decode cX6_columnOfSign 9 = .ok (.getfield 54, 3) := dk_180 (by decide +kernel)
theorem dX6_columnOfSign_12 : decode cX6_columnOfSign 12 = .ok (.if_icmp .gt 86, 3) := dk_163 (by decide +kernel)
theorem dX6_columnOfSign_15 : decode cX6_columnOfSign 15 = .ok (.aload_n 0, 1) := dk_42 (by decide +kernel)
theorem dX6_columnOfSign_16 : decode cX6_columnOfSign 16 = .ok (.iload_n 1, 1) := dk_27 (by decide +kernel)
theorem dX6_columnOfSign_17 : decode cX6_columnOfSign 17 = .ok (.iload 5, 2) := dk_21 (by decide +kernel)
theorem dX6_columnOfSign_19 : decode cX6_columnOfSign 19 = .ok (.invokevirtual 72, 3) := dk_182 (by decide +kernel)
theorem dX6_columnOfSign_22 : decode cX6_columnOfSign 22 = .ok (.astore 6, 2) := dk_58 (by decide +kernel)
theorem dX6_columnOfSign_24 : decode cX6_columnOfSign 24 = .ok (.aload_n 0, 1) := dk_42 (by decide +kernel)
theorem dX6_columnOfSign_25 : decode cX6_columnOfSign 25 = .ok (.getfield 24, 3) := dk_180 (by decide +kernel)
theorem dX6_columnOfSign_28 : decode cX6_columnOfSign 28 = .ok (.iload 5, 2) := dk_21 (by decide +kernel)
theorem dX6_columnOfSign_30 : decode cX6_columnOfSign 30 = .ok (.baload, 1) := dk_51 (by decide +kernel)
theorem dX6_columnOfSign_31 : decode cX6_columnOfSign 31 = .ok (.ifCond .ne 61, 3) := dk_154 (by decide +kernel)
theorem dX6_columnOfSign_34 : decode cX6_columnOfSign 34 = .ok (.aload 6, 2) := dk_25 (by decide +kernel)
theorem dX6_columnOfSign_36 : decode cX6_columnOfSign 36 = .ok (.invokevirtual 92, 3) := dk_182 (by decide +kernel)
theorem dX6_columnOfSign_39 : decode cX6_columnOfSign 39 = .ok (.iload_n 2, 1) := dk_28 (by decide +kernel)
theorem dX6_columnOfSign_40 : decode cX6_columnOfSign 40 = .ok (.if_icmp .ne 52, 3) := dk_160 (by decide +kernel)
theorem dX6_columnOfSign_43 : decode cX6_columnOfSign 43 = .ok (.iload 4, 2) := dk_21 (by decide +kernel)
theorem dX6_columnOfSign_45 : decode cX6_columnOfSign 45 = .ok (.iconst (-1), 1) := dk_2 (by decide +kernel)
theorem dX6_columnOfSign_46 : decode cX6_columnOfSign 46 = .ok (.if_icmp .eq 42, 3) := dk_159 (by decide +kernel)
theorem dX6_columnOfSign_49 : decode cX6_columnOfSign 49 = .ok (.iload_n 3, 1) := dk_29 (by decide +kernel)
theorem dX6_columnOfSign_50 : decode cX6_columnOfSign 50 = .ok (.ifCond .eq 21, 3) := dk_153 (by decide +kernel)
theorem dX6_columnOfSign_53 : decode cX6_columnOfSign 53 = .ok (.aload 6, 2) := dk_25 (by decide +kernel)
theorem dX6_columnOfSign_55 : decode cX6_columnOfSign 55 = .ok (.aload_n 0, 1) := dk_42 (by decide +kernel)
theorem dX6_columnOfSign_56 : decode cX6_columnOfSign 56 = .ok (.iload_n 1, 1) := dk_27 (by decide +kernel)
theorem dX6_columnOfSign_57 : decode cX6_columnOfSign 57 = .ok (.iload 4, 2) := dk_21 (by decide +kernel)
theorem dX6_columnOfSign_59 : decode cX6_columnOfSign 59 = .ok (.invokevirtual 72, 3) := dk_182 (by decide +kernel)
theorem dX6_columnOfSign_62 : decode cX6_columnOfSign 62 = .ok (.invokevirtual 96, 3) := dk_182 (by decide +kernel)
theorem dX6_columnOfSign_65 : decode cX6_columnOfSign 65 = .ok (.ifCond .le 27, 3) := dk_158 (by decide +kernel)
theorem dX6_columnOfSign_68 : decode cX6_columnOfSign 68 = .ok (.goto 20, 3) := dk_167 (by decide +kernel)
theorem dX6_columnOfSign_71 : decode cX6_columnOfSign 71 = .ok (.aload_n 0, 1) := dk_42 (by decide +kernel)
theorem dX6_columnOfSign_72 : decode cX6_columnOfSign 72 = .ok (.getfield 21, 3) := dk_180 (by decide +kernel)
theorem dX6_columnOfSign_75 : decode cX6_columnOfSign 75 = .ok (.iload 5, 2) := dk_21 (by decide +kernel)
theorem dX6_columnOfSign_77 : decode cX6_columnOfSign 77 = .ok (.iaload, 1) := dk_46 (by decide +kernel)
theorem dX6_columnOfSign_78 : decode cX6_columnOfSign 78 = .ok (.aload_n 0, 1) := dk_42 (by decide +kernel)
theorem dX6_columnOfSign_79 : decode cX6_columnOfSign 79 = .ok (.getfield 21, 3) := dk_180 (by decide +kernel)
theorem dX6_columnOfSign_82 : decode cX6_columnOfSign 82 = .ok (.iload 4, 2) := dk_21 (by decide +kernel)
theorem dX6_columnOfSign_84 : decode cX6_columnOfSign 84 = .ok (.iaload, 1) := dk_46 (by decide +kernel)
theorem dX6_columnOfSign_85 : decode cX6_columnOfSign 85 = .ok (.if_icmp .ge 7, 3) := dk_162 (by decide +kernel)
theorem dX6_columnOfSign_88 : decode cX6_columnOfSign 88 = .ok (.iload 5, 2) := dk_21 (by decide +kernel)
theorem dX6_columnOfSign_90 : decode cX6_columnOfSign 90 = .ok (.istore 4, 2) := dk_54 (by decide +kernel)
theorem dX6_columnOfSign_92 : decode cX6_columnOfSign 92 = .ok (.iinc 5 1, 3) := dk_132 (by decide +kernel)
theorem dX6_columnOfSign_95 : decode cX6_columnOfSign 95 = .ok (.goto (-89), 3) := dk_167 (by decide +kernel)
theorem dX6_columnOfSign_98 : decode cX6_columnOfSign 98 = .ok (.iload 4, 2) := dk_21 (by decide +kernel)
theorem dX6_columnOfSign_100 : decode cX6_columnOfSign 100 = .ok (.ireturn, 1) := dk_172 (by decide +kernel)
def wsMX6_columnOfSign : List Cond := .code yX6_columnOfSign cX6_columnOfSign 7 (some .int) :: ([.fieldLink RX6 54 "OptimaWorks$Tableau" "columns" "I", .fieldLink RX6 24 "OptimaWorks$Tableau" "shut" "[Z", .fieldLink RX6 21 "OptimaWorks$Tableau" "outside" "[I"] ++ wsX60 ++ (wsV RX6 72 RX6 yX6_cellAt wsMX6_cellAt) ++ (wsV RX6 92 RX8 yX8_sign wsMX8_sign) ++ (wsV RX6 96 RX8 yX8_compareSize wsMX8_compareSize))
theorem iwsMX6_columnOfSign_in6 : ∀ w ∈ wsX60, w ∈ wsMX6_columnOfSign := fun _ h => List.mem_cons_of_mem _ (List.mem_append_left _ (List.mem_append_left _ (List.mem_append_left _ (List.mem_append_right _ h))))
theorem gwsMX6_columnOfSign_0 : GoodIn wsMX6_columnOfSign (wsV RX6 72 RX6 yX6_cellAt wsMX6_cellAt) := goodIn_sub (fun _ h => List.mem_cons_of_mem _ (List.mem_append_left _ (List.mem_append_left _ (List.mem_append_right _ h)))) (gdV (by decide +kernel) gdwsMX6_cellAt)
theorem gwsMX6_columnOfSign_1 : GoodIn wsMX6_columnOfSign (wsV RX6 92 RX8 yX8_sign wsMX8_sign) := goodIn_sub (fun _ h => List.mem_cons_of_mem _ (List.mem_append_left _ (List.mem_append_right _ h))) (gdV (by decide +kernel) gdwsMX8_sign)
theorem gwsMX6_columnOfSign_2 : GoodIn wsMX6_columnOfSign (wsV RX6 96 RX8 yX8_compareSize wsMX8_compareSize) := goodIn_sub (fun _ h => List.mem_cons_of_mem _ (List.mem_append_right _ h)) (gdV (by decide +kernel) gdwsMX8_compareSize)
theorem gdwsMX6_columnOfSign : wsMX6_columnOfSign.all goodWord = true := gdC rfl (gdA (gdA (gdA (gdA (by decide +kernel : ([.fieldLink RX6 54 "OptimaWorks$Tableau" "columns" "I", .fieldLink RX6 24 "OptimaWorks$Tableau" "shut" "[Z", .fieldLink RX6 21 "OptimaWorks$Tableau" "outside" "[I"] : List Cond).all goodWord = true) gdwsX60) (gdV (by decide +kernel) gdwsMX6_cellAt)) (gdV (by decide +kernel) gdwsMX8_sign)) (gdV (by decide +kernel) gdwsMX8_compareSize))
set_option maxHeartbeats 4000000 in
set_option maxRecDepth 100000 in
/-- a column of a sign -/
theorem m_X6_columnOfSign (l : Launch) (dC : Nat → ClassId) (dI : Nat → Nat → Nat) (hQ : Nat → Nat) (aQ : Nat → Nat) (kQ : Nat → ClassId) (hw : Nat → Nat) (fQ_inside : Nat → Int32) (fQ_outside : Nat → Int32) (fQ_shut : Nat → Int32) (iQ_rows : Int32) (iQ_allRows : Int32) (iQ_columns : Int32) (nW : Nat) (lw : Nat → Nat) (kw : ClassId) (wl : Nat → Int32) (wb : Nat → Int32) (wG : Nat → Nat → Int64) (p1 : Int32) (p2 : Int32) (p3 : Int32) (b_iQ_rows : 0 ≤ iQ_rows.toInt ∧ iQ_rows.toInt ≤ 40) (b_iQ_allRows : 0 ≤ iQ_allRows.toInt ∧ iQ_allRows.toInt ≤ 40) (b_iQ_columns : 0 ≤ iQ_columns.toInt ∧ iQ_columns.toInt ≤ 40) (b_tb : TbO iQ_rows iQ_allRows iQ_columns) (b_wl : ∀ q : Nat, 0 ≤ (wl q).toInt ∧ (wl q).toInt ≤ 14) (b_wb : ∀ q : Nat, 0 ≤ (wb q).toInt ∧ (wb q).toInt ≤ 1) (b_p1 : 0 ≤ p1.toInt ∧ p1.toInt ≤ 39) (hnW : 406 ≤ nW) (hrow : FitR p1.toInt iQ_columns.toInt) (sz : Nat) : Met l yX6_columnOfSign wsMX6_columnOfSign ({ frames := 1, cells := 0, slots := 0, locals := 22 }) (va_Pc [.ref (hQ 0), .int p1, .int p2, .int p3] (fun U => U.heap.size = sz ∧ va_P (dC, dI) vwCl (WQ hQ aQ kQ hw fQ_inside fQ_outside fQ_shut iQ_rows iQ_allRows iQ_columns ++ (WW nW hw lw kw wl wb wG)) U.heap ∧ va_K (dC, dI) vwCl (tQ kQ ++ (tW kw)) U ∧ va_D (fun _ => True) (WQ hQ aQ kQ hw fQ_inside fQ_outside fQ_shut iQ_rows iQ_allRows iQ_columns ++ (WW nW hw lw kw wl wb wG)))) (va_Qi (fun (r : Int32) (u : Unit) => ((-1) ≤ r.toInt ∧ r.toInt ≤ 40) ∧ (r.toInt ≤ iQ_columns.toInt)) (fun (u : Unit) t => va_P (dC, dI) vwCl (WQ hQ aQ kQ hw fQ_inside fQ_outside fQ_shut iQ_rows iQ_allRows iQ_columns ++ (WW nW hw lw kw wl wb wG)) t.heap ∧ va_D (va_A (WQ hQ aQ kQ hw fQ_inside fQ_outside fQ_shut iQ_rows iQ_allRows iQ_columns ++ (WW nW hw lw kw wl wb wG)) sz) (WQ hQ aQ kQ hw fQ_inside fQ_outside fQ_shut iQ_rows iQ_allRows iQ_columns ++ (WW nW hw lw kw wl wb wG))) (va_A (WQ hQ aQ kQ hw fQ_inside fQ_outside fQ_shut iQ_rows iQ_allRows iQ_columns ++ (WW nW hw lw kw wl wb wG)) sz)) 0 0 (va_A (WQ hQ aQ kQ hw fQ_inside fQ_outside fQ_shut iQ_rows iQ_allRows iQ_columns ++ (WW nW hw lw kw wl wb wG)) sz) := by
  refine Met.ofW (cc := cX6_columnOfSign) (maxL := 7) (ret := (some .int)) (by decide) rfl ?_
  intro p e s m args below meth c s₁ B hml hv
  obtain ⟨rfl, hsz, hP, hK, hD0⟩ := hv
  have hx := B.exec
  have hb := B.bytes
  have hr := B.returns
  have hts := atoms_spec (ws := wsMX6_columnOfSign) B.pre
  have hown : s.vm.findClass RX6 = some m.cls := findClass_of_methodNamed B.named
  have hlocks := B.notSynchronized
  subst hsz
  have hD := hD0.self (sz := s.heap.size)
  generalize hAe : va_A (WQ hQ aQ kQ hw fQ_inside fQ_outside fQ_shut iQ_rows iQ_allRows iQ_columns ++ (WW nW hw lw kw wl wb wG)) s.heap.size = A at hD ⊢
  have hA : ∀ q : Nat, s.heap.size ≤ q → A q := fun q h => by rw [← hAe]; exact Or.inr h
  have hS : va_S A s.heap s.heap [] := va_S.rf
  have hl := lv_entry ([.ref (hQ 0), .int p1, .int p2, .int p3]) (n := 7) (Nat.le_of_ble_eq_true rfl)
  rw [lg_entry_eq]
  generalize (lg_sl ([.ref (hQ 0), .int p1, .int p2, .int p3]) ++ List.replicate (7 - (lg_sl ([.ref (hQ 0), .int p1, .int p2, .int p3])).length) Slot.unset).toArray = ls at hl ⊢
  have hl : lv_has ls 7 [(0, .ref (hQ 0)), (1, .int p1), (2, .int p2), (3, .int p3)] := hl
  have hTb := b_tb.1
  refine lv_iconst (v := (-1)) hx hb dX6_columnOfSign_0 (by decide) ?_
  refine lv_istore hx hb dX6_columnOfSign_1 hl (by decide) rfl (fun ls (hl : lv_has ls _ ([(4, .int (-1)), (0, .ref (hQ 0)), (1, .int p1), (2, .int p2), (3, .int p3)])) => ?_)
  refine lv_iconst (v := 1) hx hb dX6_columnOfSign_3 (by decide) ?_
  refine lv_istore hx hb dX6_columnOfSign_4 hl (by decide) rfl (fun ls (hl : lv_has ls _ ([(5, .int 1), (4, .int (-1)), (0, .ref (hQ 0)), (1, .int p1), (2, .int p2), (3, .int p3)])) => ?_)
  have hl : lv_has _ _ ([(5, .int 1), (4, .int (-1)), (0, .ref (hQ 0)), (1, .int p1), (2, .int p2), (3, .int p3)]) := lv_sub hl [0, 1, 2, 3, 4, 5] rfl
  refine (fun (loop : ∀ (n9 : Nat) (l5_x6 : Int32) (l4_x6 : Int32) (H : Heap) (locs : List Loc) (ls : Array Slot), (1 ≤ l5_x6.toInt ∧ l5_x6.toInt ≤ 41) → ((-1) ≤ l4_x6.toInt ∧ l4_x6.toInt ≤ 40) → (l4_x6.toInt ≤ iQ_columns.toInt) → (41 - l5_x6.toInt < ((n9 : Nat) : Int)) → va_P (dC, dI) vwCl (WQ hQ aQ kQ hw fQ_inside fQ_outside fQ_shut iQ_rows iQ_allRows iQ_columns ++ (WW nW hw lw kw wl wb wG)) H → va_D A (WQ hQ aQ kQ hw fQ_inside fQ_outside fQ_shut iQ_rows iQ_allRows iQ_columns ++ (WW nW hw lw kw wl wb wG)) → va_S A s.heap H locs → lv_has ls 7 [(5, .int l5_x6), (4, .int l4_x6), (0, .ref (hQ 0)), (1, .int p1), (2, .int p2), (3, .int p3)] → W p l e _ s m _ below meth c H locs 0 0 _ (F0 m 6 ls [])) => loop (41) 1 (-1) _ _ _ (show 1 ≤ (1 : Int32).toInt ∧ (1 : Int32).toInt ≤ 41 from by decide) (show (-1) ≤ ((-1) : Int32).toInt ∧ ((-1) : Int32).toInt ≤ 40 from by decide) (show ((-1) : Int32).toInt ≤ iQ_columns.toInt from by first | assumption | omega | (have h9 : ((-1) : Int32).toInt = -1 := (by decide); omega)) ((by have e9 : (1 : Int32).toInt = 1 := (by decide : (1 : Int32).toInt = 1); omega)) hP hD hS hl) ?_
  intro n9
  induction n9 with
  | zero => intro l5_x6 l4_x6 H locs ls b_l5_x6 b_l4_x6 hfr hf9; exact False.elim (by omega)
  | succ n9 ihx6 =>
    intro l5_x6 l4_x6 H locs ls b_l5_x6 b_l4_x6 hfr hfx6 hP hD hS hl
    refine lv_iload hx hb dX6_columnOfSign_6 (lv_at hl 0 rfl) ?_
    refine lv_aload_n hx hb dX6_columnOfSign_8 rfl (lv_at hl 2 rfl) ?_
    refine va_get (D := (dC, dI)) (ci := 6) (v := .int iQ_columns) (C := RX6) (T := TX6) (N := 13) hx hb hts iwsMX6_columnOfSign_in6 hown hK hP 0 rfl rfl 7 (by decide) (hts (.fieldLink RX6 54 "OptimaWorks$Tableau" "columns" "I") (by decide +kernel)) (fun _ h9 => h9) rfl dX6_columnOfSign_9 ?_
    refine lv_icmp_gt (tgt := 98) hx hb dX6_columnOfSign_12 (by decide) (fun c_12 => ?_) (fun c_12 => ?_)
    · have t_12 : l5_x6.toInt > iQ_columns.toInt := toI_gt c_12 rfl rfl
      refine lv_iload hx hb dX6_columnOfSign_98 (lv_at hl 1 rfl) ?_
      refine W.widen (k := 0) (n := 0) (by decide +kernel) (by decide +kernel) ?_
      exact W.iret (v := l4_x6) hx hb hr (fun t9_ ht hW => ⟨⟨l4_x6, (), rfl, ⟨(b_l4_x6), (by (try dsimp only); exact (hfr))⟩, by rw [ht]; exact hP, hD⟩, hS.F ht⟩) hS.2.2 dX6_columnOfSign_100
    · have t_12 : ¬ l5_x6.toInt > iQ_columns.toInt := toI_ngt c_12 rfl rfl
      refine lv_aload_n hx hb dX6_columnOfSign_15 rfl (lv_at hl 2 rfl) ?_
      refine lv_iload_n hx hb dX6_columnOfSign_16 rfl (lv_at hl 3 rfl) ?_
      refine lv_iload hx hb dX6_columnOfSign_17 (lv_at hl 0 rfl) ?_
      have hFc := allFree hD hS hA
      refine va_callr (va_runV (As := [.int p1, .int l5_x6]) (rest := []) ⟨hx, hb, hml, hown, hts⟩ (m_X6_cellAt l dC dI hQ aQ kQ hw fQ_inside fQ_outside fQ_shut iQ_rows iQ_allRows iQ_columns nW lw kw wl wb wG p1 l5_x6 (b_iQ_rows) (b_iQ_allRows) (b_iQ_columns) (by first | assumption | omega) b_wl b_wb (b_p1) (by first | exact b_l5_x6 | assumption | exact ⟨by omega, by omega⟩) (by first | assumption | omega | (rw [iI_t (by omega) (by omega)]; omega) | decide) (hrow.ix (by omega) (by omega)) H.size) (cwV 2 hts gwsMX6_columnOfSign_0 rfl rfl rfl hd_yX6_cellAt_RX6 (by decide +kernel)) (fz_pre (va_recv hK hP (ci := 6) (q0 := 0) rfl rfl) hP hK hD) rfl rfl hl.1 rfl (lv_room (Nat.le_of_ble_eq_true rfl)) dX6_columnOfSign_19 (by decide +kernel)) hS (fun q _ h => hFc q h) hFc (fun u ra45 t9_ H locs ht hvm hw9 hB9 hz1 hk1 hS => ?_)
      obtain ⟨kR_45, hwit45⟩ : ∃ w9, w9 = u := ⟨u, rfl⟩
      subst hwit45
      obtain ⟨hra, hB9⟩ := hB9
      subst hra
      have f45_0 := hw9
      try dsimp only at f45_0
      have hP : va_P (dC, dI) vwCl (WQ hQ aQ kQ hw fQ_inside fQ_outside fQ_shut iQ_rows iQ_allRows iQ_columns ++ (WW nW hw lw kw wl wb wG)) H := fz_P ht hB9.1
      have hD : va_D A (WQ hQ aQ kQ hw fQ_inside fQ_outside fQ_shut iQ_rows iQ_allRows iQ_columns ++ (WW nW hw lw kw wl wb wG)) := hB9.2.weaken (fun _ q _ h => hFc q.1 h)
      refine lv_astore hx hb dX6_columnOfSign_22 hl (by decide) rfl (fun ls (hl : lv_has ls _ ([(6, .ref (hw kR_45)), (5, .int l5_x6), (4, .int l4_x6), (0, .ref (hQ 0)), (1, .int p1), (2, .int p2), (3, .int p3)])) => ?_)
      refine lv_aload_n hx hb dX6_columnOfSign_24 rfl (lv_at hl 3 rfl) ?_
      refine va_get (D := (dC, dI)) (ci := 6) (v := .ref (aQ 3)) (C := RX6) (T := TX6) (N := 13) hx hb hts iwsMX6_columnOfSign_in6 hown hK hP 0 rfl rfl 3 (by decide) (hts (.fieldLink RX6 24 "OptimaWorks$Tableau" "shut" "[Z") (by decide +kernel)) (fun _ h9 => h9) rfl dX6_columnOfSign_25 ?_
      refine lv_iload hx hb dX6_columnOfSign_28 (lv_at hl 1 rfl) ?_
      refine va_zald (cA := kQ 3) (n := 41) (f := fQ_shut) hx hb hK hP 4 3 rfl rfl (vp_in_iff.mpr ⟨(Int.le_trans (by decide) (b_l5_x6.1)), (by omega)⟩) dX6_columnOfSign_30 ?_
      refine lv_topi (fun v46 hv46 => ?_)
      clear hv46
      refine W.cut (pc := 92) (fun H locs ls stk => ∃ (l4_j12 : Int32), ((-1) ≤ l4_j12.toInt ∧ l4_j12.toInt ≤ 40) ∧ (l4_j12.toInt ≤ iQ_columns.toInt) ∧  stk = [] ∧ va_P (dC, dI) vwCl (WQ hQ aQ kQ hw fQ_inside fQ_outside fQ_shut iQ_rows iQ_allRows iQ_columns ++ (WW nW hw lw kw wl wb wG)) H ∧ va_D A (WQ hQ aQ kQ hw fQ_inside fQ_outside fQ_shut iQ_rows iQ_allRows iQ_columns ++ (WW nW hw lw kw wl wb wG)) ∧ va_S A s.heap H locs ∧ lv_has ls 7 [(6, .ref (hw kR_45)), (5, .int l5_x6), (4, .int l4_j12), (0, .ref (hQ 0)), (1, .int p1), (2, .int p2), (3, .int p3)]) (fun join12 => ?_) ?_
      · refine lv_if_ne (tgt := 92) hx hb dX6_columnOfSign_31 (by decide) (fun c_31 => ?_) (fun c_31 => ?_)
        · have t_31 : v46.toInt ≠ 0 := toI_ne c_31 rfl (by decide : (0 : Int32).toInt = 0)
          have hl : lv_has _ _ ([(6, .ref (hw kR_45)), (5, .int l5_x6), (4, .int l4_x6), (0, .ref (hQ 0)), (1, .int p1), (2, .int p2), (3, .int p3)]) := lv_sub hl [0, 1, 2, 3, 4, 5, 6] rfl
          exact join12 _ _ _ _ ⟨l4_x6, (b_l4_x6), (show l4_x6.toInt ≤ iQ_columns.toInt from by first | assumption | omega | (have h9 : ((-1) : Int32).toInt = -1 := (by decide); omega)), rfl, hP, hD, hS, hl⟩
        · have t_31 : v46.toInt = 0 := toI_nne c_31 rfl (by decide : (0 : Int32).toInt = 0)
          refine lv_aload hx hb dX6_columnOfSign_34 (lv_at hl 0 rfl) ?_
          have p9 : List.Perm (WQ hQ aQ kQ hw fQ_inside fQ_outside fQ_shut iQ_rows iQ_allRows iQ_columns ++ (WW nW hw lw kw wl wb wG)) ((WW nW hw lw kw wl wb wG) ++ (WQ hQ aQ kQ hw fQ_inside fQ_outside fQ_shut iQ_rows iQ_allRows iQ_columns)) := (List.perm_append_comm)
          have hPc := hP.mem (fun q h => p9.mem_iff.mpr (List.mem_append_left _ h))
          have hDc := (hD.perm p9).left
          have hKc : va_K (dC, dI) vwCl (tW kw) _ := hK.sub [4] rfl
          have hFc := freeG p9 hD hS hA
          refine va_calli (va_runV (As := []) (rest := []) ⟨hx, hb, hml, hown, hts⟩ (m_X8_sign l dC dI nW hw lw kw wl wb wG kR_45 b_wl b_wb (by first | assumption | omega | (rw [iI_t (by omega) (by omega)]; omega) | decide) H.size) (cwV 0 hts gwsMX6_columnOfSign_1 rfl rfl rfl hd_yX8_sign_RX8 (by decide +kernel)) (fz_pre (va_recv hK hP (ci := 8) (q0 := 5 + (kR_45)) rfl (apR rfl (WW_o (by omega)))) hPc hKc hDc) rfl rfl hl.1 rfl (lv_room (Nat.le_of_ble_eq_true rfl)) dX6_columnOfSign_36 (by decide +kernel)) hS (fun q _ h => hFc q h) hFc (fun r52 u t9_ H locs ht hvm hw9 hB9 hz1 hk1 hS => ?_)
          have b_r52 := hw9
          try dsimp only at b_r52
          have p8 : List.Perm (WQ hQ aQ kQ hw fQ_inside fQ_outside fQ_shut iQ_rows iQ_allRows iQ_columns ++ (WW nW hw lw kw wl wb wG)) ((WW nW hw lw kw wl wb wG) ++ (WQ hQ aQ kQ hw fQ_inside fQ_outside fQ_shut iQ_rows iQ_allRows iQ_columns)) := (List.perm_append_comm)
          obtain ⟨hP, hD⟩ := frameG p9 p8 hP hD hk1 hFc (fz_P ht hB9.1) hB9.2
          have hP : va_P (dC, dI) vwCl (WQ hQ aQ kQ hw fQ_inside fQ_outside fQ_shut iQ_rows iQ_allRows iQ_columns ++ (WW nW hw lw kw wl wb wG)) H := hP
          have hD : va_D A (WQ hQ aQ kQ hw fQ_inside fQ_outside fQ_shut iQ_rows iQ_allRows iQ_columns ++ (WW nW hw lw kw wl wb wG)) := hD
          refine lv_iload_n hx hb dX6_columnOfSign_39 rfl (lv_at hl 5 rfl) ?_
          refine lv_icmp_ne (tgt := 92) hx hb dX6_columnOfSign_40 (by decide) (fun c_40 => ?_) (fun c_40 => ?_)
          · have t_40 : r52.toInt ≠ p2.toInt := toI_ne c_40 rfl rfl
            have hl : lv_has _ _ ([(6, .ref (hw kR_45)), (5, .int l5_x6), (4, .int l4_x6), (0, .ref (hQ 0)), (1, .int p1), (2, .int p2), (3, .int p3)]) := lv_sub hl [0, 1, 2, 3, 4, 5, 6] rfl
            exact join12 _ _ _ _ ⟨l4_x6, (b_l4_x6), (show l4_x6.toInt ≤ iQ_columns.toInt from by first | assumption | omega | (have h9 : ((-1) : Int32).toInt = -1 := (by decide); omega)), rfl, hP, hD, hS, hl⟩
          · have t_40 : r52.toInt = p2.toInt := toI_nne c_40 rfl rfl
            refine lv_iload hx hb dX6_columnOfSign_43 (lv_at hl 2 rfl) ?_
            refine lv_iconst (v := (-1)) hx hb dX6_columnOfSign_45 (by decide) ?_
            refine lv_icmp_eq (tgt := 88) hx hb dX6_columnOfSign_46 (by decide) (fun c_46 => ?_) (fun c_46 => ?_)
            · have t_46 : l4_x6.toInt = (-1) := toI_eq c_46 rfl (by decide : ((-1) : Int32).toInt = (-1))
              refine lv_iload hx hb dX6_columnOfSign_88 (lv_at hl 1 rfl) ?_
              refine lv_istore hx hb dX6_columnOfSign_90 hl (by decide) rfl (fun ls (hl : lv_has ls _ ([(4, .int l5_x6), (6, .ref (hw kR_45)), (5, .int l5_x6), (0, .ref (hQ 0)), (1, .int p1), (2, .int p2), (3, .int p3)])) => ?_)
              have hl : lv_has _ _ ([(6, .ref (hw kR_45)), (5, .int l5_x6), (4, .int l5_x6), (0, .ref (hQ 0)), (1, .int p1), (2, .int p2), (3, .int p3)]) := lv_sub hl [1, 2, 0, 3, 4, 5, 6] rfl
              exact join12 _ _ _ _ ⟨l5_x6, (by first | exact b_l5_x6 | assumption | exact ⟨by omega, by omega⟩), (show l5_x6.toInt ≤ iQ_columns.toInt from by first | assumption | omega | (have h9 : ((-1) : Int32).toInt = -1 := (by decide); omega)), rfl, hP, hD, hS, hl⟩
            · have t_46 : ¬ l4_x6.toInt = (-1) := toI_neq c_46 rfl (by decide : ((-1) : Int32).toInt = (-1))
              refine lv_iload_n hx hb dX6_columnOfSign_49 rfl (lv_at hl 6 rfl) ?_
              refine lv_if_eq (tgt := 71) hx hb dX6_columnOfSign_50 (by decide) (fun c_50 => ?_) (fun c_50 => ?_)
              · have t_50 : p3.toInt = 0 := toI_eq c_50 rfl (by decide : (0 : Int32).toInt = 0)
                refine lv_aload_n hx hb dX6_columnOfSign_71 rfl (lv_at hl 3 rfl) ?_
                refine va_get (D := (dC, dI)) (ci := 6) (v := .ref (aQ 2)) (C := RX6) (T := TX6) (N := 13) hx hb hts iwsMX6_columnOfSign_in6 hown hK hP 0 rfl rfl 2 (by decide) (hts (.fieldLink RX6 21 "OptimaWorks$Tableau" "outside" "[I") (by decide +kernel)) (fun _ h9 => h9) rfl dX6_columnOfSign_72 ?_
                refine lv_iload hx hb dX6_columnOfSign_75 (lv_at hl 1 rfl) ?_
                refine va_iald (cA := kQ 2) (n := 41) (f := fQ_outside) hx hb hK hP 3 2 rfl rfl (vp_in_iff.mpr ⟨(Int.le_trans (by decide) (b_l5_x6.1)), (by omega)⟩) dX6_columnOfSign_77 ?_
                refine lv_topi (fun v53 hv53 => ?_)
                clear hv53
                refine lv_aload_n hx hb dX6_columnOfSign_78 rfl (lv_at hl 3 rfl) ?_
                refine va_get (D := (dC, dI)) (ci := 6) (v := .ref (aQ 2)) (C := RX6) (T := TX6) (N := 13) hx hb hts iwsMX6_columnOfSign_in6 hown hK hP 0 rfl rfl 2 (by decide) (hts (.fieldLink RX6 21 "OptimaWorks$Tableau" "outside" "[I") (by decide +kernel)) (fun _ h9 => h9) rfl dX6_columnOfSign_79 ?_
                refine lv_iload hx hb dX6_columnOfSign_82 (lv_at hl 2 rfl) ?_
                refine va_iald (cA := kQ 2) (n := 41) (f := fQ_outside) hx hb hK hP 3 2 rfl rfl (vp_in_iff.mpr ⟨(by omega), (Int.lt_of_le_of_lt (b_l4_x6.2) (by decide))⟩) dX6_columnOfSign_84 ?_
                refine lv_topi (fun v54 hv54 => ?_)
                clear hv54
                refine lv_icmp_ge (tgt := 92) hx hb dX6_columnOfSign_85 (by decide) (fun c_85 => ?_) (fun c_85 => ?_)
                · have t_85 : v53.toInt ≥ v54.toInt := toI_ge c_85 rfl rfl
                  have hl : lv_has _ _ ([(6, .ref (hw kR_45)), (5, .int l5_x6), (4, .int l4_x6), (0, .ref (hQ 0)), (1, .int p1), (2, .int p2), (3, .int p3)]) := lv_sub hl [0, 1, 2, 3, 4, 5, 6] rfl
                  exact join12 _ _ _ _ ⟨l4_x6, (b_l4_x6), (show l4_x6.toInt ≤ iQ_columns.toInt from by first | assumption | omega | (have h9 : ((-1) : Int32).toInt = -1 := (by decide); omega)), rfl, hP, hD, hS, hl⟩
                · have t_85 : ¬ v53.toInt ≥ v54.toInt := toI_nge c_85 rfl rfl
                  refine lv_iload hx hb dX6_columnOfSign_88 (lv_at hl 1 rfl) ?_
                  refine lv_istore hx hb dX6_columnOfSign_90 hl (by decide) rfl (fun ls (hl : lv_has ls _ ([(4, .int l5_x6), (6, .ref (hw kR_45)), (5, .int l5_x6), (0, .ref (hQ 0)), (1, .int p1), (2, .int p2), (3, .int p3)])) => ?_)
                  have hl : lv_has _ _ ([(6, .ref (hw kR_45)), (5, .int l5_x6), (4, .int l5_x6), (0, .ref (hQ 0)), (1, .int p1), (2, .int p2), (3, .int p3)]) := lv_sub hl [1, 2, 0, 3, 4, 5, 6] rfl
                  exact join12 _ _ _ _ ⟨l5_x6, (by first | exact b_l5_x6 | assumption | exact ⟨by omega, by omega⟩), (show l5_x6.toInt ≤ iQ_columns.toInt from by first | assumption | omega | (have h9 : ((-1) : Int32).toInt = -1 := (by decide); omega)), rfl, hP, hD, hS, hl⟩
              · have t_50 : ¬ p3.toInt = 0 := toI_neq c_50 rfl (by decide : (0 : Int32).toInt = 0)
                refine lv_aload hx hb dX6_columnOfSign_53 (lv_at hl 0 rfl) ?_
                refine lv_aload_n hx hb dX6_columnOfSign_55 rfl (lv_at hl 3 rfl) ?_
                refine lv_iload_n hx hb dX6_columnOfSign_56 rfl (lv_at hl 4 rfl) ?_
                refine lv_iload hx hb dX6_columnOfSign_57 (lv_at hl 2 rfl) ?_
                have hFc := allFree hD hS hA
                refine va_callr (va_runV (As := [.int p1, .int l4_x6]) (rest := [.ref (hw kR_45)]) ⟨hx, hb, hml, hown, hts⟩ (m_X6_cellAt l dC dI hQ aQ kQ hw fQ_inside fQ_outside fQ_shut iQ_rows iQ_allRows iQ_columns nW lw kw wl wb wG p1 l4_x6 (b_iQ_rows) (b_iQ_allRows) (b_iQ_columns) (by first | assumption | omega) b_wl b_wb (b_p1) (by first | exact b_l4_x6 | assumption | exact ⟨by omega, by omega⟩) (by first | assumption | omega | (rw [iI_t (by omega) (by omega)]; omega) | decide) (hrow.ix (by omega) (by omega)) H.size) (cwV 2 hts gwsMX6_columnOfSign_0 rfl rfl rfl hd_yX6_cellAt_RX6 (by decide +kernel)) (fz_pre (va_recv hK hP (ci := 6) (q0 := 0) rfl rfl) hP hK hD) rfl rfl hl.1 rfl (lv_room (Nat.le_of_ble_eq_true rfl)) dX6_columnOfSign_59 (by decide +kernel)) hS (fun q _ h => hFc q h) hFc (fun u ra55 t9_ H locs ht hvm hw9 hB9 hz1 hk1 hS => ?_)
                obtain ⟨kR_55, hwit55⟩ : ∃ w9, w9 = u := ⟨u, rfl⟩
                subst hwit55
                obtain ⟨hra, hB9⟩ := hB9
                subst hra
                have f55_0 := hw9
                try dsimp only at f55_0
                have hP : va_P (dC, dI) vwCl (WQ hQ aQ kQ hw fQ_inside fQ_outside fQ_shut iQ_rows iQ_allRows iQ_columns ++ (WW nW hw lw kw wl wb wG)) H := fz_P ht hB9.1
                have hD : va_D A (WQ hQ aQ kQ hw fQ_inside fQ_outside fQ_shut iQ_rows iQ_allRows iQ_columns ++ (WW nW hw lw kw wl wb wG)) := hB9.2.weaken (fun _ q _ h => hFc q.1 h)
                have p9 : List.Perm (WQ hQ aQ kQ hw fQ_inside fQ_outside fQ_shut iQ_rows iQ_allRows iQ_columns ++ (WW nW hw lw kw wl wb wG)) ((WW nW hw lw kw wl wb wG) ++ (WQ hQ aQ kQ hw fQ_inside fQ_outside fQ_shut iQ_rows iQ_allRows iQ_columns)) := (List.perm_append_comm)
                have hPc := hP.mem (fun q h => p9.mem_iff.mpr (List.mem_append_left _ h))
                have hDc := (hD.perm p9).left
                have hKc : va_K (dC, dI) vwCl (tW kw) _ := hK.sub [4] rfl
                have hFc := freeG p9 hD hS hA
                refine va_calli (va_runV (As := [.ref (hw kR_55)]) (rest := []) ⟨hx, hb, hml, hown, hts⟩ (m_X8_compareSize l dC dI nW hw lw kw wl wb wG kR_45 kR_55 b_wl b_wb (by first | assumption | omega | (rw [iI_t (by omega) (by omega)]; omega) | decide) (by first | assumption | omega | (rw [iI_t (by omega) (by omega)]; omega) | decide) H.size) (cwV 1 hts gwsMX6_columnOfSign_2 rfl rfl rfl hd_yX8_compareSize_RX8 (by decide +kernel)) (fz_pre (va_recv hK hP (ci := 8) (q0 := 5 + (kR_45)) rfl (apR rfl (WW_o (by omega)))) hPc hKc hDc) rfl rfl hl.1 rfl (lv_room (Nat.le_of_ble_eq_true rfl)) dX6_columnOfSign_62 (by decide +kernel)) hS (fun q _ h => hFc q h) hFc (fun r56 u t9_ H locs ht hvm hw9 hB9 hz1 hk1 hS => ?_)
                have b_r56 := hw9
                try dsimp only at b_r56
                have p8 : List.Perm (WQ hQ aQ kQ hw fQ_inside fQ_outside fQ_shut iQ_rows iQ_allRows iQ_columns ++ (WW nW hw lw kw wl wb wG)) ((WW nW hw lw kw wl wb wG) ++ (WQ hQ aQ kQ hw fQ_inside fQ_outside fQ_shut iQ_rows iQ_allRows iQ_columns)) := (List.perm_append_comm)
                obtain ⟨hP, hD⟩ := frameG p9 p8 hP hD hk1 hFc (fz_P ht hB9.1) hB9.2
                have hP : va_P (dC, dI) vwCl (WQ hQ aQ kQ hw fQ_inside fQ_outside fQ_shut iQ_rows iQ_allRows iQ_columns ++ (WW nW hw lw kw wl wb wG)) H := hP
                have hD : va_D A (WQ hQ aQ kQ hw fQ_inside fQ_outside fQ_shut iQ_rows iQ_allRows iQ_columns ++ (WW nW hw lw kw wl wb wG)) := hD
                refine lv_if_le (tgt := 92) hx hb dX6_columnOfSign_65 (by decide) (fun c_65 => ?_) (fun c_65 => ?_)
                · have t_65 : r56.toInt ≤ 0 := toI_le c_65 rfl (by decide : (0 : Int32).toInt = 0)
                  have hl : lv_has _ _ ([(6, .ref (hw kR_45)), (5, .int l5_x6), (4, .int l4_x6), (0, .ref (hQ 0)), (1, .int p1), (2, .int p2), (3, .int p3)]) := lv_sub hl [0, 1, 2, 3, 4, 5, 6] rfl
                  exact join12 _ _ _ _ ⟨l4_x6, (b_l4_x6), (show l4_x6.toInt ≤ iQ_columns.toInt from by first | assumption | omega | (have h9 : ((-1) : Int32).toInt = -1 := (by decide); omega)), rfl, hP, hD, hS, hl⟩
                · have t_65 : ¬ r56.toInt ≤ 0 := toI_nle c_65 rfl (by decide : (0 : Int32).toInt = 0)
                  refine lv_goto (tgt := 88) hx hb dX6_columnOfSign_68 (by decide) ?_
                  refine lv_iload hx hb dX6_columnOfSign_88 (lv_at hl 1 rfl) ?_
                  refine lv_istore hx hb dX6_columnOfSign_90 hl (by decide) rfl (fun ls (hl : lv_has ls _ ([(4, .int l5_x6), (6, .ref (hw kR_45)), (5, .int l5_x6), (0, .ref (hQ 0)), (1, .int p1), (2, .int p2), (3, .int p3)])) => ?_)
                  have hl : lv_has _ _ ([(6, .ref (hw kR_45)), (5, .int l5_x6), (4, .int l5_x6), (0, .ref (hQ 0)), (1, .int p1), (2, .int p2), (3, .int p3)]) := lv_sub hl [1, 2, 0, 3, 4, 5, 6] rfl
                  exact join12 _ _ _ _ ⟨l5_x6, (by first | exact b_l5_x6 | assumption | exact ⟨by omega, by omega⟩), (show l5_x6.toInt ≤ iQ_columns.toInt from by first | assumption | omega | (have h9 : ((-1) : Int32).toInt = -1 := (by decide); omega)), rfl, hP, hD, hS, hl⟩
      · rintro H locs ls stk ⟨l4_j12, b_l4_j12, hfj, rfl, hP, hD, hS, hl⟩
        refine lv_iinc (v := (iI (l5_x6.toInt + 1))) hx hb dX6_columnOfSign_92 hl (k := 1) rfl (iI_add2 (iI_of _) (by decide : (1 : Int32) = iI 1)) (by decide) rfl (fun ls (hl : lv_has ls _ ([(5, .int (iI (l5_x6.toInt + 1))), (6, .ref (hw kR_45)), (4, .int l4_j12), (0, .ref (hQ 0)), (1, .int p1), (2, .int p2), (3, .int p3)])) => ?_)
        refine lv_goto (tgt := 6) hx hb dX6_columnOfSign_95 (by decide) ?_
        have hl : lv_has _ _ ([(5, .int (iI (l5_x6.toInt + 1))), (4, .int l4_j12), (0, .ref (hQ 0)), (1, .int p1), (2, .int p2), (3, .int p3)]) := lv_sub hl [0, 2, 3, 4, 5, 6] rfl
        exact ihx6 (iI (l5_x6.toInt + 1)) l4_j12 _ _ _ (iI_rng (Int.le_trans (by decide) (Int.add_le_add (b_l5_x6.1) (Int.le_refl _))) (by omega) (by decide) (by decide)) (b_l4_j12) (show l4_j12.toInt ≤ iQ_columns.toInt from by first | assumption | omega | (have h9 : ((-1) : Int32).toInt = -1 := (by decide); omega)) (by have e9 : ((iI (l5_x6.toInt + 1))).toInt = (l5_x6.toInt + 1) := (iI_t (Int.le_trans (by decide) (Int.add_le_add (b_l5_x6.1) (Int.le_refl _))) (Int.le_trans (Int.add_le_add (b_l5_x6.2) (Int.le_refl _)) (by decide))); omega) hP hD hS hl

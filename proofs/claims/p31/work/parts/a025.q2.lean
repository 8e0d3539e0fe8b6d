theorem hd_yX6_columnOf_RX6 : yX6_columnOf.cls = RX6 ∧ yX6_columnOf.cls ≠ "java/lang/invoke/MethodHandle" ∧ yX6_columnOf.cls ≠ "java/lang/invoke/VarHandle" ∧ (parseMethodDescriptor yX6_columnOf.desc).map (fun d => d.parameters.length) = some 1 := by decide +kernel
theorem hd_yX8_setProduct_RX8 : yX8_setProduct.cls = RX8 ∧ yX8_setProduct.cls ≠ "java/lang/invoke/MethodHandle" ∧ yX8_setProduct.cls ≠ "java/lang/invoke/VarHandle" ∧ (parseMethodDescriptor yX8_setProduct.desc).map (fun d => d.parameters.length) = some 2 := by decide +kernel
theorem hd_yX8_negate_RX8 : yX8_negate.cls = RX8 ∧ yX8_negate.cls ≠ "java/lang/invoke/MethodHandle" ∧ yX8_negate.cls ≠ "java/lang/invoke/VarHandle" ∧ (parseMethodDescriptor yX8_negate.desc).map (fun d => d.parameters.length) = some 0 := by decide +kernel
theorem hd_yX8_add_RX8 : yX8_add.cls = RX8 ∧ yX8_add.cls ≠ "java/lang/invoke/MethodHandle" ∧ yX8_add.cls ≠ "java/lang/invoke/VarHandle" ∧ (parseMethodDescriptor yX8_add.desc).map (fun d => d.parameters.length) = some 1 := by decide +kernel
theorem hd_yX6_compareRoom_RX6 : yX6_compareRoom.cls = RX6 ∧ yX6_compareRoom.cls ≠ "java/lang/invoke/MethodHandle" ∧ yX6_compareRoom.cls ≠ "java/lang/invoke/VarHandle" ∧ (parseMethodDescriptor yX6_compareRoom.desc).map (fun d => d.parameters.length) = some 3 := by decide +kernel
theorem hd_yX8_isSmall_RX8 : yX8_isSmall.cls = RX8 ∧ yX8_isSmall.cls ≠ "java/lang/invoke/MethodHandle" ∧ yX8_isSmall.cls ≠ "java/lang/invoke/VarHandle" ∧ (parseMethodDescriptor yX8_isSmall.desc).map (fun d => d.parameters.length) = some 0 := by decide +kernel
theorem hd_yX8_divide_RX8 : yX8_divide.cls = RX8 ∧ yX8_divide.cls ≠ "java/lang/invoke/MethodHandle" ∧ yX8_divide.cls ≠ "java/lang/invoke/VarHandle" ∧ (parseMethodDescriptor yX8_divide.desc).map (fun d => d.parameters.length) = some 3 := by decide +kernel
theorem hd_yX8_small_RX8 : yX8_small.cls = RX8 ∧ yX8_small.cls ≠ "java/lang/invoke/MethodHandle" ∧ yX8_small.cls ≠ "java/lang/invoke/VarHandle" ∧ (parseMethodDescriptor yX8_small.desc).map (fun d => d.parameters.length) = some 0 := by decide +kernel
theorem hd_yX6_changeCell_RX6 : yX6_changeCell.cls = RX6 ∧ yX6_changeCell.cls ≠ "java/lang/invoke/MethodHandle" ∧ yX6_changeCell.cls ≠ "java/lang/invoke/VarHandle" ∧ (parseMethodDescriptor yX6_changeCell.desc).map (fun d => d.parameters.length) = some 4 := by decide +kernel
theorem dX6_shutOutside_0 : decode cX6_shutOutside 0 = .ok (.aload_n 0, 1) := dk_42 (by decide +kernel)
theorem dX6_shutOutside_1 : decode cX6_shutOutside 1 = .ok (.iload_n 1, 1) := dk_27 (by decide +kernel)
theorem dX6_shutOutside_2 : decode cX6_shutOutside 2 = .ok (.invokevirtual 113, 3) := dk_182 (by decide +kernel)
theorem dX6_shutOutside_5 : decode cX6_shutOutside 5 = .ok (.istore_n 2, 1) := dk_61 (by decide +kernel)
theorem dX6_shutOutside_6 : decode cX6_shutOutside 6 = .ok (.iload_n 2, 1) := dk_28 (by decide +kernel)
theorem dX6_shutOutside_7 : decode cX6_shutOutside 7 = .ok (.iconst (-1), 1) := dk_2 (by decide +kernel)
theorem dX6_shutOutside_8 : decode cX6_shutOutside 8 = .ok (.if_icmp .eq 10, 3) := dk_159 (by decide +kernel)
theorem dX6_shutOutside_11 : decode cX6_shutOutside 11 = .ok (.aload_n 0, 1) := dk_42 (by decide +kernel)
theorem dX6_shutOutside_12 : decode cX6_shutOutside 12 = .ok (.getfield 24, 3) := dk_180 (by decide +kernel)
theorem dX6_shutOutside_15 : decode cX6_shutOutside 15 = .ok (.iload_n 2, 1) := dk_28 (by decide +kernel)
theorem dX6_shutOutside_16 : decode cX6_shutOutside 16 = .ok (.iconst 1, 1) := dk_4 (by decide +kernel)
theorem dX6_shutOutside_17 : decode cX6_shutOutside 17 = .ok (.bastore, 1) := dk_84 (by decide +kernel)
theorem dX6_shutOutside_18 : decode cX6_shutOutside 18 = .ok (.return_, 1) := dk_177 (by decide +kernel)
def wsMX6_shutOutside : List Cond := .code yX6_shutOutside cX6_shutOutside 3 none :: ([.fieldLink RX6 24 "OptimaWorks$Tableau" "shut" "[Z"] ++ wsX60 ++ (wsV RX6 113 RX6 yX6_columnOf wsMX6_columnOf))
theorem iwsMX6_shutOutside_in6 : ∀ w ∈ wsX60, w ∈ wsMX6_shutOutside := fun _ h => List.mem_cons_of_mem _ (List.mem_append_left _ (List.mem_append_right _ h))
theorem gwsMX6_shutOutside_0 : GoodIn wsMX6_shutOutside (wsV RX6 113 RX6 yX6_columnOf wsMX6_columnOf) := goodIn_sub (fun _ h => List.mem_cons_of_mem _ (List.mem_append_right _ h)) (gdV (by decide +kernel) gdwsMX6_columnOf)
theorem gdwsMX6_shutOutside : wsMX6_shutOutside.all goodWord = true := gdC rfl (gdA (gdA (by decide +kernel : ([.fieldLink RX6 24 "OptimaWorks$Tableau" "shut" "[Z"] : List Cond).all goodWord = true) gdwsX60) (gdV (by decide +kernel) gdwsMX6_columnOf))
set_option maxHeartbeats 4000000 in
set_option maxRecDepth 100000 in
/-- a variable is shut -/
theorem m_X6_shutOutside (l : Launch) (dC : Nat → ClassId) (dI : Nat → Nat → Nat) (hQ : Nat → Nat) (aQ : Nat → Nat) (kQ : Nat → ClassId) (hw : Nat → Nat) (fQ_inside : Nat → Int32) (fQ_outside : Nat → Int32) (fQ_shut : Nat → Int32) (iQ_rows : Int32) (iQ_allRows : Int32) (iQ_columns : Int32) (nW : Nat) (lw : Nat → Nat) (kw : ClassId) (wl : Nat → Int32) (wb : Nat → Int32) (wG : Nat → Nat → Int64) (p1 : Int32) (b_iQ_rows : 0 ≤ iQ_rows.toInt ∧ iQ_rows.toInt ≤ 40) (b_iQ_allRows : 0 ≤ iQ_allRows.toInt ∧ iQ_allRows.toInt ≤ 40) (b_iQ_columns : 0 ≤ iQ_columns.toInt ∧ iQ_columns.toInt ≤ 40) (b_tb : TbO iQ_rows iQ_allRows iQ_columns) (b_wl : ∀ q : Nat, 0 ≤ (wl q).toInt ∧ (wl q).toInt ≤ 14) (b_wb : ∀ q : Nat, 0 ≤ (wb q).toInt ∧ (wb q).toInt ≤ 1) (hnW : 406 ≤ nW) (sz : Nat) : Met l yX6_shutOutside wsMX6_shutOutside ({ frames := 1, cells := 0, slots := 0, locals := 22 }) (va_Pc [.ref (hQ 0), .int p1] (fun U => U.heap.size = sz ∧ va_P (dC, dI) vwCl (WQ hQ aQ kQ hw fQ_inside fQ_outside fQ_shut iQ_rows iQ_allRows iQ_columns ++ (WW nW hw lw kw wl wb wG)) U.heap ∧ va_K (dC, dI) vwCl (tQ kQ ++ (tW kw)) U ∧ va_D (fun _ => True) (WQ hQ aQ kQ hw fQ_inside fQ_outside fQ_shut iQ_rows iQ_allRows iQ_columns ++ (WW nW hw lw kw wl wb wG)))) (va_Qv (fun (u : Nat → Int32) => True) (fun (u : Nat → Int32) t => va_P (dC, dI) vwCl (WQ hQ aQ kQ hw fQ_inside fQ_outside u iQ_rows iQ_allRows iQ_columns ++ (WW nW hw lw kw wl wb wG)) t.heap ∧ va_D (va_A (WQ hQ aQ kQ hw fQ_inside fQ_outside fQ_shut iQ_rows iQ_allRows iQ_columns ++ (WW nW hw lw kw wl wb wG)) sz) (WQ hQ aQ kQ hw fQ_inside fQ_outside u iQ_rows iQ_allRows iQ_columns ++ (WW nW hw lw kw wl wb wG))) (va_A (WQ hQ aQ kQ hw fQ_inside fQ_outside fQ_shut iQ_rows iQ_allRows iQ_columns ++ (WW nW hw lw kw wl wb wG)) sz)) 0 0 (va_A (WQ hQ aQ kQ hw fQ_inside fQ_outside fQ_shut iQ_rows iQ_allRows iQ_columns ++ (WW nW hw lw kw wl wb wG)) sz) := by
  refine Met.ofW (cc := cX6_shutOutside) (maxL := 3) (ret := none) (by decide) rfl ?_
  intro p e s m args below meth c s₁ B hml hv
  obtain ⟨rfl, hsz, hP, hK, hD0⟩ := hv
  have hx := B.exec
  have hb := B.bytes
  have hr := B.returns
  have hts := atoms_spec (ws := wsMX6_shutOutside) B.pre
  have hown : s.vm.findClass RX6 = some m.cls := findClass_of_methodNamed B.named
  have hlocks := B.notSynchronized
  subst hsz
  have hD := hD0.self (sz := s.heap.size)
  generalize hAe : va_A (WQ hQ aQ kQ hw fQ_inside fQ_outside fQ_shut iQ_rows iQ_allRows iQ_columns ++ (WW nW hw lw kw wl wb wG)) s.heap.size = A at hD ⊢
  have hA : ∀ q : Nat, s.heap.size ≤ q → A q := fun q h => by rw [← hAe]; exact Or.inr h
  have hS : va_S A s.heap s.heap [] := va_S.rf
  have hl := lv_entry ([.ref (hQ 0), .int p1]) (n := 3) (Nat.le_of_ble_eq_true rfl)
  rw [lg_entry_eq]
  generalize (lg_sl ([.ref (hQ 0), .int p1]) ++ List.replicate (3 - (lg_sl ([.ref (hQ 0), .int p1])).length) Slot.unset).toArray = ls at hl ⊢
  have hl : lv_has ls 3 [(0, .ref (hQ 0)), (1, .int p1)] := hl
  have hTb := b_tb.1
  refine lv_aload_n hx hb dX6_shutOutside_0 rfl (lv_at hl 0 rfl) ?_
  refine lv_iload_n hx hb dX6_shutOutside_1 rfl (lv_at hl 1 rfl) ?_
  have hFc := allFree hD hS hA
  refine va_calli (va_runV (As := [.int p1]) (rest := []) ⟨hx, hb, hml, hown, hts⟩ (m_X6_columnOf l dC dI hQ aQ kQ hw fQ_inside fQ_outside fQ_shut iQ_rows iQ_allRows iQ_columns nW lw kw wl wb wG p1 (b_iQ_rows) (b_iQ_allRows) (b_iQ_columns) (by first | with_reducible assumption | omega | assumption) b_wl b_wb (by first | with_reducible assumption | omega | (rw [iI_t (by omega) (by omega)]; omega) | decide | assumption) s.heap.size) (cwV 1 hts gwsMX6_shutOutside_0 rfl rfl rfl hd_yX6_columnOf_RX6 (by decide +kernel)) (fz_pre (va_recv hK hP (ci := 6) (q0 := 0) rfl rfl) hP hK hD) rfl rfl hl.1 rfl (lv_room (Nat.le_of_ble_eq_true rfl)) dX6_shutOutside_2 (by decide +kernel)) hS (fun q _ h => hFc q h) hFc (fun r1 u t9_ H locs ht hvm hw9 hB9 hz1 hk1 hS => ?_)
  revert hw9
  refine fz_a2 ?_
  intro b_r1 f1_0
  have hP : va_P (dC, dI) vwCl (WQ hQ aQ kQ hw fQ_inside fQ_outside fQ_shut iQ_rows iQ_allRows iQ_columns ++ (WW nW hw lw kw wl wb wG)) H := fz_P ht hB9.1
  have hD : va_D A (WQ hQ aQ kQ hw fQ_inside fQ_outside fQ_shut iQ_rows iQ_allRows iQ_columns ++ (WW nW hw lw kw wl wb wG)) := hB9.2.weaken (fun _ q _ h => hFc q.1 h)
  refine lv_istore_n hx hb dX6_shutOutside_5 rfl hl (by decide) rfl (fun ls (hl : lv_has ls _ ([(2, .int r1), (0, .ref (hQ 0)), (1, .int p1)])) => ?_)
  refine lv_iload_n hx hb dX6_shutOutside_6 rfl (lv_at hl 0 rfl) ?_
  refine lv_iconst (v := (-1)) hx hb dX6_shutOutside_7 (by decide) ?_
  refine W.cut (pc := 18) (fun H locs ls stk => ∃ (fQ_shut_j2 : Nat → Int32),  stk = [] ∧ va_P (dC, dI) vwCl (WQ hQ aQ kQ hw fQ_inside fQ_outside fQ_shut_j2 iQ_rows iQ_allRows iQ_columns ++ (WW nW hw lw kw wl wb wG)) H ∧ va_D A (WQ hQ aQ kQ hw fQ_inside fQ_outside fQ_shut_j2 iQ_rows iQ_allRows iQ_columns ++ (WW nW hw lw kw wl wb wG)) ∧ va_S A s.heap H locs ∧ lv_has ls 3 [(2, .int r1), (0, .ref (hQ 0)), (1, .int p1)]) (fun join2 => ?_) ?_
  · refine lv_icmp_eq (tgt := 18) hx hb dX6_shutOutside_8 (by decide) (fun c_8 => ?_) (fun c_8 => ?_)
    · have t_8 : r1.toInt = (-1) := toI_eq c_8 rfl (by decide : ((-1) : Int32).toInt = (-1))
      have hl : lv_has _ _ ([(2, .int r1), (0, .ref (hQ 0)), (1, .int p1)]) := lv_sub hl [0, 1, 2] rfl
      exact join2 _ _ _ _ ⟨fQ_shut, rfl, hP, hD, hS, hl⟩
    · have t_8 : ¬ r1.toInt = (-1) := toI_neq c_8 rfl (by decide : ((-1) : Int32).toInt = (-1))
      refine lv_aload_n hx hb dX6_shutOutside_11 rfl (lv_at hl 1 rfl) ?_
      refine va_get (D := (dC, dI)) (ci := 6) (v := .ref (aQ 3)) (C := RX6) (T := TX6) (N := 13) hx hb hts iwsMX6_shutOutside_in6 hown hK hP 0 rfl rfl 3 (by decide) (hts (.fieldLink RX6 24 "OptimaWorks$Tableau" "shut" "[Z") (by decide +kernel)) (fun _ h9 => h9) rfl dX6_shutOutside_12 ?_
      refine lv_iload_n hx hb dX6_shutOutside_15 rfl (lv_at hl 0 rfl) ?_
      refine lv_iconst (v := 1) hx hb dX6_shutOutside_16 (by decide) ?_
      refine va_zast (cA := kQ 3) (n := 41) (f := fQ_shut) hx hb hK hP hD hS 4 3 rfl rfl (vp_in_iff.mpr ⟨(by omega), (by omega)⟩) dX6_shutOutside_17 (fun H locs hP hD hS => ?_)
      obtain ⟨u3, hu3⟩ : ∃ f9, f9 = upd fQ_shut (r1).toNatClampNeg (vp_nar FieldType.boolean (1 : Int32)) := ⟨_, rfl⟩
      have hP : va_P (dC, dI) vwCl (WQ hQ aQ kQ hw fQ_inside fQ_outside u3 iQ_rows iQ_allRows iQ_columns ++ (WW nW hw lw kw wl wb wG)) H := by rw [hu3]; exact hP
      have hD : va_D A (WQ hQ aQ kQ hw fQ_inside fQ_outside u3 iQ_rows iQ_allRows iQ_columns ++ (WW nW hw lw kw wl wb wG)) := by rw [hu3]; exact hD
      clear hu3
      have hl : lv_has _ _ ([(2, .int r1), (0, .ref (hQ 0)), (1, .int p1)]) := lv_sub hl [0, 1, 2] rfl
      exact join2 _ _ _ _ ⟨u3, rfl, hP, hD, hS, hl⟩
  · rintro H locs ls stk ⟨fQ_shut_j2, rfl, hP, hD, hS, hl⟩
    refine W.widen (k := 0) (n := 0) (by decide +kernel) (by decide +kernel) ?_
    exact W.vret hx hb hr (fun t9_ ht hW => ⟨⟨fQ_shut_j2, rfl, trivial, by rw [ht]; exact hP, hD⟩, hS.F ht⟩) hS.2.2 dX6_shutOutside_18
theorem dX6_shutWith_0 : decode cX6_shutWith 0 = .ok (.iconst 1, 1) := dk_4 (by decide +kernel)
theorem dX6_shutWith_1 : decode cX6_shutWith 1 = .ok (.istore_n 2, 1) := dk_61 (by decide +kernel)
theorem dX6_shutWith_2 : decode cX6_shutWith 2 = .ok (.iload_n 2, 1) := dk_28 (by decide +kernel)
theorem dX6_shutWith_3 : decode cX6_shutWith 3 = .ok (.aload_n 0, 1) := dk_42 (by decide +kernel)
theorem dX6_shutWith_4 : decode cX6_shutWith 4 = .ok (.getfield 54, 3) := dk_180 (by decide +kernel)
theorem dX6_shutWith_7 : decode cX6_shutWith 7 = .ok (.if_icmp .gt 37, 3) := dk_163 (by decide +kernel)
theorem dX6_shutWith_10 : decode cX6_shutWith 10 = .ok (.aload_n 0, 1) := dk_42 (by decide +kernel)
theorem dX6_shutWith_11 : decode cX6_shutWith 11 = .ok (.getfield 24, 3) := dk_180 (by decide +kernel)
theorem dX6_shutWith_14 : decode cX6_shutWith 14 = .ok (.iload_n 2, 1) := dk_28 (by decide +kernel)
theorem dX6_shutWith_15 : decode cX6_shutWith 15 = .ok (.baload, 1) := dk_51 (by decide +kernel)
theorem dX6_shutWith_16 : decode cX6_shutWith 16 = .ok (.ifCond .ne 22, 3) := dk_154 (by decide +kernel)
theorem dX6_shutWith_19 : decode cX6_shutWith 19 = .ok (.aload_n 0, 1) := dk_42 (by decide +kernel)
theorem dX6_shutWith_20 : decode cX6_shutWith 20 = .ok (.iload_n 1, 1) := dk_27 (by decide +kernel)
theorem dX6_shutWith_21 : decode cX6_shutWith 21 = .ok (.iload_n 2, 1) := dk_28 (by decide +kernel)
theorem dX6_shutWith_22 : decode cX6_shutWith 22 = .ok (.invokevirtual 72, 3) := dk_182 (by decide +kernel)
theorem dX6_shutWith_25 : decode cX6_shutWith 25 = .ok (.getfield 76, 3) := dk_180 (by decide +kernel)
theorem dX6_shutWith_28 : decode cX6_shutWith 28 = .ok (.ifCond .eq 10, 3) := dk_153 (by decide +kernel)
theorem dX6_shutWith_31 : decode cX6_shutWith 31 = .ok (.aload_n 0, 1) := dk_42 (by decide +kernel)
theorem dX6_shutWith_32 : decode cX6_shutWith 32 = .ok (.getfield 24, 3) := dk_180 (by decide +kernel)
theorem dX6_shutWith_35 : decode cX6_shutWith 35 = .ok (.iload_n 2, 1) := dk_28 (by decide +kernel)
theorem dX6_shutWith_36 : decode cX6_shutWith 36 = .ok (.iconst 1, 1) := dk_4 (by decide +kernel)
theorem dX6_shutWith_37 : decode cX6_shutWith 37 = .ok (.bastore, 1) := dk_84 (by decide +kernel)
theorem dX6_shutWith_38 : decode cX6_shutWith 38 = .ok (.iinc 2 1, 3) := dk_132 (by decide +kernel)
theorem dX6_shutWith_41 : decode cX6_shutWith 41 = .ok (.goto (-39), 3) := dk_167 (by decide +kernel)
theorem dX6_shutWith_44 : decode cX6_shutWith 44 = .ok (.return_, 1) := dk_177 (by decide +kernel)
def wsMX6_shutWith : List Cond := .code yX6_shutWith cX6_shutWith 3 none :: ([.fieldLink RX6 54 "OptimaWorks$Tableau" "columns" "I", .fieldLink RX6 24 "OptimaWorks$Tableau" "shut" "[Z", .fieldLink RX6 76 "OptimaWorks$Whole" "length" "I"] ++ wsX60 ++ wsX80 ++ (wsV RX6 72 RX6 yX6_cellAt wsMX6_cellAt))
theorem iwsMX6_shutWith_in6 : ∀ w ∈ wsX60, w ∈ wsMX6_shutWith := fun _ h => List.mem_cons_of_mem _ (List.mem_append_left _ (List.mem_append_left _ (List.mem_append_right _ h)))
theorem iwsMX6_shutWith_in8 : ∀ w ∈ wsX80, w ∈ wsMX6_shutWith := fun _ h => List.mem_cons_of_mem _ (List.mem_append_left _ (List.mem_append_right _ h))
theorem gwsMX6_shutWith_0 : GoodIn wsMX6_shutWith (wsV RX6 72 RX6 yX6_cellAt wsMX6_cellAt) := goodIn_sub (fun _ h => List.mem_cons_of_mem _ (List.mem_append_right _ h)) (gdV (by decide +kernel) gdwsMX6_cellAt)
theorem gdwsMX6_shutWith : wsMX6_shutWith.all goodWord = true := gdC rfl (gdA (gdA (gdA (by decide +kernel : ([.fieldLink RX6 54 "OptimaWorks$Tableau" "columns" "I", .fieldLink RX6 24 "OptimaWorks$Tableau" "shut" "[Z", .fieldLink RX6 76 "OptimaWorks$Whole" "length" "I"] : List Cond).all goodWord = true) gdwsX60) gdwsX80) (gdV (by decide +kernel) gdwsMX6_cellAt))
set_option maxHeartbeats 4000000 in
set_option maxRecDepth 100000 in
/-- columns with numbers are shut -/
theorem m_X6_shutWith (l : Launch) (dC : Nat → ClassId) (dI : Nat → Nat → Nat) (hQ : Nat → Nat) (aQ : Nat → Nat) (kQ : Nat → ClassId) (hw : Nat → Nat) (fQ_inside : Nat → Int32) (fQ_outside : Nat → Int32) (fQ_shut : Nat → Int32) (iQ_rows : Int32) (iQ_allRows : Int32) (iQ_columns : Int32) (nW : Nat) (lw : Nat → Nat) (kw : ClassId) (wl : Nat → Int32) (wb : Nat → Int32) (wG : Nat → Nat → Int64) (p1 : Int32) (b_iQ_rows : 0 ≤ iQ_rows.toInt ∧ iQ_rows.toInt ≤ 40) (b_iQ_allRows : 0 ≤ iQ_allRows.toInt ∧ iQ_allRows.toInt ≤ 40) (b_iQ_columns : 0 ≤ iQ_columns.toInt ∧ iQ_columns.toInt ≤ 40) (b_tb : TbO iQ_rows iQ_allRows iQ_columns) (b_wl : ∀ q : Nat, 0 ≤ (wl q).toInt ∧ (wl q).toInt ≤ 14) (b_wb : ∀ q : Nat, 0 ≤ (wb q).toInt ∧ (wb q).toInt ≤ 1) (b_p1 : 0 ≤ p1.toInt ∧ p1.toInt ≤ 39) (hnW : 406 ≤ nW) (hrow : FitR p1.toInt iQ_columns.toInt) (sz : Nat) : Met l yX6_shutWith wsMX6_shutWith ({ frames := 1, cells := 0, slots := 0, locals := 22 }) (va_Pc [.ref (hQ 0), .int p1] (fun U => U.heap.size = sz ∧ va_P (dC, dI) vwCl (WQ hQ aQ kQ hw fQ_inside fQ_outside fQ_shut iQ_rows iQ_allRows iQ_columns ++ (WW nW hw lw kw wl wb wG)) U.heap ∧ va_K (dC, dI) vwCl (tQ kQ ++ (tW kw)) U ∧ va_D (fun _ => True) (WQ hQ aQ kQ hw fQ_inside fQ_outside fQ_shut iQ_rows iQ_allRows iQ_columns ++ (WW nW hw lw kw wl wb wG)))) (va_Qv (fun (u : Nat → Int32) => True) (fun (u : Nat → Int32) t => va_P (dC, dI) vwCl (WQ hQ aQ kQ hw fQ_inside fQ_outside u iQ_rows iQ_allRows iQ_columns ++ (WW nW hw lw kw wl wb wG)) t.heap ∧ va_D (va_A (WQ hQ aQ kQ hw fQ_inside fQ_outside fQ_shut iQ_rows iQ_allRows iQ_columns ++ (WW nW hw lw kw wl wb wG)) sz) (WQ hQ aQ kQ hw fQ_inside fQ_outside u iQ_rows iQ_allRows iQ_columns ++ (WW nW hw lw kw wl wb wG))) (va_A (WQ hQ aQ kQ hw fQ_inside fQ_outside fQ_shut iQ_rows iQ_allRows iQ_columns ++ (WW nW hw lw kw wl wb wG)) sz)) 0 0 (va_A (WQ hQ aQ kQ hw fQ_inside fQ_outside fQ_shut iQ_rows iQ_allRows iQ_columns ++ (WW nW hw lw kw wl wb wG)) sz) := by
  refine Met.ofW (cc := cX6_shutWith) (maxL := 3) (ret := none) (by decide) rfl ?_
  intro p e s m args below meth c s₁ B hml hv
  obtain ⟨rfl, hsz, hP, hK, hD0⟩ := hv
  have hx := B.exec
  have hb := B.bytes
  have hr := B.returns
  have hts := atoms_spec (ws := wsMX6_shutWith) B.pre
  have hown : s.vm.findClass RX6 = some m.cls := findClass_of_methodNamed B.named
  have hlocks := B.notSynchronized
  subst hsz
  have hD := hD0.self (sz := s.heap.size)
  generalize hAe : va_A (WQ hQ aQ kQ hw fQ_inside fQ_outside fQ_shut iQ_rows iQ_allRows iQ_columns ++ (WW nW hw lw kw wl wb wG)) s.heap.size = A at hD ⊢
  have hA : ∀ q : Nat, s.heap.size ≤ q → A q := fun q h => by rw [← hAe]; exact Or.inr h
  have hS : va_S A s.heap s.heap [] := va_S.rf
  have hl := lv_entry ([.ref (hQ 0), .int p1]) (n := 3) (Nat.le_of_ble_eq_true rfl)
  rw [lg_entry_eq]
  generalize (lg_sl ([.ref (hQ 0), .int p1]) ++ List.replicate (3 - (lg_sl ([.ref (hQ 0), .int p1])).length) Slot.unset).toArray = ls at hl ⊢
  have hl : lv_has ls 3 [(0, .ref (hQ 0)), (1, .int p1)] := hl
  have hTb := b_tb.1
  refine lv_iconst (v := 1) hx hb dX6_shutWith_0 (by decide) ?_
  refine lv_istore_n hx hb dX6_shutWith_1 rfl hl (by decide) rfl (fun ls (hl : lv_has ls _ ([(2, .int 1), (0, .ref (hQ 0)), (1, .int p1)])) => ?_)
  have hl : lv_has _ _ ([(2, .int 1), (0, .ref (hQ 0)), (1, .int p1)]) := lv_sub hl [0, 1, 2] rfl
  refine (fun (loop : ∀ (n9 : Nat) (fQ_shut_x2 : Nat → Int32) (l2_x2 : Int32) (H : Heap) (locs : List Loc) (ls : Array Slot), (1 ≤ l2_x2.toInt ∧ l2_x2.toInt ≤ 41) → (41 - l2_x2.toInt < ((n9 : Nat) : Int)) → va_P (dC, dI) vwCl (WQ hQ aQ kQ hw fQ_inside fQ_outside fQ_shut_x2 iQ_rows iQ_allRows iQ_columns ++ (WW nW hw lw kw wl wb wG)) H → va_D A (WQ hQ aQ kQ hw fQ_inside fQ_outside fQ_shut_x2 iQ_rows iQ_allRows iQ_columns ++ (WW nW hw lw kw wl wb wG)) → va_S A s.heap H locs → lv_has ls 3 [(2, .int l2_x2), (0, .ref (hQ 0)), (1, .int p1)] → W p l e _ s m _ below meth c H locs 0 0 _ (F0 m 2 ls [])) => loop (41) fQ_shut 1 _ _ _ (show 1 ≤ (1 : Int32).toInt ∧ (1 : Int32).toInt ≤ 41 from by decide) ((by have e9 : (1 : Int32).toInt = 1 := (by decide : (1 : Int32).toInt = 1); omega)) hP hD hS hl) ?_
  intro n9
  induction n9 with
  | zero => intro fQ_shut_x2 l2_x2 H locs ls b_l2_x2 hf9; exact False.elim (by omega)
  | succ n9 ihx2 =>
    intro fQ_shut_x2 l2_x2 H locs ls b_l2_x2 hfx2 hP hD hS hl
    refine lv_iload_n hx hb dX6_shutWith_2 rfl (lv_at hl 0 rfl) ?_
    refine lv_aload_n hx hb dX6_shutWith_3 rfl (lv_at hl 1 rfl) ?_
    refine va_get (D := (dC, dI)) (ci := 6) (v := .int iQ_columns) (C := RX6) (T := TX6) (N := 13) hx hb hts iwsMX6_shutWith_in6 hown hK hP 0 rfl rfl 7 (by decide) (hts (.fieldLink RX6 54 "OptimaWorks$Tableau" "columns" "I") (by decide +kernel)) (fun _ h9 => h9) rfl dX6_shutWith_4 ?_
    refine lv_icmp_gt (tgt := 44) hx hb dX6_shutWith_7 (by decide) (fun c_7 => ?_) (fun c_7 => ?_)
    · have t_7 : l2_x2.toInt > iQ_columns.toInt := toI_gt c_7 rfl rfl
      refine W.widen (k := 0) (n := 0) (by decide +kernel) (by decide +kernel) ?_
      exact W.vret hx hb hr (fun t9_ ht hW => ⟨⟨fQ_shut_x2, rfl, trivial, by rw [ht]; exact hP, hD⟩, hS.F ht⟩) hS.2.2 dX6_shutWith_44
    · have t_7 : ¬ l2_x2.toInt > iQ_columns.toInt := toI_ngt c_7 rfl rfl
      refine lv_aload_n hx hb dX6_shutWith_10 rfl (lv_at hl 1 rfl) ?_
      refine va_get (D := (dC, dI)) (ci := 6) (v := .ref (aQ 3)) (C := RX6) (T := TX6) (N := 13) hx hb hts iwsMX6_shutWith_in6 hown hK hP 0 rfl rfl 3 (by decide) (hts (.fieldLink RX6 24 "OptimaWorks$Tableau" "shut" "[Z") (by decide +kernel)) (fun _ h9 => h9) rfl dX6_shutWith_11 ?_
      refine lv_iload_n hx hb dX6_shutWith_14 rfl (lv_at hl 0 rfl) ?_
      refine va_zald (cA := kQ 3) (n := 41) (f := fQ_shut_x2) hx hb hK hP 4 3 rfl rfl (vp_in_iff.mpr ⟨(Int.le_trans (by decide) (b_l2_x2.1)), (by omega)⟩) dX6_shutWith_15 ?_
      refine lv_topi (fun v26 hv26 => ?_)
      clear hv26
      refine W.cut (pc := 38) (fun H locs ls stk => ∃ (fQ_shut_j12 : Nat → Int32),  stk = [] ∧ va_P (dC, dI) vwCl (WQ hQ aQ kQ hw fQ_inside fQ_outside fQ_shut_j12 iQ_rows iQ_allRows iQ_columns ++ (WW nW hw lw kw wl wb wG)) H ∧ va_D A (WQ hQ aQ kQ hw fQ_inside fQ_outside fQ_shut_j12 iQ_rows iQ_allRows iQ_columns ++ (WW nW hw lw kw wl wb wG)) ∧ va_S A s.heap H locs ∧ lv_has ls 3 [(2, .int l2_x2), (0, .ref (hQ 0)), (1, .int p1)]) (fun join12 => ?_) ?_
      · refine lv_if_ne (tgt := 38) hx hb dX6_shutWith_16 (by decide) (fun c_16 => ?_) (fun c_16 => ?_)
        · have t_16 : v26.toInt ≠ 0 := toI_ne c_16 rfl (by decide : (0 : Int32).toInt = 0)
          have hl : lv_has _ _ ([(2, .int l2_x2), (0, .ref (hQ 0)), (1, .int p1)]) := lv_sub hl [0, 1, 2] rfl
          exact join12 _ _ _ _ ⟨fQ_shut_x2, rfl, hP, hD, hS, hl⟩
        · have t_16 : v26.toInt = 0 := toI_nne c_16 rfl (by decide : (0 : Int32).toInt = 0)
          refine lv_aload_n hx hb dX6_shutWith_19 rfl (lv_at hl 1 rfl) ?_
          refine lv_iload_n hx hb dX6_shutWith_20 rfl (lv_at hl 2 rfl) ?_
          refine lv_iload_n hx hb dX6_shutWith_21 rfl (lv_at hl 0 rfl) ?_
          have hFc := allFree hD hS hA
          refine va_callr (va_runV (As := [.int p1, .int l2_x2]) (rest := []) ⟨hx, hb, hml, hown, hts⟩ (m_X6_cellAt l dC dI hQ aQ kQ hw fQ_inside fQ_outside fQ_shut_x2 iQ_rows iQ_allRows iQ_columns nW lw kw wl wb wG p1 l2_x2 (b_iQ_rows) (b_iQ_allRows) (b_iQ_columns) (by first | with_reducible assumption | omega | assumption) b_wl b_wb (b_p1) (by first | exact b_l2_x2 | with_reducible assumption | exact ⟨by omega, by omega⟩ | assumption) (by first | with_reducible assumption | omega | (rw [iI_t (by omega) (by omega)]; omega) | decide | assumption) (hrow.ix (by omega) (by omega)) H.size) (cwV 2 hts gwsMX6_shutWith_0 rfl rfl rfl hd_yX6_cellAt_RX6 (by decide +kernel)) (fz_pre (va_recv hK hP (ci := 6) (q0 := 0) rfl rfl) hP hK hD) rfl rfl hl.1 rfl (lv_room (Nat.le_of_ble_eq_true rfl)) dX6_shutWith_22 (by decide +kernel)) hS (fun q _ h => hFc q h) hFc (fun kR_29 ra29 t9_ H locs ht hvm hw9 hB9 hz1 hk1 hS => ?_)
          revert hB9
          refine fz_a2 ?_
          intro hra hB9
          subst hra
          have f29_0 := hw9
          try dsimp only at f29_0
          have hP : va_P (dC, dI) vwCl (WQ hQ aQ kQ hw fQ_inside fQ_outside fQ_shut_x2 iQ_rows iQ_allRows iQ_columns ++ (WW nW hw lw kw wl wb wG)) H := fz_P ht hB9.1
          have hD : va_D A (WQ hQ aQ kQ hw fQ_inside fQ_outside fQ_shut_x2 iQ_rows iQ_allRows iQ_columns ++ (WW nW hw lw kw wl wb wG)) := hB9.2.weaken (fun _ q _ h => hFc q.1 h)
          refine va_get (D := (dC, dI)) (ci := 8) (v := .int (wl kR_29)) (C := RX8) (T := TX8) (N := 3) hx hb hts iwsMX6_shutWith_in8 hown hK hP (5 + (kR_29)) (apR rfl (WW_o (by omega))) rfl 1 (by decide) (hts (.fieldLink RX6 76 "OptimaWorks$Whole" "length" "I") (by decide +kernel)) (fun _ h9 => h9) rfl dX6_shutWith_25 ?_
          have br25 := b_wl kR_29
          refine lv_if_eq (tgt := 38) hx hb dX6_shutWith_28 (by decide) (fun c_28 => ?_) (fun c_28 => ?_)
          · have t_28 : (wl kR_29).toInt = 0 := toI_eq c_28 rfl (by decide : (0 : Int32).toInt = 0)
            have hl : lv_has _ _ ([(2, .int l2_x2), (0, .ref (hQ 0)), (1, .int p1)]) := lv_sub hl [0, 1, 2] rfl
            exact join12 _ _ _ _ ⟨fQ_shut_x2, rfl, hP, hD, hS, hl⟩
          · have t_28 : ¬ (wl kR_29).toInt = 0 := toI_neq c_28 rfl (by decide : (0 : Int32).toInt = 0)
            refine lv_aload_n hx hb dX6_shutWith_31 rfl (lv_at hl 1 rfl) ?_
            refine va_get (D := (dC, dI)) (ci := 6) (v := .ref (aQ 3)) (C := RX6) (T := TX6) (N := 13) hx hb hts iwsMX6_shutWith_in6 hown hK hP 0 rfl rfl 3 (by decide) (hts (.fieldLink RX6 24 "OptimaWorks$Tableau" "shut" "[Z") (by decide +kernel)) (fun _ h9 => h9) rfl dX6_shutWith_32 ?_
            refine lv_iload_n hx hb dX6_shutWith_35 rfl (lv_at hl 0 rfl) ?_
            refine lv_iconst (v := 1) hx hb dX6_shutWith_36 (by decide) ?_
            refine va_zast (cA := kQ 3) (n := 41) (f := fQ_shut_x2) hx hb hK hP hD hS 4 3 rfl rfl (vp_in_iff.mpr ⟨(Int.le_trans (by decide) (b_l2_x2.1)), (by omega)⟩) dX6_shutWith_37 (fun H locs hP hD hS => ?_)
            obtain ⟨u30, hu30⟩ : ∃ f9, f9 = upd fQ_shut_x2 (l2_x2).toNatClampNeg (vp_nar FieldType.boolean (1 : Int32)) := ⟨_, rfl⟩
            have hP : va_P (dC, dI) vwCl (WQ hQ aQ kQ hw fQ_inside fQ_outside u30 iQ_rows iQ_allRows iQ_columns ++ (WW nW hw lw kw wl wb wG)) H := by rw [hu30]; exact hP
            have hD : va_D A (WQ hQ aQ kQ hw fQ_inside fQ_outside u30 iQ_rows iQ_allRows iQ_columns ++ (WW nW hw lw kw wl wb wG)) := by rw [hu30]; exact hD
            clear hu30
            have hl : lv_has _ _ ([(2, .int l2_x2), (0, .ref (hQ 0)), (1, .int p1)]) := lv_sub hl [0, 1, 2] rfl
            exact join12 _ _ _ _ ⟨u30, rfl, hP, hD, hS, hl⟩
      · rintro H locs ls stk ⟨fQ_shut_j12, rfl, hP, hD, hS, hl⟩
        refine lv_iinc (v := (iI (l2_x2.toInt + 1))) hx hb dX6_shutWith_38 hl (k := 0) rfl (iI_add2 (iI_of _) (by decide : (1 : Int32) = iI 1)) (by decide) rfl (fun ls (hl : lv_has ls _ ([(2, .int (iI (l2_x2.toInt + 1))), (0, .ref (hQ 0)), (1, .int p1)])) => ?_)
        refine lv_goto (tgt := 2) hx hb dX6_shutWith_41 (by decide) ?_
        have hl : lv_has _ _ ([(2, .int (iI (l2_x2.toInt + 1))), (0, .ref (hQ 0)), (1, .int p1)]) := lv_sub hl [0, 1, 2] rfl
        exact ihx2 fQ_shut_j12 (iI (l2_x2.toInt + 1)) _ _ _ (iI_rng (Int.le_trans (by decide) (Int.add_le_add (b_l2_x2.1) (Int.le_refl _))) (by omega) (by decide) (by decide)) (by have e9 : ((iI (l2_x2.toInt + 1))).toInt = (l2_x2.toInt + 1) := (iI_t (Int.le_trans (by decide) (Int.add_le_add (b_l2_x2.1) (Int.le_refl _))) (Int.le_trans (Int.add_le_add (b_l2_x2.2) (Int.le_refl _)) (by decide))); omega) hP hD hS hl
theorem dX6_compareRoom_0 : decode cX6_compareRoom 0 = .ok (.aload_n 0, 1) := dk_42 (by decide +kernel)
theorem dX6_compareRoom_1 : decode cX6_compareRoom 1 = .ok (.getfield 36, 3) := dk_180 (by decide +kernel)
theorem dX6_compareRoom_4 : decode cX6_compareRoom 4 = .ok (.aload_n 0, 1) := dk_42 (by decide +kernel)
theorem dX6_compareRoom_5 : decode cX6_compareRoom 5 = .ok (.iload_n 2, 1) := dk_28 (by decide +kernel)
theorem dX6_compareRoom_6 : decode cX6_compareRoom 6 = .ok (.iconst 0, 1) := dk_3 (by decide +kernel)
theorem dX6_compareRoom_7 : decode cX6_compareRoom 7 = .ok (.invokevirtual 72, 3) := dk_182 (by decide +kernel)
theorem dX6_compareRoom_10 : decode cX6_compareRoom 10 = .ok (.aload_n 0, 1) := dk_42 (by decide +kernel)
theorem dX6_compareRoom_11 : decode cX6_compareRoom 11 = .ok (.iload_n 1, 1) := dk_27 (by decide +kernel)
theorem dX6_compareRoom_12 : decode cX6_compareRoom 12 = .ok (.iload_n 3, 1) := dk_29 (by decide +kernel)
theorem dX6_compareRoom_13 : decode cX6_compareRoom 13 = .ok (.invokevirtual 72, 3) := dk_182 (by decide +kernel)
theorem dX6_compareRoom_16 : decode cX6_compareRoom 16 = .ok (.invokevirtual 120, 3) := dk_182 (by decide +kernel)
theorem dX6_compareRoom_19 : decode cX6_compareRoom 19 = .ok (.aload_n 0, 1) := dk_42 (by decide +kernel)
theorem dX6_compareRoom_20 : decode cX6_compareRoom 20 = .ok (.getfield 39, 3) := dk_180 (by decide +kernel)
theorem dX6_compareRoom_23 : decode cX6_compareRoom 23 = .ok (.aload_n 0, 1) := dk_42 (by decide +kernel)
theorem dX6_compareRoom_24 : decode cX6_compareRoom 24 = .ok (.iload_n 1, 1) := dk_27 (by decide +kernel)
theorem dX6_compareRoom_25 : decode cX6_compareRoom 25 = .ok (.iconst 0, 1) := dk_3 (by decide +kernel)
theorem dX6_compareRoom_26 : decode cX6_compareRoom 26 = .ok (.invokevirtual 72, 3) := dk_182 (by decide +kernel)
theorem dX6_compareRoom_29 : decode cX6_compareRoom 29 = .ok (.aload_n 0, 1) := dk_42 (by decide +kernel)
theorem dX6_compareRoom_30 : decode cX6_compareRoom 30 = .ok (.iload_n 2, 1) := dk_28 (by decide +kernel)
theorem dX6_compareRoom_31 : decode cX6_compareRoom 31 = .ok (.iload_n 3, 1) := dk_29 (by decide +kernel)
theorem dX6_compareRoom_32 : decode cX6_compareRoom 32 = .ok (.invokevirtual 72, 3) := dk_182 (by decide +kernel)
theorem dX6_compareRoom_35 : decode cX6_compareRoom 35 = .ok (.invokevirtual 120, 3) := dk_182 (by decide +kernel)
theorem dX6_compareRoom_38 : decode cX6_compareRoom 38 = .ok (.aload_n 0, 1) := dk_42 (by decide +kernel)
theorem dX6_compareRoom_39 : decode cX6_compareRoom 39 = .ok (.getfield 39, 3) := dk_180 (by decide +kernel)
theorem dX6_compareRoom_42 : decode cX6_compareRoom 42 = .ok (.invokevirtual 124, 3) := dk_182 (by decide +kernel)
theorem dX6_compareRoom_45 : decode cX6_compareRoom 45 = .ok (.aload_n 0, 1) := dk_42 (by decide +kernel)
theorem dX6_compareRoom_46 : decode cX6_compareRoom 46 = .ok (.getfield 36, 3) := dk_180 (by decide +kernel)
theorem dX6_compareRoom_49 : decode cX6_compareRoom 49 = .ok (.aload_n 0, 1) := dk_42 (by decide +kernel)
theorem dX6_compareRoom_50 : decode cX6_compareRoom 50 = .ok (.getfield 39, 3) := dk_180 (by decide +kernel)
theorem dX6_compareRoom_53 : decode cX6_compareRoom 53 = .ok (.invokevirtual 127, 3) := dk_182 (by decide +kernel)
theorem dX6_compareRoom_56 : decode cX6_compareRoom 56 = .ok (.aload_n 0, 1) := dk_42 (by decide +kernel)
theorem dX6_compareRoom_57 : decode cX6_compareRoom 57 = .ok (.getfield 36, 3) := dk_180 (by decide +kernel)
theorem dX6_compareRoom_60 : decode cX6_compareRoom 60 = .ok (.invokevirtual 92, 3) := dk_182 (by decide +kernel)
theorem dX6_compareRoom_63 : decode cX6_compareRoom 63 = .ok (.ireturn, 1) := dk_172 (by decide +kernel)
def wsMX6_compareRoom : List Cond := .code yX6_compareRoom cX6_compareRoom 4 (some .int) :: ([.fieldLink RX6 36 "OptimaWorks$Tableau" "first" "LOptimaWorks$Whole;", .fieldLink RX6 39 "OptimaWorks$Tableau" "second" "LOptimaWorks$Whole;"] ++ wsX60 ++ (wsV RX6 72 RX6 yX6_cellAt wsMX6_cellAt) ++ (wsV RX6 120 RX8 yX8_setProduct wsMX8_setProduct) ++ (wsV RX6 124 RX8 yX8_negate wsMX8_negate) ++ (wsV RX6 127 RX8 yX8_add wsMX8_add) ++ (wsV RX6 92 RX8 yX8_sign wsMX8_sign))
theorem iwsMX6_compareRoom_in6 : ∀ w ∈ wsX60, w ∈ wsMX6_compareRoom := fun _ h => List.mem_cons_of_mem _ (List.mem_append_left _ (List.mem_append_left _ (List.mem_append_left _ (List.mem_append_left _ (List.mem_append_left _ (List.mem_append_right _ h))))))
theorem gwsMX6_compareRoom_0 : GoodIn wsMX6_compareRoom (wsV RX6 72 RX6 yX6_cellAt wsMX6_cellAt) := goodIn_sub (fun _ h => List.mem_cons_of_mem _ (List.mem_append_left _ (List.mem_append_left _ (List.mem_append_left _ (List.mem_append_left _ (List.mem_append_right _ h)))))) (gdV (by decide +kernel) gdwsMX6_cellAt)
theorem gwsMX6_compareRoom_1 : GoodIn wsMX6_compareRoom (wsV RX6 120 RX8 yX8_setProduct wsMX8_setProduct) := goodIn_sub (fun _ h => List.mem_cons_of_mem _ (List.mem_append_left _ (List.mem_append_left _ (List.mem_append_left _ (List.mem_append_right _ h))))) (gdV (by decide +kernel) gdwsMX8_setProduct)
theorem gwsMX6_compareRoom_2 : GoodIn wsMX6_compareRoom (wsV RX6 124 RX8 yX8_negate wsMX8_negate) := goodIn_sub (fun _ h => List.mem_cons_of_mem _ (List.mem_append_left _ (List.mem_append_left _ (List.mem_append_right _ h)))) (gdV (by decide +kernel) gdwsMX8_negate)
theorem gwsMX6_compareRoom_3 : GoodIn wsMX6_compareRoom (wsV RX6 127 RX8 yX8_add wsMX8_add) := goodIn_sub (fun _ h => List.mem_cons_of_mem _ (List.mem_append_left _ (List.mem_append_right _ h))) (gdV (by decide +kernel) gdwsMX8_add)
theorem gwsMX6_compareRoom_4 : GoodIn wsMX6_compareRoom (wsV RX6 92 RX8 yX8_sign wsMX8_sign) := goodIn_sub (fun _ h => List.mem_cons_of_mem _ (List.mem_append_right _ h)) (gdV (by decide +kernel) gdwsMX8_sign)
theorem gdwsMX6_compareRoom : wsMX6_compareRoom.all goodWord = true := gdC rfl (gdA (gdA (gdA (gdA (gdA (gdA (by decide +kernel : ([.fieldLink RX6 36 "OptimaWorks$Tableau" "first" "LOptimaWorks$Whole;", .fieldLink RX6 39 "OptimaWorks$Tableau" "second" "LOptimaWorks$Whole;"] : List Cond).all goodWord = true) gdwsX60) (gdV (by decide +kernel) gdwsMX6_cellAt)) (gdV (by decide +kernel) gdwsMX8_setProduct)) (gdV (by decide +kernel) gdwsMX8_negate)) (gdV (by decide +kernel) gdwsMX8_add)) (gdV (by decide +kernel) gdwsMX8_sign))
set_option maxHeartbeats 4000000 in
set_option maxRecDepth 100000 in
/-- which leaves less -/
theorem m_X6_compareRoom (l : Launch) (dC : Nat → ClassId) (dI : Nat → Nat → Nat) (hQ : Nat → Nat) (aQ : Nat → Nat) (kQ : Nat → ClassId) (hw : Nat → Nat) (fQ_inside : Nat → Int32) (fQ_outside : Nat → Int32) (fQ_shut : Nat → Int32) (iQ_rows : Int32) (iQ_allRows : Int32) (iQ_columns : Int32) (nW : Nat) (lw : Nat → Nat) (kw : ClassId) (wl : Nat → Int32) (wb : Nat → Int32) (wG : Nat → Nat → Int64) (p1 : Int32) (p2 : Int32) (p3 : Int32) (b_iQ_rows : 0 ≤ iQ_rows.toInt ∧ iQ_rows.toInt ≤ 40) (b_iQ_allRows : 0 ≤ iQ_allRows.toInt ∧ iQ_allRows.toInt ≤ 40) (b_iQ_columns : 0 ≤ iQ_columns.toInt ∧ iQ_columns.toInt ≤ 40) (b_tb : TbO iQ_rows iQ_allRows iQ_columns) (b_wl : ∀ q : Nat, 0 ≤ (wl q).toInt ∧ (wl q).toInt ≤ 14) (b_wb : ∀ q : Nat, 0 ≤ (wb q).toInt ∧ (wb q).toInt ≤ 1) (b_p1 : 0 ≤ p1.toInt ∧ p1.toInt ≤ 39) (b_p2 : 0 ≤ p2.toInt ∧ p2.toInt ≤ 39) (b_p3 : 0 ≤ p3.toInt ∧ p3.toInt ≤ 40) (hnW : 406 ≤ nW) (hp1 : p1.toInt < iQ_allRows.toInt) (hp2 : p2.toInt < iQ_allRows.toInt) (hp3 : p3.toInt ≤ iQ_columns.toInt) (sz : Nat) : Met l yX6_compareRoom wsMX6_compareRoom ({ frames := 3, cells := 0, slots := 0, locals := 61 }) (va_Pc [.ref (hQ 0), .int p1, .int p2, .int p3] (fun U => U.heap.size = sz ∧ va_P (dC, dI) vwCl (WQ hQ aQ kQ hw fQ_inside fQ_outside fQ_shut iQ_rows iQ_allRows iQ_columns ++ (WW nW hw lw kw wl wb wG)) U.heap ∧ va_K (dC, dI) vwCl (tQ kQ ++ (tW kw)) U ∧ va_D (fun _ => True) (WQ hQ aQ kQ hw fQ_inside fQ_outside fQ_shut iQ_rows iQ_allRows iQ_columns ++ (WW nW hw lw kw wl wb wG)))) (va_Qi (fun (r : Int32) (u : (Nat → Int32) × (Nat → Int32) × (Nat → Nat → Int64)) => (∀ q : Nat, 0 ≤ ((u.1) q).toInt ∧ ((u.1) q).toInt ≤ 14) ∧ (∀ q : Nat, 0 ≤ ((u.2.1) q).toInt ∧ ((u.2.1) q).toInt ≤ 1)) (fun (u : (Nat → Int32) × (Nat → Int32) × (Nat → Nat → Int64)) t => va_P (dC, dI) vwCl (WQ hQ aQ kQ hw fQ_inside fQ_outside fQ_shut iQ_rows iQ_allRows iQ_columns ++ (WW nW hw lw kw (u.1) (u.2.1) (u.2.2))) t.heap ∧ va_D (va_A (WQ hQ aQ kQ hw fQ_inside fQ_outside fQ_shut iQ_rows iQ_allRows iQ_columns ++ (WW nW hw lw kw wl wb wG)) sz) (WQ hQ aQ kQ hw fQ_inside fQ_outside fQ_shut iQ_rows iQ_allRows iQ_columns ++ (WW nW hw lw kw (u.1) (u.2.1) (u.2.2)))) (va_A (WQ hQ aQ kQ hw fQ_inside fQ_outside fQ_shut iQ_rows iQ_allRows iQ_columns ++ (WW nW hw lw kw wl wb wG)) sz)) 0 0 (va_A (WQ hQ aQ kQ hw fQ_inside fQ_outside fQ_shut iQ_rows iQ_allRows iQ_columns ++ (WW nW hw lw kw wl wb wG)) sz) := by
  refine Met.ofW (cc := cX6_compareRoom) (maxL := 4) (ret := (some .int)) (by decide) rfl ?_
  intro p e s m args below meth c s₁ B hml hv
  obtain ⟨rfl, hsz, hP, hK, hD0⟩ := hv
  have hx := B.exec
  have hb := B.bytes
  have hr := B.returns
  have hts := atoms_spec (ws := wsMX6_compareRoom) B.pre
  have hown : s.vm.findClass RX6 = some m.cls := findClass_of_methodNamed B.named
  have hlocks := B.notSynchronized
  subst hsz
  have hD := hD0.self (sz := s.heap.size)
  generalize hAe : va_A (WQ hQ aQ kQ hw fQ_inside fQ_outside fQ_shut iQ_rows iQ_allRows iQ_columns ++ (WW nW hw lw kw wl wb wG)) s.heap.size = A at hD ⊢
  have hA : ∀ q : Nat, s.heap.size ≤ q → A q := fun q h => by rw [← hAe]; exact Or.inr h
  have hS : va_S A s.heap s.heap [] := va_S.rf
  have hl := lv_entry ([.ref (hQ 0), .int p1, .int p2, .int p3]) (n := 4) (Nat.le_of_ble_eq_true rfl)
  rw [lg_entry_eq]
  generalize (lg_sl ([.ref (hQ 0), .int p1, .int p2, .int p3]) ++ List.replicate (4 - (lg_sl ([.ref (hQ 0), .int p1, .int p2, .int p3])).length) Slot.unset).toArray = ls at hl ⊢
  have hl : lv_has ls 4 [(0, .ref (hQ 0)), (1, .int p1), (2, .int p2), (3, .int p3)] := hl
  have hTb := b_tb.1
  refine lv_aload_n hx hb dX6_compareRoom_0 rfl (lv_at hl 0 rfl) ?_
  refine va_get (D := (dC, dI)) (ci := 6) (v := .ref (hw 402)) (C := RX6) (T := TX6) (N := 13) hx hb hts iwsMX6_compareRoom_in6 hown hK hP 0 rfl rfl 9 (by decide) (hts (.fieldLink RX6 36 "OptimaWorks$Tableau" "first" "LOptimaWorks$Whole;") (by decide +kernel)) (fun _ h9 => h9) rfl dX6_compareRoom_1 ?_
  refine lv_aload_n hx hb dX6_compareRoom_4 rfl (lv_at hl 0 rfl) ?_
  refine lv_iload_n hx hb dX6_compareRoom_5 rfl (lv_at hl 2 rfl) ?_
  refine lv_iconst (v := 0) hx hb dX6_compareRoom_6 (by decide) ?_
  have hFc := allFree hD hS hA
  refine va_callr (va_runV (As := [.int p2, .int 0]) (rest := [.ref (hw 402)]) ⟨hx, hb, hml, hown, hts⟩ (m_X6_cellAt l dC dI hQ aQ kQ hw fQ_inside fQ_outside fQ_shut iQ_rows iQ_allRows iQ_columns nW lw kw wl wb wG p2 0 (b_iQ_rows) (b_iQ_allRows) (b_iQ_columns) (by first | with_reducible assumption | omega | assumption) b_wl b_wb (b_p2) (show 0 ≤ (0 : Int32).toInt ∧ (0 : Int32).toInt ≤ 40 from by decide) (by first | with_reducible assumption | omega | (rw [iI_t (by omega) (by omega)]; omega) | decide | assumption) (cell_ix0 b_tb (by omega) (by omega) (by omega)) s.heap.size) (cwV 2 hts gwsMX6_compareRoom_0 rfl rfl rfl hd_yX6_cellAt_RX6 (by decide +kernel)) (fz_pre (va_recv hK hP (ci := 6) (q0 := 0) rfl rfl) hP hK hD) rfl rfl hl.1 rfl (lv_room (Nat.le_of_ble_eq_true rfl)) dX6_compareRoom_7 (by decide +kernel)) hS (fun q _ h => hFc q h) hFc (fun kR_1 ra1 t9_ H locs ht hvm hw9 hB9 hz1 hk1 hS => ?_)
  revert hB9
  refine fz_a2 ?_
  intro hra hB9
  subst hra
  have f1_0 := hw9
  try dsimp only at f1_0
  have hP : va_P (dC, dI) vwCl (WQ hQ aQ kQ hw fQ_inside fQ_outside fQ_shut iQ_rows iQ_allRows iQ_columns ++ (WW nW hw lw kw wl wb wG)) H := fz_P ht hB9.1
  have hD : va_D A (WQ hQ aQ kQ hw fQ_inside fQ_outside fQ_shut iQ_rows iQ_allRows iQ_columns ++ (WW nW hw lw kw wl wb wG)) := hB9.2.weaken (fun _ q _ h => hFc q.1 h)
  refine lv_aload_n hx hb dX6_compareRoom_10 rfl (lv_at hl 0 rfl) ?_
  refine lv_iload_n hx hb dX6_compareRoom_11 rfl (lv_at hl 1 rfl) ?_
  refine lv_iload_n hx hb dX6_compareRoom_12 rfl (lv_at hl 3 rfl) ?_
  have hFc := allFree hD hS hA
  refine va_callr (va_runV (As := [.int p1, .int p3]) (rest := [.ref (hw kR_1), .ref (hw 402)]) ⟨hx, hb, hml, hown, hts⟩ (m_X6_cellAt l dC dI hQ aQ kQ hw fQ_inside fQ_outside fQ_shut iQ_rows iQ_allRows iQ_columns nW lw kw wl wb wG p1 p3 (b_iQ_rows) (b_iQ_allRows) (b_iQ_columns) (by first | with_reducible assumption | omega | assumption) b_wl b_wb (b_p1) (b_p3) (by first | with_reducible assumption | omega | (rw [iI_t (by omega) (by omega)]; omega) | decide | assumption) (cell_ix b_tb (by omega) (by omega) (by omega) (by omega)) H.size) (cwV 2 hts gwsMX6_compareRoom_0 rfl rfl rfl hd_yX6_cellAt_RX6 (by decide +kernel)) (fz_pre (va_recv hK hP (ci := 6) (q0 := 0) rfl rfl) hP hK hD) rfl rfl hl.1 rfl (lv_room (Nat.le_of_ble_eq_true rfl)) dX6_compareRoom_13 (by decide +kernel)) hS (fun q _ h => hFc q h) hFc (fun kR_2 ra2 t9_ H locs ht hvm hw9 hB9 hz1 hk1 hS => ?_)
  revert hB9
  refine fz_a2 ?_
  intro hra hB9
  subst hra
  have f2_0 := hw9
  try dsimp only at f2_0
  have hP : va_P (dC, dI) vwCl (WQ hQ aQ kQ hw fQ_inside fQ_outside fQ_shut iQ_rows iQ_allRows iQ_columns ++ (WW nW hw lw kw wl wb wG)) H := fz_P ht hB9.1
  have hD : va_D A (WQ hQ aQ kQ hw fQ_inside fQ_outside fQ_shut iQ_rows iQ_allRows iQ_columns ++ (WW nW hw lw kw wl wb wG)) := hB9.2.weaken (fun _ q _ h => hFc q.1 h)
  have p9 : List.Perm (WQ hQ aQ kQ hw fQ_inside fQ_outside fQ_shut iQ_rows iQ_allRows iQ_columns ++ (WW nW hw lw kw wl wb wG)) ((WW nW hw lw kw wl wb wG) ++ (WQ hQ aQ kQ hw fQ_inside fQ_outside fQ_shut iQ_rows iQ_allRows iQ_columns)) := (List.perm_append_comm)
  have hPc := hP.mem (fun q h => p9.mem_iff.mpr (List.mem_append_left _ h))
  have hDc := (hD.perm p9).left
  have hKc : va_K (dC, dI) vwCl (tW kw) _ := hK.sub [4] rfl
  have hFc := freeG p9 hD hS hA
  refine va_callv (va_runV (As := [.ref (hw kR_1), .ref (hw kR_2)]) (rest := []) ⟨hx, hb, hml, hown, hts⟩ (m_X8_setProduct l dC dI nW hw lw kw wl wb wG 402 kR_1 kR_2 b_wl b_wb (by first | with_reducible assumption | omega | (rw [iI_t (by omega) (by omega)]; omega) | decide | assumption) (by first | with_reducible assumption | omega | (rw [iI_t (by omega) (by omega)]; omega) | decide | assumption) (by first | with_reducible assumption | omega | (rw [iI_t (by omega) (by omega)]; omega) | decide | assumption) H.size) (cwV 2 hts gwsMX6_compareRoom_1 rfl rfl rfl hd_yX8_setProduct_RX8 (by decide +kernel)) (fz_pre (va_recv hK hP (ci := 8) (q0 := 5 + (402)) rfl (apR rfl (WW_o (by omega)))) hPc hKc hDc) rfl rfl hl.1 rfl (lv_room (Nat.le_of_ble_eq_true rfl)) dX6_compareRoom_16 (by decide +kernel)) hS (fun q _ h => hFc q h) hFc (fun u t9_ H locs ht hvm hw9 hB9 hz1 hk1 hS => ?_)
  revert u hw9 hB9
  refine fz_p3 ?_
  intro wl_3 wb_3 wG_3 hw9 hB9
  try dsimp only at hw9 hB9
  revert hw9
  refine fz_a2 ?_
  intro b_wl_3 b_wb_3
  have p8 : List.Perm (WQ hQ aQ kQ hw fQ_inside fQ_outside fQ_shut iQ_rows iQ_allRows iQ_columns ++ (WW nW hw lw kw wl_3 wb_3 wG_3)) ((WW nW hw lw kw wl_3 wb_3 wG_3) ++ (WQ hQ aQ kQ hw fQ_inside fQ_outside fQ_shut iQ_rows iQ_allRows iQ_columns)) := (List.perm_append_comm)
  obtain ⟨hP, hD⟩ := frameG p9 p8 hP hD hk1 hFc (fz_P ht hB9.1) hB9.2
  have hP : va_P (dC, dI) vwCl (WQ hQ aQ kQ hw fQ_inside fQ_outside fQ_shut iQ_rows iQ_allRows iQ_columns ++ (WW nW hw lw kw wl_3 wb_3 wG_3)) H := hP
  have hD : va_D A (WQ hQ aQ kQ hw fQ_inside fQ_outside fQ_shut iQ_rows iQ_allRows iQ_columns ++ (WW nW hw lw kw wl_3 wb_3 wG_3)) := hD
  refine lv_aload_n hx hb dX6_compareRoom_19 rfl (lv_at hl 0 rfl) ?_
  refine va_get (D := (dC, dI)) (ci := 6) (v := .ref (hw 403)) (C := RX6) (T := TX6) (N := 13) hx hb hts iwsMX6_compareRoom_in6 hown hK hP 0 rfl rfl 10 (by decide) (hts (.fieldLink RX6 39 "OptimaWorks$Tableau" "second" "LOptimaWorks$Whole;") (by decide +kernel)) (fun _ h9 => h9) rfl dX6_compareRoom_20 ?_
  refine lv_aload_n hx hb dX6_compareRoom_23 rfl (lv_at hl 0 rfl) ?_
  refine lv_iload_n hx hb dX6_compareRoom_24 rfl (lv_at hl 1 rfl) ?_
  refine lv_iconst (v := 0) hx hb dX6_compareRoom_25 (by decide) ?_
  have hFc := allFree hD hS hA
  refine va_callr (va_runV (As := [.int p1, .int 0]) (rest := [.ref (hw 403)]) ⟨hx, hb, hml, hown, hts⟩ (m_X6_cellAt l dC dI hQ aQ kQ hw fQ_inside fQ_outside fQ_shut iQ_rows iQ_allRows iQ_columns nW lw kw wl_3 wb_3 wG_3 p1 0 (b_iQ_rows) (b_iQ_allRows) (b_iQ_columns) (by first | with_reducible assumption | omega | assumption) b_wl_3 b_wb_3 (b_p1) (show 0 ≤ (0 : Int32).toInt ∧ (0 : Int32).toInt ≤ 40 from by decide) (by first | with_reducible assumption | omega | (rw [iI_t (by omega) (by omega)]; omega) | decide | assumption) (cell_ix0 b_tb (by omega) (by omega) (by omega)) H.size) (cwV 2 hts gwsMX6_compareRoom_0 rfl rfl rfl hd_yX6_cellAt_RX6 (by decide +kernel)) (fz_pre (va_recv hK hP (ci := 6) (q0 := 0) rfl rfl) hP hK hD) rfl rfl hl.1 rfl (lv_room (Nat.le_of_ble_eq_true rfl)) dX6_compareRoom_26 (by decide +kernel)) hS (fun q _ h => hFc q h) hFc (fun kR_4 ra4 t9_ H locs ht hvm hw9 hB9 hz1 hk1 hS => ?_)
  revert hB9
  refine fz_a2 ?_
  intro hra hB9
  subst hra
  have f4_0 := hw9
  try dsimp only at f4_0
  have hP : va_P (dC, dI) vwCl (WQ hQ aQ kQ hw fQ_inside fQ_outside fQ_shut iQ_rows iQ_allRows iQ_columns ++ (WW nW hw lw kw wl_3 wb_3 wG_3)) H := fz_P ht hB9.1
  have hD : va_D A (WQ hQ aQ kQ hw fQ_inside fQ_outside fQ_shut iQ_rows iQ_allRows iQ_columns ++ (WW nW hw lw kw wl_3 wb_3 wG_3)) := hB9.2.weaken (fun _ q _ h => hFc q.1 h)
  refine lv_aload_n hx hb dX6_compareRoom_29 rfl (lv_at hl 0 rfl) ?_
  refine lv_iload_n hx hb dX6_compareRoom_30 rfl (lv_at hl 2 rfl) ?_
  refine lv_iload_n hx hb dX6_compareRoom_31 rfl (lv_at hl 3 rfl) ?_
  have hFc := allFree hD hS hA
  refine va_callr (va_runV (As := [.int p2, .int p3]) (rest := [.ref (hw kR_4), .ref (hw 403)]) ⟨hx, hb, hml, hown, hts⟩ (m_X6_cellAt l dC dI hQ aQ kQ hw fQ_inside fQ_outside fQ_shut iQ_rows iQ_allRows iQ_columns nW lw kw wl_3 wb_3 wG_3 p2 p3 (b_iQ_rows) (b_iQ_allRows) (b_iQ_columns) (by first | with_reducible assumption | omega | assumption) b_wl_3 b_wb_3 (b_p2) (b_p3) (by first | with_reducible assumption | omega | (rw [iI_t (by omega) (by omega)]; omega) | decide | assumption) (cell_ix b_tb (by omega) (by omega) (by omega) (by omega)) H.size) (cwV 2 hts gwsMX6_compareRoom_0 rfl rfl rfl hd_yX6_cellAt_RX6 (by decide +kernel)) (fz_pre (va_recv hK hP (ci := 6) (q0 := 0) rfl rfl) hP hK hD) rfl rfl hl.1 rfl (lv_room (Nat.le_of_ble_eq_true rfl)) dX6_compareRoom_32 (by decide +kernel)) hS (fun q _ h => hFc q h) hFc (fun kR_5 ra5 t9_ H locs ht hvm hw9 hB9 hz1 hk1 hS => ?_)
  revert hB9
  refine fz_a2 ?_
  intro hra hB9
  subst hra
  have f5_0 := hw9
  try dsimp only at f5_0
  have hP : va_P (dC, dI) vwCl (WQ hQ aQ kQ hw fQ_inside fQ_outside fQ_shut iQ_rows iQ_allRows iQ_columns ++ (WW nW hw lw kw wl_3 wb_3 wG_3)) H := fz_P ht hB9.1
  have hD : va_D A (WQ hQ aQ kQ hw fQ_inside fQ_outside fQ_shut iQ_rows iQ_allRows iQ_columns ++ (WW nW hw lw kw wl_3 wb_3 wG_3)) := hB9.2.weaken (fun _ q _ h => hFc q.1 h)
  have p9 : List.Perm (WQ hQ aQ kQ hw fQ_inside fQ_outside fQ_shut iQ_rows iQ_allRows iQ_columns ++ (WW nW hw lw kw wl_3 wb_3 wG_3)) ((WW nW hw lw kw wl_3 wb_3 wG_3) ++ (WQ hQ aQ kQ hw fQ_inside fQ_outside fQ_shut iQ_rows iQ_allRows iQ_columns)) := (List.perm_append_comm)
  have hPc := hP.mem (fun q h => p9.mem_iff.mpr (List.mem_append_left _ h))
  have hDc := (hD.perm p9).left
  have hKc : va_K (dC, dI) vwCl (tW kw) _ := hK.sub [4] rfl
  have hFc := freeG p9 hD hS hA
  refine va_callv (va_runV (As := [.ref (hw kR_4), .ref (hw kR_5)]) (rest := []) ⟨hx, hb, hml, hown, hts⟩ (m_X8_setProduct l dC dI nW hw lw kw wl_3 wb_3 wG_3 403 kR_4 kR_5 b_wl_3 b_wb_3 (by first | with_reducible assumption | omega | (rw [iI_t (by omega) (by omega)]; omega) | decide | assumption) (by first | with_reducible assumption | omega | (rw [iI_t (by omega) (by omega)]; omega) | decide | assumption) (by first | with_reducible assumption | omega | (rw [iI_t (by omega) (by omega)]; omega) | decide | assumption) H.size) (cwV 2 hts gwsMX6_compareRoom_1 rfl rfl rfl hd_yX8_setProduct_RX8 (by decide +kernel)) (fz_pre (va_recv hK hP (ci := 8) (q0 := 5 + (403)) rfl (apR rfl (WW_o (by omega)))) hPc hKc hDc) rfl rfl hl.1 rfl (lv_room (Nat.le_of_ble_eq_true rfl)) dX6_compareRoom_35 (by decide +kernel)) hS (fun q _ h => hFc q h) hFc (fun u t9_ H locs ht hvm hw9 hB9 hz1 hk1 hS => ?_)
  revert u hw9 hB9
  refine fz_p3 ?_
  intro wl_6 wb_6 wG_6 hw9 hB9
  try dsimp only at hw9 hB9
  revert hw9
  refine fz_a2 ?_
  intro b_wl_6 b_wb_6
  have p8 : List.Perm (WQ hQ aQ kQ hw fQ_inside fQ_outside fQ_shut iQ_rows iQ_allRows iQ_columns ++ (WW nW hw lw kw wl_6 wb_6 wG_6)) ((WW nW hw lw kw wl_6 wb_6 wG_6) ++ (WQ hQ aQ kQ hw fQ_inside fQ_outside fQ_shut iQ_rows iQ_allRows iQ_columns)) := (List.perm_append_comm)
  obtain ⟨hP, hD⟩ := frameG p9 p8 hP hD hk1 hFc (fz_P ht hB9.1) hB9.2
  have hP : va_P (dC, dI) vwCl (WQ hQ aQ kQ hw fQ_inside fQ_outside fQ_shut iQ_rows iQ_allRows iQ_columns ++ (WW nW hw lw kw wl_6 wb_6 wG_6)) H := hP
  have hD : va_D A (WQ hQ aQ kQ hw fQ_inside fQ_outside fQ_shut iQ_rows iQ_allRows iQ_columns ++ (WW nW hw lw kw wl_6 wb_6 wG_6)) := hD
  refine lv_aload_n hx hb dX6_compareRoom_38 rfl (lv_at hl 0 rfl) ?_
  refine va_get (D := (dC, dI)) (ci := 6) (v := .ref (hw 403)) (C := RX6) (T := TX6) (N := 13) hx hb hts iwsMX6_compareRoom_in6 hown hK hP 0 rfl rfl 10 (by decide) (hts (.fieldLink RX6 39 "OptimaWorks$Tableau" "second" "LOptimaWorks$Whole;") (by decide +kernel)) (fun _ h9 => h9) rfl dX6_compareRoom_39 ?_
  have p9 : List.Perm (WQ hQ aQ kQ hw fQ_inside fQ_outside fQ_shut iQ_rows iQ_allRows iQ_columns ++ (WW nW hw lw kw wl_6 wb_6 wG_6)) ((WW nW hw lw kw wl_6 wb_6 wG_6) ++ (WQ hQ aQ kQ hw fQ_inside fQ_outside fQ_shut iQ_rows iQ_allRows iQ_columns)) := (List.perm_append_comm)
  have hPc := hP.mem (fun q h => p9.mem_iff.mpr (List.mem_append_left _ h))
  have hDc := (hD.perm p9).left
  have hKc : va_K (dC, dI) vwCl (tW kw) _ := hK.sub [4] rfl
  have hFc := freeG p9 hD hS hA
  refine va_callv (va_runV (As := []) (rest := []) ⟨hx, hb, hml, hown, hts⟩ (m_X8_negate l dC dI nW hw lw kw wl_6 wb_6 wG_6 403 b_wl_6 b_wb_6 (by first | with_reducible assumption | omega | (rw [iI_t (by omega) (by omega)]; omega) | decide | assumption) H.size) (cwV 0 hts gwsMX6_compareRoom_2 rfl rfl rfl hd_yX8_negate_RX8 (by decide +kernel)) (fz_pre (va_recv hK hP (ci := 8) (q0 := 5 + (403)) rfl (apR rfl (WW_o (by omega)))) hPc hKc hDc) rfl rfl hl.1 rfl (lv_room (Nat.le_of_ble_eq_true rfl)) dX6_compareRoom_42 (by decide +kernel)) hS (fun q _ h => hFc q h) hFc (fun wb_7 t9_ H locs ht hvm hw9 hB9 hz1 hk1 hS => ?_)
  have b_wb_7 := hw9
  try dsimp only at b_wb_7
  have p8 : List.Perm (WQ hQ aQ kQ hw fQ_inside fQ_outside fQ_shut iQ_rows iQ_allRows iQ_columns ++ (WW nW hw lw kw wl_6 wb_7 wG_6)) ((WW nW hw lw kw wl_6 wb_7 wG_6) ++ (WQ hQ aQ kQ hw fQ_inside fQ_outside fQ_shut iQ_rows iQ_allRows iQ_columns)) := (List.perm_append_comm)
  obtain ⟨hP, hD⟩ := frameG p9 p8 hP hD hk1 hFc (fz_P ht hB9.1) hB9.2
  have hP : va_P (dC, dI) vwCl (WQ hQ aQ kQ hw fQ_inside fQ_outside fQ_shut iQ_rows iQ_allRows iQ_columns ++ (WW nW hw lw kw wl_6 wb_7 wG_6)) H := hP
  have hD : va_D A (WQ hQ aQ kQ hw fQ_inside fQ_outside fQ_shut iQ_rows iQ_allRows iQ_columns ++ (WW nW hw lw kw wl_6 wb_7 wG_6)) := hD
  refine lv_aload_n hx hb dX6_compareRoom_45 rfl (lv_at hl 0 rfl) ?_
  refine va_get (D := (dC, dI)) (ci := 6) (v := .ref (hw 402)) (C := RX6) (T := TX6) (N := 13) hx hb hts iwsMX6_compareRoom_in6 hown hK hP 0 rfl rfl 9 (by decide) (hts (.fieldLink RX6 36 "OptimaWorks$Tableau" "first" "LOptimaWorks$Whole;") (by decide +kernel)) (fun _ h9 => h9) rfl dX6_compareRoom_46 ?_
  refine lv_aload_n hx hb dX6_compareRoom_49 rfl (lv_at hl 0 rfl) ?_
  refine va_get (D := (dC, dI)) (ci := 6) (v := .ref (hw 403)) (C := RX6) (T := TX6) (N := 13) hx hb hts iwsMX6_compareRoom_in6 hown hK hP 0 rfl rfl 10 (by decide) (hts (.fieldLink RX6 39 "OptimaWorks$Tableau" "second" "LOptimaWorks$Whole;") (by decide +kernel)) (fun _ h9 => h9) rfl dX6_compareRoom_50 ?_
  have p9 : List.Perm (WQ hQ aQ kQ hw fQ_inside fQ_outside fQ_shut iQ_rows iQ_allRows iQ_columns ++ (WW nW hw lw kw wl_6 wb_7 wG_6)) ((WW nW hw lw kw wl_6 wb_7 wG_6) ++ (WQ hQ aQ kQ hw fQ_inside fQ_outside fQ_shut iQ_rows iQ_allRows iQ_columns)) := (List.perm_append_comm)
  have hPc := hP.mem (fun q h => p9.mem_iff.mpr (List.mem_append_left _ h))
  have hDc := (hD.perm p9).left
  have hKc : va_K (dC, dI) vwCl (tW kw) _ := hK.sub [4] rfl
  have hFc := freeG p9 hD hS hA
  refine va_callv (va_runV (As := [.ref (hw 403)]) (rest := []) ⟨hx, hb, hml, hown, hts⟩ (m_X8_add l dC dI nW hw lw kw wl_6 wb_7 wG_6 402 403 b_wl_6 b_wb_7 (by first | with_reducible assumption | omega | (rw [iI_t (by omega) (by omega)]; omega) | decide | assumption) (by first | with_reducible assumption | omega | (rw [iI_t (by omega) (by omega)]; omega) | decide | assumption) H.size) (cwV 1 hts gwsMX6_compareRoom_3 rfl rfl rfl hd_yX8_add_RX8 (by decide +kernel)) (fz_pre (va_recv hK hP (ci := 8) (q0 := 5 + (402)) rfl (apR rfl (WW_o (by omega)))) hPc hKc hDc) rfl rfl hl.1 rfl (lv_room (Nat.le_of_ble_eq_true rfl)) dX6_compareRoom_53 (by decide +kernel)) hS (fun q _ h => hFc q h) hFc (fun u t9_ H locs ht hvm hw9 hB9 hz1 hk1 hS => ?_)
  revert u hw9 hB9
  refine fz_p3 ?_
  intro wl_8 wb_8 wG_8 hw9 hB9
  try dsimp only at hw9 hB9
  revert hw9
  refine fz_a2 ?_
  intro b_wl_8 b_wb_8
  have p8 : List.Perm (WQ hQ aQ kQ hw fQ_inside fQ_outside fQ_shut iQ_rows iQ_allRows iQ_columns ++ (WW nW hw lw kw wl_8 wb_8 wG_8)) ((WW nW hw lw kw wl_8 wb_8 wG_8) ++ (WQ hQ aQ kQ hw fQ_inside fQ_outside fQ_shut iQ_rows iQ_allRows iQ_columns)) := (List.perm_append_comm)
  obtain ⟨hP, hD⟩ := frameG p9 p8 hP hD hk1 hFc (fz_P ht hB9.1) hB9.2
  have hP : va_P (dC, dI) vwCl (WQ hQ aQ kQ hw fQ_inside fQ_outside fQ_shut iQ_rows iQ_allRows iQ_columns ++ (WW nW hw lw kw wl_8 wb_8 wG_8)) H := hP
  have hD : va_D A (WQ hQ aQ kQ hw fQ_inside fQ_outside fQ_shut iQ_rows iQ_allRows iQ_columns ++ (WW nW hw lw kw wl_8 wb_8 wG_8)) := hD
  refine lv_aload_n hx hb dX6_compareRoom_56 rfl (lv_at hl 0 rfl) ?_
  refine va_get (D := (dC, dI)) (ci := 6) (v := .ref (hw 402)) (C := RX6) (T := TX6) (N := 13) hx hb hts iwsMX6_compareRoom_in6 hown hK hP 0 rfl rfl 9 (by decide) (hts (.fieldLink RX6 36 "OptimaWorks$Tableau" "first" "LOptimaWorks$Whole;") (by decide +kernel)) (fun _ h9 => h9) rfl dX6_compareRoom_57 ?_
  have p9 : List.Perm (WQ hQ aQ kQ hw fQ_inside fQ_outside fQ_shut iQ_rows iQ_allRows iQ_columns ++ (WW nW hw lw kw wl_8 wb_8 wG_8)) ((WW nW hw lw kw wl_8 wb_8 wG_8) ++ (WQ hQ aQ kQ hw fQ_inside fQ_outside fQ_shut iQ_rows iQ_allRows iQ_columns)) := (List.perm_append_comm)
  have hPc := hP.mem (fun q h => p9.mem_iff.mpr (List.mem_append_left _ h))
  have hDc := (hD.perm p9).left
  have hKc : va_K (dC, dI) vwCl (tW kw) _ := hK.sub [4] rfl
  have hFc := freeG p9 hD hS hA
  refine va_calli (va_runV (As := []) (rest := []) ⟨hx, hb, hml, hown, hts⟩ (m_X8_sign l dC dI nW hw lw kw wl_8 wb_8 wG_8 402 b_wl_8 b_wb_8 (by first | with_reducible assumption | omega | (rw [iI_t (by omega) (by omega)]; omega) | decide | assumption) H.size) (cwV 0 hts gwsMX6_compareRoom_4 rfl rfl rfl hd_yX8_sign_RX8 (by decide +kernel)) (fz_pre (va_recv hK hP (ci := 8) (q0 := 5 + (402)) rfl (apR rfl (WW_o (by omega)))) hPc hKc hDc) rfl rfl hl.1 rfl (lv_room (Nat.le_of_ble_eq_true rfl)) dX6_compareRoom_60 (by decide +kernel)) hS (fun q _ h => hFc q h) hFc (fun r9 u t9_ H locs ht hvm hw9 hB9 hz1 hk1 hS => ?_)
  have b_r9 := hw9
  try dsimp only at b_r9
  have p8 : List.Perm (WQ hQ aQ kQ hw fQ_inside fQ_outside fQ_shut iQ_rows iQ_allRows iQ_columns ++ (WW nW hw lw kw wl_8 wb_8 wG_8)) ((WW nW hw lw kw wl_8 wb_8 wG_8) ++ (WQ hQ aQ kQ hw fQ_inside fQ_outside fQ_shut iQ_rows iQ_allRows iQ_columns)) := (List.perm_append_comm)
  obtain ⟨hP, hD⟩ := frameG p9 p8 hP hD hk1 hFc (fz_P ht hB9.1) hB9.2
  have hP : va_P (dC, dI) vwCl (WQ hQ aQ kQ hw fQ_inside fQ_outside fQ_shut iQ_rows iQ_allRows iQ_columns ++ (WW nW hw lw kw wl_8 wb_8 wG_8)) H := hP
  have hD : va_D A (WQ hQ aQ kQ hw fQ_inside fQ_outside fQ_shut iQ_rows iQ_allRows iQ_columns ++ (WW nW hw lw kw wl_8 wb_8 wG_8)) := hD
  refine W.widen (k := 0) (n := 0) (by decide +kernel) (by decide +kernel) ?_
  exact W.iret (v := r9) hx hb hr (fun t9_ ht hW => ⟨⟨r9, (wl_8, wb_8, wG_8), rfl, ⟨b_wl_8, b_wb_8⟩, by rw [ht]; exact hP, hD⟩, hS.F ht⟩) hS.2.2 dX6_compareRoom_63
theorem dX6_tightest_0 : decode cX6_tightest 0 = .ok (.iconst (-1), 1) := dk_2 (by decide +kernel)
theorem dX6_tightest_1 : decode cX6_tightest 1 = .ok (.istore_n 2, 1) := dk_61 (by decide +kernel)
theorem dX6_tightest_2 : decode cX6_tightest 2 = .ok (.iconst 0, 1) := dk_3 (by decide +kernel)
theorem dX6_tightest_3 : decode cX6_tightest 3 = .ok (.istore_n 3, 1) := dk_62 (by decide +kernel)
theorem dX6_tightest_4 : decode cX6_tightest 4 = .ok (.iload_n 3, 1) := dk_29 (by decide +kernel)
theorem dX6_tightest_5 : decode cX6_tightest 5 = .ok (.aload_n 0, 1) := dk_42 (by decide +kernel)
theorem dX6_tightest_6 : decode cX6_tightest 6 = .ok (.getfield 61, 3) := dk_180 (by decide +kernel)
theorem dX6_tightest_9 : decode cX6_tightest 9 = .ok (.if_icmp .ge 66, 3) := dk_162 (by decide +kernel)
theorem dX6_tightest_12 : decode cX6_tightest 12 = .ok (.aload_n 0, 1) := dk_42 (by decide +kernel)
theorem dX6_tightest_13 : decode cX6_tightest 13 = .ok (.iload_n 3, 1) := dk_29 (by decide +kernel)
theorem dX6_tightest_14 : decode cX6_tightest 14 = .ok (.iload_n 1, 1) := dk_27 (by decide +kernel)
theorem dX6_tightest_15 : decode cX6_tightest 15 = .ok (.invokevirtual 72, 3) := dk_182 (by decide +kernel)
theorem dX6_tightest_18 : decode cX6_tightest 18 = .ok (.invokevirtual 92, 3) := dk_182 (by decide +kernel)
theorem dX6_tightest_21 : decode cX6_tightest 21 = .ok (.ifCond .ge 48, 3) := dk_156 (by decide +kernel)
theorem dX6_tightest_24 : decode cX6_tightest 24 = .ok (.iload_n 2, 1) := dk_28 (by decide +kernel)
theorem dX6_tightest_25 : decode cX6_tightest 25 = .ok (.iconst (-1), 1) := dk_2 (by decide +kernel)
theorem dX6_tightest_26 : decode cX6_tightest 26 = .ok (.if_icmp .ne 7, 3) := dk_160 (by decide +kernel)
theorem dX6_tightest_29 : decode cX6_tightest 29 = .ok (.iconst (-1), 1) := dk_2 (by decide +kernel)
theorem dX6_tightest_30 : decode cX6_tightest 30 = .ok (.goto 10, 3) := dk_167 (by decide +kernel)
theorem dX6_tightest_33 : decode cX6_tightest 33 = .ok (.aload_n 0, 1) := dk_42 (by decide +kernel)
theorem dX6_tightest_34 : decode cX6_tightest 34 = .ok (.iload_n 3, 1) := dk_29 (by decide +kernel)
theorem dX6_tightest_35 : decode cX6_tightest 35 = .ok (.iload_n 2, 1) := dk_28 (by decide +kernel)
theorem dX6_tightest_36 : decode cX6_tightest 36 = .ok (.iload_n 1, 1) := dk_27 (by decide +kernel)
theorem dX6_tightest_37 : decode cX6_tightest 37 = .ok (.invokevirtual 116, 3) := dk_182 (by decide +kernel)
theorem dX6_tightest_40 : decode cX6_tightest 40 = .ok (.istore 4, 2) := dk_54 (by decide +kernel)
theorem dX6_tightest_42 : decode cX6_tightest 42 = .ok (.iload 4, 2) := dk_21 (by decide +kernel)
theorem dX6_tightest_44 : decode cX6_tightest 44 = .ok (.ifCond .lt 23, 3) := dk_155 (by decide +kernel)
theorem dX6_tightest_47 : decode cX6_tightest 47 = .ok (.iload 4, 2) := dk_21 (by decide +kernel)
theorem dX6_tightest_49 : decode cX6_tightest 49 = .ok (.ifCond .ne 20, 3) := dk_154 (by decide +kernel)
theorem dX6_tightest_52 : decode cX6_tightest 52 = .ok (.aload_n 0, 1) := dk_42 (by decide +kernel)
theorem dX6_tightest_53 : decode cX6_tightest 53 = .ok (.getfield 17, 3) := dk_180 (by decide +kernel)
theorem dX6_tightest_56 : decode cX6_tightest 56 = .ok (.iload_n 3, 1) := dk_29 (by decide +kernel)
theorem dX6_tightest_57 : decode cX6_tightest 57 = .ok (.iaload, 1) := dk_46 (by decide +kernel)
theorem dX6_tightest_58 : decode cX6_tightest 58 = .ok (.aload_n 0, 1) := dk_42 (by decide +kernel)
theorem dX6_tightest_59 : decode cX6_tightest 59 = .ok (.getfield 17, 3) := dk_180 (by decide +kernel)
theorem dX6_tightest_62 : decode cX6_tightest 62 = .ok (.iload_n 2, 1) := dk_28 (by decide +kernel)
theorem dX6_tightest_63 : decode cX6_tightest 63 = .ok (.iaload, 1) := dk_46 (by decide +kernel)
theorem dX6_tightest_64 : decode cX6_tightest 64 = .ok (.if_icmp .ge 5, 3) := dk_162 (by decide +kernel)
theorem dX6_tightest_67 : decode cX6_tightest 67 = .ok (.iload_n 3, 1) := dk_29 (by decide +kernel)
theorem dX6_tightest_68 : decode cX6_tightest 68 = .ok (.istore_n 2, 1) := dk_61 (by decide +kernel)
theorem dX6_tightest_69 : decode cX6_tightest 69 = .ok (.iinc 3 1, 3) := dk_132 (by decide +kernel)
theorem dX6_tightest_72 : decode cX6_tightest 72 = .ok (.goto (-68), 3) := dk_167 (by decide +kernel)
theorem dX6_tightest_75 : decode cX6_tightest 75 = .ok (.iload_n 2, 1) := dk_28 (by decide +kernel)
theorem dX6_tightest_76 : decode cX6_tightest 76 = .ok (.ireturn, 1) := dk_172 (by decide +kernel)
def wsMX6_tightest : List Cond := .code yX6_tightest cX6_tightest 5 (some .int) :: ([.fieldLink RX6 61 "OptimaWorks$Tableau" "rows" "I", .fieldLink RX6 17 "OptimaWorks$Tableau" "inside" "[I"] ++ wsX60 ++ (wsV RX6 72 RX6 yX6_cellAt wsMX6_cellAt) ++ (wsV RX6 92 RX8 yX8_sign wsMX8_sign) ++ (wsV RX6 116 RX6 yX6_compareRoom wsMX6_compareRoom))
theorem iwsMX6_tightest_in6 : ∀ w ∈ wsX60, w ∈ wsMX6_tightest := fun _ h => List.mem_cons_of_mem _ (List.mem_append_left _ (List.mem_append_left _ (List.mem_append_left _ (List.mem_append_right _ h))))
theorem gwsMX6_tightest_0 : GoodIn wsMX6_tightest (wsV RX6 72 RX6 yX6_cellAt wsMX6_cellAt) := goodIn_sub (fun _ h => List.mem_cons_of_mem _ (List.mem_append_left _ (List.mem_append_left _ (List.mem_append_right _ h)))) (gdV (by decide +kernel) gdwsMX6_cellAt)
theorem gwsMX6_tightest_1 : GoodIn wsMX6_tightest (wsV RX6 92 RX8 yX8_sign wsMX8_sign) := goodIn_sub (fun _ h => List.mem_cons_of_mem _ (List.mem_append_left _ (List.mem_append_right _ h))) (gdV (by decide +kernel) gdwsMX8_sign)
theorem gwsMX6_tightest_2 : GoodIn wsMX6_tightest (wsV RX6 116 RX6 yX6_compareRoom wsMX6_compareRoom) := goodIn_sub (fun _ h => List.mem_cons_of_mem _ (List.mem_append_right _ h)) (gdV (by decide +kernel) gdwsMX6_compareRoom)
theorem gdwsMX6_tightest : wsMX6_tightest.all goodWord = true := gdC rfl (gdA (gdA (gdA (gdA (by decide +kernel : ([.fieldLink RX6 61 "OptimaWorks$Tableau" "rows" "I", .fieldLink RX6 17 "OptimaWorks$Tableau" "inside" "[I"] : List Cond).all goodWord = true) gdwsX60) (gdV (by decide +kernel) gdwsMX6_cellAt)) (gdV (by decide +kernel) gdwsMX8_sign)) (gdV (by decide +kernel) gdwsMX6_compareRoom))
set_option maxHeartbeats 4000000 in
set_option maxRecDepth 100000 in
/-- the tightest row -/
theorem m_X6_tightest (l : Launch) (dC : Nat → ClassId) (dI : Nat → Nat → Nat) (hQ : Nat → Nat) (aQ : Nat → Nat) (kQ : Nat → ClassId) (hw : Nat → Nat) (fQ_inside : Nat → Int32) (fQ_outside : Nat → Int32) (fQ_shut : Nat → Int32) (iQ_rows : Int32) (iQ_allRows : Int32) (iQ_columns : Int32) (nW : Nat) (lw : Nat → Nat) (kw : ClassId) (wl : Nat → Int32) (wb : Nat → Int32) (wG : Nat → Nat → Int64) (p1 : Int32) (b_iQ_rows : 0 ≤ iQ_rows.toInt ∧ iQ_rows.toInt ≤ 40) (b_iQ_allRows : 0 ≤ iQ_allRows.toInt ∧ iQ_allRows.toInt ≤ 40) (b_iQ_columns : 0 ≤ iQ_columns.toInt ∧ iQ_columns.toInt ≤ 40) (b_tb : TbO iQ_rows iQ_allRows iQ_columns) (b_wl : ∀ q : Nat, 0 ≤ (wl q).toInt ∧ (wl q).toInt ≤ 14) (b_wb : ∀ q : Nat, 0 ≤ (wb q).toInt ∧ (wb q).toInt ≤ 1) (b_p1 : 0 ≤ p1.toInt ∧ p1.toInt ≤ 40) (hnW : 406 ≤ nW) (hp1 : p1.toInt ≤ iQ_columns.toInt) (sz : Nat) : Met l yX6_tightest wsMX6_tightest ({ frames := 4, cells := 0, slots := 0, locals := 84 }) (va_Pc [.ref (hQ 0), .int p1] (fun U => U.heap.size = sz ∧ va_P (dC, dI) vwCl (WQ hQ aQ kQ hw fQ_inside fQ_outside fQ_shut iQ_rows iQ_allRows iQ_columns ++ (WW nW hw lw kw wl wb wG)) U.heap ∧ va_K (dC, dI) vwCl (tQ kQ ++ (tW kw)) U ∧ va_D (fun _ => True) (WQ hQ aQ kQ hw fQ_inside fQ_outside fQ_shut iQ_rows iQ_allRows iQ_columns ++ (WW nW hw lw kw wl wb wG)))) (va_Qi (fun (r : Int32) (u : (Nat → Int32) × (Nat → Int32) × (Nat → Nat → Int64)) => (∀ q : Nat, 0 ≤ ((u.1) q).toInt ∧ ((u.1) q).toInt ≤ 14) ∧ (∀ q : Nat, 0 ≤ ((u.2.1) q).toInt ∧ ((u.2.1) q).toInt ≤ 1) ∧ ((-1) ≤ r.toInt ∧ r.toInt ≤ 39) ∧ (r.toInt < iQ_rows.toInt)) (fun (u : (Nat → Int32) × (Nat → Int32) × (Nat → Nat → Int64)) t => va_P (dC, dI) vwCl (WQ hQ aQ kQ hw fQ_inside fQ_outside fQ_shut iQ_rows iQ_allRows iQ_columns ++ (WW nW hw lw kw (u.1) (u.2.1) (u.2.2))) t.heap ∧ va_D (va_A (WQ hQ aQ kQ hw fQ_inside fQ_outside fQ_shut iQ_rows iQ_allRows iQ_columns ++ (WW nW hw lw kw wl wb wG)) sz) (WQ hQ aQ kQ hw fQ_inside fQ_outside fQ_shut iQ_rows iQ_allRows iQ_columns ++ (WW nW hw lw kw (u.1) (u.2.1) (u.2.2)))) (va_A (WQ hQ aQ kQ hw fQ_inside fQ_outside fQ_shut iQ_rows iQ_allRows iQ_columns ++ (WW nW hw lw kw wl wb wG)) sz)) 0 0 (va_A (WQ hQ aQ kQ hw fQ_inside fQ_outside fQ_shut iQ_rows iQ_allRows iQ_columns ++ (WW nW hw lw kw wl wb wG)) sz) := by
  refine Met.ofW (cc := cX6_tightest) (maxL := 5) (ret := (some .int)) (by decide) rfl ?_
  intro p e s m args below meth c s₁ B hml hv
  obtain ⟨rfl, hsz, hP, hK, hD0⟩ := hv
  have hx := B.exec
  have hb := B.bytes
  have hr := B.returns
  have hts := atoms_spec (ws := wsMX6_tightest) B.pre
  have hown : s.vm.findClass RX6 = some m.cls := findClass_of_methodNamed B.named
  have hlocks := B.notSynchronized
  subst hsz
  have hD := hD0.self (sz := s.heap.size)
  generalize hAe : va_A (WQ hQ aQ kQ hw fQ_inside fQ_outside fQ_shut iQ_rows iQ_allRows iQ_columns ++ (WW nW hw lw kw wl wb wG)) s.heap.size = A at hD ⊢
  have hA : ∀ q : Nat, s.heap.size ≤ q → A q := fun q h => by rw [← hAe]; exact Or.inr h
  have hS : va_S A s.heap s.heap [] := va_S.rf
  have hl := lv_entry ([.ref (hQ 0), .int p1]) (n := 5) (Nat.le_of_ble_eq_true rfl)
  rw [lg_entry_eq]
  generalize (lg_sl ([.ref (hQ 0), .int p1]) ++ List.replicate (5 - (lg_sl ([.ref (hQ 0), .int p1])).length) Slot.unset).toArray = ls at hl ⊢
  have hl : lv_has ls 5 [(0, .ref (hQ 0)), (1, .int p1)] := hl
  have hTb := b_tb.1
  refine lv_iconst (v := (-1)) hx hb dX6_tightest_0 (by decide) ?_
  refine lv_istore_n hx hb dX6_tightest_1 rfl hl (by decide) rfl (fun ls (hl : lv_has ls _ ([(2, .int (-1)), (0, .ref (hQ 0)), (1, .int p1)])) => ?_)
  refine lv_iconst (v := 0) hx hb dX6_tightest_2 (by decide) ?_
  refine lv_istore_n hx hb dX6_tightest_3 rfl hl (by decide) rfl (fun ls (hl : lv_has ls _ ([(3, .int 0), (2, .int (-1)), (0, .ref (hQ 0)), (1, .int p1)])) => ?_)
  have hl : lv_has _ _ ([(3, .int 0), (2, .int (-1)), (0, .ref (hQ 0)), (1, .int p1)]) := lv_sub hl [0, 1, 2, 3] rfl
  refine (fun (loop : ∀ (n9 : Nat) (wl_x4 : Nat → Int32) (wb_x4 : Nat → Int32) (wG_x4 : Nat → Nat → Int64) (l3_x4 : Int32) (l2_x4 : Int32) (H : Heap) (locs : List Loc) (ls : Array Slot), (∀ q : Nat, 0 ≤ (wl_x4 q).toInt ∧ (wl_x4 q).toInt ≤ 14) → (∀ q : Nat, 0 ≤ (wb_x4 q).toInt ∧ (wb_x4 q).toInt ≤ 1) → (0 ≤ l3_x4.toInt ∧ l3_x4.toInt ≤ 40) → ((-1) ≤ l2_x4.toInt ∧ l2_x4.toInt ≤ 39) → (l2_x4.toInt < iQ_rows.toInt) → (40 - l3_x4.toInt < ((n9 : Nat) : Int)) → va_P (dC, dI) vwCl (WQ hQ aQ kQ hw fQ_inside fQ_outside fQ_shut iQ_rows iQ_allRows iQ_columns ++ (WW nW hw lw kw wl_x4 wb_x4 wG_x4)) H → va_D A (WQ hQ aQ kQ hw fQ_inside fQ_outside fQ_shut iQ_rows iQ_allRows iQ_columns ++ (WW nW hw lw kw wl_x4 wb_x4 wG_x4)) → va_S A s.heap H locs → lv_has ls 5 [(3, .int l3_x4), (2, .int l2_x4), (0, .ref (hQ 0)), (1, .int p1)] → W p l e _ s m _ below meth c H locs 0 0 _ (F0 m 4 ls [])) => loop (41) wl wb wG 0 (-1) _ _ _ b_wl b_wb (show 0 ≤ (0 : Int32).toInt ∧ (0 : Int32).toInt ≤ 40 from by decide) (show (-1) ≤ ((-1) : Int32).toInt ∧ ((-1) : Int32).toInt ≤ 39 from by decide) (show ((-1) : Int32).toInt < iQ_rows.toInt from by first | assumption | omega | (have h9 : ((-1) : Int32).toInt = -1 := (by decide); omega)) ((by have e9 : (0 : Int32).toInt = 0 := (by decide : (0 : Int32).toInt = 0); omega)) hP hD hS hl) ?_
  intro n9
  induction n9 with
  | zero => intro wl_x4 wb_x4 wG_x4 l3_x4 l2_x4 H locs ls b_wl_x4 b_wb_x4 b_l3_x4 b_l2_x4 hfr hf9; exact False.elim (by omega)
  | succ n9 ihx4 =>
    intro wl_x4 wb_x4 wG_x4 l3_x4 l2_x4 H locs ls b_wl_x4 b_wb_x4 b_l3_x4 b_l2_x4 hfr hfx4 hP hD hS hl
    refine lv_iload_n hx hb dX6_tightest_4 rfl (lv_at hl 0 rfl) ?_
    refine lv_aload_n hx hb dX6_tightest_5 rfl (lv_at hl 2 rfl) ?_
    refine va_get (D := (dC, dI)) (ci := 6) (v := .int iQ_rows) (C := RX6) (T := TX6) (N := 13) hx hb hts iwsMX6_tightest_in6 hown hK hP 0 rfl rfl 5 (by decide) (hts (.fieldLink RX6 61 "OptimaWorks$Tableau" "rows" "I") (by decide +kernel)) (fun _ h9 => h9) rfl dX6_tightest_6 ?_
    refine lv_icmp_ge (tgt := 75) hx hb dX6_tightest_9 (by decide) (fun c_9 => ?_) (fun c_9 => ?_)
    · have t_9 : l3_x4.toInt ≥ iQ_rows.toInt := toI_ge c_9 rfl rfl
      refine lv_iload_n hx hb dX6_tightest_75 rfl (lv_at hl 1 rfl) ?_
      refine W.widen (k := 0) (n := 0) (by decide +kernel) (by decide +kernel) ?_
      exact W.iret (v := l2_x4) hx hb hr (fun t9_ ht hW => ⟨⟨l2_x4, (wl_x4, wb_x4, wG_x4), rfl, ⟨b_wl_x4, b_wb_x4, (b_l2_x4), (by (try dsimp only); exact (hfr))⟩, by rw [ht]; exact hP, hD⟩, hS.F ht⟩) hS.2.2 dX6_tightest_76
    · have t_9 : ¬ l3_x4.toInt ≥ iQ_rows.toInt := toI_nge c_9 rfl rfl
      refine lv_aload_n hx hb dX6_tightest_12 rfl (lv_at hl 2 rfl) ?_
      refine lv_iload_n hx hb dX6_tightest_13 rfl (lv_at hl 0 rfl) ?_
      refine lv_iload_n hx hb dX6_tightest_14 rfl (lv_at hl 3 rfl) ?_
      have hFc := allFree hD hS hA
      refine va_callr (va_runV (As := [.int l3_x4, .int p1]) (rest := []) ⟨hx, hb, hml, hown, hts⟩ (m_X6_cellAt l dC dI hQ aQ kQ hw fQ_inside fQ_outside fQ_shut iQ_rows iQ_allRows iQ_columns nW lw kw wl_x4 wb_x4 wG_x4 l3_x4 p1 (b_iQ_rows) (b_iQ_allRows) (b_iQ_columns) (by first | with_reducible assumption | omega | assumption) b_wl_x4 b_wb_x4 (by first | exact b_l3_x4 | with_reducible assumption | exact ⟨by omega, by omega⟩ | assumption) (b_p1) (by first | with_reducible assumption | omega | (rw [iI_t (by omega) (by omega)]; omega) | decide | assumption) (cell_ix b_tb (by omega) (by omega) (by omega) (by omega)) H.size) (cwV 2 hts gwsMX6_tightest_0 rfl rfl rfl hd_yX6_cellAt_RX6 (by decide +kernel)) (fz_pre (va_recv hK hP (ci := 6) (q0 := 0) rfl rfl) hP hK hD) rfl rfl hl.1 rfl (lv_room (Nat.le_of_ble_eq_true rfl)) dX6_tightest_15 (by decide +kernel)) hS (fun q _ h => hFc q h) hFc (fun kR_45 ra45 t9_ H locs ht hvm hw9 hB9 hz1 hk1 hS => ?_)
      revert hB9
      refine fz_a2 ?_
      intro hra hB9
      subst hra
      have f45_0 := hw9
      try dsimp only at f45_0
      have hP : va_P (dC, dI) vwCl (WQ hQ aQ kQ hw fQ_inside fQ_outside fQ_shut iQ_rows iQ_allRows iQ_columns ++ (WW nW hw lw kw wl_x4 wb_x4 wG_x4)) H := fz_P ht hB9.1
      have hD : va_D A (WQ hQ aQ kQ hw fQ_inside fQ_outside fQ_shut iQ_rows iQ_allRows iQ_columns ++ (WW nW hw lw kw wl_x4 wb_x4 wG_x4)) := hB9.2.weaken (fun _ q _ h => hFc q.1 h)
      have p9 : List.Perm (WQ hQ aQ kQ hw fQ_inside fQ_outside fQ_shut iQ_rows iQ_allRows iQ_columns ++ (WW nW hw lw kw wl_x4 wb_x4 wG_x4)) ((WW nW hw lw kw wl_x4 wb_x4 wG_x4) ++ (WQ hQ aQ kQ hw fQ_inside fQ_outside fQ_shut iQ_rows iQ_allRows iQ_columns)) := (List.perm_append_comm)
      have hPc := hP.mem (fun q h => p9.mem_iff.mpr (List.mem_append_left _ h))
      have hDc := (hD.perm p9).left
      have hKc : va_K (dC, dI) vwCl (tW kw) _ := hK.sub [4] rfl
      have hFc := freeG p9 hD hS hA
      refine va_calli (va_runV (As := []) (rest := []) ⟨hx, hb, hml, hown, hts⟩ (m_X8_sign l dC dI nW hw lw kw wl_x4 wb_x4 wG_x4 kR_45 b_wl_x4 b_wb_x4 (by first | with_reducible assumption | omega | (rw [iI_t (by omega) (by omega)]; omega) | decide | assumption) H.size) (cwV 0 hts gwsMX6_tightest_1 rfl rfl rfl hd_yX8_sign_RX8 (by decide +kernel)) (fz_pre (va_recv hK hP (ci := 8) (q0 := 5 + (kR_45)) rfl (apR rfl (WW_o (by omega)))) hPc hKc hDc) rfl rfl hl.1 rfl (lv_room (Nat.le_of_ble_eq_true rfl)) dX6_tightest_18 (by decide +kernel)) hS (fun q _ h => hFc q h) hFc (fun r46 u t9_ H locs ht hvm hw9 hB9 hz1 hk1 hS => ?_)
      have b_r46 := hw9
      try dsimp only at b_r46
      have p8 : List.Perm (WQ hQ aQ kQ hw fQ_inside fQ_outside fQ_shut iQ_rows iQ_allRows iQ_columns ++ (WW nW hw lw kw wl_x4 wb_x4 wG_x4)) ((WW nW hw lw kw wl_x4 wb_x4 wG_x4) ++ (WQ hQ aQ kQ hw fQ_inside fQ_outside fQ_shut iQ_rows iQ_allRows iQ_columns)) := (List.perm_append_comm)
      obtain ⟨hP, hD⟩ := frameG p9 p8 hP hD hk1 hFc (fz_P ht hB9.1) hB9.2
      have hP : va_P (dC, dI) vwCl (WQ hQ aQ kQ hw fQ_inside fQ_outside fQ_shut iQ_rows iQ_allRows iQ_columns ++ (WW nW hw lw kw wl_x4 wb_x4 wG_x4)) H := hP
      have hD : va_D A (WQ hQ aQ kQ hw fQ_inside fQ_outside fQ_shut iQ_rows iQ_allRows iQ_columns ++ (WW nW hw lw kw wl_x4 wb_x4 wG_x4)) := hD
      refine W.cut (pc := 69) (fun H locs ls stk => ∃ (wl_j16 : Nat → Int32) (wb_j16 : Nat → Int32) (wG_j16 : Nat → Nat → Int64) (l2_j16 : Int32), (∀ q : Nat, 0 ≤ (wl_j16 q).toInt ∧ (wl_j16 q).toInt ≤ 14) ∧ (∀ q : Nat, 0 ≤ (wb_j16 q).toInt ∧ (wb_j16 q).toInt ≤ 1) ∧ ((-1) ≤ l2_j16.toInt ∧ l2_j16.toInt ≤ 39) ∧ (l2_j16.toInt < iQ_rows.toInt) ∧  stk = [] ∧ va_P (dC, dI) vwCl (WQ hQ aQ kQ hw fQ_inside fQ_outside fQ_shut iQ_rows iQ_allRows iQ_columns ++ (WW nW hw lw kw wl_j16 wb_j16 wG_j16)) H ∧ va_D A (WQ hQ aQ kQ hw fQ_inside fQ_outside fQ_shut iQ_rows iQ_allRows iQ_columns ++ (WW nW hw lw kw wl_j16 wb_j16 wG_j16)) ∧ va_S A s.heap H locs ∧ lv_has ls 5 [(3, .int l3_x4), (2, .int l2_j16), (0, .ref (hQ 0)), (1, .int p1)]) (fun join16 => ?_) ?_
      · refine lv_if_ge (tgt := 69) hx hb dX6_tightest_21 (by decide) (fun c_21 => ?_) (fun c_21 => ?_)
        · have t_21 : r46.toInt ≥ 0 := toI_ge c_21 rfl (by decide : (0 : Int32).toInt = 0)
          have hl : lv_has _ _ ([(3, .int l3_x4), (2, .int l2_x4), (0, .ref (hQ 0)), (1, .int p1)]) := lv_sub hl [0, 1, 2, 3] rfl
          exact join16 _ _ _ _ ⟨wl_x4, wb_x4, wG_x4, l2_x4, b_wl_x4, b_wb_x4, (b_l2_x4), (show l2_x4.toInt < iQ_rows.toInt from by first | assumption | omega | (have h9 : ((-1) : Int32).toInt = -1 := (by decide); omega)), rfl, hP, hD, hS, hl⟩
        · have t_21 : ¬ r46.toInt ≥ 0 := toI_nge c_21 rfl (by decide : (0 : Int32).toInt = 0)
          refine lv_iload_n hx hb dX6_tightest_24 rfl (lv_at hl 1 rfl) ?_
          refine lv_iconst (v := (-1)) hx hb dX6_tightest_25 (by decide) ?_
          refine lv_icmp_ne (tgt := 33) hx hb dX6_tightest_26 (by decide) (fun c_26 => ?_) (fun c_26 => ?_)
          · have t_26 : l2_x4.toInt ≠ (-1) := toI_ne c_26 rfl (by decide : ((-1) : Int32).toInt = (-1))
            refine lv_aload_n hx hb dX6_tightest_33 rfl (lv_at hl 2 rfl) ?_
            refine lv_iload_n hx hb dX6_tightest_34 rfl (lv_at hl 0 rfl) ?_
            refine lv_iload_n hx hb dX6_tightest_35 rfl (lv_at hl 1 rfl) ?_
            refine lv_iload_n hx hb dX6_tightest_36 rfl (lv_at hl 3 rfl) ?_
            have hFc := allFree hD hS hA
            refine va_calli (va_runV (As := [.int l3_x4, .int l2_x4, .int p1]) (rest := []) ⟨hx, hb, hml, hown, hts⟩ (m_X6_compareRoom l dC dI hQ aQ kQ hw fQ_inside fQ_outside fQ_shut iQ_rows iQ_allRows iQ_columns nW lw kw wl_x4 wb_x4 wG_x4 l3_x4 l2_x4 p1 (b_iQ_rows) (b_iQ_allRows) (b_iQ_columns) (by first | with_reducible assumption | omega | assumption) b_wl_x4 b_wb_x4 (by first | exact b_l3_x4 | with_reducible assumption | exact ⟨by omega, by omega⟩ | assumption) (by first | exact b_l2_x4 | with_reducible assumption | exact ⟨by omega, by omega⟩ | assumption) (b_p1) (by first | with_reducible assumption | omega | (rw [iI_t (by omega) (by omega)]; omega) | decide | assumption) (by first | with_reducible assumption | omega | (rw [iI_t (by omega) (by omega)]; omega) | decide | assumption) (by first | with_reducible assumption | omega | (rw [iI_t (by omega) (by omega)]; omega) | decide | assumption) (by first | with_reducible assumption | omega | (rw [iI_t (by omega) (by omega)]; omega) | decide | assumption) H.size) (cwV 3 hts gwsMX6_tightest_2 rfl rfl rfl hd_yX6_compareRoom_RX6 (by decide +kernel)) (fz_pre (va_recv hK hP (ci := 6) (q0 := 0) rfl rfl) hP hK hD) rfl rfl hl.1 rfl (lv_room (Nat.le_of_ble_eq_true rfl)) dX6_tightest_37 (by decide +kernel)) hS (fun q _ h => hFc q h) hFc (fun r50 u t9_ H locs ht hvm hw9 hB9 hz1 hk1 hS => ?_)
            revert u hw9 hB9
            refine fz_p3 ?_
            intro wl_50 wb_50 wG_50 hw9 hB9
            try dsimp only at hw9 hB9
            revert hw9
            refine fz_a2 ?_
            intro b_wl_50 b_wb_50
            have hP : va_P (dC, dI) vwCl (WQ hQ aQ kQ hw fQ_inside fQ_outside fQ_shut iQ_rows iQ_allRows iQ_columns ++ (WW nW hw lw kw wl_50 wb_50 wG_50)) H := fz_P ht hB9.1
            have hD : va_D A (WQ hQ aQ kQ hw fQ_inside fQ_outside fQ_shut iQ_rows iQ_allRows iQ_columns ++ (WW nW hw lw kw wl_50 wb_50 wG_50)) := hB9.2.weaken (fun _ q _ h => hFc q.1 h)
            refine lv_istore hx hb dX6_tightest_40 hl (by decide) rfl (fun ls (hl : lv_has ls _ ([(4, .int r50), (3, .int l3_x4), (2, .int l2_x4), (0, .ref (hQ 0)), (1, .int p1)])) => ?_)
            refine lv_iload hx hb dX6_tightest_42 (lv_at hl 0 rfl) ?_
            refine lv_if_lt (tgt := 67) hx hb dX6_tightest_44 (by decide) (fun c_44 => ?_) (fun c_44 => ?_)
            · have t_44 : r50.toInt < 0 := toI_lt c_44 rfl (by decide : (0 : Int32).toInt = 0)
              refine lv_iload_n hx hb dX6_tightest_67 rfl (lv_at hl 1 rfl) ?_
              refine lv_istore_n hx hb dX6_tightest_68 rfl hl (by decide) rfl (fun ls (hl : lv_has ls _ ([(2, .int l3_x4), (4, .int r50), (3, .int l3_x4), (0, .ref (hQ 0)), (1, .int p1)])) => ?_)
              have hl : lv_has _ _ ([(3, .int l3_x4), (2, .int l3_x4), (0, .ref (hQ 0)), (1, .int p1)]) := lv_sub hl [2, 0, 3, 4] rfl
              exact join16 _ _ _ _ ⟨wl_50, wb_50, wG_50, l3_x4, b_wl_50, b_wb_50, (by first | exact b_l3_x4 | with_reducible assumption | exact ⟨by omega, by omega⟩ | assumption), (show l3_x4.toInt < iQ_rows.toInt from by first | assumption | omega | (have h9 : ((-1) : Int32).toInt = -1 := (by decide); omega)), rfl, hP, hD, hS, hl⟩
            · have t_44 : ¬ r50.toInt < 0 := toI_nlt c_44 rfl (by decide : (0 : Int32).toInt = 0)
              refine lv_iload hx hb dX6_tightest_47 (lv_at hl 0 rfl) ?_
              refine lv_if_ne (tgt := 69) hx hb dX6_tightest_49 (by decide) (fun c_49 => ?_) (fun c_49 => ?_)
              · have t_49 : r50.toInt ≠ 0 := toI_ne c_49 rfl (by decide : (0 : Int32).toInt = 0)
                have hl : lv_has _ _ ([(3, .int l3_x4), (2, .int l2_x4), (0, .ref (hQ 0)), (1, .int p1)]) := lv_sub hl [1, 2, 3, 4] rfl
                exact join16 _ _ _ _ ⟨wl_50, wb_50, wG_50, l2_x4, b_wl_50, b_wb_50, (b_l2_x4), (show l2_x4.toInt < iQ_rows.toInt from by first | assumption | omega | (have h9 : ((-1) : Int32).toInt = -1 := (by decide); omega)), rfl, hP, hD, hS, hl⟩
              · have t_49 : r50.toInt = 0 := toI_nne c_49 rfl (by decide : (0 : Int32).toInt = 0)
                refine lv_aload_n hx hb dX6_tightest_52 rfl (lv_at hl 3 rfl) ?_
                refine va_get (D := (dC, dI)) (ci := 6) (v := .ref (aQ 1)) (C := RX6) (T := TX6) (N := 13) hx hb hts iwsMX6_tightest_in6 hown hK hP 0 rfl rfl 1 (by decide) (hts (.fieldLink RX6 17 "OptimaWorks$Tableau" "inside" "[I") (by decide +kernel)) (fun _ h9 => h9) rfl dX6_tightest_53 ?_
                refine lv_iload_n hx hb dX6_tightest_56 rfl (lv_at hl 1 rfl) ?_
                refine va_iald (cA := kQ 1) (n := 40) (f := fQ_inside) hx hb hK hP 2 1 rfl rfl (vp_in_iff.mpr ⟨b_l3_x4.1, (by omega)⟩) dX6_tightest_57 ?_
                refine lv_topi (fun v51 hv51 => ?_)
                clear hv51
                refine lv_aload_n hx hb dX6_tightest_58 rfl (lv_at hl 3 rfl) ?_
                refine va_get (D := (dC, dI)) (ci := 6) (v := .ref (aQ 1)) (C := RX6) (T := TX6) (N := 13) hx hb hts iwsMX6_tightest_in6 hown hK hP 0 rfl rfl 1 (by decide) (hts (.fieldLink RX6 17 "OptimaWorks$Tableau" "inside" "[I") (by decide +kernel)) (fun _ h9 => h9) rfl dX6_tightest_59 ?_
                refine lv_iload_n hx hb dX6_tightest_62 rfl (lv_at hl 2 rfl) ?_
                refine va_iald (cA := kQ 1) (n := 40) (f := fQ_inside) hx hb hK hP 2 1 rfl rfl (vp_in_iff.mpr ⟨(by omega), (Int.lt_of_le_of_lt (b_l2_x4.2) (by decide))⟩) dX6_tightest_63 ?_
                refine lv_topi (fun v52 hv52 => ?_)
                clear hv52
                refine lv_icmp_ge (tgt := 69) hx hb dX6_tightest_64 (by decide) (fun c_64 => ?_) (fun c_64 => ?_)
                · have t_64 : v51.toInt ≥ v52.toInt := toI_ge c_64 rfl rfl
                  have hl : lv_has _ _ ([(3, .int l3_x4), (2, .int l2_x4), (0, .ref (hQ 0)), (1, .int p1)]) := lv_sub hl [1, 2, 3, 4] rfl
                  exact join16 _ _ _ _ ⟨wl_50, wb_50, wG_50, l2_x4, b_wl_50, b_wb_50, (b_l2_x4), (show l2_x4.toInt < iQ_rows.toInt from by first | assumption | omega | (have h9 : ((-1) : Int32).toInt = -1 := (by decide); omega)), rfl, hP, hD, hS, hl⟩
                · have t_64 : ¬ v51.toInt ≥ v52.toInt := toI_nge c_64 rfl rfl
                  refine lv_iload_n hx hb dX6_tightest_67 rfl (lv_at hl 1 rfl) ?_
                  refine lv_istore_n hx hb dX6_tightest_68 rfl hl (by decide) rfl (fun ls (hl : lv_has ls _ ([(2, .int l3_x4), (4, .int r50), (3, .int l3_x4), (0, .ref (hQ 0)), (1, .int p1)])) => ?_)
                  have hl : lv_has _ _ ([(3, .int l3_x4), (2, .int l3_x4), (0, .ref (hQ 0)), (1, .int p1)]) := lv_sub hl [2, 0, 3, 4] rfl
                  exact join16 _ _ _ _ ⟨wl_50, wb_50, wG_50, l3_x4, b_wl_50, b_wb_50, (by first | exact b_l3_x4 | with_reducible assumption | exact ⟨by omega, by omega⟩ | assumption), (show l3_x4.toInt < iQ_rows.toInt from by first | assumption | omega | (have h9 : ((-1) : Int32).toInt = -1 := (by decide); omega)), rfl, hP, hD, hS, hl⟩
          · have t_26 : l2_x4.toInt = (-1) := toI_nne c_26 rfl (by decide : ((-1) : Int32).toInt = (-1))
            refine lv_iconst (v := (-1)) hx hb dX6_tightest_29 (by decide) ?_
            refine lv_goto (tgt := 40) hx hb dX6_tightest_30 (by decide) ?_
            refine lv_istore hx hb dX6_tightest_40 hl (by decide) rfl (fun ls (hl : lv_has ls _ ([(4, .int (-1)), (3, .int l3_x4), (2, .int l2_x4), (0, .ref (hQ 0)), (1, .int p1)])) => ?_)
            refine lv_iload hx hb dX6_tightest_42 (lv_at hl 0 rfl) ?_
            refine lv_if_lt (tgt := 67) hx hb dX6_tightest_44 (by decide) (fun _ => ?_) (fun c9 => absurd (by decide) c9)
            refine lv_iload_n hx hb dX6_tightest_67 rfl (lv_at hl 1 rfl) ?_
            refine lv_istore_n hx hb dX6_tightest_68 rfl hl (by decide) rfl (fun ls (hl : lv_has ls _ ([(2, .int l3_x4), (4, .int (-1)), (3, .int l3_x4), (0, .ref (hQ 0)), (1, .int p1)])) => ?_)
            have hl : lv_has _ _ ([(3, .int l3_x4), (2, .int l3_x4), (0, .ref (hQ 0)), (1, .int p1)]) := lv_sub hl [2, 0, 3, 4] rfl
            exact join16 _ _ _ _ ⟨wl_x4, wb_x4, wG_x4, l3_x4, b_wl_x4, b_wb_x4, (by first | exact b_l3_x4 | with_reducible assumption | exact ⟨by omega, by omega⟩ | assumption), (show l3_x4.toInt < iQ_rows.toInt from by first | assumption | omega | (have h9 : ((-1) : Int32).toInt = -1 := (by decide); omega)), rfl, hP, hD, hS, hl⟩
      · rintro H locs ls stk ⟨wl_j16, wb_j16, wG_j16, l2_j16, b_wl_j16, b_wb_j16, b_l2_j16, hfj, rfl, hP, hD, hS, hl⟩
        refine lv_iinc (v := (iI (l3_x4.toInt + 1))) hx hb dX6_tightest_69 hl (k := 0) rfl (iI_add2 (iI_of _) (by decide : (1 : Int32) = iI 1)) (by decide) rfl (fun ls (hl : lv_has ls _ ([(3, .int (iI (l3_x4.toInt + 1))), (2, .int l2_j16), (0, .ref (hQ 0)), (1, .int p1)])) => ?_)
        refine lv_goto (tgt := 4) hx hb dX6_tightest_72 (by decide) ?_
        have hl : lv_has _ _ ([(3, .int (iI (l3_x4.toInt + 1))), (2, .int l2_j16), (0, .ref (hQ 0)), (1, .int p1)]) := lv_sub hl [0, 1, 2, 3] rfl
        exact ihx4 wl_j16 wb_j16 wG_j16 (iI (l3_x4.toInt + 1)) l2_j16 _ _ _ b_wl_j16 b_wb_j16 (iI_rng (Int.le_trans (by decide) (Int.add_le_add (b_l3_x4.1) (Int.le_refl _))) (by omega) (by decide) (by decide)) (b_l2_j16) (show l2_j16.toInt < iQ_rows.toInt from by first | assumption | omega | (have h9 : ((-1) : Int32).toInt = -1 := (by decide); omega)) (by have e9 : ((iI (l3_x4.toInt + 1))).toInt = (l3_x4.toInt + 1) := (iI_t (Int.le_trans (by decide) (Int.add_le_add (b_l3_x4.1) (Int.le_refl _))) (Int.le_trans (Int.add_le_add (b_l3_x4.2) (Int.le_refl _)) (by decide))); omega) hP hD hS hl
theorem dX6_changeCell_0 : decode cX6_changeCell 0 = .ok (.aload_n 1, 1) := dk_43 (by decide +kernel)
theorem dX6_changeCell_1 : decode cX6_changeCell 1 = .ok (.invokevirtual 142, 3) := dk_182 (by decide +kernel)
theorem dX6_changeCell_4 : decode cX6_changeCell 4 = .ok (.ifCond .eq 21, 3) := dk_153 (by decide +kernel)
theorem dX6_changeCell_7 : decode cX6_changeCell 7 = .ok (.aload_n 2, 1) := dk_44 (by decide +kernel)
theorem dX6_changeCell_8 : decode cX6_changeCell 8 = .ok (.invokevirtual 142, 3) := dk_182 (by decide +kernel)
theorem dX6_changeCell_11 : decode cX6_changeCell 11 = .ok (.ifCond .eq 14, 3) := dk_153 (by decide +kernel)
theorem dX6_changeCell_14 : decode cX6_changeCell 14 = .ok (.aload_n 3, 1) := dk_45 (by decide +kernel)
theorem dX6_changeCell_15 : decode cX6_changeCell 15 = .ok (.invokevirtual 142, 3) := dk_182 (by decide +kernel)
theorem dX6_changeCell_18 : decode cX6_changeCell 18 = .ok (.ifCond .eq 7, 3) := dk_153 (by decide +kernel)
theorem dX6_changeCell_21 : decode cX6_changeCell 21 = .ok (.iconst 1, 1) := dk_4 (by decide +kernel)
theorem dX6_changeCell_22 : decode cX6_changeCell 22 = .ok (.goto 4, 3) := dk_167 (by decide +kernel)
theorem dX6_changeCell_25 : decode cX6_changeCell 25 = .ok (.iconst 0, 1) := dk_3 (by decide +kernel)
theorem dX6_changeCell_26 : decode cX6_changeCell 26 = .ok (.istore 5, 2) := dk_54 (by decide +kernel)
theorem dX6_changeCell_28 : decode cX6_changeCell 28 = .ok (.iload 5, 2) := dk_21 (by decide +kernel)
theorem dX6_changeCell_30 : decode cX6_changeCell 30 = .ok (.ifCond .eq 93, 3) := dk_153 (by decide +kernel)
theorem dX6_changeCell_33 : decode cX6_changeCell 33 = .ok (.aload_n 0, 1) := dk_42 (by decide +kernel)
theorem dX6_changeCell_34 : decode cX6_changeCell 34 = .ok (.getfield 33, 3) := dk_180 (by decide +kernel)
theorem dX6_changeCell_37 : decode cX6_changeCell 37 = .ok (.invokevirtual 142, 3) := dk_182 (by decide +kernel)
theorem dX6_changeCell_40 : decode cX6_changeCell 40 = .ok (.ifCond .eq 83, 3) := dk_153 (by decide +kernel)
theorem dX6_changeCell_43 : decode cX6_changeCell 43 = .ok (.aload_n 0, 1) := dk_42 (by decide +kernel)
theorem dX6_changeCell_44 : decode cX6_changeCell 44 = .ok (.getfield 29, 3) := dk_180 (by decide +kernel)
theorem dX6_changeCell_47 : decode cX6_changeCell 47 = .ok (.invokevirtual 142, 3) := dk_182 (by decide +kernel)
theorem dX6_changeCell_50 : decode cX6_changeCell 50 = .ok (.ifCond .eq 73, 3) := dk_153 (by decide +kernel)
theorem dX6_changeCell_53 : decode cX6_changeCell 53 = .ok (.aload_n 2, 1) := dk_44 (by decide +kernel)
theorem dX6_changeCell_54 : decode cX6_changeCell 54 = .ok (.invokevirtual 146, 3) := dk_182 (by decide +kernel)
theorem dX6_changeCell_57 : decode cX6_changeCell 57 = .ok (.aload_n 3, 1) := dk_45 (by decide +kernel)
theorem dX6_changeCell_58 : decode cX6_changeCell 58 = .ok (.invokevirtual 146, 3) := dk_182 (by decide +kernel)
theorem dX6_changeCell_61 : decode cX6_changeCell 61 = .ok (.lmul, 1) := dk_105 (by decide +kernel)
theorem dX6_changeCell_62 : decode cX6_changeCell 62 = .ok (.lstore 6, 2) := dk_55 (by decide +kernel)
theorem dX6_changeCell_64 : decode cX6_changeCell 64 = .ok (.aload_n 1, 1) := dk_43 (by decide +kernel)
theorem dX6_changeCell_65 : decode cX6_changeCell 65 = .ok (.invokevirtual 146, 3) := dk_182 (by decide +kernel)
theorem dX6_changeCell_68 : decode cX6_changeCell 68 = .ok (.aload_n 0, 1) := dk_42 (by decide +kernel)
theorem dX6_changeCell_69 : decode cX6_changeCell 69 = .ok (.getfield 33, 3) := dk_180 (by decide +kernel)
theorem dX6_changeCell_72 : decode cX6_changeCell 72 = .ok (.invokevirtual 146, 3) := dk_182 (by decide +kernel)
theorem dX6_changeCell_75 : decode cX6_changeCell 75 = .ok (.lmul, 1) := dk_105 (by decide +kernel)
theorem dX6_changeCell_76 : decode cX6_changeCell 76 = .ok (.iload 4, 2) := dk_21 (by decide +kernel)
theorem dX6_changeCell_78 : decode cX6_changeCell 78 = .ok (.ifCond .eq 8, 3) := dk_153 (by decide +kernel)
theorem dX6_changeCell_81 : decode cX6_changeCell 81 = .ok (.lload 6, 2) := dk_22 (by decide +kernel)
theorem dX6_changeCell_83 : decode cX6_changeCell 83 = .ok (.goto 6, 3) := dk_167 (by decide +kernel)
theorem dX6_changeCell_86 : decode cX6_changeCell 86 = .ok (.lload 6, 2) := dk_22 (by decide +kernel)
theorem dX6_changeCell_88 : decode cX6_changeCell 88 = .ok (.lneg, 1) := dk_117 (by decide +kernel)
theorem dX6_changeCell_89 : decode cX6_changeCell 89 = .ok (.ladd, 1) := dk_97 (by decide +kernel)
theorem dX6_changeCell_90 : decode cX6_changeCell 90 = .ok (.lstore 8, 2) := dk_55 (by decide +kernel)
theorem dX6_changeCell_92 : decode cX6_changeCell 92 = .ok (.aload_n 0, 1) := dk_42 (by decide +kernel)
theorem dX6_changeCell_93 : decode cX6_changeCell 93 = .ok (.getfield 29, 3) := dk_180 (by decide +kernel)
theorem dX6_changeCell_96 : decode cX6_changeCell 96 = .ok (.invokevirtual 146, 3) := dk_182 (by decide +kernel)
theorem dX6_changeCell_99 : decode cX6_changeCell 99 = .ok (.lstore 10, 2) := dk_55 (by decide +kernel)
theorem dX6_changeCell_101 : decode cX6_changeCell 101 = .ok (.aload_n 1, 1) := dk_43 (by decide +kernel)
theorem dX6_changeCell_102 : decode cX6_changeCell 102 = .ok (.lload 10, 2) := dk_22 (by decide +kernel)
theorem dX6_changeCell_104 : decode cX6_changeCell 104 = .ok (.lconst 0, 1) := dk_9 (by decide +kernel)
theorem dX6_changeCell_105 : decode cX6_changeCell 105 = .ok (.lcmp, 1) := dk_148 (by decide +kernel)
theorem dX6_changeCell_106 : decode cX6_changeCell 106 = .ok (.ifCond .ne 8, 3) := dk_154 (by decide +kernel)
theorem dX6_changeCell_109 : decode cX6_changeCell 109 = .ok (.lload 8, 2) := dk_22 (by decide +kernel)
theorem dX6_changeCell_111 : decode cX6_changeCell 111 = .ok (.goto 8, 3) := dk_167 (by decide +kernel)
theorem dX6_changeCell_114 : decode cX6_changeCell 114 = .ok (.lload 8, 2) := dk_22 (by decide +kernel)
theorem dX6_changeCell_116 : decode cX6_changeCell 116 = .ok (.lload 10, 2) := dk_22 (by decide +kernel)
theorem dX6_changeCell_118 : decode cX6_changeCell 118 = .ok (.ldiv, 1) := dk_109 (by decide +kernel)
theorem dX6_changeCell_119 : decode cX6_changeCell 119 = .ok (.invokevirtual 64, 3) := dk_182 (by decide +kernel)
theorem dX6_changeCell_122 : decode cX6_changeCell 122 = .ok (.return_, 1) := dk_177 (by decide +kernel)
theorem dX6_changeCell_123 : decode cX6_changeCell 123 = .ok (.aload_n 0, 1) := dk_42 (by decide +kernel)
theorem dX6_changeCell_124 : decode cX6_changeCell 124 = .ok (.getfield 36, 3) := dk_180 (by decide +kernel)
theorem dX6_changeCell_127 : decode cX6_changeCell 127 = .ok (.aload_n 1, 1) := dk_43 (by decide +kernel)
theorem dX6_changeCell_128 : decode cX6_changeCell 128 = .ok (.aload_n 0, 1) := dk_42 (by decide +kernel)
theorem dX6_changeCell_129 : decode cX6_changeCell 129 = .ok (.getfield 33, 3) := dk_180 (by decide +kernel)
theorem dX6_changeCell_132 : decode cX6_changeCell 132 = .ok (.invokevirtual 120, 3) := dk_182 (by decide +kernel)
theorem dX6_changeCell_135 : decode cX6_changeCell 135 = .ok (.aload_n 0, 1) := dk_42 (by decide +kernel)
theorem dX6_changeCell_136 : decode cX6_changeCell 136 = .ok (.getfield 39, 3) := dk_180 (by decide +kernel)
theorem dX6_changeCell_139 : decode cX6_changeCell 139 = .ok (.aload_n 2, 1) := dk_44 (by decide +kernel)
theorem dX6_changeCell_140 : decode cX6_changeCell 140 = .ok (.aload_n 3, 1) := dk_45 (by decide +kernel)
theorem dX6_changeCell_141 : decode cX6_changeCell 141 = .ok (.invokevirtual 120, 3) := dk_182 (by decide +kernel)
theorem dX6_changeCell_144 : decode cX6_changeCell 144 = .ok (.iload 4, 2) := dk_21 (by decide +kernel)
theorem dX6_changeCell_146 : decode cX6_changeCell 146 = .ok (.ifCond .ne 10, 3) := dk_154 (by decide +kernel)
theorem dX6_changeCell_149 : decode cX6_changeCell 149 = .ok (.aload_n 0, 1) := dk_42 (by decide +kernel)
theorem dX6_changeCell_150 : decode cX6_changeCell 150 = .ok (.getfield 39, 3) := dk_180 (by decide +kernel)
theorem dX6_changeCell_153 : decode cX6_changeCell 153 = .ok (.invokevirtual 124, 3) := dk_182 (by decide +kernel)
theorem dX6_changeCell_156 : decode cX6_changeCell 156 = .ok (.aload_n 0, 1) := dk_42 (by decide +kernel)
theorem dX6_changeCell_157 : decode cX6_changeCell 157 = .ok (.getfield 36, 3) := dk_180 (by decide +kernel)
theorem dX6_changeCell_160 : decode cX6_changeCell 160 = .ok (.aload_n 0, 1) := dk_42 (by decide +kernel)
theorem dX6_changeCell_161 : decode cX6_changeCell 161 = .ok (.getfield 39, 3) := dk_180 (by decide +kernel)
theorem dX6_changeCell_164 : decode cX6_changeCell 164 = .ok (.invokevirtual 127, 3) := dk_182 (by decide +kernel)
theorem dX6_changeCell_167 : decode cX6_changeCell 167 = .ok (.aload_n 0, 1) := dk_42 (by decide +kernel)
theorem dX6_changeCell_168 : decode cX6_changeCell 168 = .ok (.getfield 36, 3) := dk_180 (by decide +kernel)
theorem dX6_changeCell_171 : decode cX6_changeCell 171 = .ok (.aload_n 0, 1) := dk_42 (by decide +kernel)
theorem dX6_changeCell_172 : decode cX6_changeCell 172 = .ok (.getfield 29, 3) := dk_180 (by decide +kernel)
theorem dX6_changeCell_175 : decode cX6_changeCell 175 = .ok (.aload_n 0, 1) := dk_42 (by decide +kernel)
theorem dX6_changeCell_176 : decode cX6_changeCell 176 = .ok (.getfield 42, 3) := dk_180 (by decide +kernel)
theorem dX6_changeCell_179 : decode cX6_changeCell 179 = .ok (.aload_n 0, 1) := dk_42 (by decide +kernel)
theorem dX6_changeCell_180 : decode cX6_changeCell 180 = .ok (.getfield 45, 3) := dk_180 (by decide +kernel)
theorem dX6_changeCell_183 : decode cX6_changeCell 183 = .ok (.invokevirtual 150, 3) := dk_182 (by decide +kernel)
theorem dX6_changeCell_186 : decode cX6_changeCell 186 = .ok (.aload_n 1, 1) := dk_43 (by decide +kernel)
theorem dX6_changeCell_187 : decode cX6_changeCell 187 = .ok (.aload_n 0, 1) := dk_42 (by decide +kernel)
theorem dX6_changeCell_188 : decode cX6_changeCell 188 = .ok (.getfield 36, 3) := dk_180 (by decide +kernel)
theorem dX6_changeCell_191 : decode cX6_changeCell 191 = .ok (.invokevirtual 135, 3) := dk_182 (by decide +kernel)
theorem dX6_changeCell_194 : decode cX6_changeCell 194 = .ok (.return_, 1) := dk_177 (by decide +kernel)
def wsMX6_changeCell : List Cond := .code yX6_changeCell cX6_changeCell 12 none :: ([.fieldLink RX6 36 "OptimaWorks$Tableau" "first" "LOptimaWorks$Whole;", .fieldLink RX6 33 "OptimaWorks$Tableau" "turning" "LOptimaWorks$Whole;", .fieldLink RX6 39 "OptimaWorks$Tableau" "second" "LOptimaWorks$Whole;", .fieldLink RX6 29 "OptimaWorks$Tableau" "under" "LOptimaWorks$Whole;", .fieldLink RX6 42 "OptimaWorks$Tableau" "rest" "LOptimaWorks$Whole;", .fieldLink RX6 45 "OptimaWorks$Tableau" "spare" "LOptimaWorks$Whole;"] ++ wsX60 ++ (wsV RX6 142 RX8 yX8_isSmall wsMX8_isSmall) ++ (wsV RX6 120 RX8 yX8_setProduct wsMX8_setProduct) ++ (wsV RX6 124 RX8 yX8_negate wsMX8_negate) ++ (wsV RX6 127 RX8 yX8_add wsMX8_add) ++ (wsV RX6 150 RX8 yX8_divide wsMX8_divide) ++ (wsV RX6 135 RX8 yX8_copy wsMX8_copy) ++ (wsV RX6 146 RX8 yX8_small wsMX8_small) ++ (wsV RX6 64 RX8 yX8_setLong wsMX8_setLong))
theorem iwsMX6_changeCell_in6 : ∀ w ∈ wsX60, w ∈ wsMX6_changeCell := fun _ h => List.mem_cons_of_mem _ (List.mem_append_left _ (List.mem_append_left _ (List.mem_append_left _ (List.mem_append_left _ (List.mem_append_left _ (List.mem_append_left _ (List.mem_append_left _ (List.mem_append_left _ (List.mem_append_right _ h)))))))))
theorem gwsMX6_changeCell_0 : GoodIn wsMX6_changeCell (wsV RX6 142 RX8 yX8_isSmall wsMX8_isSmall) := goodIn_sub (fun _ h => List.mem_cons_of_mem _ (List.mem_append_left _ (List.mem_append_left _ (List.mem_append_left _ (List.mem_append_left _ (List.mem_append_left _ (List.mem_append_left _ (List.mem_append_left _ (List.mem_append_right _ h))))))))) (gdV (by decide +kernel) gdwsMX8_isSmall)
theorem gwsMX6_changeCell_1 : GoodIn wsMX6_changeCell (wsV RX6 120 RX8 yX8_setProduct wsMX8_setProduct) := goodIn_sub (fun _ h => List.mem_cons_of_mem _ (List.mem_append_left _ (List.mem_append_left _ (List.mem_append_left _ (List.mem_append_left _ (List.mem_append_left _ (List.mem_append_left _ (List.mem_append_right _ h)))))))) (gdV (by decide +kernel) gdwsMX8_setProduct)
theorem gwsMX6_changeCell_2 : GoodIn wsMX6_changeCell (wsV RX6 124 RX8 yX8_negate wsMX8_negate) := goodIn_sub (fun _ h => List.mem_cons_of_mem _ (List.mem_append_left _ (List.mem_append_left _ (List.mem_append_left _ (List.mem_append_left _ (List.mem_append_left _ (List.mem_append_right _ h))))))) (gdV (by decide +kernel) gdwsMX8_negate)
theorem gwsMX6_changeCell_3 : GoodIn wsMX6_changeCell (wsV RX6 127 RX8 yX8_add wsMX8_add) := goodIn_sub (fun _ h => List.mem_cons_of_mem _ (List.mem_append_left _ (List.mem_append_left _ (List.mem_append_left _ (List.mem_append_left _ (List.mem_append_right _ h)))))) (gdV (by decide +kernel) gdwsMX8_add)
theorem gwsMX6_changeCell_4 : GoodIn wsMX6_changeCell (wsV RX6 150 RX8 yX8_divide wsMX8_divide) := goodIn_sub (fun _ h => List.mem_cons_of_mem _ (List.mem_append_left _ (List.mem_append_left _ (List.mem_append_left _ (List.mem_append_right _ h))))) (gdV (by decide +kernel) gdwsMX8_divide)
theorem gwsMX6_changeCell_5 : GoodIn wsMX6_changeCell (wsV RX6 135 RX8 yX8_copy wsMX8_copy) := goodIn_sub (fun _ h => List.mem_cons_of_mem _ (List.mem_append_left _ (List.mem_append_left _ (List.mem_append_right _ h)))) (gdV (by decide +kernel) gdwsMX8_copy)
theorem gwsMX6_changeCell_6 : GoodIn wsMX6_changeCell (wsV RX6 146 RX8 yX8_small wsMX8_small) := goodIn_sub (fun _ h => List.mem_cons_of_mem _ (List.mem_append_left _ (List.mem_append_right _ h))) (gdV (by decide +kernel) gdwsMX8_small)
theorem gwsMX6_changeCell_7 : GoodIn wsMX6_changeCell (wsV RX6 64 RX8 yX8_setLong wsMX8_setLong) := goodIn_sub (fun _ h => List.mem_cons_of_mem _ (List.mem_append_right _ h)) (gdV (by decide +kernel) gdwsMX8_setLong)
theorem gdwsMX6_changeCell : wsMX6_changeCell.all goodWord = true := gdC rfl (gdA (gdA (gdA (gdA (gdA (gdA (gdA (gdA (gdA (by decide +kernel : ([.fieldLink RX6 36 "OptimaWorks$Tableau" "first" "LOptimaWorks$Whole;", .fieldLink RX6 33 "OptimaWorks$Tableau" "turning" "LOptimaWorks$Whole;", .fieldLink RX6 39 "OptimaWorks$Tableau" "second" "LOptimaWorks$Whole;", .fieldLink RX6 29 "OptimaWorks$Tableau" "under" "LOptimaWorks$Whole;", .fieldLink RX6 42 "OptimaWorks$Tableau" "rest" "LOptimaWorks$Whole;", .fieldLink RX6 45 "OptimaWorks$Tableau" "spare" "LOptimaWorks$Whole;"] : List Cond).all goodWord = true) gdwsX60) (gdV (by decide +kernel) gdwsMX8_isSmall)) (gdV (by decide +kernel) gdwsMX8_setProduct)) (gdV (by decide +kernel) gdwsMX8_negate)) (gdV (by decide +kernel) gdwsMX8_add)) (gdV (by decide +kernel) gdwsMX8_divide)) (gdV (by decide +kernel) gdwsMX8_copy)) (gdV (by decide +kernel) gdwsMX8_small)) (gdV (by decide +kernel) gdwsMX8_setLong))
set_option maxHeartbeats 4000000 in
set_option maxRecDepth 100000 in
/-- a cell is changed -/
theorem m_X6_changeCell (l : Launch) (dC : Nat → ClassId) (dI : Nat → Nat → Nat) (hQ : Nat → Nat) (aQ : Nat → Nat) (kQ : Nat → ClassId) (hw : Nat → Nat) (fQ_inside : Nat → Int32) (fQ_outside : Nat → Int32) (fQ_shut : Nat → Int32) (iQ_rows : Int32) (iQ_allRows : Int32) (iQ_columns : Int32) (nW : Nat) (lw : Nat → Nat) (kw : ClassId) (wl : Nat → Int32) (wb : Nat → Int32) (wG : Nat → Nat → Int64) (k1 : Nat) (k2 : Nat) (k3 : Nat) (p4 : Int32) (b_iQ_rows : 0 ≤ iQ_rows.toInt ∧ iQ_rows.toInt ≤ 40) (b_iQ_allRows : 0 ≤ iQ_allRows.toInt ∧ iQ_allRows.toInt ≤ 40) (b_iQ_columns : 0 ≤ iQ_columns.toInt ∧ iQ_columns.toInt ≤ 40) (b_tb : TbO iQ_rows iQ_allRows iQ_columns) (b_wl : ∀ q : Nat, 0 ≤ (wl q).toInt ∧ (wl q).toInt ≤ 14) (b_wb : ∀ q : Nat, 0 ≤ (wb q).toInt ∧ (wb q).toInt ≤ 1) (hnW : 406 ≤ nW) (hk1 : k1 < 400) (hk2 : k2 < 400) (hk3 : k3 < 400) (sz : Nat) : Met l yX6_changeCell wsMX6_changeCell ({ frames := 3, cells := 0, slots := 0, locals := 68 }) (va_Pc [.ref (hQ 0), .ref (hw k1), .ref (hw k2), .ref (hw k3), .int p4] (fun U => U.heap.size = sz ∧ va_P (dC, dI) vwCl (WQ hQ aQ kQ hw fQ_inside fQ_outside fQ_shut iQ_rows iQ_allRows iQ_columns ++ (WW nW hw lw kw wl wb wG)) U.heap ∧ va_K (dC, dI) vwCl (tQ kQ ++ (tW kw)) U ∧ va_D (fun _ => True) (WQ hQ aQ kQ hw fQ_inside fQ_outside fQ_shut iQ_rows iQ_allRows iQ_columns ++ (WW nW hw lw kw wl wb wG)))) (va_Qv (fun (u : (Nat → Int32) × (Nat → Int32) × (Nat → Nat → Int64)) => (∀ q : Nat, 0 ≤ ((u.1) q).toInt ∧ ((u.1) q).toInt ≤ 14) ∧ (∀ q : Nat, 0 ≤ ((u.2.1) q).toInt ∧ ((u.2.1) q).toInt ≤ 1)) (fun (u : (Nat → Int32) × (Nat → Int32) × (Nat → Nat → Int64)) t => va_P (dC, dI) vwCl (WQ hQ aQ kQ hw fQ_inside fQ_outside fQ_shut iQ_rows iQ_allRows iQ_columns ++ (WW nW hw lw kw (u.1) (u.2.1) (u.2.2))) t.heap ∧ va_D (va_A (WQ hQ aQ kQ hw fQ_inside fQ_outside fQ_shut iQ_rows iQ_allRows iQ_columns ++ (WW nW hw lw kw wl wb wG)) sz) (WQ hQ aQ kQ hw fQ_inside fQ_outside fQ_shut iQ_rows iQ_allRows iQ_columns ++ (WW nW hw lw kw (u.1) (u.2.1) (u.2.2)))) (va_A (WQ hQ aQ kQ hw fQ_inside fQ_outside fQ_shut iQ_rows iQ_allRows iQ_columns ++ (WW nW hw lw kw wl wb wG)) sz)) 0 0 (va_A (WQ hQ aQ kQ hw fQ_inside fQ_outside fQ_shut iQ_rows iQ_allRows iQ_columns ++ (WW nW hw lw kw wl wb wG)) sz) := by
  refine Met.ofW (cc := cX6_changeCell) (maxL := 12) (ret := none) (by decide) rfl ?_
  intro p e s m args below meth c s₁ B hml hv
  obtain ⟨rfl, hsz, hP, hK, hD0⟩ := hv
  have hx := B.exec
  have hb := B.bytes
  have hr := B.returns
  have hts := atoms_spec (ws := wsMX6_changeCell) B.pre
  have hown : s.vm.findClass RX6 = some m.cls := findClass_of_methodNamed B.named
  have hlocks := B.notSynchronized
  subst hsz
  have hD := hD0.self (sz := s.heap.size)
  generalize hAe : va_A (WQ hQ aQ kQ hw fQ_inside fQ_outside fQ_shut iQ_rows iQ_allRows iQ_columns ++ (WW nW hw lw kw wl wb wG)) s.heap.size = A at hD ⊢
  have hA : ∀ q : Nat, s.heap.size ≤ q → A q := fun q h => by rw [← hAe]; exact Or.inr h
  have hS : va_S A s.heap s.heap [] := va_S.rf
  have hl := lv_entry ([.ref (hQ 0), .ref (hw k1), .ref (hw k2), .ref (hw k3), .int p4]) (n := 12) (Nat.le_of_ble_eq_true rfl)
  rw [lg_entry_eq]
  generalize (lg_sl ([.ref (hQ 0), .ref (hw k1), .ref (hw k2), .ref (hw k3), .int p4]) ++ List.replicate (12 - (lg_sl ([.ref (hQ 0), .ref (hw k1), .ref (hw k2), .ref (hw k3), .int p4])).length) Slot.unset).toArray = ls at hl ⊢
  have hl : lv_has ls 12 [(0, .ref (hQ 0)), (1, .ref (hw k1)), (2, .ref (hw k2)), (3, .ref (hw k3)), (4, .int p4)] := hl
  have hTb := b_tb.1
  refine lv_aload_n hx hb dX6_changeCell_0 rfl (lv_at hl 1 rfl) ?_
  have p9 : List.Perm (WQ hQ aQ kQ hw fQ_inside fQ_outside fQ_shut iQ_rows iQ_allRows iQ_columns ++ (WW nW hw lw kw wl wb wG)) ((WW nW hw lw kw wl wb wG) ++ (WQ hQ aQ kQ hw fQ_inside fQ_outside fQ_shut iQ_rows iQ_allRows iQ_columns)) := (List.perm_append_comm)
  have hPc := hP.mem (fun q h => p9.mem_iff.mpr (List.mem_append_left _ h))
  have hDc := (hD.perm p9).left
  have hKc : va_K (dC, dI) vwCl (tW kw) _ := hK.sub [4] rfl
  have hFc := freeG p9 hD hS hA
  refine va_calli (va_runV (As := []) (rest := []) ⟨hx, hb, hml, hown, hts⟩ (m_X8_isSmall l dC dI nW hw lw kw wl wb wG k1 b_wl b_wb (by first | with_reducible assumption | omega | (rw [iI_t (by omega) (by omega)]; omega) | decide | assumption) s.heap.size) (cwV 0 hts gwsMX6_changeCell_0 rfl rfl rfl hd_yX8_isSmall_RX8 (by decide +kernel)) (fz_pre (va_recv hK hP (ci := 8) (q0 := 5 + (k1)) rfl (apR rfl (WW_o (by omega)))) hPc hKc hDc) rfl rfl hl.1 rfl (lv_room (Nat.le_of_ble_eq_true rfl)) dX6_changeCell_1 (by decide +kernel)) hS (fun q _ h => hFc q h) hFc (fun r1 u t9_ H locs ht hvm hw9 hB9 hz1 hk1 hS => ?_)
  have b_r1 := hw9
  try dsimp only at b_r1
  have p8 : List.Perm (WQ hQ aQ kQ hw fQ_inside fQ_outside fQ_shut iQ_rows iQ_allRows iQ_columns ++ (WW nW hw lw kw wl wb wG)) ((WW nW hw lw kw wl wb wG) ++ (WQ hQ aQ kQ hw fQ_inside fQ_outside fQ_shut iQ_rows iQ_allRows iQ_columns)) := (List.perm_append_comm)
  obtain ⟨hP, hD⟩ := frameG p9 p8 hP hD hk1 hFc (fz_P ht hB9.1) hB9.2
  have hP : va_P (dC, dI) vwCl (WQ hQ aQ kQ hw fQ_inside fQ_outside fQ_shut iQ_rows iQ_allRows iQ_columns ++ (WW nW hw lw kw wl wb wG)) H := hP
  have hD : va_D A (WQ hQ aQ kQ hw fQ_inside fQ_outside fQ_shut iQ_rows iQ_allRows iQ_columns ++ (WW nW hw lw kw wl wb wG)) := hD
  refine W.cut (pc := 26) (fun H locs ls stk => ∃ (k0_j7 : Int32), (0 ≤ k0_j7.toInt ∧ k0_j7.toInt ≤ 1) ∧  stk = [.int k0_j7] ∧ va_P (dC, dI) vwCl (WQ hQ aQ kQ hw fQ_inside fQ_outside fQ_shut iQ_rows iQ_allRows iQ_columns ++ (WW nW hw lw kw wl wb wG)) H ∧ va_D A (WQ hQ aQ kQ hw fQ_inside fQ_outside fQ_shut iQ_rows iQ_allRows iQ_columns ++ (WW nW hw lw kw wl wb wG)) ∧ va_S A s.heap H locs ∧ lv_has ls 12 [(0, .ref (hQ 0)), (1, .ref (hw k1)), (2, .ref (hw k2)), (3, .ref (hw k3)), (4, .int p4)]) (fun join7 => ?_) ?_
  · refine lv_if_eq (tgt := 25) hx hb dX6_changeCell_4 (by decide) (fun c_4 => ?_) (fun c_4 => ?_)
    · have t_4 : r1.toInt = 0 := toI_eq c_4 rfl (by decide : (0 : Int32).toInt = 0)
      refine lv_iconst (v := 0) hx hb dX6_changeCell_25 (by decide) ?_
      have hl : lv_has _ _ ([(0, .ref (hQ 0)), (1, .ref (hw k1)), (2, .ref (hw k2)), (3, .ref (hw k3)), (4, .int p4)]) := lv_sub hl [0, 1, 2, 3, 4] rfl
      exact join7 _ _ _ _ ⟨0, (show 0 ≤ (0 : Int32).toInt ∧ (0 : Int32).toInt ≤ 1 from by decide), rfl, hP, hD, hS, hl⟩
    · have t_4 : ¬ r1.toInt = 0 := toI_neq c_4 rfl (by decide : (0 : Int32).toInt = 0)
      refine lv_aload_n hx hb dX6_changeCell_7 rfl (lv_at hl 2 rfl) ?_
      have p9 : List.Perm (WQ hQ aQ kQ hw fQ_inside fQ_outside fQ_shut iQ_rows iQ_allRows iQ_columns ++ (WW nW hw lw kw wl wb wG)) ((WW nW hw lw kw wl wb wG) ++ (WQ hQ aQ kQ hw fQ_inside fQ_outside fQ_shut iQ_rows iQ_allRows iQ_columns)) := (List.perm_append_comm)
      have hPc := hP.mem (fun q h => p9.mem_iff.mpr (List.mem_append_left _ h))
      have hDc := (hD.perm p9).left
      have hKc : va_K (dC, dI) vwCl (tW kw) _ := hK.sub [4] rfl
      have hFc := freeG p9 hD hS hA
      refine va_calli (va_runV (As := []) (rest := []) ⟨hx, hb, hml, hown, hts⟩ (m_X8_isSmall l dC dI nW hw lw kw wl wb wG k2 b_wl b_wb (by first | with_reducible assumption | omega | (rw [iI_t (by omega) (by omega)]; omega) | decide | assumption) H.size) (cwV 0 hts gwsMX6_changeCell_0 rfl rfl rfl hd_yX8_isSmall_RX8 (by decide +kernel)) (fz_pre (va_recv hK hP (ci := 8) (q0 := 5 + (k2)) rfl (apR rfl (WW_o (by omega)))) hPc hKc hDc) rfl rfl hl.1 rfl (lv_room (Nat.le_of_ble_eq_true rfl)) dX6_changeCell_8 (by decide +kernel)) hS (fun q _ h => hFc q h) hFc (fun r4 u t9_ H locs ht hvm hw9 hB9 hz1 hk1 hS => ?_)
      have b_r4 := hw9
      try dsimp only at b_r4
      have p8 : List.Perm (WQ hQ aQ kQ hw fQ_inside fQ_outside fQ_shut iQ_rows iQ_allRows iQ_columns ++ (WW nW hw lw kw wl wb wG)) ((WW nW hw lw kw wl wb wG) ++ (WQ hQ aQ kQ hw fQ_inside fQ_outside fQ_shut iQ_rows iQ_allRows iQ_columns)) := (List.perm_append_comm)
      obtain ⟨hP, hD⟩ := frameG p9 p8 hP hD hk1 hFc (fz_P ht hB9.1) hB9.2
      have hP : va_P (dC, dI) vwCl (WQ hQ aQ kQ hw fQ_inside fQ_outside fQ_shut iQ_rows iQ_allRows iQ_columns ++ (WW nW hw lw kw wl wb wG)) H := hP
      have hD : va_D A (WQ hQ aQ kQ hw fQ_inside fQ_outside fQ_shut iQ_rows iQ_allRows iQ_columns ++ (WW nW hw lw kw wl wb wG)) := hD
      refine lv_if_eq (tgt := 25) hx hb dX6_changeCell_11 (by decide) (fun c_11 => ?_) (fun c_11 => ?_)
      · have t_11 : r4.toInt = 0 := toI_eq c_11 rfl (by decide : (0 : Int32).toInt = 0)
        refine lv_iconst (v := 0) hx hb dX6_changeCell_25 (by decide) ?_
        have hl : lv_has _ _ ([(0, .ref (hQ 0)), (1, .ref (hw k1)), (2, .ref (hw k2)), (3, .ref (hw k3)), (4, .int p4)]) := lv_sub hl [0, 1, 2, 3, 4] rfl
        exact join7 _ _ _ _ ⟨0, (show 0 ≤ (0 : Int32).toInt ∧ (0 : Int32).toInt ≤ 1 from by decide), rfl, hP, hD, hS, hl⟩
      · have t_11 : ¬ r4.toInt = 0 := toI_neq c_11 rfl (by decide : (0 : Int32).toInt = 0)
        refine lv_aload_n hx hb dX6_changeCell_14 rfl (lv_at hl 3 rfl) ?_
        have p9 : List.Perm (WQ hQ aQ kQ hw fQ_inside fQ_outside fQ_shut iQ_rows iQ_allRows iQ_columns ++ (WW nW hw lw kw wl wb wG)) ((WW nW hw lw kw wl wb wG) ++ (WQ hQ aQ kQ hw fQ_inside fQ_outside fQ_shut iQ_rows iQ_allRows iQ_columns)) := (List.perm_append_comm)
        have hPc := hP.mem (fun q h => p9.mem_iff.mpr (List.mem_append_left _ h))
        have hDc := (hD.perm p9).left
        have hKc : va_K (dC, dI) vwCl (tW kw) _ := hK.sub [4] rfl
        have hFc := freeG p9 hD hS hA
        refine va_calli (va_runV (As := []) (rest := []) ⟨hx, hb, hml, hown, hts⟩ (m_X8_isSmall l dC dI nW hw lw kw wl wb wG k3 b_wl b_wb (by first | with_reducible assumption | omega | (rw [iI_t (by omega) (by omega)]; omega) | decide | assumption) H.size) (cwV 0 hts gwsMX6_changeCell_0 rfl rfl rfl hd_yX8_isSmall_RX8 (by decide +kernel)) (fz_pre (va_recv hK hP (ci := 8) (q0 := 5 + (k3)) rfl (apR rfl (WW_o (by omega)))) hPc hKc hDc) rfl rfl hl.1 rfl (lv_room (Nat.le_of_ble_eq_true rfl)) dX6_changeCell_15 (by decide +kernel)) hS (fun q _ h => hFc q h) hFc (fun r5 u t9_ H locs ht hvm hw9 hB9 hz1 hk1 hS => ?_)
        have b_r5 := hw9
        try dsimp only at b_r5
        have p8 : List.Perm (WQ hQ aQ kQ hw fQ_inside fQ_outside fQ_shut iQ_rows iQ_allRows iQ_columns ++ (WW nW hw lw kw wl wb wG)) ((WW nW hw lw kw wl wb wG) ++ (WQ hQ aQ kQ hw fQ_inside fQ_outside fQ_shut iQ_rows iQ_allRows iQ_columns)) := (List.perm_append_comm)
        obtain ⟨hP, hD⟩ := frameG p9 p8 hP hD hk1 hFc (fz_P ht hB9.1) hB9.2
        have hP : va_P (dC, dI) vwCl (WQ hQ aQ kQ hw fQ_inside fQ_outside fQ_shut iQ_rows iQ_allRows iQ_columns ++ (WW nW hw lw kw wl wb wG)) H := hP
        have hD : va_D A (WQ hQ aQ kQ hw fQ_inside fQ_outside fQ_shut iQ_rows iQ_allRows iQ_columns ++ (WW nW hw lw kw wl wb wG)) := hD
        refine lv_if_eq (tgt := 25) hx hb dX6_changeCell_18 (by decide) (fun c_18 => ?_) (fun c_18 => ?_)
        · have t_18 : r5.toInt = 0 := toI_eq c_18 rfl (by decide : (0 : Int32).toInt = 0)
          refine lv_iconst (v := 0) hx hb dX6_changeCell_25 (by decide) ?_
          have hl : lv_has _ _ ([(0, .ref (hQ 0)), (1, .ref (hw k1)), (2, .ref (hw k2)), (3, .ref (hw k3)), (4, .int p4)]) := lv_sub hl [0, 1, 2, 3, 4] rfl
          exact join7 _ _ _ _ ⟨0, (show 0 ≤ (0 : Int32).toInt ∧ (0 : Int32).toInt ≤ 1 from by decide), rfl, hP, hD, hS, hl⟩
        · have t_18 : ¬ r5.toInt = 0 := toI_neq c_18 rfl (by decide : (0 : Int32).toInt = 0)
          refine lv_iconst (v := 1) hx hb dX6_changeCell_21 (by decide) ?_
          refine lv_goto (tgt := 26) hx hb dX6_changeCell_22 (by decide) ?_
          have hl : lv_has _ _ ([(0, .ref (hQ 0)), (1, .ref (hw k1)), (2, .ref (hw k2)), (3, .ref (hw k3)), (4, .int p4)]) := lv_sub hl [0, 1, 2, 3, 4] rfl
          exact join7 _ _ _ _ ⟨1, (show 0 ≤ (1 : Int32).toInt ∧ (1 : Int32).toInt ≤ 1 from by decide), rfl, hP, hD, hS, hl⟩
  · rintro H locs ls stk ⟨k0_j7, b_k0_j7, rfl, hP, hD, hS, hl⟩
    refine lv_istore hx hb dX6_changeCell_26 hl (by decide) rfl (fun ls (hl : lv_has ls _ ([(5, .int k0_j7), (0, .ref (hQ 0)), (1, .ref (hw k1)), (2, .ref (hw k2)), (3, .ref (hw k3)), (4, .int p4)])) => ?_)
    refine lv_iload hx hb dX6_changeCell_28 (lv_at hl 0 rfl) ?_
    refine lv_if_eq (tgt := 123) hx hb dX6_changeCell_30 (by decide) (fun c_30 => ?_) (fun c_30 => ?_)
    · have t_30 : k0_j7.toInt = 0 := toI_eq c_30 rfl (by decide : (0 : Int32).toInt = 0)
      refine lv_aload_n hx hb dX6_changeCell_123 rfl (lv_at hl 1 rfl) ?_
      refine va_get (D := (dC, dI)) (ci := 6) (v := .ref (hw 402)) (C := RX6) (T := TX6) (N := 13) hx hb hts iwsMX6_changeCell_in6 hown hK hP 0 rfl rfl 9 (by decide) (hts (.fieldLink RX6 36 "OptimaWorks$Tableau" "first" "LOptimaWorks$Whole;") (by decide +kernel)) (fun _ h9 => h9) rfl dX6_changeCell_124 ?_
      refine lv_aload_n hx hb dX6_changeCell_127 rfl (lv_at hl 2 rfl) ?_
      refine lv_aload_n hx hb dX6_changeCell_128 rfl (lv_at hl 1 rfl) ?_
      refine va_get (D := (dC, dI)) (ci := 6) (v := .ref (hw 401)) (C := RX6) (T := TX6) (N := 13) hx hb hts iwsMX6_changeCell_in6 hown hK hP 0 rfl rfl 8 (by decide) (hts (.fieldLink RX6 33 "OptimaWorks$Tableau" "turning" "LOptimaWorks$Whole;") (by decide +kernel)) (fun _ h9 => h9) rfl dX6_changeCell_129 ?_
      have p9 : List.Perm (WQ hQ aQ kQ hw fQ_inside fQ_outside fQ_shut iQ_rows iQ_allRows iQ_columns ++ (WW nW hw lw kw wl wb wG)) ((WW nW hw lw kw wl wb wG) ++ (WQ hQ aQ kQ hw fQ_inside fQ_outside fQ_shut iQ_rows iQ_allRows iQ_columns)) := (List.perm_append_comm)
      have hPc := hP.mem (fun q h => p9.mem_iff.mpr (List.mem_append_left _ h))
      have hDc := (hD.perm p9).left
      have hKc : va_K (dC, dI) vwCl (tW kw) _ := hK.sub [4] rfl
      have hFc := freeG p9 hD hS hA
      refine va_callv (va_runV (As := [.ref (hw k1), .ref (hw 401)]) (rest := []) ⟨hx, hb, hml, hown, hts⟩ (m_X8_setProduct l dC dI nW hw lw kw wl wb wG 402 k1 401 b_wl b_wb (by first | with_reducible assumption | omega | (rw [iI_t (by omega) (by omega)]; omega) | decide | assumption) (by first | with_reducible assumption | omega | (rw [iI_t (by omega) (by omega)]; omega) | decide | assumption) (by first | with_reducible assumption | omega | (rw [iI_t (by omega) (by omega)]; omega) | decide | assumption) H.size) (cwV 2 hts gwsMX6_changeCell_1 rfl rfl rfl hd_yX8_setProduct_RX8 (by decide +kernel)) (fz_pre (va_recv hK hP (ci := 8) (q0 := 5 + (402)) rfl (apR rfl (WW_o (by omega)))) hPc hKc hDc) rfl rfl hl.1 rfl (lv_room (Nat.le_of_ble_eq_true rfl)) dX6_changeCell_132 (by decide +kernel)) hS (fun q _ h => hFc q h) hFc (fun u t9_ H locs ht hvm hw9 hB9 hz1 hk1 hS => ?_)
      revert u hw9 hB9
      refine fz_p3 ?_
      intro wl_6 wb_6 wG_6 hw9 hB9
      try dsimp only at hw9 hB9
      revert hw9
      refine fz_a2 ?_
      intro b_wl_6 b_wb_6
      have p8 : List.Perm (WQ hQ aQ kQ hw fQ_inside fQ_outside fQ_shut iQ_rows iQ_allRows iQ_columns ++ (WW nW hw lw kw wl_6 wb_6 wG_6)) ((WW nW hw lw kw wl_6 wb_6 wG_6) ++ (WQ hQ aQ kQ hw fQ_inside fQ_outside fQ_shut iQ_rows iQ_allRows iQ_columns)) := (List.perm_append_comm)
      obtain ⟨hP, hD⟩ := frameG p9 p8 hP hD hk1 hFc (fz_P ht hB9.1) hB9.2
      have hP : va_P (dC, dI) vwCl (WQ hQ aQ kQ hw fQ_inside fQ_outside fQ_shut iQ_rows iQ_allRows iQ_columns ++ (WW nW hw lw kw wl_6 wb_6 wG_6)) H := hP
      have hD : va_D A (WQ hQ aQ kQ hw fQ_inside fQ_outside fQ_shut iQ_rows iQ_allRows iQ_columns ++ (WW nW hw lw kw wl_6 wb_6 wG_6)) := hD
      refine lv_aload_n hx hb dX6_changeCell_135 rfl (lv_at hl 1 rfl) ?_
      refine va_get (D := (dC, dI)) (ci := 6) (v := .ref (hw 403)) (C := RX6) (T := TX6) (N := 13) hx hb hts iwsMX6_changeCell_in6 hown hK hP 0 rfl rfl 10 (by decide) (hts (.fieldLink RX6 39 "OptimaWorks$Tableau" "second" "LOptimaWorks$Whole;") (by decide +kernel)) (fun _ h9 => h9) rfl dX6_changeCell_136 ?_
      refine lv_aload_n hx hb dX6_changeCell_139 rfl (lv_at hl 3 rfl) ?_
      refine lv_aload_n hx hb dX6_changeCell_140 rfl (lv_at hl 4 rfl) ?_
      have p9 : List.Perm (WQ hQ aQ kQ hw fQ_inside fQ_outside fQ_shut iQ_rows iQ_allRows iQ_columns ++ (WW nW hw lw kw wl_6 wb_6 wG_6)) ((WW nW hw lw kw wl_6 wb_6 wG_6) ++ (WQ hQ aQ kQ hw fQ_inside fQ_outside fQ_shut iQ_rows iQ_allRows iQ_columns)) := (List.perm_append_comm)
      have hPc := hP.mem (fun q h => p9.mem_iff.mpr (List.mem_append_left _ h))
      have hDc := (hD.perm p9).left
      have hKc : va_K (dC, dI) vwCl (tW kw) _ := hK.sub [4] rfl
      have hFc := freeG p9 hD hS hA
      refine va_callv (va_runV (As := [.ref (hw k2), .ref (hw k3)]) (rest := []) ⟨hx, hb, hml, hown, hts⟩ (m_X8_setProduct l dC dI nW hw lw kw wl_6 wb_6 wG_6 403 k2 k3 b_wl_6 b_wb_6 (by first | with_reducible assumption | omega | (rw [iI_t (by omega) (by omega)]; omega) | decide | assumption) (by first | with_reducible assumption | omega | (rw [iI_t (by omega) (by omega)]; omega) | decide | assumption) (by first | with_reducible assumption | omega | (rw [iI_t (by omega) (by omega)]; omega) | decide | assumption) H.size) (cwV 2 hts gwsMX6_changeCell_1 rfl rfl rfl hd_yX8_setProduct_RX8 (by decide +kernel)) (fz_pre (va_recv hK hP (ci := 8) (q0 := 5 + (403)) rfl (apR rfl (WW_o (by omega)))) hPc hKc hDc) rfl rfl hl.1 rfl (lv_room (Nat.le_of_ble_eq_true rfl)) dX6_changeCell_141 (by decide +kernel)) hS (fun q _ h => hFc q h) hFc (fun u t9_ H locs ht hvm hw9 hB9 hz1 hk1 hS => ?_)
      revert u hw9 hB9
      refine fz_p3 ?_
      intro wl_7 wb_7 wG_7 hw9 hB9
      try dsimp only at hw9 hB9
      revert hw9
      refine fz_a2 ?_
      intro b_wl_7 b_wb_7
      have p8 : List.Perm (WQ hQ aQ kQ hw fQ_inside fQ_outside fQ_shut iQ_rows iQ_allRows iQ_columns ++ (WW nW hw lw kw wl_7 wb_7 wG_7)) ((WW nW hw lw kw wl_7 wb_7 wG_7) ++ (WQ hQ aQ kQ hw fQ_inside fQ_outside fQ_shut iQ_rows iQ_allRows iQ_columns)) := (List.perm_append_comm)
      obtain ⟨hP, hD⟩ := frameG p9 p8 hP hD hk1 hFc (fz_P ht hB9.1) hB9.2
      have hP : va_P (dC, dI) vwCl (WQ hQ aQ kQ hw fQ_inside fQ_outside fQ_shut iQ_rows iQ_allRows iQ_columns ++ (WW nW hw lw kw wl_7 wb_7 wG_7)) H := hP
      have hD : va_D A (WQ hQ aQ kQ hw fQ_inside fQ_outside fQ_shut iQ_rows iQ_allRows iQ_columns ++ (WW nW hw lw kw wl_7 wb_7 wG_7)) := hD
      refine lv_iload hx hb dX6_changeCell_144 (lv_at hl 5 rfl) ?_
      refine W.cut (pc := 156) (fun H locs ls stk => ∃ (wb_j8 : Nat → Int32), (∀ q : Nat, 0 ≤ (wb_j8 q).toInt ∧ (wb_j8 q).toInt ≤ 1) ∧  stk = [] ∧ va_P (dC, dI) vwCl (WQ hQ aQ kQ hw fQ_inside fQ_outside fQ_shut iQ_rows iQ_allRows iQ_columns ++ (WW nW hw lw kw wl_7 wb_j8 wG_7)) H ∧ va_D A (WQ hQ aQ kQ hw fQ_inside fQ_outside fQ_shut iQ_rows iQ_allRows iQ_columns ++ (WW nW hw lw kw wl_7 wb_j8 wG_7)) ∧ va_S A s.heap H locs ∧ lv_has ls 12 [(5, .int k0_j7), (0, .ref (hQ 0)), (1, .ref (hw k1)), (2, .ref (hw k2)), (3, .ref (hw k3)), (4, .int p4)]) (fun join8 => ?_) ?_
      · refine lv_if_ne (tgt := 156) hx hb dX6_changeCell_146 (by decide) (fun c_146 => ?_) (fun c_146 => ?_)
        · have t_146 : p4.toInt ≠ 0 := toI_ne c_146 rfl (by decide : (0 : Int32).toInt = 0)
          have hl : lv_has _ _ ([(5, .int k0_j7), (0, .ref (hQ 0)), (1, .ref (hw k1)), (2, .ref (hw k2)), (3, .ref (hw k3)), (4, .int p4)]) := lv_sub hl [0, 1, 2, 3, 4, 5] rfl
          exact join8 _ _ _ _ ⟨wb_7, b_wb_7, rfl, hP, hD, hS, hl⟩
        · have t_146 : p4.toInt = 0 := toI_nne c_146 rfl (by decide : (0 : Int32).toInt = 0)
          refine lv_aload_n hx hb dX6_changeCell_149 rfl (lv_at hl 1 rfl) ?_
          refine va_get (D := (dC, dI)) (ci := 6) (v := .ref (hw 403)) (C := RX6) (T := TX6) (N := 13) hx hb hts iwsMX6_changeCell_in6 hown hK hP 0 rfl rfl 10 (by decide) (hts (.fieldLink RX6 39 "OptimaWorks$Tableau" "second" "LOptimaWorks$Whole;") (by decide +kernel)) (fun _ h9 => h9) rfl dX6_changeCell_150 ?_
          have p9 : List.Perm (WQ hQ aQ kQ hw fQ_inside fQ_outside fQ_shut iQ_rows iQ_allRows iQ_columns ++ (WW nW hw lw kw wl_7 wb_7 wG_7)) ((WW nW hw lw kw wl_7 wb_7 wG_7) ++ (WQ hQ aQ kQ hw fQ_inside fQ_outside fQ_shut iQ_rows iQ_allRows iQ_columns)) := (List.perm_append_comm)
          have hPc := hP.mem (fun q h => p9.mem_iff.mpr (List.mem_append_left _ h))
          have hDc := (hD.perm p9).left
          have hKc : va_K (dC, dI) vwCl (tW kw) _ := hK.sub [4] rfl
          have hFc := freeG p9 hD hS hA
          refine va_callv (va_runV (As := []) (rest := []) ⟨hx, hb, hml, hown, hts⟩ (m_X8_negate l dC dI nW hw lw kw wl_7 wb_7 wG_7 403 b_wl_7 b_wb_7 (by first | with_reducible assumption | omega | (rw [iI_t (by omega) (by omega)]; omega) | decide | assumption) H.size) (cwV 0 hts gwsMX6_changeCell_2 rfl rfl rfl hd_yX8_negate_RX8 (by decide +kernel)) (fz_pre (va_recv hK hP (ci := 8) (q0 := 5 + (403)) rfl (apR rfl (WW_o (by omega)))) hPc hKc hDc) rfl rfl hl.1 rfl (lv_room (Nat.le_of_ble_eq_true rfl)) dX6_changeCell_153 (by decide +kernel)) hS (fun q _ h => hFc q h) hFc (fun wb_9 t9_ H locs ht hvm hw9 hB9 hz1 hk1 hS => ?_)
          have b_wb_9 := hw9
          try dsimp only at b_wb_9
          have p8 : List.Perm (WQ hQ aQ kQ hw fQ_inside fQ_outside fQ_shut iQ_rows iQ_allRows iQ_columns ++ (WW nW hw lw kw wl_7 wb_9 wG_7)) ((WW nW hw lw kw wl_7 wb_9 wG_7) ++ (WQ hQ aQ kQ hw fQ_inside fQ_outside fQ_shut iQ_rows iQ_allRows iQ_columns)) := (List.perm_append_comm)
          obtain ⟨hP, hD⟩ := frameG p9 p8 hP hD hk1 hFc (fz_P ht hB9.1) hB9.2
          have hP : va_P (dC, dI) vwCl (WQ hQ aQ kQ hw fQ_inside fQ_outside fQ_shut iQ_rows iQ_allRows iQ_columns ++ (WW nW hw lw kw wl_7 wb_9 wG_7)) H := hP
          have hD : va_D A (WQ hQ aQ kQ hw fQ_inside fQ_outside fQ_shut iQ_rows iQ_allRows iQ_columns ++ (WW nW hw lw kw wl_7 wb_9 wG_7)) := hD
          have hl : lv_has _ _ ([(5, .int k0_j7), (0, .ref (hQ 0)), (1, .ref (hw k1)), (2, .ref (hw k2)), (3, .ref (hw k3)), (4, .int p4)]) := lv_sub hl [0, 1, 2, 3, 4, 5] rfl
          exact join8 _ _ _ _ ⟨wb_9, b_wb_9, rfl, hP, hD, hS, hl⟩
      · rintro H locs ls stk ⟨wb_j8, b_wb_j8, rfl, hP, hD, hS, hl⟩
        refine lv_aload_n hx hb dX6_changeCell_156 rfl (lv_at hl 1 rfl) ?_
        refine va_get (D := (dC, dI)) (ci := 6) (v := .ref (hw 402)) (C := RX6) (T := TX6) (N := 13) hx hb hts iwsMX6_changeCell_in6 hown hK hP 0 rfl rfl 9 (by decide) (hts (.fieldLink RX6 36 "OptimaWorks$Tableau" "first" "LOptimaWorks$Whole;") (by decide +kernel)) (fun _ h9 => h9) rfl dX6_changeCell_157 ?_
        refine lv_aload_n hx hb dX6_changeCell_160 rfl (lv_at hl 1 rfl) ?_
        refine va_get (D := (dC, dI)) (ci := 6) (v := .ref (hw 403)) (C := RX6) (T := TX6) (N := 13) hx hb hts iwsMX6_changeCell_in6 hown hK hP 0 rfl rfl 10 (by decide) (hts (.fieldLink RX6 39 "OptimaWorks$Tableau" "second" "LOptimaWorks$Whole;") (by decide +kernel)) (fun _ h9 => h9) rfl dX6_changeCell_161 ?_
        have p9 : List.Perm (WQ hQ aQ kQ hw fQ_inside fQ_outside fQ_shut iQ_rows iQ_allRows iQ_columns ++ (WW nW hw lw kw wl_7 wb_j8 wG_7)) ((WW nW hw lw kw wl_7 wb_j8 wG_7) ++ (WQ hQ aQ kQ hw fQ_inside fQ_outside fQ_shut iQ_rows iQ_allRows iQ_columns)) := (List.perm_append_comm)
        have hPc := hP.mem (fun q h => p9.mem_iff.mpr (List.mem_append_left _ h))
        have hDc := (hD.perm p9).left
        have hKc : va_K (dC, dI) vwCl (tW kw) _ := hK.sub [4] rfl
        have hFc := freeG p9 hD hS hA
        refine va_callv (va_runV (As := [.ref (hw 403)]) (rest := []) ⟨hx, hb, hml, hown, hts⟩ (m_X8_add l dC dI nW hw lw kw wl_7 wb_j8 wG_7 402 403 b_wl_7 b_wb_j8 (by first | with_reducible assumption | omega | (rw [iI_t (by omega) (by omega)]; omega) | decide | assumption) (by first | with_reducible assumption | omega | (rw [iI_t (by omega) (by omega)]; omega) | decide | assumption) H.size) (cwV 1 hts gwsMX6_changeCell_3 rfl rfl rfl hd_yX8_add_RX8 (by decide +kernel)) (fz_pre (va_recv hK hP (ci := 8) (q0 := 5 + (402)) rfl (apR rfl (WW_o (by omega)))) hPc hKc hDc) rfl rfl hl.1 rfl (lv_room (Nat.le_of_ble_eq_true rfl)) dX6_changeCell_164 (by decide +kernel)) hS (fun q _ h => hFc q h) hFc (fun u t9_ H locs ht hvm hw9 hB9 hz1 hk1 hS => ?_)
        revert u hw9 hB9
        refine fz_p3 ?_
        intro wl_10 wb_10 wG_10 hw9 hB9
        try dsimp only at hw9 hB9
        revert hw9
        refine fz_a2 ?_
        intro b_wl_10 b_wb_10
        have p8 : List.Perm (WQ hQ aQ kQ hw fQ_inside fQ_outside fQ_shut iQ_rows iQ_allRows iQ_columns ++ (WW nW hw lw kw wl_10 wb_10 wG_10)) ((WW nW hw lw kw wl_10 wb_10 wG_10) ++ (WQ hQ aQ kQ hw fQ_inside fQ_outside fQ_shut iQ_rows iQ_allRows iQ_columns)) := (List.perm_append_comm)
        obtain ⟨hP, hD⟩ := frameG p9 p8 hP hD hk1 hFc (fz_P ht hB9.1) hB9.2
        have hP : va_P (dC, dI) vwCl (WQ hQ aQ kQ hw fQ_inside fQ_outside fQ_shut iQ_rows iQ_allRows iQ_columns ++ (WW nW hw lw kw wl_10 wb_10 wG_10)) H := hP
        have hD : va_D A (WQ hQ aQ kQ hw fQ_inside fQ_outside fQ_shut iQ_rows iQ_allRows iQ_columns ++ (WW nW hw lw kw wl_10 wb_10 wG_10)) := hD
        refine lv_aload_n hx hb dX6_changeCell_167 rfl (lv_at hl 1 rfl) ?_
        refine va_get (D := (dC, dI)) (ci := 6) (v := .ref (hw 402)) (C := RX6) (T := TX6) (N := 13) hx hb hts iwsMX6_changeCell_in6 hown hK hP 0 rfl rfl 9 (by decide) (hts (.fieldLink RX6 36 "OptimaWorks$Tableau" "first" "LOptimaWorks$Whole;") (by decide +kernel)) (fun _ h9 => h9) rfl dX6_changeCell_168 ?_
        refine lv_aload_n hx hb dX6_changeCell_171 rfl (lv_at hl 1 rfl) ?_
        refine va_get (D := (dC, dI)) (ci := 6) (v := .ref (hw 400)) (C := RX6) (T := TX6) (N := 13) hx hb hts iwsMX6_changeCell_in6 hown hK hP 0 rfl rfl 4 (by decide) (hts (.fieldLink RX6 29 "OptimaWorks$Tableau" "under" "LOptimaWorks$Whole;") (by decide +kernel)) (fun _ h9 => h9) rfl dX6_changeCell_172 ?_
        refine lv_aload_n hx hb dX6_changeCell_175 rfl (lv_at hl 1 rfl) ?_
        refine va_get (D := (dC, dI)) (ci := 6) (v := .ref (hw 404)) (C := RX6) (T := TX6) (N := 13) hx hb hts iwsMX6_changeCell_in6 hown hK hP 0 rfl rfl 11 (by decide) (hts (.fieldLink RX6 42 "OptimaWorks$Tableau" "rest" "LOptimaWorks$Whole;") (by decide +kernel)) (fun _ h9 => h9) rfl dX6_changeCell_176 ?_
        refine lv_aload_n hx hb dX6_changeCell_179 rfl (lv_at hl 1 rfl) ?_
        refine va_get (D := (dC, dI)) (ci := 6) (v := .ref (hw 405)) (C := RX6) (T := TX6) (N := 13) hx hb hts iwsMX6_changeCell_in6 hown hK hP 0 rfl rfl 12 (by decide) (hts (.fieldLink RX6 45 "OptimaWorks$Tableau" "spare" "LOptimaWorks$Whole;") (by decide +kernel)) (fun _ h9 => h9) rfl dX6_changeCell_180 ?_
        have p9 : List.Perm (WQ hQ aQ kQ hw fQ_inside fQ_outside fQ_shut iQ_rows iQ_allRows iQ_columns ++ (WW nW hw lw kw wl_10 wb_10 wG_10)) ((WW nW hw lw kw wl_10 wb_10 wG_10) ++ (WQ hQ aQ kQ hw fQ_inside fQ_outside fQ_shut iQ_rows iQ_allRows iQ_columns)) := (List.perm_append_comm)
        have hPc := hP.mem (fun q h => p9.mem_iff.mpr (List.mem_append_left _ h))
        have hDc := (hD.perm p9).left
        have hKc : va_K (dC, dI) vwCl (tW kw) _ := hK.sub [4] rfl
        have hFc := freeG p9 hD hS hA
        refine va_callv (va_runV (As := [.ref (hw 400), .ref (hw 404), .ref (hw 405)]) (rest := []) ⟨hx, hb, hml, hown, hts⟩ (m_X8_divide l dC dI nW hw lw kw wl_10 wb_10 wG_10 402 400 404 405 b_wl_10 b_wb_10 (by first | with_reducible assumption | omega | (rw [iI_t (by omega) (by omega)]; omega) | decide | assumption) (by first | with_reducible assumption | omega | (rw [iI_t (by omega) (by omega)]; omega) | decide | assumption) (by first | with_reducible assumption | omega | (rw [iI_t (by omega) (by omega)]; omega) | decide | assumption) (by first | with_reducible assumption | omega | (rw [iI_t (by omega) (by omega)]; omega) | decide | assumption) (by first | with_reducible assumption | omega | (rw [iI_t (by omega) (by omega)]; omega) | decide | assumption) H.size) (cwV 3 hts gwsMX6_changeCell_4 rfl rfl rfl hd_yX8_divide_RX8 (by decide +kernel)) (fz_pre (va_recv hK hP (ci := 8) (q0 := 5 + (402)) rfl (apR rfl (WW_o (by omega)))) hPc hKc hDc) rfl rfl hl.1 rfl (lv_room (Nat.le_of_ble_eq_true rfl)) dX6_changeCell_183 (by decide +kernel)) hS (fun q _ h => hFc q h) hFc (fun u t9_ H locs ht hvm hw9 hB9 hz1 hk1 hS => ?_)
        revert u hw9 hB9
        refine fz_p3 ?_
        intro wl_11 wb_11 wG_11 hw9 hB9
        try dsimp only at hw9 hB9
        revert hw9
        refine fz_a2 ?_
        intro b_wl_11 b_wb_11
        have p8 : List.Perm (WQ hQ aQ kQ hw fQ_inside fQ_outside fQ_shut iQ_rows iQ_allRows iQ_columns ++ (WW nW hw lw kw wl_11 wb_11 wG_11)) ((WW nW hw lw kw wl_11 wb_11 wG_11) ++ (WQ hQ aQ kQ hw fQ_inside fQ_outside fQ_shut iQ_rows iQ_allRows iQ_columns)) := (List.perm_append_comm)
        obtain ⟨hP, hD⟩ := frameG p9 p8 hP hD hk1 hFc (fz_P ht hB9.1) hB9.2
        have hP : va_P (dC, dI) vwCl (WQ hQ aQ kQ hw fQ_inside fQ_outside fQ_shut iQ_rows iQ_allRows iQ_columns ++ (WW nW hw lw kw wl_11 wb_11 wG_11)) H := hP
        have hD : va_D A (WQ hQ aQ kQ hw fQ_inside fQ_outside fQ_shut iQ_rows iQ_allRows iQ_columns ++ (WW nW hw lw kw wl_11 wb_11 wG_11)) := hD
        refine lv_aload_n hx hb dX6_changeCell_186 rfl (lv_at hl 2 rfl) ?_
        refine lv_aload_n hx hb dX6_changeCell_187 rfl (lv_at hl 1 rfl) ?_
        refine va_get (D := (dC, dI)) (ci := 6) (v := .ref (hw 402)) (C := RX6) (T := TX6) (N := 13) hx hb hts iwsMX6_changeCell_in6 hown hK hP 0 rfl rfl 9 (by decide) (hts (.fieldLink RX6 36 "OptimaWorks$Tableau" "first" "LOptimaWorks$Whole;") (by decide +kernel)) (fun _ h9 => h9) rfl dX6_changeCell_188 ?_
        have p9 : List.Perm (WQ hQ aQ kQ hw fQ_inside fQ_outside fQ_shut iQ_rows iQ_allRows iQ_columns ++ (WW nW hw lw kw wl_11 wb_11 wG_11)) ((WW nW hw lw kw wl_11 wb_11 wG_11) ++ (WQ hQ aQ kQ hw fQ_inside fQ_outside fQ_shut iQ_rows iQ_allRows iQ_columns)) := (List.perm_append_comm)
        have hPc := hP.mem (fun q h => p9.mem_iff.mpr (List.mem_append_left _ h))
        have hDc := (hD.perm p9).left
        have hKc : va_K (dC, dI) vwCl (tW kw) _ := hK.sub [4] rfl
        have hFc := freeG p9 hD hS hA
        refine va_callv (va_runV (As := [.ref (hw 402)]) (rest := []) ⟨hx, hb, hml, hown, hts⟩ (m_X8_copy l dC dI nW hw lw kw wl_11 wb_11 wG_11 k1 402 b_wl_11 b_wb_11 (by first | with_reducible assumption | omega | (rw [iI_t (by omega) (by omega)]; omega) | decide | assumption) (by first | with_reducible assumption | omega | (rw [iI_t (by omega) (by omega)]; omega) | decide | assumption) H.size) (cwV 1 hts gwsMX6_changeCell_5 rfl rfl rfl hd_yX8_copy_RX8 (by decide +kernel)) (fz_pre (va_recv hK hP (ci := 8) (q0 := 5 + (k1)) rfl (apR rfl (WW_o (by omega)))) hPc hKc hDc) rfl rfl hl.1 rfl (lv_room (Nat.le_of_ble_eq_true rfl)) dX6_changeCell_191 (by decide +kernel)) hS (fun q _ h => hFc q h) hFc (fun u t9_ H locs ht hvm hw9 hB9 hz1 hk1 hS => ?_)
        revert u hw9 hB9
        refine fz_p3 ?_
        intro wl_12 wb_12 wG_12 hw9 hB9
        try dsimp only at hw9 hB9
        revert hw9
        refine fz_a2 ?_
        intro b_wl_12 b_wb_12
        have p8 : List.Perm (WQ hQ aQ kQ hw fQ_inside fQ_outside fQ_shut iQ_rows iQ_allRows iQ_columns ++ (WW nW hw lw kw wl_12 wb_12 wG_12)) ((WW nW hw lw kw wl_12 wb_12 wG_12) ++ (WQ hQ aQ kQ hw fQ_inside fQ_outside fQ_shut iQ_rows iQ_allRows iQ_columns)) := (List.perm_append_comm)
        obtain ⟨hP, hD⟩ := frameG p9 p8 hP hD hk1 hFc (fz_P ht hB9.1) hB9.2
        have hP : va_P (dC, dI) vwCl (WQ hQ aQ kQ hw fQ_inside fQ_outside fQ_shut iQ_rows iQ_allRows iQ_columns ++ (WW nW hw lw kw wl_12 wb_12 wG_12)) H := hP
        have hD : va_D A (WQ hQ aQ kQ hw fQ_inside fQ_outside fQ_shut iQ_rows iQ_allRows iQ_columns ++ (WW nW hw lw kw wl_12 wb_12 wG_12)) := hD
        refine W.widen (k := 0) (n := 0) (by decide +kernel) (by decide +kernel) ?_
        exact W.vret hx hb hr (fun t9_ ht hW => ⟨⟨(wl_12, wb_12, wG_12), rfl, ⟨b_wl_12, b_wb_12⟩, by rw [ht]; exact hP, hD⟩, hS.F ht⟩) hS.2.2 dX6_changeCell_194
    · have t_30 : ¬ k0_j7.toInt = 0 := toI_neq c_30 rfl (by decide : (0 : Int32).toInt = 0)
      refine lv_aload_n hx hb dX6_changeCell_33 rfl (lv_at hl 1 rfl) ?_
      refine va_get (D := (dC, dI)) (ci := 6) (v := .ref (hw 401)) (C := RX6) (T := TX6) (N := 13) hx hb hts iwsMX6_changeCell_in6 hown hK hP 0 rfl rfl 8 (by decide) (hts (.fieldLink RX6 33 "OptimaWorks$Tableau" "turning" "LOptimaWorks$Whole;") (by decide +kernel)) (fun _ h9 => h9) rfl dX6_changeCell_34 ?_
      have p9 : List.Perm (WQ hQ aQ kQ hw fQ_inside fQ_outside fQ_shut iQ_rows iQ_allRows iQ_columns ++ (WW nW hw lw kw wl wb wG)) ((WW nW hw lw kw wl wb wG) ++ (WQ hQ aQ kQ hw fQ_inside fQ_outside fQ_shut iQ_rows iQ_allRows iQ_columns)) := (List.perm_append_comm)
      have hPc := hP.mem (fun q h => p9.mem_iff.mpr (List.mem_append_left _ h))
      have hDc := (hD.perm p9).left
      have hKc : va_K (dC, dI) vwCl (tW kw) _ := hK.sub [4] rfl
      have hFc := freeG p9 hD hS hA
      refine va_calli (va_runV (As := []) (rest := []) ⟨hx, hb, hml, hown, hts⟩ (m_X8_isSmall l dC dI nW hw lw kw wl wb wG 401 b_wl b_wb (by first | with_reducible assumption | omega | (rw [iI_t (by omega) (by omega)]; omega) | decide | assumption) H.size) (cwV 0 hts gwsMX6_changeCell_0 rfl rfl rfl hd_yX8_isSmall_RX8 (by decide +kernel)) (fz_pre (va_recv hK hP (ci := 8) (q0 := 5 + (401)) rfl (apR rfl (WW_o (by omega)))) hPc hKc hDc) rfl rfl hl.1 rfl (lv_room (Nat.le_of_ble_eq_true rfl)) dX6_changeCell_37 (by decide +kernel)) hS (fun q _ h => hFc q h) hFc (fun r13 u t9_ H locs ht hvm hw9 hB9 hz1 hk1 hS => ?_)
      have b_r13 := hw9
      try dsimp only at b_r13
      have p8 : List.Perm (WQ hQ aQ kQ hw fQ_inside fQ_outside fQ_shut iQ_rows iQ_allRows iQ_columns ++ (WW nW hw lw kw wl wb wG)) ((WW nW hw lw kw wl wb wG) ++ (WQ hQ aQ kQ hw fQ_inside fQ_outside fQ_shut iQ_rows iQ_allRows iQ_columns)) := (List.perm_append_comm)
      obtain ⟨hP, hD⟩ := frameG p9 p8 hP hD hk1 hFc (fz_P ht hB9.1) hB9.2
      have hP : va_P (dC, dI) vwCl (WQ hQ aQ kQ hw fQ_inside fQ_outside fQ_shut iQ_rows iQ_allRows iQ_columns ++ (WW nW hw lw kw wl wb wG)) H := hP
      have hD : va_D A (WQ hQ aQ kQ hw fQ_inside fQ_outside fQ_shut iQ_rows iQ_allRows iQ_columns ++ (WW nW hw lw kw wl wb wG)) := hD
      refine lv_if_eq (tgt := 123) hx hb dX6_changeCell_40 (by decide) (fun c_40 => ?_) (fun c_40 => ?_)
      · have t_40 : r13.toInt = 0 := toI_eq c_40 rfl (by decide : (0 : Int32).toInt = 0)
        refine lv_aload_n hx hb dX6_changeCell_123 rfl (lv_at hl 1 rfl) ?_
        refine va_get (D := (dC, dI)) (ci := 6) (v := .ref (hw 402)) (C := RX6) (T := TX6) (N := 13) hx hb hts iwsMX6_changeCell_in6 hown hK hP 0 rfl rfl 9 (by decide) (hts (.fieldLink RX6 36 "OptimaWorks$Tableau" "first" "LOptimaWorks$Whole;") (by decide +kernel)) (fun _ h9 => h9) rfl dX6_changeCell_124 ?_
        refine lv_aload_n hx hb dX6_changeCell_127 rfl (lv_at hl 2 rfl) ?_
        refine lv_aload_n hx hb dX6_changeCell_128 rfl (lv_at hl 1 rfl) ?_
        refine va_get (D := (dC, dI)) (ci := 6) (v := .ref (hw 401)) (C := RX6) (T := TX6) (N := 13) hx hb hts iwsMX6_changeCell_in6 hown hK hP 0 rfl rfl 8 (by decide) (hts (.fieldLink RX6 33 "OptimaWorks$Tableau" "turning" "LOptimaWorks$Whole;") (by decide +kernel)) (fun _ h9 => h9) rfl dX6_changeCell_129 ?_
        have p9 : List.Perm (WQ hQ aQ kQ hw fQ_inside fQ_outside fQ_shut iQ_rows iQ_allRows iQ_columns ++ (WW nW hw lw kw wl wb wG)) ((WW nW hw lw kw wl wb wG) ++ (WQ hQ aQ kQ hw fQ_inside fQ_outside fQ_shut iQ_rows iQ_allRows iQ_columns)) := (List.perm_append_comm)
        have hPc := hP.mem (fun q h => p9.mem_iff.mpr (List.mem_append_left _ h))
        have hDc := (hD.perm p9).left
        have hKc : va_K (dC, dI) vwCl (tW kw) _ := hK.sub [4] rfl
        have hFc := freeG p9 hD hS hA
        refine va_callv (va_runV (As := [.ref (hw k1), .ref (hw 401)]) (rest := []) ⟨hx, hb, hml, hown, hts⟩ (m_X8_setProduct l dC dI nW hw lw kw wl wb wG 402 k1 401 b_wl b_wb (by first | with_reducible assumption | omega | (rw [iI_t (by omega) (by omega)]; omega) | decide | assumption) (by first | with_reducible assumption | omega | (rw [iI_t (by omega) (by omega)]; omega) | decide | assumption) (by first | with_reducible assumption | omega | (rw [iI_t (by omega) (by omega)]; omega) | decide | assumption) H.size) (cwV 2 hts gwsMX6_changeCell_1 rfl rfl rfl hd_yX8_setProduct_RX8 (by decide +kernel)) (fz_pre (va_recv hK hP (ci := 8) (q0 := 5 + (402)) rfl (apR rfl (WW_o (by omega)))) hPc hKc hDc) rfl rfl hl.1 rfl (lv_room (Nat.le_of_ble_eq_true rfl)) dX6_changeCell_132 (by decide +kernel)) hS (fun q _ h => hFc q h) hFc (fun u t9_ H locs ht hvm hw9 hB9 hz1 hk1 hS => ?_)
        revert u hw9 hB9
        refine fz_p3 ?_
        intro wl_14 wb_14 wG_14 hw9 hB9
        try dsimp only at hw9 hB9
        revert hw9
        refine fz_a2 ?_
        intro b_wl_14 b_wb_14
        have p8 : List.Perm (WQ hQ aQ kQ hw fQ_inside fQ_outside fQ_shut iQ_rows iQ_allRows iQ_columns ++ (WW nW hw lw kw wl_14 wb_14 wG_14)) ((WW nW hw lw kw wl_14 wb_14 wG_14) ++ (WQ hQ aQ kQ hw fQ_inside fQ_outside fQ_shut iQ_rows iQ_allRows iQ_columns)) := (List.perm_append_comm)
        obtain ⟨hP, hD⟩ := frameG p9 p8 hP hD hk1 hFc (fz_P ht hB9.1) hB9.2
        have hP : va_P (dC, dI) vwCl (WQ hQ aQ kQ hw fQ_inside fQ_outside fQ_shut iQ_rows iQ_allRows iQ_columns ++ (WW nW hw lw kw wl_14 wb_14 wG_14)) H := hP
        have hD : va_D A (WQ hQ aQ kQ hw fQ_inside fQ_outside fQ_shut iQ_rows iQ_allRows iQ_columns ++ (WW nW hw lw kw wl_14 wb_14 wG_14)) := hD
        refine lv_aload_n hx hb dX6_changeCell_135 rfl (lv_at hl 1 rfl) ?_
        refine va_get (D := (dC, dI)) (ci := 6) (v := .ref (hw 403)) (C := RX6) (T := TX6) (N := 13) hx hb hts iwsMX6_changeCell_in6 hown hK hP 0 rfl rfl 10 (by decide) (hts (.fieldLink RX6 39 "OptimaWorks$Tableau" "second" "LOptimaWorks$Whole;") (by decide +kernel)) (fun _ h9 => h9) rfl dX6_changeCell_136 ?_
        refine lv_aload_n hx hb dX6_changeCell_139 rfl (lv_at hl 3 rfl) ?_
        refine lv_aload_n hx hb dX6_changeCell_140 rfl (lv_at hl 4 rfl) ?_
        have p9 : List.Perm (WQ hQ aQ kQ hw fQ_inside fQ_outside fQ_shut iQ_rows iQ_allRows iQ_columns ++ (WW nW hw lw kw wl_14 wb_14 wG_14)) ((WW nW hw lw kw wl_14 wb_14 wG_14) ++ (WQ hQ aQ kQ hw fQ_inside fQ_outside fQ_shut iQ_rows iQ_allRows iQ_columns)) := (List.perm_append_comm)
        have hPc := hP.mem (fun q h => p9.mem_iff.mpr (List.mem_append_left _ h))
        have hDc := (hD.perm p9).left
        have hKc : va_K (dC, dI) vwCl (tW kw) _ := hK.sub [4] rfl
        have hFc := freeG p9 hD hS hA
        refine va_callv (va_runV (As := [.ref (hw k2), .ref (hw k3)]) (rest := []) ⟨hx, hb, hml, hown, hts⟩ (m_X8_setProduct l dC dI nW hw lw kw wl_14 wb_14 wG_14 403 k2 k3 b_wl_14 b_wb_14 (by first | with_reducible assumption | omega | (rw [iI_t (by omega) (by omega)]; omega) | decide | assumption) (by first | with_reducible assumption | omega | (rw [iI_t (by omega) (by omega)]; omega) | decide | assumption) (by first | with_reducible assumption | omega | (rw [iI_t (by omega) (by omega)]; omega) | decide | assumption) H.size) (cwV 2 hts gwsMX6_changeCell_1 rfl rfl rfl hd_yX8_setProduct_RX8 (by decide +kernel)) (fz_pre (va_recv hK hP (ci := 8) (q0 := 5 + (403)) rfl (apR rfl (WW_o (by omega)))) hPc hKc hDc) rfl rfl hl.1 rfl (lv_room (Nat.le_of_ble_eq_true rfl)) dX6_changeCell_141 (by decide +kernel)) hS (fun q _ h => hFc q h) hFc (fun u t9_ H locs ht hvm hw9 hB9 hz1 hk1 hS => ?_)
        revert u hw9 hB9
        refine fz_p3 ?_
        intro wl_15 wb_15 wG_15 hw9 hB9
        try dsimp only at hw9 hB9
        revert hw9
        refine fz_a2 ?_
        intro b_wl_15 b_wb_15
        have p8 : List.Perm (WQ hQ aQ kQ hw fQ_inside fQ_outside fQ_shut iQ_rows iQ_allRows iQ_columns ++ (WW nW hw lw kw wl_15 wb_15 wG_15)) ((WW nW hw lw kw wl_15 wb_15 wG_15) ++ (WQ hQ aQ kQ hw fQ_inside fQ_outside fQ_shut iQ_rows iQ_allRows iQ_columns)) := (List.perm_append_comm)
        obtain ⟨hP, hD⟩ := frameG p9 p8 hP hD hk1 hFc (fz_P ht hB9.1) hB9.2
        have hP : va_P (dC, dI) vwCl (WQ hQ aQ kQ hw fQ_inside fQ_outside fQ_shut iQ_rows iQ_allRows iQ_columns ++ (WW nW hw lw kw wl_15 wb_15 wG_15)) H := hP
        have hD : va_D A (WQ hQ aQ kQ hw fQ_inside fQ_outside fQ_shut iQ_rows iQ_allRows iQ_columns ++ (WW nW hw lw kw wl_15 wb_15 wG_15)) := hD
        refine lv_iload hx hb dX6_changeCell_144 (lv_at hl 5 rfl) ?_
        refine W.cut (pc := 156) (fun H locs ls stk => ∃ (wb_j9 : Nat → Int32), (∀ q : Nat, 0 ≤ (wb_j9 q).toInt ∧ (wb_j9 q).toInt ≤ 1) ∧  stk = [] ∧ va_P (dC, dI) vwCl (WQ hQ aQ kQ hw fQ_inside fQ_outside fQ_shut iQ_rows iQ_allRows iQ_columns ++ (WW nW hw lw kw wl_15 wb_j9 wG_15)) H ∧ va_D A (WQ hQ aQ kQ hw fQ_inside fQ_outside fQ_shut iQ_rows iQ_allRows iQ_columns ++ (WW nW hw lw kw wl_15 wb_j9 wG_15)) ∧ va_S A s.heap H locs ∧ lv_has ls 12 [(5, .int k0_j7), (0, .ref (hQ 0)), (1, .ref (hw k1)), (2, .ref (hw k2)), (3, .ref (hw k3)), (4, .int p4)]) (fun join9 => ?_) ?_
        · refine lv_if_ne (tgt := 156) hx hb dX6_changeCell_146 (by decide) (fun c_146 => ?_) (fun c_146 => ?_)
          · have t_146 : p4.toInt ≠ 0 := toI_ne c_146 rfl (by decide : (0 : Int32).toInt = 0)
            have hl : lv_has _ _ ([(5, .int k0_j7), (0, .ref (hQ 0)), (1, .ref (hw k1)), (2, .ref (hw k2)), (3, .ref (hw k3)), (4, .int p4)]) := lv_sub hl [0, 1, 2, 3, 4, 5] rfl
            exact join9 _ _ _ _ ⟨wb_15, b_wb_15, rfl, hP, hD, hS, hl⟩
          · have t_146 : p4.toInt = 0 := toI_nne c_146 rfl (by decide : (0 : Int32).toInt = 0)
            refine lv_aload_n hx hb dX6_changeCell_149 rfl (lv_at hl 1 rfl) ?_
            refine va_get (D := (dC, dI)) (ci := 6) (v := .ref (hw 403)) (C := RX6) (T := TX6) (N := 13) hx hb hts iwsMX6_changeCell_in6 hown hK hP 0 rfl rfl 10 (by decide) (hts (.fieldLink RX6 39 "OptimaWorks$Tableau" "second" "LOptimaWorks$Whole;") (by decide +kernel)) (fun _ h9 => h9) rfl dX6_changeCell_150 ?_
            have p9 : List.Perm (WQ hQ aQ kQ hw fQ_inside fQ_outside fQ_shut iQ_rows iQ_allRows iQ_columns ++ (WW nW hw lw kw wl_15 wb_15 wG_15)) ((WW nW hw lw kw wl_15 wb_15 wG_15) ++ (WQ hQ aQ kQ hw fQ_inside fQ_outside fQ_shut iQ_rows iQ_allRows iQ_columns)) := (List.perm_append_comm)
            have hPc := hP.mem (fun q h => p9.mem_iff.mpr (List.mem_append_left _ h))
            have hDc := (hD.perm p9).left
            have hKc : va_K (dC, dI) vwCl (tW kw) _ := hK.sub [4] rfl
            have hFc := freeG p9 hD hS hA
            refine va_callv (va_runV (As := []) (rest := []) ⟨hx, hb, hml, hown, hts⟩ (m_X8_negate l dC dI nW hw lw kw wl_15 wb_15 wG_15 403 b_wl_15 b_wb_15 (by first | with_reducible assumption | omega | (rw [iI_t (by omega) (by omega)]; omega) | decide | assumption) H.size) (cwV 0 hts gwsMX6_changeCell_2 rfl rfl rfl hd_yX8_negate_RX8 (by decide +kernel)) (fz_pre (va_recv hK hP (ci := 8) (q0 := 5 + (403)) rfl (apR rfl (WW_o (by omega)))) hPc hKc hDc) rfl rfl hl.1 rfl (lv_room (Nat.le_of_ble_eq_true rfl)) dX6_changeCell_153 (by decide +kernel)) hS (fun q _ h => hFc q h) hFc (fun wb_17 t9_ H locs ht hvm hw9 hB9 hz1 hk1 hS => ?_)
            have b_wb_17 := hw9
            try dsimp only at b_wb_17
            have p8 : List.Perm (WQ hQ aQ kQ hw fQ_inside fQ_outside fQ_shut iQ_rows iQ_allRows iQ_columns ++ (WW nW hw lw kw wl_15 wb_17 wG_15)) ((WW nW hw lw kw wl_15 wb_17 wG_15) ++ (WQ hQ aQ kQ hw fQ_inside fQ_outside fQ_shut iQ_rows iQ_allRows iQ_columns)) := (List.perm_append_comm)
            obtain ⟨hP, hD⟩ := frameG p9 p8 hP hD hk1 hFc (fz_P ht hB9.1) hB9.2
            have hP : va_P (dC, dI) vwCl (WQ hQ aQ kQ hw fQ_inside fQ_outside fQ_shut iQ_rows iQ_allRows iQ_columns ++ (WW nW hw lw kw wl_15 wb_17 wG_15)) H := hP
            have hD : va_D A (WQ hQ aQ kQ hw fQ_inside fQ_outside fQ_shut iQ_rows iQ_allRows iQ_columns ++ (WW nW hw lw kw wl_15 wb_17 wG_15)) := hD
            have hl : lv_has _ _ ([(5, .int k0_j7), (0, .ref (hQ 0)), (1, .ref (hw k1)), (2, .ref (hw k2)), (3, .ref (hw k3)), (4, .int p4)]) := lv_sub hl [0, 1, 2, 3, 4, 5] rfl
            exact join9 _ _ _ _ ⟨wb_17, b_wb_17, rfl, hP, hD, hS, hl⟩
        · rintro H locs ls stk ⟨wb_j9, b_wb_j9, rfl, hP, hD, hS, hl⟩
          refine lv_aload_n hx hb dX6_changeCell_156 rfl (lv_at hl 1 rfl) ?_
          refine va_get (D := (dC, dI)) (ci := 6) (v := .ref (hw 402)) (C := RX6) (T := TX6) (N := 13) hx hb hts iwsMX6_changeCell_in6 hown hK hP 0 rfl rfl 9 (by decide) (hts (.fieldLink RX6 36 "OptimaWorks$Tableau" "first" "LOptimaWorks$Whole;") (by decide +kernel)) (fun _ h9 => h9) rfl dX6_changeCell_157 ?_
          refine lv_aload_n hx hb dX6_changeCell_160 rfl (lv_at hl 1 rfl) ?_
          refine va_get (D := (dC, dI)) (ci := 6) (v := .ref (hw 403)) (C := RX6) (T := TX6) (N := 13) hx hb hts iwsMX6_changeCell_in6 hown hK hP 0 rfl rfl 10 (by decide) (hts (.fieldLink RX6 39 "OptimaWorks$Tableau" "second" "LOptimaWorks$Whole;") (by decide +kernel)) (fun _ h9 => h9) rfl dX6_changeCell_161 ?_
          have p9 : List.Perm (WQ hQ aQ kQ hw fQ_inside fQ_outside fQ_shut iQ_rows iQ_allRows iQ_columns ++ (WW nW hw lw kw wl_15 wb_j9 wG_15)) ((WW nW hw lw kw wl_15 wb_j9 wG_15) ++ (WQ hQ aQ kQ hw fQ_inside fQ_outside fQ_shut iQ_rows iQ_allRows iQ_columns)) := (List.perm_append_comm)
          have hPc := hP.mem (fun q h => p9.mem_iff.mpr (List.mem_append_left _ h))
          have hDc := (hD.perm p9).left
          have hKc : va_K (dC, dI) vwCl (tW kw) _ := hK.sub [4] rfl
          have hFc := freeG p9 hD hS hA
          refine va_callv (va_runV (As := [.ref (hw 403)]) (rest := []) ⟨hx, hb, hml, hown, hts⟩ (m_X8_add l dC dI nW hw lw kw wl_15 wb_j9 wG_15 402 403 b_wl_15 b_wb_j9 (by first | with_reducible assumption | omega | (rw [iI_t (by omega) (by omega)]; omega) | decide | assumption) (by first | with_reducible assumption | omega | (rw [iI_t (by omega) (by omega)]; omega) | decide | assumption) H.size) (cwV 1 hts gwsMX6_changeCell_3 rfl rfl rfl hd_yX8_add_RX8 (by decide +kernel)) (fz_pre (va_recv hK hP (ci := 8) (q0 := 5 + (402)) rfl (apR rfl (WW_o (by omega)))) hPc hKc hDc) rfl rfl hl.1 rfl (lv_room (Nat.le_of_ble_eq_true rfl)) dX6_changeCell_164 (by decide +kernel)) hS (fun q _ h => hFc q h) hFc (fun u t9_ H locs ht hvm hw9 hB9 hz1 hk1 hS => ?_)
          revert u hw9 hB9
          refine fz_p3 ?_
          intro wl_18 wb_18 wG_18 hw9 hB9
          try dsimp only at hw9 hB9
          revert hw9
          refine fz_a2 ?_
          intro b_wl_18 b_wb_18
          have p8 : List.Perm (WQ hQ aQ kQ hw fQ_inside fQ_outside fQ_shut iQ_rows iQ_allRows iQ_columns ++ (WW nW hw lw kw wl_18 wb_18 wG_18)) ((WW nW hw lw kw wl_18 wb_18 wG_18) ++ (WQ hQ aQ kQ hw fQ_inside fQ_outside fQ_shut iQ_rows iQ_allRows iQ_columns)) := (List.perm_append_comm)
          obtain ⟨hP, hD⟩ := frameG p9 p8 hP hD hk1 hFc (fz_P ht hB9.1) hB9.2
          have hP : va_P (dC, dI) vwCl (WQ hQ aQ kQ hw fQ_inside fQ_outside fQ_shut iQ_rows iQ_allRows iQ_columns ++ (WW nW hw lw kw wl_18 wb_18 wG_18)) H := hP
          have hD : va_D A (WQ hQ aQ kQ hw fQ_inside fQ_outside fQ_shut iQ_rows iQ_allRows iQ_columns ++ (WW nW hw lw kw wl_18 wb_18 wG_18)) := hD
          refine lv_aload_n hx hb dX6_changeCell_167 rfl (lv_at hl 1 rfl) ?_
          refine va_get (D := (dC, dI)) (ci := 6) (v := .ref (hw 402)) (C := RX6) (T := TX6) (N := 13) hx hb hts iwsMX6_changeCell_in6 hown hK hP 0 rfl rfl 9 (by decide) (hts (.fieldLink RX6 36 "OptimaWorks$Tableau" "first" "LOptimaWorks$Whole;") (by decide +kernel)) (fun _ h9 => h9) rfl dX6_changeCell_168 ?_
          refine lv_aload_n hx hb dX6_changeCell_171 rfl (lv_at hl 1 rfl) ?_
          refine va_get (D := (dC, dI)) (ci := 6) (v := .ref (hw 400)) (C := RX6) (T := TX6) (N := 13) hx hb hts iwsMX6_changeCell_in6 hown hK hP 0 rfl rfl 4 (by decide) (hts (.fieldLink RX6 29 "OptimaWorks$Tableau" "under" "LOptimaWorks$Whole;") (by decide +kernel)) (fun _ h9 => h9) rfl dX6_changeCell_172 ?_
          refine lv_aload_n hx hb dX6_changeCell_175 rfl (lv_at hl 1 rfl) ?_
          refine va_get (D := (dC, dI)) (ci := 6) (v := .ref (hw 404)) (C := RX6) (T := TX6) (N := 13) hx hb hts iwsMX6_changeCell_in6 hown hK hP 0 rfl rfl 11 (by decide) (hts (.fieldLink RX6 42 "OptimaWorks$Tableau" "rest" "LOptimaWorks$Whole;") (by decide +kernel)) (fun _ h9 => h9) rfl dX6_changeCell_176 ?_
          refine lv_aload_n hx hb dX6_changeCell_179 rfl (lv_at hl 1 rfl) ?_
          refine va_get (D := (dC, dI)) (ci := 6) (v := .ref (hw 405)) (C := RX6) (T := TX6) (N := 13) hx hb hts iwsMX6_changeCell_in6 hown hK hP 0 rfl rfl 12 (by decide) (hts (.fieldLink RX6 45 "OptimaWorks$Tableau" "spare" "LOptimaWorks$Whole;") (by decide +kernel)) (fun _ h9 => h9) rfl dX6_changeCell_180 ?_
          have p9 : List.Perm (WQ hQ aQ kQ hw fQ_inside fQ_outside fQ_shut iQ_rows iQ_allRows iQ_columns ++ (WW nW hw lw kw wl_18 wb_18 wG_18)) ((WW nW hw lw kw wl_18 wb_18 wG_18) ++ (WQ hQ aQ kQ hw fQ_inside fQ_outside fQ_shut iQ_rows iQ_allRows iQ_columns)) := (List.perm_append_comm)
          have hPc := hP.mem (fun q h => p9.mem_iff.mpr (List.mem_append_left _ h))
          have hDc := (hD.perm p9).left
          have hKc : va_K (dC, dI) vwCl (tW kw) _ := hK.sub [4] rfl
          have hFc := freeG p9 hD hS hA
          refine va_callv (va_runV (As := [.ref (hw 400), .ref (hw 404), .ref (hw 405)]) (rest := []) ⟨hx, hb, hml, hown, hts⟩ (m_X8_divide l dC dI nW hw lw kw wl_18 wb_18 wG_18 402 400 404 405 b_wl_18 b_wb_18 (by first | with_reducible assumption | omega | (rw [iI_t (by omega) (by omega)]; omega) | decide | assumption) (by first | with_reducible assumption | omega | (rw [iI_t (by omega) (by omega)]; omega) | decide | assumption) (by first | with_reducible assumption | omega | (rw [iI_t (by omega) (by omega)]; omega) | decide | assumption) (by first | with_reducible assumption | omega | (rw [iI_t (by omega) (by omega)]; omega) | decide | assumption) (by first | with_reducible assumption | omega | (rw [iI_t (by omega) (by omega)]; omega) | decide | assumption) H.size) (cwV 3 hts gwsMX6_changeCell_4 rfl rfl rfl hd_yX8_divide_RX8 (by decide +kernel)) (fz_pre (va_recv hK hP (ci := 8) (q0 := 5 + (402)) rfl (apR rfl (WW_o (by omega)))) hPc hKc hDc) rfl rfl hl.1 rfl (lv_room (Nat.le_of_ble_eq_true rfl)) dX6_changeCell_183 (by decide +kernel)) hS (fun q _ h => hFc q h) hFc (fun u t9_ H locs ht hvm hw9 hB9 hz1 hk1 hS => ?_)
          revert u hw9 hB9
          refine fz_p3 ?_
          intro wl_19 wb_19 wG_19 hw9 hB9
          try dsimp only at hw9 hB9
          revert hw9
          refine fz_a2 ?_
          intro b_wl_19 b_wb_19
          have p8 : List.Perm (WQ hQ aQ kQ hw fQ_inside fQ_outside fQ_shut iQ_rows iQ_allRows iQ_columns ++ (WW nW hw lw kw wl_19 wb_19 wG_19)) ((WW nW hw lw kw wl_19 wb_19 wG_19) ++ (WQ hQ aQ kQ hw fQ_inside fQ_outside fQ_shut iQ_rows iQ_allRows iQ_columns)) := (List.perm_append_comm)
          obtain ⟨hP, hD⟩ := frameG p9 p8 hP hD hk1 hFc (fz_P ht hB9.1) hB9.2
          have hP : va_P (dC, dI) vwCl (WQ hQ aQ kQ hw fQ_inside fQ_outside fQ_shut iQ_rows iQ_allRows iQ_columns ++ (WW nW hw lw kw wl_19 wb_19 wG_19)) H := hP
          have hD : va_D A (WQ hQ aQ kQ hw fQ_inside fQ_outside fQ_shut iQ_rows iQ_allRows iQ_columns ++ (WW nW hw lw kw wl_19 wb_19 wG_19)) := hD
          refine lv_aload_n hx hb dX6_changeCell_186 rfl (lv_at hl 2 rfl) ?_
          refine lv_aload_n hx hb dX6_changeCell_187 rfl (lv_at hl 1 rfl) ?_
          refine va_get (D := (dC, dI)) (ci := 6) (v := .ref (hw 402)) (C := RX6) (T := TX6) (N := 13) hx hb hts iwsMX6_changeCell_in6 hown hK hP 0 rfl rfl 9 (by decide) (hts (.fieldLink RX6 36 "OptimaWorks$Tableau" "first" "LOptimaWorks$Whole;") (by decide +kernel)) (fun _ h9 => h9) rfl dX6_changeCell_188 ?_
          have p9 : List.Perm (WQ hQ aQ kQ hw fQ_inside fQ_outside fQ_shut iQ_rows iQ_allRows iQ_columns ++ (WW nW hw lw kw wl_19 wb_19 wG_19)) ((WW nW hw lw kw wl_19 wb_19 wG_19) ++ (WQ hQ aQ kQ hw fQ_inside fQ_outside fQ_shut iQ_rows iQ_allRows iQ_columns)) := (List.perm_append_comm)
          have hPc := hP.mem (fun q h => p9.mem_iff.mpr (List.mem_append_left _ h))
          have hDc := (hD.perm p9).left
          have hKc : va_K (dC, dI) vwCl (tW kw) _ := hK.sub [4] rfl
          have hFc := freeG p9 hD hS hA
          refine va_callv (va_runV (As := [.ref (hw 402)]) (rest := []) ⟨hx, hb, hml, hown, hts⟩ (m_X8_copy l dC dI nW hw lw kw wl_19 wb_19 wG_19 k1 402 b_wl_19 b_wb_19 (by first | with_reducible assumption | omega | (rw [iI_t (by omega) (by omega)]; omega) | decide | assumption) (by first | with_reducible assumption | omega | (rw [iI_t (by omega) (by omega)]; omega) | decide | assumption) H.size) (cwV 1 hts gwsMX6_changeCell_5 rfl rfl rfl hd_yX8_copy_RX8 (by decide +kernel)) (fz_pre (va_recv hK hP (ci := 8) (q0 := 5 + (k1)) rfl (apR rfl (WW_o (by omega)))) hPc hKc hDc) rfl rfl hl.1 rfl (lv_room (Nat.le_of_ble_eq_true rfl)) dX6_changeCell_191 (by decide +kernel)) hS (fun q _ h => hFc q h) hFc (fun u t9_ H locs ht hvm hw9 hB9 hz1 hk1 hS => ?_)
          revert u hw9 hB9
          refine fz_p3 ?_
          intro wl_20 wb_20 wG_20 hw9 hB9
          try dsimp only at hw9 hB9
          revert hw9
          refine fz_a2 ?_
          intro b_wl_20 b_wb_20
          have p8 : List.Perm (WQ hQ aQ kQ hw fQ_inside fQ_outside fQ_shut iQ_rows iQ_allRows iQ_columns ++ (WW nW hw lw kw wl_20 wb_20 wG_20)) ((WW nW hw lw kw wl_20 wb_20 wG_20) ++ (WQ hQ aQ kQ hw fQ_inside fQ_outside fQ_shut iQ_rows iQ_allRows iQ_columns)) := (List.perm_append_comm)
          obtain ⟨hP, hD⟩ := frameG p9 p8 hP hD hk1 hFc (fz_P ht hB9.1) hB9.2
          have hP : va_P (dC, dI) vwCl (WQ hQ aQ kQ hw fQ_inside fQ_outside fQ_shut iQ_rows iQ_allRows iQ_columns ++ (WW nW hw lw kw wl_20 wb_20 wG_20)) H := hP
          have hD : va_D A (WQ hQ aQ kQ hw fQ_inside fQ_outside fQ_shut iQ_rows iQ_allRows iQ_columns ++ (WW nW hw lw kw wl_20 wb_20 wG_20)) := hD
          refine W.widen (k := 0) (n := 0) (by decide +kernel) (by decide +kernel) ?_
          exact W.vret hx hb hr (fun t9_ ht hW => ⟨⟨(wl_20, wb_20, wG_20), rfl, ⟨b_wl_20, b_wb_20⟩, by rw [ht]; exact hP, hD⟩, hS.F ht⟩) hS.2.2 dX6_changeCell_194
      · have t_40 : ¬ r13.toInt = 0 := toI_neq c_40 rfl (by decide : (0 : Int32).toInt = 0)
        refine lv_aload_n hx hb dX6_changeCell_43 rfl (lv_at hl 1 rfl) ?_
        refine va_get (D := (dC, dI)) (ci := 6) (v := .ref (hw 400)) (C := RX6) (T := TX6) (N := 13) hx hb hts iwsMX6_changeCell_in6 hown hK hP 0 rfl rfl 4 (by decide) (hts (.fieldLink RX6 29 "OptimaWorks$Tableau" "under" "LOptimaWorks$Whole;") (by decide +kernel)) (fun _ h9 => h9) rfl dX6_changeCell_44 ?_
        have p9 : List.Perm (WQ hQ aQ kQ hw fQ_inside fQ_outside fQ_shut iQ_rows iQ_allRows iQ_columns ++ (WW nW hw lw kw wl wb wG)) ((WW nW hw lw kw wl wb wG) ++ (WQ hQ aQ kQ hw fQ_inside fQ_outside fQ_shut iQ_rows iQ_allRows iQ_columns)) := (List.perm_append_comm)
        have hPc := hP.mem (fun q h => p9.mem_iff.mpr (List.mem_append_left _ h))
        have hDc := (hD.perm p9).left
        have hKc : va_K (dC, dI) vwCl (tW kw) _ := hK.sub [4] rfl
        have hFc := freeG p9 hD hS hA
        refine va_calli (va_runV (As := []) (rest := []) ⟨hx, hb, hml, hown, hts⟩ (m_X8_isSmall l dC dI nW hw lw kw wl wb wG 400 b_wl b_wb (by first | with_reducible assumption | omega | (rw [iI_t (by omega) (by omega)]; omega) | decide | assumption) H.size) (cwV 0 hts gwsMX6_changeCell_0 rfl rfl rfl hd_yX8_isSmall_RX8 (by decide +kernel)) (fz_pre (va_recv hK hP (ci := 8) (q0 := 5 + (400)) rfl (apR rfl (WW_o (by omega)))) hPc hKc hDc) rfl rfl hl.1 rfl (lv_room (Nat.le_of_ble_eq_true rfl)) dX6_changeCell_47 (by decide +kernel)) hS (fun q _ h => hFc q h) hFc (fun r21 u t9_ H locs ht hvm hw9 hB9 hz1 hk1 hS => ?_)
        have b_r21 := hw9
        try dsimp only at b_r21
        have p8 : List.Perm (WQ hQ aQ kQ hw fQ_inside fQ_outside fQ_shut iQ_rows iQ_allRows iQ_columns ++ (WW nW hw lw kw wl wb wG)) ((WW nW hw lw kw wl wb wG) ++ (WQ hQ aQ kQ hw fQ_inside fQ_outside fQ_shut iQ_rows iQ_allRows iQ_columns)) := (List.perm_append_comm)
        obtain ⟨hP, hD⟩ := frameG p9 p8 hP hD hk1 hFc (fz_P ht hB9.1) hB9.2
        have hP : va_P (dC, dI) vwCl (WQ hQ aQ kQ hw fQ_inside fQ_outside fQ_shut iQ_rows iQ_allRows iQ_columns ++ (WW nW hw lw kw wl wb wG)) H := hP
        have hD : va_D A (WQ hQ aQ kQ hw fQ_inside fQ_outside fQ_shut iQ_rows iQ_allRows iQ_columns ++ (WW nW hw lw kw wl wb wG)) := hD
        refine lv_if_eq (tgt := 123) hx hb dX6_changeCell_50 (by decide) (fun c_50 => ?_) (fun c_50 => ?_)
        · have t_50 : r21.toInt = 0 := toI_eq c_50 rfl (by decide : (0 : Int32).toInt = 0)
          refine lv_aload_n hx hb dX6_changeCell_123 rfl (lv_at hl 1 rfl) ?_
          refine va_get (D := (dC, dI)) (ci := 6) (v := .ref (hw 402)) (C := RX6) (T := TX6) (N := 13) hx hb hts iwsMX6_changeCell_in6 hown hK hP 0 rfl rfl 9 (by decide) (hts (.fieldLink RX6 36 "OptimaWorks$Tableau" "first" "LOptimaWorks$Whole;") (by decide +kernel)) (fun _ h9 => h9) rfl dX6_changeCell_124 ?_
          refine lv_aload_n hx hb dX6_changeCell_127 rfl (lv_at hl 2 rfl) ?_
          refine lv_aload_n hx hb dX6_changeCell_128 rfl (lv_at hl 1 rfl) ?_
          refine va_get (D := (dC, dI)) (ci := 6) (v := .ref (hw 401)) (C := RX6) (T := TX6) (N := 13) hx hb hts iwsMX6_changeCell_in6 hown hK hP 0 rfl rfl 8 (by decide) (hts (.fieldLink RX6 33 "OptimaWorks$Tableau" "turning" "LOptimaWorks$Whole;") (by decide +kernel)) (fun _ h9 => h9) rfl dX6_changeCell_129 ?_
          have p9 : List.Perm (WQ hQ aQ kQ hw fQ_inside fQ_outside fQ_shut iQ_rows iQ_allRows iQ_columns ++ (WW nW hw lw kw wl wb wG)) ((WW nW hw lw kw wl wb wG) ++ (WQ hQ aQ kQ hw fQ_inside fQ_outside fQ_shut iQ_rows iQ_allRows iQ_columns)) := (List.perm_append_comm)
          have hPc := hP.mem (fun q h => p9.mem_iff.mpr (List.mem_append_left _ h))
          have hDc := (hD.perm p9).left
          have hKc : va_K (dC, dI) vwCl (tW kw) _ := hK.sub [4] rfl
          have hFc := freeG p9 hD hS hA
          refine va_callv (va_runV (As := [.ref (hw k1), .ref (hw 401)]) (rest := []) ⟨hx, hb, hml, hown, hts⟩ (m_X8_setProduct l dC dI nW hw lw kw wl wb wG 402 k1 401 b_wl b_wb (by first | with_reducible assumption | omega | (rw [iI_t (by omega) (by omega)]; omega) | decide | assumption) (by first | with_reducible assumption | omega | (rw [iI_t (by omega) (by omega)]; omega) | decide | assumption) (by first | with_reducible assumption | omega | (rw [iI_t (by omega) (by omega)]; omega) | decide | assumption) H.size) (cwV 2 hts gwsMX6_changeCell_1 rfl rfl rfl hd_yX8_setProduct_RX8 (by decide +kernel)) (fz_pre (va_recv hK hP (ci := 8) (q0 := 5 + (402)) rfl (apR rfl (WW_o (by omega)))) hPc hKc hDc) rfl rfl hl.1 rfl (lv_room (Nat.le_of_ble_eq_true rfl)) dX6_changeCell_132 (by decide +kernel)) hS (fun q _ h => hFc q h) hFc (fun u t9_ H locs ht hvm hw9 hB9 hz1 hk1 hS => ?_)
          revert u hw9 hB9
          refine fz_p3 ?_
          intro wl_22 wb_22 wG_22 hw9 hB9
          try dsimp only at hw9 hB9
          revert hw9
          refine fz_a2 ?_
          intro b_wl_22 b_wb_22
          have p8 : List.Perm (WQ hQ aQ kQ hw fQ_inside fQ_outside fQ_shut iQ_rows iQ_allRows iQ_columns ++ (WW nW hw lw kw wl_22 wb_22 wG_22)) ((WW nW hw lw kw wl_22 wb_22 wG_22) ++ (WQ hQ aQ kQ hw fQ_inside fQ_outside fQ_shut iQ_rows iQ_allRows iQ_columns)) := (List.perm_append_comm)
          obtain ⟨hP, hD⟩ := frameG p9 p8 hP hD hk1 hFc (fz_P ht hB9.1) hB9.2
          have hP : va_P (dC, dI) vwCl (WQ hQ aQ kQ hw fQ_inside fQ_outside fQ_shut iQ_rows iQ_allRows iQ_columns ++ (WW nW hw lw kw wl_22 wb_22 wG_22)) H := hP
          have hD : va_D A (WQ hQ aQ kQ hw fQ_inside fQ_outside fQ_shut iQ_rows iQ_allRows iQ_columns ++ (WW nW hw lw kw wl_22 wb_22 wG_22)) := hD
          refine lv_aload_n hx hb dX6_changeCell_135 rfl (lv_at hl 1 rfl) ?_
          refine va_get (D := (dC, dI)) (ci := 6) (v := .ref (hw 403)) (C := RX6) (T := TX6) (N := 13) hx hb hts iwsMX6_changeCell_in6 hown hK hP 0 rfl rfl 10 (by decide) (hts (.fieldLink RX6 39 "OptimaWorks$Tableau" "second" "LOptimaWorks$Whole;") (by decide +kernel)) (fun _ h9 => h9) rfl dX6_changeCell_136 ?_
          refine lv_aload_n hx hb dX6_changeCell_139 rfl (lv_at hl 3 rfl) ?_
          refine lv_aload_n hx hb dX6_changeCell_140 rfl (lv_at hl 4 rfl) ?_
          have p9 : List.Perm (WQ hQ aQ kQ hw fQ_inside fQ_outside fQ_shut iQ_rows iQ_allRows iQ_columns ++ (WW nW hw lw kw wl_22 wb_22 wG_22)) ((WW nW hw lw kw wl_22 wb_22 wG_22) ++ (WQ hQ aQ kQ hw fQ_inside fQ_outside fQ_shut iQ_rows iQ_allRows iQ_columns)) := (List.perm_append_comm)
          have hPc := hP.mem (fun q h => p9.mem_iff.mpr (List.mem_append_left _ h))
          have hDc := (hD.perm p9).left
          have hKc : va_K (dC, dI) vwCl (tW kw) _ := hK.sub [4] rfl
          have hFc := freeG p9 hD hS hA
          refine va_callv (va_runV (As := [.ref (hw k2), .ref (hw k3)]) (rest := []) ⟨hx, hb, hml, hown, hts⟩ (m_X8_setProduct l dC dI nW hw lw kw wl_22 wb_22 wG_22 403 k2 k3 b_wl_22 b_wb_22 (by first | with_reducible assumption | omega | (rw [iI_t (by omega) (by omega)]; omega) | decide | assumption) (by first | with_reducible assumption | omega | (rw [iI_t (by omega) (by omega)]; omega) | decide | assumption) (by first | with_reducible assumption | omega | (rw [iI_t (by omega) (by omega)]; omega) | decide | assumption) H.size) (cwV 2 hts gwsMX6_changeCell_1 rfl rfl rfl hd_yX8_setProduct_RX8 (by decide +kernel)) (fz_pre (va_recv hK hP (ci := 8) (q0 := 5 + (403)) rfl (apR rfl (WW_o (by omega)))) hPc hKc hDc) rfl rfl hl.1 rfl (lv_room (Nat.le_of_ble_eq_true rfl)) dX6_changeCell_141 (by decide +kernel)) hS (fun q _ h => hFc q h) hFc (fun u t9_ H locs ht hvm hw9 hB9 hz1 hk1 hS => ?_)
          revert u hw9 hB9
          refine fz_p3 ?_
          intro wl_23 wb_23 wG_23 hw9 hB9
          try dsimp only at hw9 hB9
          revert hw9
          refine fz_a2 ?_
          intro b_wl_23 b_wb_23
          have p8 : List.Perm (WQ hQ aQ kQ hw fQ_inside fQ_outside fQ_shut iQ_rows iQ_allRows iQ_columns ++ (WW nW hw lw kw wl_23 wb_23 wG_23)) ((WW nW hw lw kw wl_23 wb_23 wG_23) ++ (WQ hQ aQ kQ hw fQ_inside fQ_outside fQ_shut iQ_rows iQ_allRows iQ_columns)) := (List.perm_append_comm)
          obtain ⟨hP, hD⟩ := frameG p9 p8 hP hD hk1 hFc (fz_P ht hB9.1) hB9.2
          have hP : va_P (dC, dI) vwCl (WQ hQ aQ kQ hw fQ_inside fQ_outside fQ_shut iQ_rows iQ_allRows iQ_columns ++ (WW nW hw lw kw wl_23 wb_23 wG_23)) H := hP
          have hD : va_D A (WQ hQ aQ kQ hw fQ_inside fQ_outside fQ_shut iQ_rows iQ_allRows iQ_columns ++ (WW nW hw lw kw wl_23 wb_23 wG_23)) := hD
          refine lv_iload hx hb dX6_changeCell_144 (lv_at hl 5 rfl) ?_
          refine W.cut (pc := 156) (fun H locs ls stk => ∃ (wb_j10 : Nat → Int32), (∀ q : Nat, 0 ≤ (wb_j10 q).toInt ∧ (wb_j10 q).toInt ≤ 1) ∧  stk = [] ∧ va_P (dC, dI) vwCl (WQ hQ aQ kQ hw fQ_inside fQ_outside fQ_shut iQ_rows iQ_allRows iQ_columns ++ (WW nW hw lw kw wl_23 wb_j10 wG_23)) H ∧ va_D A (WQ hQ aQ kQ hw fQ_inside fQ_outside fQ_shut iQ_rows iQ_allRows iQ_columns ++ (WW nW hw lw kw wl_23 wb_j10 wG_23)) ∧ va_S A s.heap H locs ∧ lv_has ls 12 [(5, .int k0_j7), (0, .ref (hQ 0)), (1, .ref (hw k1)), (2, .ref (hw k2)), (3, .ref (hw k3)), (4, .int p4)]) (fun join10 => ?_) ?_
          · refine lv_if_ne (tgt := 156) hx hb dX6_changeCell_146 (by decide) (fun c_146 => ?_) (fun c_146 => ?_)
            · have t_146 : p4.toInt ≠ 0 := toI_ne c_146 rfl (by decide : (0 : Int32).toInt = 0)
              have hl : lv_has _ _ ([(5, .int k0_j7), (0, .ref (hQ 0)), (1, .ref (hw k1)), (2, .ref (hw k2)), (3, .ref (hw k3)), (4, .int p4)]) := lv_sub hl [0, 1, 2, 3, 4, 5] rfl
              exact join10 _ _ _ _ ⟨wb_23, b_wb_23, rfl, hP, hD, hS, hl⟩
            · have t_146 : p4.toInt = 0 := toI_nne c_146 rfl (by decide : (0 : Int32).toInt = 0)
              refine lv_aload_n hx hb dX6_changeCell_149 rfl (lv_at hl 1 rfl) ?_
              refine va_get (D := (dC, dI)) (ci := 6) (v := .ref (hw 403)) (C := RX6) (T := TX6) (N := 13) hx hb hts iwsMX6_changeCell_in6 hown hK hP 0 rfl rfl 10 (by decide) (hts (.fieldLink RX6 39 "OptimaWorks$Tableau" "second" "LOptimaWorks$Whole;") (by decide +kernel)) (fun _ h9 => h9) rfl dX6_changeCell_150 ?_
              have p9 : List.Perm (WQ hQ aQ kQ hw fQ_inside fQ_outside fQ_shut iQ_rows iQ_allRows iQ_columns ++ (WW nW hw lw kw wl_23 wb_23 wG_23)) ((WW nW hw lw kw wl_23 wb_23 wG_23) ++ (WQ hQ aQ kQ hw fQ_inside fQ_outside fQ_shut iQ_rows iQ_allRows iQ_columns)) := (List.perm_append_comm)
              have hPc := hP.mem (fun q h => p9.mem_iff.mpr (List.mem_append_left _ h))
              have hDc := (hD.perm p9).left
              have hKc : va_K (dC, dI) vwCl (tW kw) _ := hK.sub [4] rfl
              have hFc := freeG p9 hD hS hA
              refine va_callv (va_runV (As := []) (rest := []) ⟨hx, hb, hml, hown, hts⟩ (m_X8_negate l dC dI nW hw lw kw wl_23 wb_23 wG_23 403 b_wl_23 b_wb_23 (by first | with_reducible assumption | omega | (rw [iI_t (by omega) (by omega)]; omega) | decide | assumption) H.size) (cwV 0 hts gwsMX6_changeCell_2 rfl rfl rfl hd_yX8_negate_RX8 (by decide +kernel)) (fz_pre (va_recv hK hP (ci := 8) (q0 := 5 + (403)) rfl (apR rfl (WW_o (by omega)))) hPc hKc hDc) rfl rfl hl.1 rfl (lv_room (Nat.le_of_ble_eq_true rfl)) dX6_changeCell_153 (by decide +kernel)) hS (fun q _ h => hFc q h) hFc (fun wb_25 t9_ H locs ht hvm hw9 hB9 hz1 hk1 hS => ?_)
              have b_wb_25 := hw9
              try dsimp only at b_wb_25
              have p8 : List.Perm (WQ hQ aQ kQ hw fQ_inside fQ_outside fQ_shut iQ_rows iQ_allRows iQ_columns ++ (WW nW hw lw kw wl_23 wb_25 wG_23)) ((WW nW hw lw kw wl_23 wb_25 wG_23) ++ (WQ hQ aQ kQ hw fQ_inside fQ_outside fQ_shut iQ_rows iQ_allRows iQ_columns)) := (List.perm_append_comm)
              obtain ⟨hP, hD⟩ := frameG p9 p8 hP hD hk1 hFc (fz_P ht hB9.1) hB9.2
              have hP : va_P (dC, dI) vwCl (WQ hQ aQ kQ hw fQ_inside fQ_outside fQ_shut iQ_rows iQ_allRows iQ_columns ++ (WW nW hw lw kw wl_23 wb_25 wG_23)) H := hP
              have hD : va_D A (WQ hQ aQ kQ hw fQ_inside fQ_outside fQ_shut iQ_rows iQ_allRows iQ_columns ++ (WW nW hw lw kw wl_23 wb_25 wG_23)) := hD
              have hl : lv_has _ _ ([(5, .int k0_j7), (0, .ref (hQ 0)), (1, .ref (hw k1)), (2, .ref (hw k2)), (3, .ref (hw k3)), (4, .int p4)]) := lv_sub hl [0, 1, 2, 3, 4, 5] rfl
              exact join10 _ _ _ _ ⟨wb_25, b_wb_25, rfl, hP, hD, hS, hl⟩
          · rintro H locs ls stk ⟨wb_j10, b_wb_j10, rfl, hP, hD, hS, hl⟩
            refine lv_aload_n hx hb dX6_changeCell_156 rfl (lv_at hl 1 rfl) ?_
            refine va_get (D := (dC, dI)) (ci := 6) (v := .ref (hw 402)) (C := RX6) (T := TX6) (N := 13) hx hb hts iwsMX6_changeCell_in6 hown hK hP 0 rfl rfl 9 (by decide) (hts (.fieldLink RX6 36 "OptimaWorks$Tableau" "first" "LOptimaWorks$Whole;") (by decide +kernel)) (fun _ h9 => h9) rfl dX6_changeCell_157 ?_
            refine lv_aload_n hx hb dX6_changeCell_160 rfl (lv_at hl 1 rfl) ?_
            refine va_get (D := (dC, dI)) (ci := 6) (v := .ref (hw 403)) (C := RX6) (T := TX6) (N := 13) hx hb hts iwsMX6_changeCell_in6 hown hK hP 0 rfl rfl 10 (by decide) (hts (.fieldLink RX6 39 "OptimaWorks$Tableau" "second" "LOptimaWorks$Whole;") (by decide +kernel)) (fun _ h9 => h9) rfl dX6_changeCell_161 ?_
            have p9 : List.Perm (WQ hQ aQ kQ hw fQ_inside fQ_outside fQ_shut iQ_rows iQ_allRows iQ_columns ++ (WW nW hw lw kw wl_23 wb_j10 wG_23)) ((WW nW hw lw kw wl_23 wb_j10 wG_23) ++ (WQ hQ aQ kQ hw fQ_inside fQ_outside fQ_shut iQ_rows iQ_allRows iQ_columns)) := (List.perm_append_comm)
            have hPc := hP.mem (fun q h => p9.mem_iff.mpr (List.mem_append_left _ h))
            have hDc := (hD.perm p9).left
            have hKc : va_K (dC, dI) vwCl (tW kw) _ := hK.sub [4] rfl
            have hFc := freeG p9 hD hS hA
            refine va_callv (va_runV (As := [.ref (hw 403)]) (rest := []) ⟨hx, hb, hml, hown, hts⟩ (m_X8_add l dC dI nW hw lw kw wl_23 wb_j10 wG_23 402 403 b_wl_23 b_wb_j10 (by first | with_reducible assumption | omega | (rw [iI_t (by omega) (by omega)]; omega) | decide | assumption) (by first | with_reducible assumption | omega | (rw [iI_t (by omega) (by omega)]; omega) | decide | assumption) H.size) (cwV 1 hts gwsMX6_changeCell_3 rfl rfl rfl hd_yX8_add_RX8 (by decide +kernel)) (fz_pre (va_recv hK hP (ci := 8) (q0 := 5 + (402)) rfl (apR rfl (WW_o (by omega)))) hPc hKc hDc) rfl rfl hl.1 rfl (lv_room (Nat.le_of_ble_eq_true rfl)) dX6_changeCell_164 (by decide +kernel)) hS (fun q _ h => hFc q h) hFc (fun u t9_ H locs ht hvm hw9 hB9 hz1 hk1 hS => ?_)
            revert u hw9 hB9
            refine fz_p3 ?_
            intro wl_26 wb_26 wG_26 hw9 hB9
            try dsimp only at hw9 hB9
            revert hw9
            refine fz_a2 ?_
            intro b_wl_26 b_wb_26
            have p8 : List.Perm (WQ hQ aQ kQ hw fQ_inside fQ_outside fQ_shut iQ_rows iQ_allRows iQ_columns ++ (WW nW hw lw kw wl_26 wb_26 wG_26)) ((WW nW hw lw kw wl_26 wb_26 wG_26) ++ (WQ hQ aQ kQ hw fQ_inside fQ_outside fQ_shut iQ_rows iQ_allRows iQ_columns)) := (List.perm_append_comm)
            obtain ⟨hP, hD⟩ := frameG p9 p8 hP hD hk1 hFc (fz_P ht hB9.1) hB9.2
            have hP : va_P (dC, dI) vwCl (WQ hQ aQ kQ hw fQ_inside fQ_outside fQ_shut iQ_rows iQ_allRows iQ_columns ++ (WW nW hw lw kw wl_26 wb_26 wG_26)) H := hP
            have hD : va_D A (WQ hQ aQ kQ hw fQ_inside fQ_outside fQ_shut iQ_rows iQ_allRows iQ_columns ++ (WW nW hw lw kw wl_26 wb_26 wG_26)) := hD
            refine lv_aload_n hx hb dX6_changeCell_167 rfl (lv_at hl 1 rfl) ?_
            refine va_get (D := (dC, dI)) (ci := 6) (v := .ref (hw 402)) (C := RX6) (T := TX6) (N := 13) hx hb hts iwsMX6_changeCell_in6 hown hK hP 0 rfl rfl 9 (by decide) (hts (.fieldLink RX6 36 "OptimaWorks$Tableau" "first" "LOptimaWorks$Whole;") (by decide +kernel)) (fun _ h9 => h9) rfl dX6_changeCell_168 ?_
            refine lv_aload_n hx hb dX6_changeCell_171 rfl (lv_at hl 1 rfl) ?_
            refine va_get (D := (dC, dI)) (ci := 6) (v := .ref (hw 400)) (C := RX6) (T := TX6) (N := 13) hx hb hts iwsMX6_changeCell_in6 hown hK hP 0 rfl rfl 4 (by decide) (hts (.fieldLink RX6 29 "OptimaWorks$Tableau" "under" "LOptimaWorks$Whole;") (by decide +kernel)) (fun _ h9 => h9) rfl dX6_changeCell_172 ?_
            refine lv_aload_n hx hb dX6_changeCell_175 rfl (lv_at hl 1 rfl) ?_
            refine va_get (D := (dC, dI)) (ci := 6) (v := .ref (hw 404)) (C := RX6) (T := TX6) (N := 13) hx hb hts iwsMX6_changeCell_in6 hown hK hP 0 rfl rfl 11 (by decide) (hts (.fieldLink RX6 42 "OptimaWorks$Tableau" "rest" "LOptimaWorks$Whole;") (by decide +kernel)) (fun _ h9 => h9) rfl dX6_changeCell_176 ?_
            refine lv_aload_n hx hb dX6_changeCell_179 rfl (lv_at hl 1 rfl) ?_
            refine va_get (D := (dC, dI)) (ci := 6) (v := .ref (hw 405)) (C := RX6) (T := TX6) (N := 13) hx hb hts iwsMX6_changeCell_in6 hown hK hP 0 rfl rfl 12 (by decide) (hts (.fieldLink RX6 45 "OptimaWorks$Tableau" "spare" "LOptimaWorks$Whole;") (by decide +kernel)) (fun _ h9 => h9) rfl dX6_changeCell_180 ?_
            have p9 : List.Perm (WQ hQ aQ kQ hw fQ_inside fQ_outside fQ_shut iQ_rows iQ_allRows iQ_columns ++ (WW nW hw lw kw wl_26 wb_26 wG_26)) ((WW nW hw lw kw wl_26 wb_26 wG_26) ++ (WQ hQ aQ kQ hw fQ_inside fQ_outside fQ_shut iQ_rows iQ_allRows iQ_columns)) := (List.perm_append_comm)
            have hPc := hP.mem (fun q h => p9.mem_iff.mpr (List.mem_append_left _ h))
            have hDc := (hD.perm p9).left
            have hKc : va_K (dC, dI) vwCl (tW kw) _ := hK.sub [4] rfl
            have hFc := freeG p9 hD hS hA
            refine va_callv (va_runV (As := [.ref (hw 400), .ref (hw 404), .ref (hw 405)]) (rest := []) ⟨hx, hb, hml, hown, hts⟩ (m_X8_divide l dC dI nW hw lw kw wl_26 wb_26 wG_26 402 400 404 405 b_wl_26 b_wb_26 (by first | with_reducible assumption | omega | (rw [iI_t (by omega) (by omega)]; omega) | decide | assumption) (by first | with_reducible assumption | omega | (rw [iI_t (by omega) (by omega)]; omega) | decide | assumption) (by first | with_reducible assumption | omega | (rw [iI_t (by omega) (by omega)]; omega) | decide | assumption) (by first | with_reducible assumption | omega | (rw [iI_t (by omega) (by omega)]; omega) | decide | assumption) (by first | with_reducible assumption | omega | (rw [iI_t (by omega) (by omega)]; omega) | decide | assumption) H.size) (cwV 3 hts gwsMX6_changeCell_4 rfl rfl rfl hd_yX8_divide_RX8 (by decide +kernel)) (fz_pre (va_recv hK hP (ci := 8) (q0 := 5 + (402)) rfl (apR rfl (WW_o (by omega)))) hPc hKc hDc) rfl rfl hl.1 rfl (lv_room (Nat.le_of_ble_eq_true rfl)) dX6_changeCell_183 (by decide +kernel)) hS (fun q _ h => hFc q h) hFc (fun u t9_ H locs ht hvm hw9 hB9 hz1 hk1 hS => ?_)
            revert u hw9 hB9
            refine fz_p3 ?_
            intro wl_27 wb_27 wG_27 hw9 hB9
            try dsimp only at hw9 hB9
            revert hw9
            refine fz_a2 ?_
            intro b_wl_27 b_wb_27
            have p8 : List.Perm (WQ hQ aQ kQ hw fQ_inside fQ_outside fQ_shut iQ_rows iQ_allRows iQ_columns ++ (WW nW hw lw kw wl_27 wb_27 wG_27)) ((WW nW hw lw kw wl_27 wb_27 wG_27) ++ (WQ hQ aQ kQ hw fQ_inside fQ_outside fQ_shut iQ_rows iQ_allRows iQ_columns)) := (List.perm_append_comm)
            obtain ⟨hP, hD⟩ := frameG p9 p8 hP hD hk1 hFc (fz_P ht hB9.1) hB9.2
            have hP : va_P (dC, dI) vwCl (WQ hQ aQ kQ hw fQ_inside fQ_outside fQ_shut iQ_rows iQ_allRows iQ_columns ++ (WW nW hw lw kw wl_27 wb_27 wG_27)) H := hP
            have hD : va_D A (WQ hQ aQ kQ hw fQ_inside fQ_outside fQ_shut iQ_rows iQ_allRows iQ_columns ++ (WW nW hw lw kw wl_27 wb_27 wG_27)) := hD
            refine lv_aload_n hx hb dX6_changeCell_186 rfl (lv_at hl 2 rfl) ?_
            refine lv_aload_n hx hb dX6_changeCell_187 rfl (lv_at hl 1 rfl) ?_
            refine va_get (D := (dC, dI)) (ci := 6) (v := .ref (hw 402)) (C := RX6) (T := TX6) (N := 13) hx hb hts iwsMX6_changeCell_in6 hown hK hP 0 rfl rfl 9 (by decide) (hts (.fieldLink RX6 36 "OptimaWorks$Tableau" "first" "LOptimaWorks$Whole;") (by decide +kernel)) (fun _ h9 => h9) rfl dX6_changeCell_188 ?_
            have p9 : List.Perm (WQ hQ aQ kQ hw fQ_inside fQ_outside fQ_shut iQ_rows iQ_allRows iQ_columns ++ (WW nW hw lw kw wl_27 wb_27 wG_27)) ((WW nW hw lw kw wl_27 wb_27 wG_27) ++ (WQ hQ aQ kQ hw fQ_inside fQ_outside fQ_shut iQ_rows iQ_allRows iQ_columns)) := (List.perm_append_comm)
            have hPc := hP.mem (fun q h => p9.mem_iff.mpr (List.mem_append_left _ h))
            have hDc := (hD.perm p9).left
            have hKc : va_K (dC, dI) vwCl (tW kw) _ := hK.sub [4] rfl
            have hFc := freeG p9 hD hS hA
            refine va_callv (va_runV (As := [.ref (hw 402)]) (rest := []) ⟨hx, hb, hml, hown, hts⟩ (m_X8_copy l dC dI nW hw lw kw wl_27 wb_27 wG_27 k1 402 b_wl_27 b_wb_27 (by first | with_reducible assumption | omega | (rw [iI_t (by omega) (by omega)]; omega) | decide | assumption) (by first | with_reducible assumption | omega | (rw [iI_t (by omega) (by omega)]; omega) | decide | assumption) H.size) (cwV 1 hts gwsMX6_changeCell_5 rfl rfl rfl hd_yX8_copy_RX8 (by decide +kernel)) (fz_pre (va_recv hK hP (ci := 8) (q0 := 5 + (k1)) rfl (apR rfl (WW_o (by omega)))) hPc hKc hDc) rfl rfl hl.1 rfl (lv_room (Nat.le_of_ble_eq_true rfl)) dX6_changeCell_191 (by decide +kernel)) hS (fun q _ h => hFc q h) hFc (fun u t9_ H locs ht hvm hw9 hB9 hz1 hk1 hS => ?_)
            revert u hw9 hB9
            refine fz_p3 ?_
            intro wl_28 wb_28 wG_28 hw9 hB9
            try dsimp only at hw9 hB9
            revert hw9
            refine fz_a2 ?_
            intro b_wl_28 b_wb_28
            have p8 : List.Perm (WQ hQ aQ kQ hw fQ_inside fQ_outside fQ_shut iQ_rows iQ_allRows iQ_columns ++ (WW nW hw lw kw wl_28 wb_28 wG_28)) ((WW nW hw lw kw wl_28 wb_28 wG_28) ++ (WQ hQ aQ kQ hw fQ_inside fQ_outside fQ_shut iQ_rows iQ_allRows iQ_columns)) := (List.perm_append_comm)
            obtain ⟨hP, hD⟩ := frameG p9 p8 hP hD hk1 hFc (fz_P ht hB9.1) hB9.2
            have hP : va_P (dC, dI) vwCl (WQ hQ aQ kQ hw fQ_inside fQ_outside fQ_shut iQ_rows iQ_allRows iQ_columns ++ (WW nW hw lw kw wl_28 wb_28 wG_28)) H := hP
            have hD : va_D A (WQ hQ aQ kQ hw fQ_inside fQ_outside fQ_shut iQ_rows iQ_allRows iQ_columns ++ (WW nW hw lw kw wl_28 wb_28 wG_28)) := hD
            refine W.widen (k := 0) (n := 0) (by decide +kernel) (by decide +kernel) ?_
            exact W.vret hx hb hr (fun t9_ ht hW => ⟨⟨(wl_28, wb_28, wG_28), rfl, ⟨b_wl_28, b_wb_28⟩, by rw [ht]; exact hP, hD⟩, hS.F ht⟩) hS.2.2 dX6_changeCell_194
        · have t_50 : ¬ r21.toInt = 0 := toI_neq c_50 rfl (by decide : (0 : Int32).toInt = 0)
          refine lv_aload_n hx hb dX6_changeCell_53 rfl (lv_at hl 3 rfl) ?_
          have p9 : List.Perm (WQ hQ aQ kQ hw fQ_inside fQ_outside fQ_shut iQ_rows iQ_allRows iQ_columns ++ (WW nW hw lw kw wl wb wG)) ((WW nW hw lw kw wl wb wG) ++ (WQ hQ aQ kQ hw fQ_inside fQ_outside fQ_shut iQ_rows iQ_allRows iQ_columns)) := (List.perm_append_comm)
          have hPc := hP.mem (fun q h => p9.mem_iff.mpr (List.mem_append_left _ h))
          have hDc := (hD.perm p9).left
          have hKc : va_K (dC, dI) vwCl (tW kw) _ := hK.sub [4] rfl
          have hFc := freeG p9 hD hS hA
          refine va_calll (va_runV (As := []) (rest := []) ⟨hx, hb, hml, hown, hts⟩ (m_X8_small l dC dI nW hw lw kw wl wb wG k2 b_wl b_wb (by first | with_reducible assumption | omega | (rw [iI_t (by omega) (by omega)]; omega) | decide | assumption) H.size) (cwV 0 hts gwsMX6_changeCell_6 rfl rfl rfl hd_yX8_small_RX8 (by decide +kernel)) (fz_pre (va_recv hK hP (ci := 8) (q0 := 5 + (k2)) rfl (apR rfl (WW_o (by omega)))) hPc hKc hDc) rfl rfl hl.1 rfl (lv_room (Nat.le_of_ble_eq_true rfl)) dX6_changeCell_54 (by decide +kernel)) hS (fun q _ h => hFc q h) hFc (fun r29 u t9_ H locs ht hvm hw9 hB9 hz1 hk1 hS => ?_)
          clear hw9
          have p8 : List.Perm (WQ hQ aQ kQ hw fQ_inside fQ_outside fQ_shut iQ_rows iQ_allRows iQ_columns ++ (WW nW hw lw kw wl wb wG)) ((WW nW hw lw kw wl wb wG) ++ (WQ hQ aQ kQ hw fQ_inside fQ_outside fQ_shut iQ_rows iQ_allRows iQ_columns)) := (List.perm_append_comm)
          obtain ⟨hP, hD⟩ := frameG p9 p8 hP hD hk1 hFc (fz_P ht hB9.1) hB9.2
          have hP : va_P (dC, dI) vwCl (WQ hQ aQ kQ hw fQ_inside fQ_outside fQ_shut iQ_rows iQ_allRows iQ_columns ++ (WW nW hw lw kw wl wb wG)) H := hP
          have hD : va_D A (WQ hQ aQ kQ hw fQ_inside fQ_outside fQ_shut iQ_rows iQ_allRows iQ_columns ++ (WW nW hw lw kw wl wb wG)) := hD
          refine lv_aload_n hx hb dX6_changeCell_57 rfl (lv_at hl 4 rfl) ?_
          have p9 : List.Perm (WQ hQ aQ kQ hw fQ_inside fQ_outside fQ_shut iQ_rows iQ_allRows iQ_columns ++ (WW nW hw lw kw wl wb wG)) ((WW nW hw lw kw wl wb wG) ++ (WQ hQ aQ kQ hw fQ_inside fQ_outside fQ_shut iQ_rows iQ_allRows iQ_columns)) := (List.perm_append_comm)
          have hPc := hP.mem (fun q h => p9.mem_iff.mpr (List.mem_append_left _ h))
          have hDc := (hD.perm p9).left
          have hKc : va_K (dC, dI) vwCl (tW kw) _ := hK.sub [4] rfl
          have hFc := freeG p9 hD hS hA
          refine va_calll (va_runV (As := []) (rest := [.long r29]) ⟨hx, hb, hml, hown, hts⟩ (m_X8_small l dC dI nW hw lw kw wl wb wG k3 b_wl b_wb (by first | with_reducible assumption | omega | (rw [iI_t (by omega) (by omega)]; omega) | decide | assumption) H.size) (cwV 0 hts gwsMX6_changeCell_6 rfl rfl rfl hd_yX8_small_RX8 (by decide +kernel)) (fz_pre (va_recv hK hP (ci := 8) (q0 := 5 + (k3)) rfl (apR rfl (WW_o (by omega)))) hPc hKc hDc) rfl rfl hl.1 rfl (lv_room (Nat.le_of_ble_eq_true rfl)) dX6_changeCell_58 (by decide +kernel)) hS (fun q _ h => hFc q h) hFc (fun r30 u t9_ H locs ht hvm hw9 hB9 hz1 hk1 hS => ?_)
          clear hw9
          have p8 : List.Perm (WQ hQ aQ kQ hw fQ_inside fQ_outside fQ_shut iQ_rows iQ_allRows iQ_columns ++ (WW nW hw lw kw wl wb wG)) ((WW nW hw lw kw wl wb wG) ++ (WQ hQ aQ kQ hw fQ_inside fQ_outside fQ_shut iQ_rows iQ_allRows iQ_columns)) := (List.perm_append_comm)
          obtain ⟨hP, hD⟩ := frameG p9 p8 hP hD hk1 hFc (fz_P ht hB9.1) hB9.2
          have hP : va_P (dC, dI) vwCl (WQ hQ aQ kQ hw fQ_inside fQ_outside fQ_shut iQ_rows iQ_allRows iQ_columns ++ (WW nW hw lw kw wl wb wG)) H := hP
          have hD : va_D A (WQ hQ aQ kQ hw fQ_inside fQ_outside fQ_shut iQ_rows iQ_allRows iQ_columns ++ (WW nW hw lw kw wl wb wG)) := hD
          refine lv_lmul hx hb dX6_changeCell_61 ?_
          refine lv_topl (fun v31 hv31 => ?_)
          clear hv31
          refine lv_lstore hx hb dX6_changeCell_62 hl (by decide) rfl (fun ls (hl : lv_has ls _ ([(6, .long v31), (5, .int k0_j7), (0, .ref (hQ 0)), (1, .ref (hw k1)), (2, .ref (hw k2)), (3, .ref (hw k3)), (4, .int p4)])) => ?_)
          refine lv_aload_n hx hb dX6_changeCell_64 rfl (lv_at hl 3 rfl) ?_
          have p9 : List.Perm (WQ hQ aQ kQ hw fQ_inside fQ_outside fQ_shut iQ_rows iQ_allRows iQ_columns ++ (WW nW hw lw kw wl wb wG)) ((WW nW hw lw kw wl wb wG) ++ (WQ hQ aQ kQ hw fQ_inside fQ_outside fQ_shut iQ_rows iQ_allRows iQ_columns)) := (List.perm_append_comm)
          have hPc := hP.mem (fun q h => p9.mem_iff.mpr (List.mem_append_left _ h))
          have hDc := (hD.perm p9).left
          have hKc : va_K (dC, dI) vwCl (tW kw) _ := hK.sub [4] rfl
          have hFc := freeG p9 hD hS hA
          refine va_calll (va_runV (As := []) (rest := []) ⟨hx, hb, hml, hown, hts⟩ (m_X8_small l dC dI nW hw lw kw wl wb wG k1 b_wl b_wb (by first | with_reducible assumption | omega | (rw [iI_t (by omega) (by omega)]; omega) | decide | assumption) H.size) (cwV 0 hts gwsMX6_changeCell_6 rfl rfl rfl hd_yX8_small_RX8 (by decide +kernel)) (fz_pre (va_recv hK hP (ci := 8) (q0 := 5 + (k1)) rfl (apR rfl (WW_o (by omega)))) hPc hKc hDc) rfl rfl hl.1 rfl (lv_room (Nat.le_of_ble_eq_true rfl)) dX6_changeCell_65 (by decide +kernel)) hS (fun q _ h => hFc q h) hFc (fun r32 u t9_ H locs ht hvm hw9 hB9 hz1 hk1 hS => ?_)
          clear hw9
          have p8 : List.Perm (WQ hQ aQ kQ hw fQ_inside fQ_outside fQ_shut iQ_rows iQ_allRows iQ_columns ++ (WW nW hw lw kw wl wb wG)) ((WW nW hw lw kw wl wb wG) ++ (WQ hQ aQ kQ hw fQ_inside fQ_outside fQ_shut iQ_rows iQ_allRows iQ_columns)) := (List.perm_append_comm)
          obtain ⟨hP, hD⟩ := frameG p9 p8 hP hD hk1 hFc (fz_P ht hB9.1) hB9.2
          have hP : va_P (dC, dI) vwCl (WQ hQ aQ kQ hw fQ_inside fQ_outside fQ_shut iQ_rows iQ_allRows iQ_columns ++ (WW nW hw lw kw wl wb wG)) H := hP
          have hD : va_D A (WQ hQ aQ kQ hw fQ_inside fQ_outside fQ_shut iQ_rows iQ_allRows iQ_columns ++ (WW nW hw lw kw wl wb wG)) := hD
          refine lv_aload_n hx hb dX6_changeCell_68 rfl (lv_at hl 2 rfl) ?_
          refine va_get (D := (dC, dI)) (ci := 6) (v := .ref (hw 401)) (C := RX6) (T := TX6) (N := 13) hx hb hts iwsMX6_changeCell_in6 hown hK hP 0 rfl rfl 8 (by decide) (hts (.fieldLink RX6 33 "OptimaWorks$Tableau" "turning" "LOptimaWorks$Whole;") (by decide +kernel)) (fun _ h9 => h9) rfl dX6_changeCell_69 ?_
          have p9 : List.Perm (WQ hQ aQ kQ hw fQ_inside fQ_outside fQ_shut iQ_rows iQ_allRows iQ_columns ++ (WW nW hw lw kw wl wb wG)) ((WW nW hw lw kw wl wb wG) ++ (WQ hQ aQ kQ hw fQ_inside fQ_outside fQ_shut iQ_rows iQ_allRows iQ_columns)) := (List.perm_append_comm)
          have hPc := hP.mem (fun q h => p9.mem_iff.mpr (List.mem_append_left _ h))
          have hDc := (hD.perm p9).left
          have hKc : va_K (dC, dI) vwCl (tW kw) _ := hK.sub [4] rfl
          have hFc := freeG p9 hD hS hA
          refine va_calll (va_runV (As := []) (rest := [.long r32]) ⟨hx, hb, hml, hown, hts⟩ (m_X8_small l dC dI nW hw lw kw wl wb wG 401 b_wl b_wb (by first | with_reducible assumption | omega | (rw [iI_t (by omega) (by omega)]; omega) | decide | assumption) H.size) (cwV 0 hts gwsMX6_changeCell_6 rfl rfl rfl hd_yX8_small_RX8 (by decide +kernel)) (fz_pre (va_recv hK hP (ci := 8) (q0 := 5 + (401)) rfl (apR rfl (WW_o (by omega)))) hPc hKc hDc) rfl rfl hl.1 rfl (lv_room (Nat.le_of_ble_eq_true rfl)) dX6_changeCell_72 (by decide +kernel)) hS (fun q _ h => hFc q h) hFc (fun r33 u t9_ H locs ht hvm hw9 hB9 hz1 hk1 hS => ?_)
          clear hw9
          have p8 : List.Perm (WQ hQ aQ kQ hw fQ_inside fQ_outside fQ_shut iQ_rows iQ_allRows iQ_columns ++ (WW nW hw lw kw wl wb wG)) ((WW nW hw lw kw wl wb wG) ++ (WQ hQ aQ kQ hw fQ_inside fQ_outside fQ_shut iQ_rows iQ_allRows iQ_columns)) := (List.perm_append_comm)
          obtain ⟨hP, hD⟩ := frameG p9 p8 hP hD hk1 hFc (fz_P ht hB9.1) hB9.2
          have hP : va_P (dC, dI) vwCl (WQ hQ aQ kQ hw fQ_inside fQ_outside fQ_shut iQ_rows iQ_allRows iQ_columns ++ (WW nW hw lw kw wl wb wG)) H := hP
          have hD : va_D A (WQ hQ aQ kQ hw fQ_inside fQ_outside fQ_shut iQ_rows iQ_allRows iQ_columns ++ (WW nW hw lw kw wl wb wG)) := hD
          refine lv_lmul hx hb dX6_changeCell_75 ?_
          refine lv_topl (fun v34 hv34 => ?_)
          clear hv34
          refine lv_iload hx hb dX6_changeCell_76 (lv_at hl 6 rfl) ?_
          refine W.cut (pc := 89) (fun H locs ls stk => ∃ (k0_j11 : Int64),  stk = [.long k0_j11, .long v34] ∧ va_P (dC, dI) vwCl (WQ hQ aQ kQ hw fQ_inside fQ_outside fQ_shut iQ_rows iQ_allRows iQ_columns ++ (WW nW hw lw kw wl wb wG)) H ∧ va_D A (WQ hQ aQ kQ hw fQ_inside fQ_outside fQ_shut iQ_rows iQ_allRows iQ_columns ++ (WW nW hw lw kw wl wb wG)) ∧ va_S A s.heap H locs ∧ lv_has ls 12 [(6, .long v31), (5, .int k0_j7), (0, .ref (hQ 0)), (1, .ref (hw k1)), (2, .ref (hw k2)), (3, .ref (hw k3)), (4, .int p4)]) (fun join11 => ?_) ?_
          · refine lv_if_eq (tgt := 86) hx hb dX6_changeCell_78 (by decide) (fun c_78 => ?_) (fun c_78 => ?_)
            · have t_78 : p4.toInt = 0 := toI_eq c_78 rfl (by decide : (0 : Int32).toInt = 0)
              refine lv_lload hx hb dX6_changeCell_86 (lv_at hl 0 rfl) ?_
              refine lv_lneg hx hb dX6_changeCell_88 ?_
              refine lv_topl (fun v36 hv36 => ?_)
              clear hv36
              have hl : lv_has _ _ ([(6, .long v31), (5, .int k0_j7), (0, .ref (hQ 0)), (1, .ref (hw k1)), (2, .ref (hw k2)), (3, .ref (hw k3)), (4, .int p4)]) := lv_sub hl [0, 1, 2, 3, 4, 5, 6] rfl
              exact join11 _ _ _ _ ⟨v36, rfl, hP, hD, hS, hl⟩
            · have t_78 : ¬ p4.toInt = 0 := toI_neq c_78 rfl (by decide : (0 : Int32).toInt = 0)
              refine lv_lload hx hb dX6_changeCell_81 (lv_at hl 0 rfl) ?_
              refine lv_goto (tgt := 89) hx hb dX6_changeCell_83 (by decide) ?_
              have hl : lv_has _ _ ([(6, .long v31), (5, .int k0_j7), (0, .ref (hQ 0)), (1, .ref (hw k1)), (2, .ref (hw k2)), (3, .ref (hw k3)), (4, .int p4)]) := lv_sub hl [0, 1, 2, 3, 4, 5, 6] rfl
              exact join11 _ _ _ _ ⟨v31, rfl, hP, hD, hS, hl⟩
          · rintro H locs ls stk ⟨k0_j11, rfl, hP, hD, hS, hl⟩
            refine lv_ladd hx hb dX6_changeCell_89 ?_
            refine lv_topl (fun v37 hv37 => ?_)
            clear hv37
            refine lv_lstore hx hb dX6_changeCell_90 hl (by decide) rfl (fun ls (hl : lv_has ls _ ([(8, .long v37), (6, .long v31), (5, .int k0_j7), (0, .ref (hQ 0)), (1, .ref (hw k1)), (2, .ref (hw k2)), (3, .ref (hw k3)), (4, .int p4)])) => ?_)
            refine lv_aload_n hx hb dX6_changeCell_92 rfl (lv_at hl 3 rfl) ?_
            refine va_get (D := (dC, dI)) (ci := 6) (v := .ref (hw 400)) (C := RX6) (T := TX6) (N := 13) hx hb hts iwsMX6_changeCell_in6 hown hK hP 0 rfl rfl 4 (by decide) (hts (.fieldLink RX6 29 "OptimaWorks$Tableau" "under" "LOptimaWorks$Whole;") (by decide +kernel)) (fun _ h9 => h9) rfl dX6_changeCell_93 ?_
            have p9 : List.Perm (WQ hQ aQ kQ hw fQ_inside fQ_outside fQ_shut iQ_rows iQ_allRows iQ_columns ++ (WW nW hw lw kw wl wb wG)) ((WW nW hw lw kw wl wb wG) ++ (WQ hQ aQ kQ hw fQ_inside fQ_outside fQ_shut iQ_rows iQ_allRows iQ_columns)) := (List.perm_append_comm)
            have hPc := hP.mem (fun q h => p9.mem_iff.mpr (List.mem_append_left _ h))
            have hDc := (hD.perm p9).left
            have hKc : va_K (dC, dI) vwCl (tW kw) _ := hK.sub [4] rfl
            have hFc := freeG p9 hD hS hA
            refine va_calll (va_runV (As := []) (rest := []) ⟨hx, hb, hml, hown, hts⟩ (m_X8_small l dC dI nW hw lw kw wl wb wG 400 b_wl b_wb (by first | with_reducible assumption | omega | (rw [iI_t (by omega) (by omega)]; omega) | decide | assumption) H.size) (cwV 0 hts gwsMX6_changeCell_6 rfl rfl rfl hd_yX8_small_RX8 (by decide +kernel)) (fz_pre (va_recv hK hP (ci := 8) (q0 := 5 + (400)) rfl (apR rfl (WW_o (by omega)))) hPc hKc hDc) rfl rfl hl.1 rfl (lv_room (Nat.le_of_ble_eq_true rfl)) dX6_changeCell_96 (by decide +kernel)) hS (fun q _ h => hFc q h) hFc (fun r38 u t9_ H locs ht hvm hw9 hB9 hz1 hk1 hS => ?_)
            clear hw9
            have p8 : List.Perm (WQ hQ aQ kQ hw fQ_inside fQ_outside fQ_shut iQ_rows iQ_allRows iQ_columns ++ (WW nW hw lw kw wl wb wG)) ((WW nW hw lw kw wl wb wG) ++ (WQ hQ aQ kQ hw fQ_inside fQ_outside fQ_shut iQ_rows iQ_allRows iQ_columns)) := (List.perm_append_comm)
            obtain ⟨hP, hD⟩ := frameG p9 p8 hP hD hk1 hFc (fz_P ht hB9.1) hB9.2
            have hP : va_P (dC, dI) vwCl (WQ hQ aQ kQ hw fQ_inside fQ_outside fQ_shut iQ_rows iQ_allRows iQ_columns ++ (WW nW hw lw kw wl wb wG)) H := hP
            have hD : va_D A (WQ hQ aQ kQ hw fQ_inside fQ_outside fQ_shut iQ_rows iQ_allRows iQ_columns ++ (WW nW hw lw kw wl wb wG)) := hD
            refine lv_lstore hx hb dX6_changeCell_99 hl (by decide) rfl (fun ls (hl : lv_has ls _ ([(10, .long r38), (8, .long v37), (6, .long v31), (5, .int k0_j7), (0, .ref (hQ 0)), (1, .ref (hw k1)), (2, .ref (hw k2)), (3, .ref (hw k3)), (4, .int p4)])) => ?_)
            refine lv_aload_n hx hb dX6_changeCell_101 rfl (lv_at hl 5 rfl) ?_
            refine lv_lload hx hb dX6_changeCell_102 (lv_at hl 0 rfl) ?_
            refine lv_lconst (v := 0) hx hb dX6_changeCell_104 (by decide) ?_
            refine W.lcmp hx hb dX6_changeCell_105 ?_
            refine W.cut (pc := 119) (fun H locs ls stk => ∃ (k0_j12 : Int64),  stk = [.long k0_j12, .ref (hw k1)] ∧ va_P (dC, dI) vwCl (WQ hQ aQ kQ hw fQ_inside fQ_outside fQ_shut iQ_rows iQ_allRows iQ_columns ++ (WW nW hw lw kw wl wb wG)) H ∧ va_D A (WQ hQ aQ kQ hw fQ_inside fQ_outside fQ_shut iQ_rows iQ_allRows iQ_columns ++ (WW nW hw lw kw wl wb wG)) ∧ va_S A s.heap H locs ∧ lv_has ls 12 [(10, .long r38), (8, .long v37), (6, .long v31), (5, .int k0_j7), (0, .ref (hQ 0)), (1, .ref (hw k1)), (2, .ref (hw k2)), (3, .ref (hw k3)), (4, .int p4)]) (fun join12 => ?_) ?_
            · refine lv_if_ne (tgt := 114) hx hb dX6_changeCell_106 (by decide) (fun c_106 => ?_) (fun c_106 => ?_)
              · have t_106 : r38.toInt ≠ 0 := toL_ne c_106 rfl (by decide : (0 : Int64).toInt = 0)
                refine lv_lload hx hb dX6_changeCell_114 (lv_at hl 1 rfl) ?_
                refine lv_lload hx hb dX6_changeCell_116 (lv_at hl 0 rfl) ?_
                refine lv_ldiv hx hb dX6_changeCell_118 (nz_l (x := r38) rfl (by omega)) ?_
                refine lv_topl (fun v40 hv40 => ?_)
                clear hv40
                have hl : lv_has _ _ ([(10, .long r38), (8, .long v37), (6, .long v31), (5, .int k0_j7), (0, .ref (hQ 0)), (1, .ref (hw k1)), (2, .ref (hw k2)), (3, .ref (hw k3)), (4, .int p4)]) := lv_sub hl [0, 1, 2, 3, 4, 5, 6, 7, 8] rfl
                exact join12 _ _ _ _ ⟨v40, rfl, hP, hD, hS, hl⟩
              · have t_106 : r38.toInt = 0 := toL_nne c_106 rfl (by decide : (0 : Int64).toInt = 0)
                refine lv_lload hx hb dX6_changeCell_109 (lv_at hl 1 rfl) ?_
                refine lv_goto (tgt := 119) hx hb dX6_changeCell_111 (by decide) ?_
                have hl : lv_has _ _ ([(10, .long r38), (8, .long v37), (6, .long v31), (5, .int k0_j7), (0, .ref (hQ 0)), (1, .ref (hw k1)), (2, .ref (hw k2)), (3, .ref (hw k3)), (4, .int p4)]) := lv_sub hl [0, 1, 2, 3, 4, 5, 6, 7, 8] rfl
                exact join12 _ _ _ _ ⟨v37, rfl, hP, hD, hS, hl⟩
            · rintro H locs ls stk ⟨k0_j12, rfl, hP, hD, hS, hl⟩
              have p9 : List.Perm (WQ hQ aQ kQ hw fQ_inside fQ_outside fQ_shut iQ_rows iQ_allRows iQ_columns ++ (WW nW hw lw kw wl wb wG)) ((WW nW hw lw kw wl wb wG) ++ (WQ hQ aQ kQ hw fQ_inside fQ_outside fQ_shut iQ_rows iQ_allRows iQ_columns)) := (List.perm_append_comm)
              have hPc := hP.mem (fun q h => p9.mem_iff.mpr (List.mem_append_left _ h))
              have hDc := (hD.perm p9).left
              have hKc : va_K (dC, dI) vwCl (tW kw) _ := hK.sub [4] rfl
              have hFc := freeG p9 hD hS hA
              refine va_callv (va_runV (As := [.long k0_j12]) (rest := []) ⟨hx, hb, hml, hown, hts⟩ (m_X8_setLong l dC dI nW hw lw kw wl wb wG k1 k0_j12 b_wl b_wb (by first | with_reducible assumption | omega | (rw [iI_t (by omega) (by omega)]; omega) | decide | assumption) H.size) (cwV 1 hts gwsMX6_changeCell_7 rfl rfl rfl hd_yX8_setLong_RX8 (by decide +kernel)) (fz_pre (va_recv hK hP (ci := 8) (q0 := 5 + (k1)) rfl (apR rfl (WW_o (by omega)))) hPc hKc hDc) rfl rfl hl.1 rfl (lv_room (Nat.le_of_ble_eq_true rfl)) dX6_changeCell_119 (by decide +kernel)) hS (fun q _ h => hFc q h) hFc (fun u t9_ H locs ht hvm hw9 hB9 hz1 hk1 hS => ?_)
              revert u hw9 hB9
              refine fz_p3 ?_
              intro wl_41 wb_41 wG_41 hw9 hB9
              try dsimp only at hw9 hB9
              revert hw9
              refine fz_a2 ?_
              intro b_wl_41 b_wb_41
              have p8 : List.Perm (WQ hQ aQ kQ hw fQ_inside fQ_outside fQ_shut iQ_rows iQ_allRows iQ_columns ++ (WW nW hw lw kw wl_41 wb_41 wG_41)) ((WW nW hw lw kw wl_41 wb_41 wG_41) ++ (WQ hQ aQ kQ hw fQ_inside fQ_outside fQ_shut iQ_rows iQ_allRows iQ_columns)) := (List.perm_append_comm)
              obtain ⟨hP, hD⟩ := frameG p9 p8 hP hD hk1 hFc (fz_P ht hB9.1) hB9.2
              have hP : va_P (dC, dI) vwCl (WQ hQ aQ kQ hw fQ_inside fQ_outside fQ_shut iQ_rows iQ_allRows iQ_columns ++ (WW nW hw lw kw wl_41 wb_41 wG_41)) H := hP
              have hD : va_D A (WQ hQ aQ kQ hw fQ_inside fQ_outside fQ_shut iQ_rows iQ_allRows iQ_columns ++ (WW nW hw lw kw wl_41 wb_41 wG_41)) := hD
              refine W.widen (k := 0) (n := 0) (by decide +kernel) (by decide +kernel) ?_
              exact W.vret hx hb hr (fun t9_ ht hW => ⟨⟨(wl_41, wb_41, wG_41), rfl, ⟨b_wl_41, b_wb_41⟩, by rw [ht]; exact hP, hD⟩, hS.F ht⟩) hS.2.2 dX6_changeCell_122
theorem dX6_exchange_0 : decode cX6_exchange 0 = .ok (.aload_n 0, 1) := dk_42 (by decide +kernel)
theorem dX6_exchange_1 : decode cX6_exchange 1 = .ok (.iload_n 1, 1) := dk_27 (by decide +kernel)
theorem dX6_exchange_2 : decode cX6_exchange 2 = .ok (.iload_n 2, 1) := dk_28 (by decide +kernel)
theorem dX6_exchange_3 : decode cX6_exchange 3 = .ok (.invokevirtual 72, 3) := dk_182 (by decide +kernel)
theorem dX6_exchange_6 : decode cX6_exchange 6 = .ok (.astore_n 3, 1) := dk_78 (by decide +kernel)
theorem dX6_exchange_7 : decode cX6_exchange 7 = .ok (.aload_n 3, 1) := dk_45 (by decide +kernel)
theorem dX6_exchange_8 : decode cX6_exchange 8 = .ok (.getfield 131, 3) := dk_180 (by decide +kernel)
theorem dX6_exchange_11 : decode cX6_exchange 11 = .ok (.istore 4, 2) := dk_54 (by decide +kernel)
theorem dX6_exchange_13 : decode cX6_exchange 13 = .ok (.aload_n 0, 1) := dk_42 (by decide +kernel)
theorem dX6_exchange_14 : decode cX6_exchange 14 = .ok (.getfield 33, 3) := dk_180 (by decide +kernel)
theorem dX6_exchange_17 : decode cX6_exchange 17 = .ok (.aload_n 3, 1) := dk_45 (by decide +kernel)
theorem dX6_exchange_18 : decode cX6_exchange 18 = .ok (.invokevirtual 135, 3) := dk_182 (by decide +kernel)
theorem dX6_exchange_21 : decode cX6_exchange 21 = .ok (.aload_n 0, 1) := dk_42 (by decide +kernel)
theorem dX6_exchange_22 : decode cX6_exchange 22 = .ok (.getfield 33, 3) := dk_180 (by decide +kernel)
theorem dX6_exchange_25 : decode cX6_exchange 25 = .ok (.iconst 0, 1) := dk_3 (by decide +kernel)
theorem dX6_exchange_26 : decode cX6_exchange 26 = .ok (.putfield 131, 3) := dk_181 (by decide +kernel)
theorem dX6_exchange_29 : decode cX6_exchange 29 = .ok (.aload_n 0, 1) := dk_42 (by decide +kernel)
theorem dX6_exchange_30 : decode cX6_exchange 30 = .ok (.getfield 33, 3) := dk_180 (by decide +kernel)
theorem dX6_exchange_33 : decode cX6_exchange 33 = .ok (.aload_n 0, 1) := dk_42 (by decide +kernel)
theorem dX6_exchange_34 : decode cX6_exchange 34 = .ok (.getfield 29, 3) := dk_180 (by decide +kernel)
theorem dX6_exchange_37 : decode cX6_exchange 37 = .ok (.invokevirtual 96, 3) := dk_182 (by decide +kernel)
theorem dX6_exchange_40 : decode cX6_exchange 40 = .ok (.ifCond .ne 7, 3) := dk_154 (by decide +kernel)
theorem dX6_exchange_43 : decode cX6_exchange 43 = .ok (.iconst 1, 1) := dk_4 (by decide +kernel)
theorem dX6_exchange_44 : decode cX6_exchange 44 = .ok (.goto 4, 3) := dk_167 (by decide +kernel)
theorem dX6_exchange_47 : decode cX6_exchange 47 = .ok (.iconst 0, 1) := dk_3 (by decide +kernel)
theorem dX6_exchange_48 : decode cX6_exchange 48 = .ok (.istore 5, 2) := dk_54 (by decide +kernel)
theorem dX6_exchange_50 : decode cX6_exchange 50 = .ok (.iconst 0, 1) := dk_3 (by decide +kernel)
theorem dX6_exchange_51 : decode cX6_exchange 51 = .ok (.istore 6, 2) := dk_54 (by decide +kernel)
theorem dX6_exchange_53 : decode cX6_exchange 53 = .ok (.iload 6, 2) := dk_21 (by decide +kernel)
theorem dX6_exchange_55 : decode cX6_exchange 55 = .ok (.aload_n 0, 1) := dk_42 (by decide +kernel)
theorem dX6_exchange_56 : decode cX6_exchange 56 = .ok (.getfield 58, 3) := dk_180 (by decide +kernel)
theorem dX6_exchange_59 : decode cX6_exchange 59 = .ok (.if_icmp .ge 163, 3) := dk_162 (by decide +kernel)
theorem dX6_exchange_62 : decode cX6_exchange 62 = .ok (.aload_n 0, 1) := dk_42 (by decide +kernel)
theorem dX6_exchange_63 : decode cX6_exchange 63 = .ok (.iload 6, 2) := dk_21 (by decide +kernel)
theorem dX6_exchange_65 : decode cX6_exchange 65 = .ok (.iload_n 2, 1) := dk_28 (by decide +kernel)
theorem dX6_exchange_66 : decode cX6_exchange 66 = .ok (.invokevirtual 72, 3) := dk_182 (by decide +kernel)
theorem dX6_exchange_69 : decode cX6_exchange 69 = .ok (.astore 7, 2) := dk_58 (by decide +kernel)
theorem dX6_exchange_71 : decode cX6_exchange 71 = .ok (.iconst 0, 1) := dk_3 (by decide +kernel)
theorem dX6_exchange_72 : decode cX6_exchange 72 = .ok (.istore 8, 2) := dk_54 (by decide +kernel)
theorem dX6_exchange_74 : decode cX6_exchange 74 = .ok (.iload 8, 2) := dk_21 (by decide +kernel)
theorem dX6_exchange_76 : decode cX6_exchange 76 = .ok (.aload_n 0, 1) := dk_42 (by decide +kernel)
theorem dX6_exchange_77 : decode cX6_exchange 77 = .ok (.getfield 54, 3) := dk_180 (by decide +kernel)
theorem dX6_exchange_80 : decode cX6_exchange 80 = .ok (.if_icmp .gt 120, 3) := dk_163 (by decide +kernel)
theorem dX6_exchange_83 : decode cX6_exchange 83 = .ok (.iload 6, 2) := dk_21 (by decide +kernel)
theorem dX6_exchange_85 : decode cX6_exchange 85 = .ok (.iload_n 1, 1) := dk_27 (by decide +kernel)
theorem dX6_exchange_86 : decode cX6_exchange 86 = .ok (.if_icmp .eq 114, 3) := dk_159 (by decide +kernel)
theorem dX6_exchange_89 : decode cX6_exchange 89 = .ok (.aload_n 0, 1) := dk_42 (by decide +kernel)
theorem dX6_exchange_90 : decode cX6_exchange 90 = .ok (.iload 6, 2) := dk_21 (by decide +kernel)
theorem dX6_exchange_92 : decode cX6_exchange 92 = .ok (.iload 8, 2) := dk_21 (by decide +kernel)
theorem dX6_exchange_94 : decode cX6_exchange 94 = .ok (.invokevirtual 72, 3) := dk_182 (by decide +kernel)
theorem dX6_exchange_97 : decode cX6_exchange 97 = .ok (.astore 9, 2) := dk_58 (by decide +kernel)
theorem dX6_exchange_99 : decode cX6_exchange 99 = .ok (.aload_n 0, 1) := dk_42 (by decide +kernel)
theorem dX6_exchange_100 : decode cX6_exchange 100 = .ok (.iload_n 1, 1) := dk_27 (by decide +kernel)
theorem dX6_exchange_101 : decode cX6_exchange 101 = .ok (.iload 8, 2) := dk_21 (by decide +kernel)
theorem dX6_exchange_103 : decode cX6_exchange 103 = .ok (.invokevirtual 72, 3) := dk_182 (by decide +kernel)
theorem dX6_exchange_106 : decode cX6_exchange 106 = .ok (.astore 10, 2) := dk_58 (by decide +kernel)
theorem dX6_exchange_108 : decode cX6_exchange 108 = .ok (.aload 7, 2) := dk_25 (by decide +kernel)
theorem dX6_exchange_110 : decode cX6_exchange 110 = .ok (.getfield 76, 3) := dk_180 (by decide +kernel)
theorem dX6_exchange_113 : decode cX6_exchange 113 = .ok (.ifCond .eq 11, 3) := dk_153 (by decide +kernel)
theorem dX6_exchange_116 : decode cX6_exchange 116 = .ok (.aload 10, 2) := dk_25 (by decide +kernel)
theorem dX6_exchange_118 : decode cX6_exchange 118 = .ok (.getfield 76, 3) := dk_180 (by decide +kernel)
theorem dX6_exchange_121 : decode cX6_exchange 121 = .ok (.ifCond .ne 7, 3) := dk_154 (by decide +kernel)
theorem dX6_exchange_124 : decode cX6_exchange 124 = .ok (.iconst 1, 1) := dk_4 (by decide +kernel)
theorem dX6_exchange_125 : decode cX6_exchange 125 = .ok (.goto 4, 3) := dk_167 (by decide +kernel)
theorem dX6_exchange_128 : decode cX6_exchange 128 = .ok (.iconst 0, 1) := dk_3 (by decide +kernel)
theorem dX6_exchange_129 : decode cX6_exchange 129 = .ok (.istore 11, 2) := dk_54 (by decide +kernel)
theorem dX6_exchange_131 : decode cX6_exchange 131 = .ok (.iload 11, 2) := dk_21 (by decide +kernel)
theorem dX6_exchange_133 : decode cX6_exchange 133 = .ok (.ifCond .eq 20, 3) := dk_153 (by decide +kernel)
theorem dX6_exchange_136 : decode cX6_exchange 136 = .ok (.iload 5, 2) := dk_21 (by decide +kernel)
theorem dX6_exchange_138 : decode cX6_exchange 138 = .ok (.ifCond .ne 11, 3) := dk_154 (by decide +kernel)
theorem dX6_exchange_141 : decode cX6_exchange 141 = .ok (.aload 9, 2) := dk_25 (by decide +kernel)
theorem dX6_exchange_143 : decode cX6_exchange 143 = .ok (.getfield 76, 3) := dk_180 (by decide +kernel)
theorem dX6_exchange_146 : decode cX6_exchange 146 = .ok (.ifCond .ne 7, 3) := dk_154 (by decide +kernel)
theorem dX6_exchange_149 : decode cX6_exchange 149 = .ok (.iconst 1, 1) := dk_4 (by decide +kernel)
theorem dX6_exchange_150 : decode cX6_exchange 150 = .ok (.goto 4, 3) := dk_167 (by decide +kernel)
theorem dX6_exchange_153 : decode cX6_exchange 153 = .ok (.iconst 0, 1) := dk_3 (by decide +kernel)
theorem dX6_exchange_154 : decode cX6_exchange 154 = .ok (.istore 12, 2) := dk_54 (by decide +kernel)
theorem dX6_exchange_156 : decode cX6_exchange 156 = .ok (.iload 8, 2) := dk_21 (by decide +kernel)
theorem dX6_exchange_158 : decode cX6_exchange 158 = .ok (.iload_n 2, 1) := dk_28 (by decide +kernel)
theorem dX6_exchange_159 : decode cX6_exchange 159 = .ok (.if_icmp .eq 35, 3) := dk_159 (by decide +kernel)
theorem dX6_exchange_162 : decode cX6_exchange 162 = .ok (.iload 12, 2) := dk_21 (by decide +kernel)
theorem dX6_exchange_164 : decode cX6_exchange 164 = .ok (.ifCond .ne 30, 3) := dk_154 (by decide +kernel)
theorem dX6_exchange_167 : decode cX6_exchange 167 = .ok (.iload 8, 2) := dk_21 (by decide +kernel)
theorem dX6_exchange_169 : decode cX6_exchange 169 = .ok (.ifCond .eq 13, 3) := dk_153 (by decide +kernel)
theorem dX6_exchange_172 : decode cX6_exchange 172 = .ok (.aload_n 0, 1) := dk_42 (by decide +kernel)
theorem dX6_exchange_173 : decode cX6_exchange 173 = .ok (.getfield 24, 3) := dk_180 (by decide +kernel)
theorem dX6_exchange_176 : decode cX6_exchange 176 = .ok (.iload 8, 2) := dk_21 (by decide +kernel)
theorem dX6_exchange_178 : decode cX6_exchange 178 = .ok (.baload, 1) := dk_51 (by decide +kernel)
theorem dX6_exchange_179 : decode cX6_exchange 179 = .ok (.ifCond .ne 15, 3) := dk_154 (by decide +kernel)
theorem dX6_exchange_182 : decode cX6_exchange 182 = .ok (.aload_n 0, 1) := dk_42 (by decide +kernel)
theorem dX6_exchange_183 : decode cX6_exchange 183 = .ok (.aload 9, 2) := dk_25 (by decide +kernel)
theorem dX6_exchange_185 : decode cX6_exchange 185 = .ok (.aload 7, 2) := dk_25 (by decide +kernel)
theorem dX6_exchange_187 : decode cX6_exchange 187 = .ok (.aload 10, 2) := dk_25 (by decide +kernel)
theorem dX6_exchange_189 : decode cX6_exchange 189 = .ok (.iload 4, 2) := dk_21 (by decide +kernel)
theorem dX6_exchange_191 : decode cX6_exchange 191 = .ok (.invokevirtual 138, 3) := dk_182 (by decide +kernel)
theorem dX6_exchange_194 : decode cX6_exchange 194 = .ok (.iinc 8 1, 3) := dk_132 (by decide +kernel)
theorem dX6_exchange_197 : decode cX6_exchange 197 = .ok (.goto (-123), 3) := dk_167 (by decide +kernel)
theorem dX6_exchange_200 : decode cX6_exchange 200 = .ok (.iload 4, 2) := dk_21 (by decide +kernel)
theorem dX6_exchange_202 : decode cX6_exchange 202 = .ok (.ifCond .eq 14, 3) := dk_153 (by decide +kernel)
theorem dX6_exchange_205 : decode cX6_exchange 205 = .ok (.iload 6, 2) := dk_21 (by decide +kernel)
theorem dX6_exchange_207 : decode cX6_exchange 207 = .ok (.iload_n 1, 1) := dk_27 (by decide +kernel)
theorem dX6_exchange_208 : decode cX6_exchange 208 = .ok (.if_icmp .eq 8, 3) := dk_159 (by decide +kernel)
theorem dX6_exchange_211 : decode cX6_exchange 211 = .ok (.aload 7, 2) := dk_25 (by decide +kernel)
theorem dX6_exchange_213 : decode cX6_exchange 213 = .ok (.invokevirtual 124, 3) := dk_182 (by decide +kernel)
theorem dX6_exchange_216 : decode cX6_exchange 216 = .ok (.iinc 6 1, 3) := dk_132 (by decide +kernel)
theorem dX6_exchange_219 : decode cX6_exchange 219 = .ok (.goto (-166), 3) := dk_167 (by decide +kernel)
theorem dX6_exchange_222 : decode cX6_exchange 222 = .ok (.iconst 0, 1) := dk_3 (by decide +kernel)
theorem dX6_exchange_223 : decode cX6_exchange 223 = .ok (.istore 6, 2) := dk_54 (by decide +kernel)
theorem dX6_exchange_225 : decode cX6_exchange 225 = .ok (.iload 6, 2) := dk_21 (by decide +kernel)
theorem dX6_exchange_227 : decode cX6_exchange 227 = .ok (.aload_n 0, 1) := dk_42 (by decide +kernel)
theorem dX6_exchange_228 : decode cX6_exchange 228 = .ok (.getfield 54, 3) := dk_180 (by decide +kernel)
theorem dX6_exchange_231 : decode cX6_exchange 231 = .ok (.if_icmp .gt 24, 3) := dk_163 (by decide +kernel)
theorem dX6_exchange_234 : decode cX6_exchange 234 = .ok (.iload 4, 2) := dk_21 (by decide +kernel)
theorem dX6_exchange_236 : decode cX6_exchange 236 = .ok (.ifCond .ne 19, 3) := dk_154 (by decide +kernel)
theorem dX6_exchange_239 : decode cX6_exchange 239 = .ok (.aload_n 0, 1) := dk_42 (by decide +kernel)
theorem dX6_exchange_240 : decode cX6_exchange 240 = .ok (.iload_n 1, 1) := dk_27 (by decide +kernel)
theorem dX6_exchange_241 : decode cX6_exchange 241 = .ok (.iload 6, 2) := dk_21 (by decide +kernel)
theorem dX6_exchange_243 : decode cX6_exchange 243 = .ok (.invokevirtual 72, 3) := dk_182 (by decide +kernel)
theorem dX6_exchange_246 : decode cX6_exchange 246 = .ok (.invokevirtual 124, 3) := dk_182 (by decide +kernel)
theorem dX6_exchange_249 : decode cX6_exchange 249 = .ok (.iinc 6 1, 3) := dk_132 (by decide +kernel)
theorem dX6_exchange_252 : decode cX6_exchange 252 = .ok (.goto (-27), 3) := dk_167 (by decide +kernel)
theorem dX6_exchange_255 : decode cX6_exchange 255 = .ok (.aload_n 3, 1) := dk_45 (by decide +kernel)
theorem dX6_exchange_256 : decode cX6_exchange 256 = .ok (.aload_n 0, 1) := dk_42 (by decide +kernel)
theorem dX6_exchange_257 : decode cX6_exchange 257 = .ok (.getfield 29, 3) := dk_180 (by decide +kernel)
theorem dX6_exchange_260 : decode cX6_exchange 260 = .ok (.invokevirtual 135, 3) := dk_182 (by decide +kernel)
theorem dX6_exchange_263 : decode cX6_exchange 263 = .ok (.aload_n 3, 1) := dk_45 (by decide +kernel)
theorem dX6_exchange_264 : decode cX6_exchange 264 = .ok (.iload 4, 2) := dk_21 (by decide +kernel)
theorem dX6_exchange_266 : decode cX6_exchange 266 = .ok (.putfield 131, 3) := dk_181 (by decide +kernel)
theorem dX6_exchange_269 : decode cX6_exchange 269 = .ok (.aload_n 0, 1) := dk_42 (by decide +kernel)
theorem dX6_exchange_270 : decode cX6_exchange 270 = .ok (.getfield 29, 3) := dk_180 (by decide +kernel)
theorem dX6_exchange_273 : decode cX6_exchange 273 = .ok (.aload_n 0, 1) := dk_42 (by decide +kernel)
theorem dX6_exchange_274 : decode cX6_exchange 274 = .ok (.getfield 33, 3) := dk_180 (by decide +kernel)
theorem dX6_exchange_277 : decode cX6_exchange 277 = .ok (.invokevirtual 135, 3) := dk_182 (by decide +kernel)
theorem dX6_exchange_280 : decode cX6_exchange 280 = .ok (.aload_n 0, 1) := dk_42 (by decide +kernel)
theorem dX6_exchange_281 : decode cX6_exchange 281 = .ok (.getfield 17, 3) := dk_180 (by decide +kernel)
theorem dX6_exchange_284 : decode cX6_exchange 284 = .ok (.iload_n 1, 1) := dk_27 (by decide +kernel)
theorem dX6_exchange_285 : decode cX6_exchange 285 = .ok (.iaload, 1) := dk_46 (by decide +kernel)
theorem dX6_exchange_286 : decode cX6_exchange 286 = .ok (.istore 6, 2) := dk_54 (by decide +kernel)
theorem dX6_exchange_288 : decode cX6_exchange 288 = .ok (.aload_n 0, 1) := dk_42 (by decide +kernel)
theorem dX6_exchange_289 : decode cX6_exchange 289 = .ok (.getfield 17, 3) := dk_180 (by decide +kernel)
theorem dX6_exchange_292 : decode cX6_exchange 292 = .ok (.iload_n 1, 1) := dk_27 (by decide +kernel)
theorem dX6_exchange_293 : decode cX6_exchange 293 = .ok (.aload_n 0, 1) := dk_42 (by decide +kernel)
theorem dX6_exchange_294 : decode cX6_exchange 294 = .ok (.getfield 21, 3) := dk_180 (by decide +kernel)
theorem dX6_exchange_297 : decode cX6_exchange 297 = .ok (.iload_n 2, 1) := dk_28 (by decide +kernel)
theorem dX6_exchange_298 : decode cX6_exchange 298 = .ok (.iaload, 1) := dk_46 (by decide +kernel)
theorem dX6_exchange_299 : decode cX6_exchange 299 = .ok (.iastore, 1) := dk_79 (by decide +kernel)
theorem dX6_exchange_300 : decode cX6_exchange 300 = .ok (.aload_n 0, 1) := dk_42 (by decide +kernel)
theorem dX6_exchange_301 : decode cX6_exchange 301 = .ok (.getfield 21, 3) := dk_180 (by decide +kernel)
theorem dX6_exchange_304 : decode cX6_exchange 304 = .ok (.iload_n 2, 1) := dk_28 (by decide +kernel)
theorem dX6_exchange_305 : decode cX6_exchange 305 = .ok (.iload 6, 2) := dk_21 (by decide +kernel)
theorem dX6_exchange_307 : decode cX6_exchange 307 = .ok (.iastore, 1) := dk_79 (by decide +kernel)
theorem dX6_exchange_308 : decode cX6_exchange 308 = .ok (.return_, 1) := dk_177 (by decide +kernel)
def wsMX6_exchange : List Cond := .code yX6_exchange cX6_exchange 13 none :: ([.fieldLink RX6 131 "OptimaWorks$Whole" "below" "Z", .fieldLink RX6 33 "OptimaWorks$Tableau" "turning" "LOptimaWorks$Whole;", .fieldLink RX6 29 "OptimaWorks$Tableau" "under" "LOptimaWorks$Whole;", .fieldLink RX6 58 "OptimaWorks$Tableau" "allRows" "I", .fieldLink RX6 54 "OptimaWorks$Tableau" "columns" "I", .fieldLink RX6 76 "OptimaWorks$Whole" "length" "I", .fieldLink RX6 24 "OptimaWorks$Tableau" "shut" "[Z", .fieldLink RX6 17 "OptimaWorks$Tableau" "inside" "[I", .fieldLink RX6 21 "OptimaWorks$Tableau" "outside" "[I"] ++ wsX60 ++ wsX80 ++ (wsV RX6 72 RX6 yX6_cellAt wsMX6_cellAt) ++ (wsV RX6 135 RX8 yX8_copy wsMX8_copy) ++ (wsV RX6 96 RX8 yX8_compareSize wsMX8_compareSize) ++ (wsV RX6 138 RX6 yX6_changeCell wsMX6_changeCell) ++ (wsV RX6 124 RX8 yX8_negate wsMX8_negate))
theorem iwsMX6_exchange_in6 : ∀ w ∈ wsX60, w ∈ wsMX6_exchange := fun _ h => List.mem_cons_of_mem _ (List.mem_append_left _ (List.mem_append_left _ (List.mem_append_left _ (List.mem_append_left _ (List.mem_append_left _ (List.mem_append_left _ (List.mem_append_right _ h)))))))
theorem iwsMX6_exchange_in8 : ∀ w ∈ wsX80, w ∈ wsMX6_exchange := fun _ h => List.mem_cons_of_mem _ (List.mem_append_left _ (List.mem_append_left _ (List.mem_append_left _ (List.mem_append_left _ (List.mem_append_left _ (List.mem_append_right _ h))))))
theorem gwsMX6_exchange_0 : GoodIn wsMX6_exchange (wsV RX6 72 RX6 yX6_cellAt wsMX6_cellAt) := goodIn_sub (fun _ h => List.mem_cons_of_mem _ (List.mem_append_left _ (List.mem_append_left _ (List.mem_append_left _ (List.mem_append_left _ (List.mem_append_right _ h)))))) (gdV (by decide +kernel) gdwsMX6_cellAt)
theorem gwsMX6_exchange_1 : GoodIn wsMX6_exchange (wsV RX6 135 RX8 yX8_copy wsMX8_copy) := goodIn_sub (fun _ h => List.mem_cons_of_mem _ (List.mem_append_left _ (List.mem_append_left _ (List.mem_append_left _ (List.mem_append_right _ h))))) (gdV (by decide +kernel) gdwsMX8_copy)
theorem gwsMX6_exchange_2 : GoodIn wsMX6_exchange (wsV RX6 96 RX8 yX8_compareSize wsMX8_compareSize) := goodIn_sub (fun _ h => List.mem_cons_of_mem _ (List.mem_append_left _ (List.mem_append_left _ (List.mem_append_right _ h)))) (gdV (by decide +kernel) gdwsMX8_compareSize)
theorem gwsMX6_exchange_3 : GoodIn wsMX6_exchange (wsV RX6 138 RX6 yX6_changeCell wsMX6_changeCell) := goodIn_sub (fun _ h => List.mem_cons_of_mem _ (List.mem_append_left _ (List.mem_append_right _ h))) (gdV (by decide +kernel) gdwsMX6_changeCell)
theorem gwsMX6_exchange_4 : GoodIn wsMX6_exchange (wsV RX6 124 RX8 yX8_negate wsMX8_negate) := goodIn_sub (fun _ h => List.mem_cons_of_mem _ (List.mem_append_right _ h)) (gdV (by decide +kernel) gdwsMX8_negate)
theorem gdwsMX6_exchange : wsMX6_exchange.all goodWord = true := gdC rfl (gdA (gdA (gdA (gdA (gdA (gdA (gdA (by decide +kernel : ([.fieldLink RX6 131 "OptimaWorks$Whole" "below" "Z", .fieldLink RX6 33 "OptimaWorks$Tableau" "turning" "LOptimaWorks$Whole;", .fieldLink RX6 29 "OptimaWorks$Tableau" "under" "LOptimaWorks$Whole;", .fieldLink RX6 58 "OptimaWorks$Tableau" "allRows" "I", .fieldLink RX6 54 "OptimaWorks$Tableau" "columns" "I", .fieldLink RX6 76 "OptimaWorks$Whole" "length" "I", .fieldLink RX6 24 "OptimaWorks$Tableau" "shut" "[Z", .fieldLink RX6 17 "OptimaWorks$Tableau" "inside" "[I", .fieldLink RX6 21 "OptimaWorks$Tableau" "outside" "[I"] : List Cond).all goodWord = true) gdwsX60) gdwsX80) (gdV (by decide +kernel) gdwsMX6_cellAt)) (gdV (by decide +kernel) gdwsMX8_copy)) (gdV (by decide +kernel) gdwsMX8_compareSize)) (gdV (by decide +kernel) gdwsMX6_changeCell)) (gdV (by decide +kernel) gdwsMX8_negate))
set_option maxHeartbeats 4000000 in
set_option maxRecDepth 100000 in
/-- an exchange -/
theorem m_X6_exchange (l : Launch) (dC : Nat → ClassId) (dI : Nat → Nat → Nat) (hQ : Nat → Nat) (aQ : Nat → Nat) (kQ : Nat → ClassId) (hw : Nat → Nat) (fQ_inside : Nat → Int32) (fQ_outside : Nat → Int32) (fQ_shut : Nat → Int32) (iQ_rows : Int32) (iQ_allRows : Int32) (iQ_columns : Int32) (nW : Nat) (lw : Nat → Nat) (kw : ClassId) (wl : Nat → Int32) (wb : Nat → Int32) (wG : Nat → Nat → Int64) (p1 : Int32) (p2 : Int32) (b_iQ_rows : 0 ≤ iQ_rows.toInt ∧ iQ_rows.toInt ≤ 40) (b_iQ_allRows : 0 ≤ iQ_allRows.toInt ∧ iQ_allRows.toInt ≤ 40) (b_iQ_columns : 0 ≤ iQ_columns.toInt ∧ iQ_columns.toInt ≤ 40) (b_tb : TbO iQ_rows iQ_allRows iQ_columns) (b_wl : ∀ q : Nat, 0 ≤ (wl q).toInt ∧ (wl q).toInt ≤ 14) (b_wb : ∀ q : Nat, 0 ≤ (wb q).toInt ∧ (wb q).toInt ≤ 1) (b_p1 : 0 ≤ p1.toInt ∧ p1.toInt ≤ 39) (b_p2 : 0 ≤ p2.toInt ∧ p2.toInt ≤ 40) (hnW : 406 ≤ nW) (hrow : FitR p1.toInt iQ_columns.toInt) (hp2 : p2.toInt ≤ iQ_columns.toInt) (sz : Nat) : Met l yX6_exchange wsMX6_exchange ({ frames := 4, cells := 0, slots := 0, locals := 99 }) (va_Pc [.ref (hQ 0), .int p1, .int p2] (fun U => U.heap.size = sz ∧ va_P (dC, dI) vwCl (WQ hQ aQ kQ hw fQ_inside fQ_outside fQ_shut iQ_rows iQ_allRows iQ_columns ++ (WW nW hw lw kw wl wb wG)) U.heap ∧ va_K (dC, dI) vwCl (tQ kQ ++ (tW kw)) U ∧ va_D (fun _ => True) (WQ hQ aQ kQ hw fQ_inside fQ_outside fQ_shut iQ_rows iQ_allRows iQ_columns ++ (WW nW hw lw kw wl wb wG)))) (va_Qv (fun (u : (Nat → Int32) × (Nat → Int32) × (Nat → Int32) × (Nat → Int32) × (Nat → Nat → Int64)) => (∀ q : Nat, 0 ≤ ((u.2.2.1) q).toInt ∧ ((u.2.2.1) q).toInt ≤ 14) ∧ (∀ q : Nat, 0 ≤ ((u.2.2.2.1) q).toInt ∧ ((u.2.2.2.1) q).toInt ≤ 1)) (fun (u : (Nat → Int32) × (Nat → Int32) × (Nat → Int32) × (Nat → Int32) × (Nat → Nat → Int64)) t => va_P (dC, dI) vwCl (WQ hQ aQ kQ hw (u.1) (u.2.1) fQ_shut iQ_rows iQ_allRows iQ_columns ++ (WW nW hw lw kw (u.2.2.1) (u.2.2.2.1) (u.2.2.2.2))) t.heap ∧ va_D (va_A (WQ hQ aQ kQ hw fQ_inside fQ_outside fQ_shut iQ_rows iQ_allRows iQ_columns ++ (WW nW hw lw kw wl wb wG)) sz) (WQ hQ aQ kQ hw (u.1) (u.2.1) fQ_shut iQ_rows iQ_allRows iQ_columns ++ (WW nW hw lw kw (u.2.2.1) (u.2.2.2.1) (u.2.2.2.2)))) (va_A (WQ hQ aQ kQ hw fQ_inside fQ_outside fQ_shut iQ_rows iQ_allRows iQ_columns ++ (WW nW hw lw kw wl wb wG)) sz)) 0 0 (va_A (WQ hQ aQ kQ hw fQ_inside fQ_outside fQ_shut iQ_rows iQ_allRows iQ_columns ++ (WW nW hw lw kw wl wb wG)) sz) := by
  refine Met.ofW (cc := cX6_exchange) (maxL := 13) (ret := none) (by decide) rfl ?_
  intro p e s m args below meth c s₁ B hml hv
  obtain ⟨rfl, hsz, hP, hK, hD0⟩ := hv
  have hx := B.exec
  have hb := B.bytes
  have hr := B.returns
  have hts := atoms_spec (ws := wsMX6_exchange) B.pre
  have hown : s.vm.findClass RX6 = some m.cls := findClass_of_methodNamed B.named
  have hlocks := B.notSynchronized
  subst hsz
  have hD := hD0.self (sz := s.heap.size)
  generalize hAe : va_A (WQ hQ aQ kQ hw fQ_inside fQ_outside fQ_shut iQ_rows iQ_allRows iQ_columns ++ (WW nW hw lw kw wl wb wG)) s.heap.size = A at hD ⊢
  have hA : ∀ q : Nat, s.heap.size ≤ q → A q := fun q h => by rw [← hAe]; exact Or.inr h
  have hS : va_S A s.heap s.heap [] := va_S.rf
  have hl := lv_entry ([.ref (hQ 0), .int p1, .int p2]) (n := 13) (Nat.le_of_ble_eq_true rfl)
  rw [lg_entry_eq]
  generalize (lg_sl ([.ref (hQ 0), .int p1, .int p2]) ++ List.replicate (13 - (lg_sl ([.ref (hQ 0), .int p1, .int p2])).length) Slot.unset).toArray = ls at hl ⊢
  have hl : lv_has ls 13 [(0, .ref (hQ 0)), (1, .int p1), (2, .int p2)] := hl
  have hTb := b_tb.1
  refine lv_aload_n hx hb dX6_exchange_0 rfl (lv_at hl 0 rfl) ?_
  refine lv_iload_n hx hb dX6_exchange_1 rfl (lv_at hl 1 rfl) ?_
  refine lv_iload_n hx hb dX6_exchange_2 rfl (lv_at hl 2 rfl) ?_
  have hFc := allFree hD hS hA
  refine va_callr (va_runV (As := [.int p1, .int p2]) (rest := []) ⟨hx, hb, hml, hown, hts⟩ (m_X6_cellAt l dC dI hQ aQ kQ hw fQ_inside fQ_outside fQ_shut iQ_rows iQ_allRows iQ_columns nW lw kw wl wb wG p1 p2 (b_iQ_rows) (b_iQ_allRows) (b_iQ_columns) (by first | with_reducible assumption | omega | assumption) b_wl b_wb (b_p1) (b_p2) (by first | with_reducible assumption | omega | (rw [iI_t (by omega) (by omega)]; omega) | decide | assumption) (hrow.ix (by omega) (by omega)) s.heap.size) (cwV 2 hts gwsMX6_exchange_0 rfl rfl rfl hd_yX6_cellAt_RX6 (by decide +kernel)) (fz_pre (va_recv hK hP (ci := 6) (q0 := 0) rfl rfl) hP hK hD) rfl rfl hl.1 rfl (lv_room (Nat.le_of_ble_eq_true rfl)) dX6_exchange_3 (by decide +kernel)) hS (fun q _ h => hFc q h) hFc (fun kR_1 ra1 t9_ H locs ht hvm hw9 hB9 hz1 hk1 hS => ?_)
  revert hB9
  refine fz_a2 ?_
  intro hra hB9
  subst hra
  have f1_0 := hw9
  try dsimp only at f1_0
  have hP : va_P (dC, dI) vwCl (WQ hQ aQ kQ hw fQ_inside fQ_outside fQ_shut iQ_rows iQ_allRows iQ_columns ++ (WW nW hw lw kw wl wb wG)) H := fz_P ht hB9.1
  have hD : va_D A (WQ hQ aQ kQ hw fQ_inside fQ_outside fQ_shut iQ_rows iQ_allRows iQ_columns ++ (WW nW hw lw kw wl wb wG)) := hB9.2.weaken (fun _ q _ h => hFc q.1 h)
  refine lv_astore_n hx hb dX6_exchange_6 rfl hl (by decide) rfl (fun ls (hl : lv_has ls _ ([(3, .ref (hw kR_1)), (0, .ref (hQ 0)), (1, .int p1), (2, .int p2)])) => ?_)
  refine lv_aload_n hx hb dX6_exchange_7 rfl (lv_at hl 0 rfl) ?_
  refine va_get (D := (dC, dI)) (ci := 8) (v := .int (wb kR_1)) (C := RX8) (T := TX8) (N := 3) hx hb hts iwsMX6_exchange_in8 hown hK hP (5 + (kR_1)) (apR rfl (WW_o (by omega))) rfl 2 (by decide) (hts (.fieldLink RX6 131 "OptimaWorks$Whole" "below" "Z") (by decide +kernel)) (fun _ h9 => h9) rfl dX6_exchange_8 ?_
  have br8 := b_wb kR_1
  refine lv_istore hx hb dX6_exchange_11 hl (by decide) rfl (fun ls (hl : lv_has ls _ ([(4, .int (wb kR_1)), (3, .ref (hw kR_1)), (0, .ref (hQ 0)), (1, .int p1), (2, .int p2)])) => ?_)
  refine lv_aload_n hx hb dX6_exchange_13 rfl (lv_at hl 2 rfl) ?_
  refine va_get (D := (dC, dI)) (ci := 6) (v := .ref (hw 401)) (C := RX6) (T := TX6) (N := 13) hx hb hts iwsMX6_exchange_in6 hown hK hP 0 rfl rfl 8 (by decide) (hts (.fieldLink RX6 33 "OptimaWorks$Tableau" "turning" "LOptimaWorks$Whole;") (by decide +kernel)) (fun _ h9 => h9) rfl dX6_exchange_14 ?_
  refine lv_aload_n hx hb dX6_exchange_17 rfl (lv_at hl 1 rfl) ?_
  have p9 : List.Perm (WQ hQ aQ kQ hw fQ_inside fQ_outside fQ_shut iQ_rows iQ_allRows iQ_columns ++ (WW nW hw lw kw wl wb wG)) ((WW nW hw lw kw wl wb wG) ++ (WQ hQ aQ kQ hw fQ_inside fQ_outside fQ_shut iQ_rows iQ_allRows iQ_columns)) := (List.perm_append_comm)
  have hPc := hP.mem (fun q h => p9.mem_iff.mpr (List.mem_append_left _ h))
  have hDc := (hD.perm p9).left
  have hKc : va_K (dC, dI) vwCl (tW kw) _ := hK.sub [4] rfl
  have hFc := freeG p9 hD hS hA
  refine va_callv (va_runV (As := [.ref (hw kR_1)]) (rest := []) ⟨hx, hb, hml, hown, hts⟩ (m_X8_copy l dC dI nW hw lw kw wl wb wG 401 kR_1 b_wl b_wb (by first | with_reducible assumption | omega | (rw [iI_t (by omega) (by omega)]; omega) | decide | assumption) (by first | with_reducible assumption | omega | (rw [iI_t (by omega) (by omega)]; omega) | decide | assumption) H.size) (cwV 1 hts gwsMX6_exchange_1 rfl rfl rfl hd_yX8_copy_RX8 (by decide +kernel)) (fz_pre (va_recv hK hP (ci := 8) (q0 := 5 + (401)) rfl (apR rfl (WW_o (by omega)))) hPc hKc hDc) rfl rfl hl.1 rfl (lv_room (Nat.le_of_ble_eq_true rfl)) dX6_exchange_18 (by decide +kernel)) hS (fun q _ h => hFc q h) hFc (fun u t9_ H locs ht hvm hw9 hB9 hz1 hk1 hS => ?_)
  revert u hw9 hB9
  refine fz_p3 ?_
  intro wl_2 wb_2 wG_2 hw9 hB9
  try dsimp only at hw9 hB9
  revert hw9
  refine fz_a2 ?_
  intro b_wl_2 b_wb_2
  have p8 : List.Perm (WQ hQ aQ kQ hw fQ_inside fQ_outside fQ_shut iQ_rows iQ_allRows iQ_columns ++ (WW nW hw lw kw wl_2 wb_2 wG_2)) ((WW nW hw lw kw wl_2 wb_2 wG_2) ++ (WQ hQ aQ kQ hw fQ_inside fQ_outside fQ_shut iQ_rows iQ_allRows iQ_columns)) := (List.perm_append_comm)
  obtain ⟨hP, hD⟩ := frameG p9 p8 hP hD hk1 hFc (fz_P ht hB9.1) hB9.2
  have hP : va_P (dC, dI) vwCl (WQ hQ aQ kQ hw fQ_inside fQ_outside fQ_shut iQ_rows iQ_allRows iQ_columns ++ (WW nW hw lw kw wl_2 wb_2 wG_2)) H := hP
  have hD : va_D A (WQ hQ aQ kQ hw fQ_inside fQ_outside fQ_shut iQ_rows iQ_allRows iQ_columns ++ (WW nW hw lw kw wl_2 wb_2 wG_2)) := hD
  refine lv_aload_n hx hb dX6_exchange_21 rfl (lv_at hl 2 rfl) ?_
  refine va_get (D := (dC, dI)) (ci := 6) (v := .ref (hw 401)) (C := RX6) (T := TX6) (N := 13) hx hb hts iwsMX6_exchange_in6 hown hK hP 0 rfl rfl 8 (by decide) (hts (.fieldLink RX6 33 "OptimaWorks$Tableau" "turning" "LOptimaWorks$Whole;") (by decide +kernel)) (fun _ h9 => h9) rfl dX6_exchange_22 ?_
  refine lv_iconst (v := 0) hx hb dX6_exchange_25 (by decide) ?_
  refine va_put (D := (dC, dI)) (ci := 8) (v := .int 0) (ty := .boolean) (C := RX8) (T := TX8) (N := 3) hx hb hts iwsMX6_exchange_in8 tyX8 tyX8_ok nmX8 hown hK hP hD hS (5 + (401)) (apR rfl (WW_o (by omega))) rfl 2 (by decide) (hts (.fieldLink RX6 131 "OptimaWorks$Whole" "below" "Z") (by decide +kernel)) (fun _ h9 => h9) rfl (by decide +kernel) rfl rfl (Nat.le_of_ble_eq_true rfl) dX6_exchange_26 (fun H locs hP hD hS => ?_)
  obtain ⟨u3, hu3⟩ : ∃ f9, f9 = fT wb_2 401 (0 : Int32) := ⟨_, rfl⟩
  have hP : va_P (dC, dI) vwCl (WQ hQ aQ kQ hw fQ_inside fQ_outside fQ_shut iQ_rows iQ_allRows iQ_columns ++ (WW nW hw lw kw wl_2 u3 wG_2)) H := by rw [hu3]; exact Eq.mp (congrArg (fun z9 => va_P (dC, dI) vwCl z9 H) ((stR rfl).trans (congrArg (fun z9 => WQ hQ aQ kQ hw fQ_inside fQ_outside fQ_shut iQ_rows iQ_allRows iQ_columns ++ z9) (WW_sb (by omega) (0 : Int32))))) hP
  have hD : va_D A (WQ hQ aQ kQ hw fQ_inside fQ_outside fQ_shut iQ_rows iQ_allRows iQ_columns ++ (WW nW hw lw kw wl_2 u3 wG_2)) := by rw [hu3]; exact Eq.mp (congrArg (fun z9 => va_D A z9) ((stR rfl).trans (congrArg (fun z9 => WQ hQ aQ kQ hw fQ_inside fQ_outside fQ_shut iQ_rows iQ_allRows iQ_columns ++ z9) (WW_sb (by omega) (0 : Int32))))) hD
  have b_u3 : ∀ q : Nat, 0 ≤ (u3 q).toInt ∧ (u3 q).toInt ≤ 1 := by rw [hu3]; exact fT_r b_wb_2 (show 0 ≤ (0 : Int32).toInt ∧ (0 : Int32).toInt ≤ 1 from by decide)
  have q_u3 : (u3 401).toInt = 0 := by rw [hu3, fT_eq]; exact (by decide : (0 : Int32).toInt = 0)
  clear hu3
  refine lv_aload_n hx hb dX6_exchange_29 rfl (lv_at hl 2 rfl) ?_
  refine va_get (D := (dC, dI)) (ci := 6) (v := .ref (hw 401)) (C := RX6) (T := TX6) (N := 13) hx hb hts iwsMX6_exchange_in6 hown hK hP 0 rfl rfl 8 (by decide) (hts (.fieldLink RX6 33 "OptimaWorks$Tableau" "turning" "LOptimaWorks$Whole;") (by decide +kernel)) (fun _ h9 => h9) rfl dX6_exchange_30 ?_
  refine lv_aload_n hx hb dX6_exchange_33 rfl (lv_at hl 2 rfl) ?_
  refine va_get (D := (dC, dI)) (ci := 6) (v := .ref (hw 400)) (C := RX6) (T := TX6) (N := 13) hx hb hts iwsMX6_exchange_in6 hown hK hP 0 rfl rfl 4 (by decide) (hts (.fieldLink RX6 29 "OptimaWorks$Tableau" "under" "LOptimaWorks$Whole;") (by decide +kernel)) (fun _ h9 => h9) rfl dX6_exchange_34 ?_
  have p9 : List.Perm (WQ hQ aQ kQ hw fQ_inside fQ_outside fQ_shut iQ_rows iQ_allRows iQ_columns ++ (WW nW hw lw kw wl_2 u3 wG_2)) ((WW nW hw lw kw wl_2 u3 wG_2) ++ (WQ hQ aQ kQ hw fQ_inside fQ_outside fQ_shut iQ_rows iQ_allRows iQ_columns)) := (List.perm_append_comm)
  have hPc := hP.mem (fun q h => p9.mem_iff.mpr (List.mem_append_left _ h))
  have hDc := (hD.perm p9).left
  have hKc : va_K (dC, dI) vwCl (tW kw) _ := hK.sub [4] rfl
  have hFc := freeG p9 hD hS hA
  refine va_calli (va_runV (As := [.ref (hw 400)]) (rest := []) ⟨hx, hb, hml, hown, hts⟩ (m_X8_compareSize l dC dI nW hw lw kw wl_2 u3 wG_2 401 400 b_wl_2 b_u3 (by first | with_reducible assumption | omega | (rw [iI_t (by omega) (by omega)]; omega) | decide | assumption) (by first | with_reducible assumption | omega | (rw [iI_t (by omega) (by omega)]; omega) | decide | assumption) H.size) (cwV 1 hts gwsMX6_exchange_2 rfl rfl rfl hd_yX8_compareSize_RX8 (by decide +kernel)) (fz_pre (va_recv hK hP (ci := 8) (q0 := 5 + (401)) rfl (apR rfl (WW_o (by omega)))) hPc hKc hDc) rfl rfl hl.1 rfl (lv_room (Nat.le_of_ble_eq_true rfl)) dX6_exchange_37 (by decide +kernel)) hS (fun q _ h => hFc q h) hFc (fun r4 u t9_ H locs ht hvm hw9 hB9 hz1 hk1 hS => ?_)
  have b_r4 := hw9
  try dsimp only at b_r4
  have p8 : List.Perm (WQ hQ aQ kQ hw fQ_inside fQ_outside fQ_shut iQ_rows iQ_allRows iQ_columns ++ (WW nW hw lw kw wl_2 u3 wG_2)) ((WW nW hw lw kw wl_2 u3 wG_2) ++ (WQ hQ aQ kQ hw fQ_inside fQ_outside fQ_shut iQ_rows iQ_allRows iQ_columns)) := (List.perm_append_comm)
  obtain ⟨hP, hD⟩ := frameG p9 p8 hP hD hk1 hFc (fz_P ht hB9.1) hB9.2
  have hP : va_P (dC, dI) vwCl (WQ hQ aQ kQ hw fQ_inside fQ_outside fQ_shut iQ_rows iQ_allRows iQ_columns ++ (WW nW hw lw kw wl_2 u3 wG_2)) H := hP
  have hD : va_D A (WQ hQ aQ kQ hw fQ_inside fQ_outside fQ_shut iQ_rows iQ_allRows iQ_columns ++ (WW nW hw lw kw wl_2 u3 wG_2)) := hD
  refine W.cut (pc := 48) (fun H locs ls stk => ∃ (k0_j155 : Int32), (0 ≤ k0_j155.toInt ∧ k0_j155.toInt ≤ 1) ∧  stk = [.int k0_j155] ∧ va_P (dC, dI) vwCl (WQ hQ aQ kQ hw fQ_inside fQ_outside fQ_shut iQ_rows iQ_allRows iQ_columns ++ (WW nW hw lw kw wl_2 u3 wG_2)) H ∧ va_D A (WQ hQ aQ kQ hw fQ_inside fQ_outside fQ_shut iQ_rows iQ_allRows iQ_columns ++ (WW nW hw lw kw wl_2 u3 wG_2)) ∧ va_S A s.heap H locs ∧ lv_has ls 13 [(4, .int (wb kR_1)), (3, .ref (hw kR_1)), (0, .ref (hQ 0)), (1, .int p1), (2, .int p2)]) (fun join155 => ?_) ?_
  · refine lv_if_ne (tgt := 47) hx hb dX6_exchange_40 (by decide) (fun c_40 => ?_) (fun c_40 => ?_)
    · have t_40 : r4.toInt ≠ 0 := toI_ne c_40 rfl (by decide : (0 : Int32).toInt = 0)
      refine lv_iconst (v := 0) hx hb dX6_exchange_47 (by decide) ?_
      have hl : lv_has _ _ ([(4, .int (wb kR_1)), (3, .ref (hw kR_1)), (0, .ref (hQ 0)), (1, .int p1), (2, .int p2)]) := lv_sub hl [0, 1, 2, 3, 4] rfl
      exact join155 _ _ _ _ ⟨0, (show 0 ≤ (0 : Int32).toInt ∧ (0 : Int32).toInt ≤ 1 from by decide), rfl, hP, hD, hS, hl⟩
    · have t_40 : r4.toInt = 0 := toI_nne c_40 rfl (by decide : (0 : Int32).toInt = 0)
      refine lv_iconst (v := 1) hx hb dX6_exchange_43 (by decide) ?_
      refine lv_goto (tgt := 48) hx hb dX6_exchange_44 (by decide) ?_
      have hl : lv_has _ _ ([(4, .int (wb kR_1)), (3, .ref (hw kR_1)), (0, .ref (hQ 0)), (1, .int p1), (2, .int p2)]) := lv_sub hl [0, 1, 2, 3, 4] rfl
      exact join155 _ _ _ _ ⟨1, (show 0 ≤ (1 : Int32).toInt ∧ (1 : Int32).toInt ≤ 1 from by decide), rfl, hP, hD, hS, hl⟩
  · rintro H locs ls stk ⟨k0_j155, b_k0_j155, rfl, hP, hD, hS, hl⟩
    refine lv_istore hx hb dX6_exchange_48 hl (by decide) rfl (fun ls (hl : lv_has ls _ ([(5, .int k0_j155), (4, .int (wb kR_1)), (3, .ref (hw kR_1)), (0, .ref (hQ 0)), (1, .int p1), (2, .int p2)])) => ?_)
    refine lv_iconst (v := 0) hx hb dX6_exchange_50 (by decide) ?_
    refine lv_istore hx hb dX6_exchange_51 hl (by decide) rfl (fun ls (hl : lv_has ls _ ([(6, .int 0), (5, .int k0_j155), (4, .int (wb kR_1)), (3, .ref (hw kR_1)), (0, .ref (hQ 0)), (1, .int p1), (2, .int p2)])) => ?_)
    have hl : lv_has _ _ ([(6, .int 0), (5, .int k0_j155), (4, .int (wb kR_1)), (3, .ref (hw kR_1)), (0, .ref (hQ 0)), (1, .int p1), (2, .int p2)]) := lv_sub hl [0, 1, 2, 3, 4, 5, 6] rfl
    refine (fun (loop : ∀ (n9 : Nat) (wl_x53 : Nat → Int32) (wb_x53 : Nat → Int32) (wG_x53 : Nat → Nat → Int64) (l6_x53 : Int32) (H : Heap) (locs : List Loc) (ls : Array Slot), (∀ q : Nat, 0 ≤ (wl_x53 q).toInt ∧ (wl_x53 q).toInt ≤ 14) → (∀ q : Nat, 0 ≤ (wb_x53 q).toInt ∧ (wb_x53 q).toInt ≤ 1) → (0 ≤ l6_x53.toInt ∧ l6_x53.toInt ≤ 40) → (40 - l6_x53.toInt < ((n9 : Nat) : Int)) → va_P (dC, dI) vwCl (WQ hQ aQ kQ hw fQ_inside fQ_outside fQ_shut iQ_rows iQ_allRows iQ_columns ++ (WW nW hw lw kw wl_x53 wb_x53 wG_x53)) H → va_D A (WQ hQ aQ kQ hw fQ_inside fQ_outside fQ_shut iQ_rows iQ_allRows iQ_columns ++ (WW nW hw lw kw wl_x53 wb_x53 wG_x53)) → va_S A s.heap H locs → lv_has ls 13 [(6, .int l6_x53), (5, .int k0_j155), (4, .int (wb kR_1)), (3, .ref (hw kR_1)), (0, .ref (hQ 0)), (1, .int p1), (2, .int p2)] → W p l e _ s m _ below meth c H locs 0 0 _ (F0 m 53 ls [])) => loop (41) wl_2 u3 wG_2 0 _ _ _ b_wl_2 b_u3 (show 0 ≤ (0 : Int32).toInt ∧ (0 : Int32).toInt ≤ 40 from by decide) ((by have e9 : (0 : Int32).toInt = 0 := (by decide : (0 : Int32).toInt = 0); omega)) hP hD hS hl) ?_
    intro n9
    induction n9 with
    | zero => intro wl_x53 wb_x53 wG_x53 l6_x53 H locs ls b_wl_x53 b_wb_x53 b_l6_x53 hf9; exact False.elim (by omega)
    | succ n9 ihx53 =>
      intro wl_x53 wb_x53 wG_x53 l6_x53 H locs ls b_wl_x53 b_wb_x53 b_l6_x53 hfx53 hP hD hS hl
      refine lv_iload hx hb dX6_exchange_53 (lv_at hl 0 rfl) ?_
      refine lv_aload_n hx hb dX6_exchange_55 rfl (lv_at hl 4 rfl) ?_
      refine va_get (D := (dC, dI)) (ci := 6) (v := .int iQ_allRows) (C := RX6) (T := TX6) (N := 13) hx hb hts iwsMX6_exchange_in6 hown hK hP 0 rfl rfl 6 (by decide) (hts (.fieldLink RX6 58 "OptimaWorks$Tableau" "allRows" "I") (by decide +kernel)) (fun _ h9 => h9) rfl dX6_exchange_56 ?_
      refine lv_icmp_ge (tgt := 222) hx hb dX6_exchange_59 (by decide) (fun c_59 => ?_) (fun c_59 => ?_)
      · have t_59 : l6_x53.toInt ≥ iQ_allRows.toInt := toI_ge c_59 rfl rfl
        refine lv_iconst (v := 0) hx hb dX6_exchange_222 (by decide) ?_
        refine lv_istore hx hb dX6_exchange_223 hl (by decide) rfl (fun ls (hl : lv_has ls _ ([(6, .int 0), (5, .int k0_j155), (4, .int (wb kR_1)), (3, .ref (hw kR_1)), (0, .ref (hQ 0)), (1, .int p1), (2, .int p2)])) => ?_)
        have hl : lv_has _ _ ([(6, .int 0), (5, .int k0_j155), (4, .int (wb kR_1)), (3, .ref (hw kR_1)), (0, .ref (hQ 0)), (1, .int p1), (2, .int p2)]) := lv_sub hl [0, 1, 2, 3, 4, 5, 6] rfl
        refine (fun (loop : ∀ (n9 : Nat) (wb_x225 : Nat → Int32) (l6_x225 : Int32) (H : Heap) (locs : List Loc) (ls : Array Slot), (∀ q : Nat, 0 ≤ (wb_x225 q).toInt ∧ (wb_x225 q).toInt ≤ 1) → (0 ≤ l6_x225.toInt ∧ l6_x225.toInt ≤ 41) → (41 - l6_x225.toInt < ((n9 : Nat) : Int)) → va_P (dC, dI) vwCl (WQ hQ aQ kQ hw fQ_inside fQ_outside fQ_shut iQ_rows iQ_allRows iQ_columns ++ (WW nW hw lw kw wl_x53 wb_x225 wG_x53)) H → va_D A (WQ hQ aQ kQ hw fQ_inside fQ_outside fQ_shut iQ_rows iQ_allRows iQ_columns ++ (WW nW hw lw kw wl_x53 wb_x225 wG_x53)) → va_S A s.heap H locs → lv_has ls 13 [(6, .int l6_x225), (5, .int k0_j155), (4, .int (wb kR_1)), (3, .ref (hw kR_1)), (0, .ref (hQ 0)), (1, .int p1), (2, .int p2)] → W p l e _ s m _ below meth c H locs 0 0 _ (F0 m 225 ls [])) => loop (42) wb_x53 0 _ _ _ b_wb_x53 (show 0 ≤ (0 : Int32).toInt ∧ (0 : Int32).toInt ≤ 41 from by decide) ((by have e9 : (0 : Int32).toInt = 0 := (by decide : (0 : Int32).toInt = 0); omega)) hP hD hS hl) ?_
        intro n9
        induction n9 with
        | zero => intro wb_x225 l6_x225 H locs ls b_wb_x225 b_l6_x225 hf9; exact False.elim (by omega)
        | succ n9 ihx225 =>
          intro wb_x225 l6_x225 H locs ls b_wb_x225 b_l6_x225 hfx225 hP hD hS hl
          refine lv_iload hx hb dX6_exchange_225 (lv_at hl 0 rfl) ?_
          refine lv_aload_n hx hb dX6_exchange_227 rfl (lv_at hl 4 rfl) ?_
          refine va_get (D := (dC, dI)) (ci := 6) (v := .int iQ_columns) (C := RX6) (T := TX6) (N := 13) hx hb hts iwsMX6_exchange_in6 hown hK hP 0 rfl rfl 7 (by decide) (hts (.fieldLink RX6 54 "OptimaWorks$Tableau" "columns" "I") (by decide +kernel)) (fun _ h9 => h9) rfl dX6_exchange_228 ?_
          refine W.cut (pc := 255) (fun H locs ls stk =>  stk = [] ∧ va_P (dC, dI) vwCl (WQ hQ aQ kQ hw fQ_inside fQ_outside fQ_shut iQ_rows iQ_allRows iQ_columns ++ (WW nW hw lw kw wl_x53 wb_x225 wG_x53)) H ∧ va_D A (WQ hQ aQ kQ hw fQ_inside fQ_outside fQ_shut iQ_rows iQ_allRows iQ_columns ++ (WW nW hw lw kw wl_x53 wb_x225 wG_x53)) ∧ va_S A s.heap H locs ∧ lv_has ls 13 [(6, .int l6_x225), (5, .int k0_j155), (4, .int (wb kR_1)), (3, .ref (hw kR_1)), (0, .ref (hQ 0)), (1, .int p1), (2, .int p2)]) (fun join284 => ?_) ?_
          · refine lv_icmp_gt (tgt := 255) hx hb dX6_exchange_231 (by decide) (fun c_231 => ?_) (fun c_231 => ?_)
            · have t_231 : l6_x225.toInt > iQ_columns.toInt := toI_gt c_231 rfl rfl
              have hl : lv_has _ _ ([(6, .int l6_x225), (5, .int k0_j155), (4, .int (wb kR_1)), (3, .ref (hw kR_1)), (0, .ref (hQ 0)), (1, .int p1), (2, .int p2)]) := lv_sub hl [0, 1, 2, 3, 4, 5, 6] rfl
              exact join284 _ _ _ _ ⟨rfl, hP, hD, hS, hl⟩
            · have t_231 : ¬ l6_x225.toInt > iQ_columns.toInt := toI_ngt c_231 rfl rfl
              refine lv_iload hx hb dX6_exchange_234 (lv_at hl 2 rfl) ?_
              refine lv_if_ne (tgt := 255) hx hb dX6_exchange_236 (by decide) (fun c_236 => ?_) (fun c_236 => ?_)
              · have t_236 : (wb kR_1).toInt ≠ 0 := toI_ne c_236 rfl (by decide : (0 : Int32).toInt = 0)
                have hl : lv_has _ _ ([(6, .int l6_x225), (5, .int k0_j155), (4, .int (wb kR_1)), (3, .ref (hw kR_1)), (0, .ref (hQ 0)), (1, .int p1), (2, .int p2)]) := lv_sub hl [0, 1, 2, 3, 4, 5, 6] rfl
                exact join284 _ _ _ _ ⟨rfl, hP, hD, hS, hl⟩
              · have t_236 : (wb kR_1).toInt = 0 := toI_nne c_236 rfl (by decide : (0 : Int32).toInt = 0)
                refine lv_aload_n hx hb dX6_exchange_239 rfl (lv_at hl 4 rfl) ?_
                refine lv_iload_n hx hb dX6_exchange_240 rfl (lv_at hl 5 rfl) ?_
                refine lv_iload hx hb dX6_exchange_241 (lv_at hl 0 rfl) ?_
                have hFc := allFree hD hS hA
                refine va_callr (va_runV (As := [.int p1, .int l6_x225]) (rest := []) ⟨hx, hb, hml, hown, hts⟩ (m_X6_cellAt l dC dI hQ aQ kQ hw fQ_inside fQ_outside fQ_shut iQ_rows iQ_allRows iQ_columns nW lw kw wl_x53 wb_x225 wG_x53 p1 l6_x225 (b_iQ_rows) (b_iQ_allRows) (b_iQ_columns) (by first | with_reducible assumption | omega | assumption) b_wl_x53 b_wb_x225 (b_p1) (by first | exact b_l6_x225 | with_reducible assumption | exact ⟨by omega, by omega⟩ | assumption) (by first | with_reducible assumption | omega | (rw [iI_t (by omega) (by omega)]; omega) | decide | assumption) (hrow.ix (by omega) (by omega)) H.size) (cwV 2 hts gwsMX6_exchange_0 rfl rfl rfl hd_yX6_cellAt_RX6 (by decide +kernel)) (fz_pre (va_recv hK hP (ci := 6) (q0 := 0) rfl rfl) hP hK hD) rfl rfl hl.1 rfl (lv_room (Nat.le_of_ble_eq_true rfl)) dX6_exchange_243 (by decide +kernel)) hS (fun q _ h => hFc q h) hFc (fun kR_330 ra330 t9_ H locs ht hvm hw9 hB9 hz1 hk1 hS => ?_)
                revert hB9
                refine fz_a2 ?_
                intro hra hB9
                subst hra
                have f330_0 := hw9
                try dsimp only at f330_0
                have hP : va_P (dC, dI) vwCl (WQ hQ aQ kQ hw fQ_inside fQ_outside fQ_shut iQ_rows iQ_allRows iQ_columns ++ (WW nW hw lw kw wl_x53 wb_x225 wG_x53)) H := fz_P ht hB9.1
                have hD : va_D A (WQ hQ aQ kQ hw fQ_inside fQ_outside fQ_shut iQ_rows iQ_allRows iQ_columns ++ (WW nW hw lw kw wl_x53 wb_x225 wG_x53)) := hB9.2.weaken (fun _ q _ h => hFc q.1 h)
                have p9 : List.Perm (WQ hQ aQ kQ hw fQ_inside fQ_outside fQ_shut iQ_rows iQ_allRows iQ_columns ++ (WW nW hw lw kw wl_x53 wb_x225 wG_x53)) ((WW nW hw lw kw wl_x53 wb_x225 wG_x53) ++ (WQ hQ aQ kQ hw fQ_inside fQ_outside fQ_shut iQ_rows iQ_allRows iQ_columns)) := (List.perm_append_comm)
                have hPc := hP.mem (fun q h => p9.mem_iff.mpr (List.mem_append_left _ h))
                have hDc := (hD.perm p9).left
                have hKc : va_K (dC, dI) vwCl (tW kw) _ := hK.sub [4] rfl
                have hFc := freeG p9 hD hS hA
                refine va_callv (va_runV (As := []) (rest := []) ⟨hx, hb, hml, hown, hts⟩ (m_X8_negate l dC dI nW hw lw kw wl_x53 wb_x225 wG_x53 kR_330 b_wl_x53 b_wb_x225 (by first | with_reducible assumption | omega | (rw [iI_t (by omega) (by omega)]; omega) | decide | assumption) H.size) (cwV 0 hts gwsMX6_exchange_4 rfl rfl rfl hd_yX8_negate_RX8 (by decide +kernel)) (fz_pre (va_recv hK hP (ci := 8) (q0 := 5 + (kR_330)) rfl (apR rfl (WW_o (by omega)))) hPc hKc hDc) rfl rfl hl.1 rfl (lv_room (Nat.le_of_ble_eq_true rfl)) dX6_exchange_246 (by decide +kernel)) hS (fun q _ h => hFc q h) hFc (fun wb_331 t9_ H locs ht hvm hw9 hB9 hz1 hk1 hS => ?_)
                have b_wb_331 := hw9
                try dsimp only at b_wb_331
                have p8 : List.Perm (WQ hQ aQ kQ hw fQ_inside fQ_outside fQ_shut iQ_rows iQ_allRows iQ_columns ++ (WW nW hw lw kw wl_x53 wb_331 wG_x53)) ((WW nW hw lw kw wl_x53 wb_331 wG_x53) ++ (WQ hQ aQ kQ hw fQ_inside fQ_outside fQ_shut iQ_rows iQ_allRows iQ_columns)) := (List.perm_append_comm)
                obtain ⟨hP, hD⟩ := frameG p9 p8 hP hD hk1 hFc (fz_P ht hB9.1) hB9.2
                have hP : va_P (dC, dI) vwCl (WQ hQ aQ kQ hw fQ_inside fQ_outside fQ_shut iQ_rows iQ_allRows iQ_columns ++ (WW nW hw lw kw wl_x53 wb_331 wG_x53)) H := hP
                have hD : va_D A (WQ hQ aQ kQ hw fQ_inside fQ_outside fQ_shut iQ_rows iQ_allRows iQ_columns ++ (WW nW hw lw kw wl_x53 wb_331 wG_x53)) := hD
                refine lv_iinc (v := (iI (l6_x225.toInt + 1))) hx hb dX6_exchange_249 hl (k := 0) rfl (iI_add2 (iI_of _) (by decide : (1 : Int32) = iI 1)) (by decide) rfl (fun ls (hl : lv_has ls _ ([(6, .int (iI (l6_x225.toInt + 1))), (5, .int k0_j155), (4, .int (wb kR_1)), (3, .ref (hw kR_1)), (0, .ref (hQ 0)), (1, .int p1), (2, .int p2)])) => ?_)
                refine lv_goto (tgt := 225) hx hb dX6_exchange_252 (by decide) ?_
                have hl : lv_has _ _ ([(6, .int (iI (l6_x225.toInt + 1))), (5, .int k0_j155), (4, .int (wb kR_1)), (3, .ref (hw kR_1)), (0, .ref (hQ 0)), (1, .int p1), (2, .int p2)]) := lv_sub hl [0, 1, 2, 3, 4, 5, 6] rfl
                exact ihx225 wb_331 (iI (l6_x225.toInt + 1)) _ _ _ b_wb_331 (iI_rng (Int.le_trans (by decide) (Int.add_le_add (b_l6_x225.1) (Int.le_refl _))) (by omega) (by decide) (by decide)) (by have e9 : ((iI (l6_x225.toInt + 1))).toInt = (l6_x225.toInt + 1) := (iI_t (Int.le_trans (by decide) (Int.add_le_add (b_l6_x225.1) (Int.le_refl _))) (Int.le_trans (Int.add_le_add (b_l6_x225.2) (Int.le_refl _)) (by decide))); omega) hP hD hS hl
          · rintro H locs ls stk ⟨rfl, hP, hD, hS, hl⟩
            refine lv_aload_n hx hb dX6_exchange_255 rfl (lv_at hl 3 rfl) ?_
            refine lv_aload_n hx hb dX6_exchange_256 rfl (lv_at hl 4 rfl) ?_
            refine va_get (D := (dC, dI)) (ci := 6) (v := .ref (hw 400)) (C := RX6) (T := TX6) (N := 13) hx hb hts iwsMX6_exchange_in6 hown hK hP 0 rfl rfl 4 (by decide) (hts (.fieldLink RX6 29 "OptimaWorks$Tableau" "under" "LOptimaWorks$Whole;") (by decide +kernel)) (fun _ h9 => h9) rfl dX6_exchange_257 ?_
            have p9 : List.Perm (WQ hQ aQ kQ hw fQ_inside fQ_outside fQ_shut iQ_rows iQ_allRows iQ_columns ++ (WW nW hw lw kw wl_x53 wb_x225 wG_x53)) ((WW nW hw lw kw wl_x53 wb_x225 wG_x53) ++ (WQ hQ aQ kQ hw fQ_inside fQ_outside fQ_shut iQ_rows iQ_allRows iQ_columns)) := (List.perm_append_comm)
            have hPc := hP.mem (fun q h => p9.mem_iff.mpr (List.mem_append_left _ h))
            have hDc := (hD.perm p9).left
            have hKc : va_K (dC, dI) vwCl (tW kw) _ := hK.sub [4] rfl
            have hFc := freeG p9 hD hS hA
            refine va_callv (va_runV (As := [.ref (hw 400)]) (rest := []) ⟨hx, hb, hml, hown, hts⟩ (m_X8_copy l dC dI nW hw lw kw wl_x53 wb_x225 wG_x53 kR_1 400 b_wl_x53 b_wb_x225 (by first | with_reducible assumption | omega | (rw [iI_t (by omega) (by omega)]; omega) | decide | assumption) (by first | with_reducible assumption | omega | (rw [iI_t (by omega) (by omega)]; omega) | decide | assumption) H.size) (cwV 1 hts gwsMX6_exchange_1 rfl rfl rfl hd_yX8_copy_RX8 (by decide +kernel)) (fz_pre (va_recv hK hP (ci := 8) (q0 := 5 + (kR_1)) rfl (apR rfl (WW_o (by omega)))) hPc hKc hDc) rfl rfl hl.1 rfl (lv_room (Nat.le_of_ble_eq_true rfl)) dX6_exchange_260 (by decide +kernel)) hS (fun q _ h => hFc q h) hFc (fun u t9_ H locs ht hvm hw9 hB9 hz1 hk1 hS => ?_)
            revert u hw9 hB9
            refine fz_p3 ?_
            intro wl_332 wb_332 wG_332 hw9 hB9
            try dsimp only at hw9 hB9
            revert hw9
            refine fz_a2 ?_
            intro b_wl_332 b_wb_332
            have p8 : List.Perm (WQ hQ aQ kQ hw fQ_inside fQ_outside fQ_shut iQ_rows iQ_allRows iQ_columns ++ (WW nW hw lw kw wl_332 wb_332 wG_332)) ((WW nW hw lw kw wl_332 wb_332 wG_332) ++ (WQ hQ aQ kQ hw fQ_inside fQ_outside fQ_shut iQ_rows iQ_allRows iQ_columns)) := (List.perm_append_comm)
            obtain ⟨hP, hD⟩ := frameG p9 p8 hP hD hk1 hFc (fz_P ht hB9.1) hB9.2
            have hP : va_P (dC, dI) vwCl (WQ hQ aQ kQ hw fQ_inside fQ_outside fQ_shut iQ_rows iQ_allRows iQ_columns ++ (WW nW hw lw kw wl_332 wb_332 wG_332)) H := hP
            have hD : va_D A (WQ hQ aQ kQ hw fQ_inside fQ_outside fQ_shut iQ_rows iQ_allRows iQ_columns ++ (WW nW hw lw kw wl_332 wb_332 wG_332)) := hD
            refine lv_aload_n hx hb dX6_exchange_263 rfl (lv_at hl 3 rfl) ?_
            refine lv_iload hx hb dX6_exchange_264 (lv_at hl 2 rfl) ?_
            refine va_put (D := (dC, dI)) (ci := 8) (v := .int (wb kR_1)) (ty := .boolean) (C := RX8) (T := TX8) (N := 3) hx hb hts iwsMX6_exchange_in8 tyX8 tyX8_ok nmX8 hown hK hP hD hS (5 + (kR_1)) (apR rfl (WW_o (by omega))) rfl 2 (by decide) (hts (.fieldLink RX6 131 "OptimaWorks$Whole" "below" "Z") (by decide +kernel)) (fun _ h9 => h9) rfl (by decide +kernel) (by rcases z01 (x := (wb kR_1)) (by first | assumption | exact ⟨by omega, by omega⟩) with h9 | h9 <;> rw [h9] <;> rfl) (by rcases z01 (x := (wb kR_1)) (by first | assumption | exact ⟨by omega, by omega⟩) with h9 | h9 <;> rw [h9] <;> rfl) (Nat.le_of_ble_eq_true rfl) dX6_exchange_266 (fun H locs hP hD hS => ?_)
            obtain ⟨u333, hu333⟩ : ∃ f9, f9 = fT wb_332 kR_1 (wb kR_1) := ⟨_, rfl⟩
            have hP : va_P (dC, dI) vwCl (WQ hQ aQ kQ hw fQ_inside fQ_outside fQ_shut iQ_rows iQ_allRows iQ_columns ++ (WW nW hw lw kw wl_332 u333 wG_332)) H := by rw [hu333]; exact Eq.mp (congrArg (fun z9 => va_P (dC, dI) vwCl z9 H) ((stR rfl).trans (congrArg (fun z9 => WQ hQ aQ kQ hw fQ_inside fQ_outside fQ_shut iQ_rows iQ_allRows iQ_columns ++ z9) (WW_sb (by omega) (wb kR_1))))) hP
            have hD : va_D A (WQ hQ aQ kQ hw fQ_inside fQ_outside fQ_shut iQ_rows iQ_allRows iQ_columns ++ (WW nW hw lw kw wl_332 u333 wG_332)) := by rw [hu333]; exact Eq.mp (congrArg (fun z9 => va_D A z9) ((stR rfl).trans (congrArg (fun z9 => WQ hQ aQ kQ hw fQ_inside fQ_outside fQ_shut iQ_rows iQ_allRows iQ_columns ++ z9) (WW_sb (by omega) (wb kR_1))))) hD
            have b_u333 : ∀ q : Nat, 0 ≤ (u333 q).toInt ∧ (u333 q).toInt ≤ 1 := by rw [hu333]; exact fT_r b_wb_332 (by first | assumption | exact ⟨by omega, by omega⟩)
            have q_u333 : (u333 kR_1).toInt = (wb kR_1).toInt := by rw [hu333, fT_eq]
            clear hu333
            refine lv_aload_n hx hb dX6_exchange_269 rfl (lv_at hl 4 rfl) ?_
            refine va_get (D := (dC, dI)) (ci := 6) (v := .ref (hw 400)) (C := RX6) (T := TX6) (N := 13) hx hb hts iwsMX6_exchange_in6 hown hK hP 0 rfl rfl 4 (by decide) (hts (.fieldLink RX6 29 "OptimaWorks$Tableau" "under" "LOptimaWorks$Whole;") (by decide +kernel)) (fun _ h9 => h9) rfl dX6_exchange_270 ?_
            refine lv_aload_n hx hb dX6_exchange_273 rfl (lv_at hl 4 rfl) ?_
            refine va_get (D := (dC, dI)) (ci := 6) (v := .ref (hw 401)) (C := RX6) (T := TX6) (N := 13) hx hb hts iwsMX6_exchange_in6 hown hK hP 0 rfl rfl 8 (by decide) (hts (.fieldLink RX6 33 "OptimaWorks$Tableau" "turning" "LOptimaWorks$Whole;") (by decide +kernel)) (fun _ h9 => h9) rfl dX6_exchange_274 ?_
            have p9 : List.Perm (WQ hQ aQ kQ hw fQ_inside fQ_outside fQ_shut iQ_rows iQ_allRows iQ_columns ++ (WW nW hw lw kw wl_332 u333 wG_332)) ((WW nW hw lw kw wl_332 u333 wG_332) ++ (WQ hQ aQ kQ hw fQ_inside fQ_outside fQ_shut iQ_rows iQ_allRows iQ_columns)) := (List.perm_append_comm)
            have hPc := hP.mem (fun q h => p9.mem_iff.mpr (List.mem_append_left _ h))
            have hDc := (hD.perm p9).left
            have hKc : va_K (dC, dI) vwCl (tW kw) _ := hK.sub [4] rfl
            have hFc := freeG p9 hD hS hA
            refine va_callv (va_runV (As := [.ref (hw 401)]) (rest := []) ⟨hx, hb, hml, hown, hts⟩ (m_X8_copy l dC dI nW hw lw kw wl_332 u333 wG_332 400 401 b_wl_332 b_u333 (by first | with_reducible assumption | omega | (rw [iI_t (by omega) (by omega)]; omega) | decide | assumption) (by first | with_reducible assumption | omega | (rw [iI_t (by omega) (by omega)]; omega) | decide | assumption) H.size) (cwV 1 hts gwsMX6_exchange_1 rfl rfl rfl hd_yX8_copy_RX8 (by decide +kernel)) (fz_pre (va_recv hK hP (ci := 8) (q0 := 5 + (400)) rfl (apR rfl (WW_o (by omega)))) hPc hKc hDc) rfl rfl hl.1 rfl (lv_room (Nat.le_of_ble_eq_true rfl)) dX6_exchange_277 (by decide +kernel)) hS (fun q _ h => hFc q h) hFc (fun u t9_ H locs ht hvm hw9 hB9 hz1 hk1 hS => ?_)
            revert u hw9 hB9
            refine fz_p3 ?_
            intro wl_334 wb_334 wG_334 hw9 hB9
            try dsimp only at hw9 hB9
            revert hw9
            refine fz_a2 ?_
            intro b_wl_334 b_wb_334
            have p8 : List.Perm (WQ hQ aQ kQ hw fQ_inside fQ_outside fQ_shut iQ_rows iQ_allRows iQ_columns ++ (WW nW hw lw kw wl_334 wb_334 wG_334)) ((WW nW hw lw kw wl_334 wb_334 wG_334) ++ (WQ hQ aQ kQ hw fQ_inside fQ_outside fQ_shut iQ_rows iQ_allRows iQ_columns)) := (List.perm_append_comm)
            obtain ⟨hP, hD⟩ := frameG p9 p8 hP hD hk1 hFc (fz_P ht hB9.1) hB9.2
            have hP : va_P (dC, dI) vwCl (WQ hQ aQ kQ hw fQ_inside fQ_outside fQ_shut iQ_rows iQ_allRows iQ_columns ++ (WW nW hw lw kw wl_334 wb_334 wG_334)) H := hP
            have hD : va_D A (WQ hQ aQ kQ hw fQ_inside fQ_outside fQ_shut iQ_rows iQ_allRows iQ_columns ++ (WW nW hw lw kw wl_334 wb_334 wG_334)) := hD
            refine lv_aload_n hx hb dX6_exchange_280 rfl (lv_at hl 4 rfl) ?_
            refine va_get (D := (dC, dI)) (ci := 6) (v := .ref (aQ 1)) (C := RX6) (T := TX6) (N := 13) hx hb hts iwsMX6_exchange_in6 hown hK hP 0 rfl rfl 1 (by decide) (hts (.fieldLink RX6 17 "OptimaWorks$Tableau" "inside" "[I") (by decide +kernel)) (fun _ h9 => h9) rfl dX6_exchange_281 ?_
            refine lv_iload_n hx hb dX6_exchange_284 rfl (lv_at hl 5 rfl) ?_
            refine va_iald (cA := kQ 1) (n := 40) (f := fQ_inside) hx hb hK hP 2 1 rfl rfl (vp_in_iff.mpr ⟨b_p1.1, (Int.lt_of_le_of_lt (b_p1.2) (by decide))⟩) dX6_exchange_285 ?_
            refine lv_topi (fun v335 hv335 => ?_)
            clear hv335
            refine lv_istore hx hb dX6_exchange_286 hl (by decide) rfl (fun ls (hl : lv_has ls _ ([(6, .int v335), (5, .int k0_j155), (4, .int (wb kR_1)), (3, .ref (hw kR_1)), (0, .ref (hQ 0)), (1, .int p1), (2, .int p2)])) => ?_)
            refine lv_aload_n hx hb dX6_exchange_288 rfl (lv_at hl 4 rfl) ?_
            refine va_get (D := (dC, dI)) (ci := 6) (v := .ref (aQ 1)) (C := RX6) (T := TX6) (N := 13) hx hb hts iwsMX6_exchange_in6 hown hK hP 0 rfl rfl 1 (by decide) (hts (.fieldLink RX6 17 "OptimaWorks$Tableau" "inside" "[I") (by decide +kernel)) (fun _ h9 => h9) rfl dX6_exchange_289 ?_
            refine lv_iload_n hx hb dX6_exchange_292 rfl (lv_at hl 5 rfl) ?_
            refine lv_aload_n hx hb dX6_exchange_293 rfl (lv_at hl 4 rfl) ?_
            refine va_get (D := (dC, dI)) (ci := 6) (v := .ref (aQ 2)) (C := RX6) (T := TX6) (N := 13) hx hb hts iwsMX6_exchange_in6 hown hK hP 0 rfl rfl 2 (by decide) (hts (.fieldLink RX6 21 "OptimaWorks$Tableau" "outside" "[I") (by decide +kernel)) (fun _ h9 => h9) rfl dX6_exchange_294 ?_
            refine lv_iload_n hx hb dX6_exchange_297 rfl (lv_at hl 6 rfl) ?_
            refine va_iald (cA := kQ 2) (n := 41) (f := fQ_outside) hx hb hK hP 3 2 rfl rfl (vp_in_iff.mpr ⟨b_p2.1, (Int.lt_of_le_of_lt (b_p2.2) (by decide))⟩) dX6_exchange_298 ?_
            refine lv_topi (fun v336 hv336 => ?_)
            clear hv336
            refine va_iast (cA := kQ 1) (n := 40) (f := fQ_inside) hx hb hK hP hD hS 2 1 rfl rfl (vp_in_iff.mpr ⟨b_p1.1, (Int.lt_of_le_of_lt (b_p1.2) (by decide))⟩) dX6_exchange_299 (fun H locs hP hD hS => ?_)
            obtain ⟨u337, hu337⟩ : ∃ f9, f9 = upd fQ_inside (p1).toNatClampNeg v336 := ⟨_, rfl⟩
            have hP : va_P (dC, dI) vwCl (WQ hQ aQ kQ hw u337 fQ_outside fQ_shut iQ_rows iQ_allRows iQ_columns ++ (WW nW hw lw kw wl_334 wb_334 wG_334)) H := by rw [hu337]; exact hP
            have hD : va_D A (WQ hQ aQ kQ hw u337 fQ_outside fQ_shut iQ_rows iQ_allRows iQ_columns ++ (WW nW hw lw kw wl_334 wb_334 wG_334)) := by rw [hu337]; exact hD
            clear hu337
            refine lv_aload_n hx hb dX6_exchange_300 rfl (lv_at hl 4 rfl) ?_
            refine va_get (D := (dC, dI)) (ci := 6) (v := .ref (aQ 2)) (C := RX6) (T := TX6) (N := 13) hx hb hts iwsMX6_exchange_in6 hown hK hP 0 rfl rfl 2 (by decide) (hts (.fieldLink RX6 21 "OptimaWorks$Tableau" "outside" "[I") (by decide +kernel)) (fun _ h9 => h9) rfl dX6_exchange_301 ?_
            refine lv_iload_n hx hb dX6_exchange_304 rfl (lv_at hl 6 rfl) ?_
            refine lv_iload hx hb dX6_exchange_305 (lv_at hl 0 rfl) ?_
            refine va_iast (cA := kQ 2) (n := 41) (f := fQ_outside) hx hb hK hP hD hS 3 2 rfl rfl (vp_in_iff.mpr ⟨b_p2.1, (Int.lt_of_le_of_lt (b_p2.2) (by decide))⟩) dX6_exchange_307 (fun H locs hP hD hS => ?_)
            obtain ⟨u338, hu338⟩ : ∃ f9, f9 = upd fQ_outside (p2).toNatClampNeg v335 := ⟨_, rfl⟩
            have hP : va_P (dC, dI) vwCl (WQ hQ aQ kQ hw u337 u338 fQ_shut iQ_rows iQ_allRows iQ_columns ++ (WW nW hw lw kw wl_334 wb_334 wG_334)) H := by rw [hu338]; exact hP
            have hD : va_D A (WQ hQ aQ kQ hw u337 u338 fQ_shut iQ_rows iQ_allRows iQ_columns ++ (WW nW hw lw kw wl_334 wb_334 wG_334)) := by rw [hu338]; exact hD
            clear hu338
            refine W.widen (k := 0) (n := 0) (by decide +kernel) (by decide +kernel) ?_
            exact W.vret hx hb hr (fun t9_ ht hW => ⟨⟨(u337, u338, wl_334, wb_334, wG_334), rfl, ⟨b_wl_334, b_wb_334⟩, by rw [ht]; exact hP, hD⟩, hS.F ht⟩) hS.2.2 dX6_exchange_308
      · have t_59 : ¬ l6_x53.toInt ≥ iQ_allRows.toInt := toI_nge c_59 rfl rfl
        refine lv_aload_n hx hb dX6_exchange_62 rfl (lv_at hl 4 rfl) ?_
        refine lv_iload hx hb dX6_exchange_63 (lv_at hl 0 rfl) ?_
        refine lv_iload_n hx hb dX6_exchange_65 rfl (lv_at hl 6 rfl) ?_
        have hFc := allFree hD hS hA
        refine va_callr (va_runV (As := [.int l6_x53, .int p2]) (rest := []) ⟨hx, hb, hml, hown, hts⟩ (m_X6_cellAt l dC dI hQ aQ kQ hw fQ_inside fQ_outside fQ_shut iQ_rows iQ_allRows iQ_columns nW lw kw wl_x53 wb_x53 wG_x53 l6_x53 p2 (b_iQ_rows) (b_iQ_allRows) (b_iQ_columns) (by first | with_reducible assumption | omega | assumption) b_wl_x53 b_wb_x53 (by first | exact b_l6_x53 | with_reducible assumption | exact ⟨by omega, by omega⟩ | assumption) (b_p2) (by first | with_reducible assumption | omega | (rw [iI_t (by omega) (by omega)]; omega) | decide | assumption) (cell_ix b_tb (by omega) (by omega) (by omega) (by omega)) H.size) (cwV 2 hts gwsMX6_exchange_0 rfl rfl rfl hd_yX6_cellAt_RX6 (by decide +kernel)) (fz_pre (va_recv hK hP (ci := 6) (q0 := 0) rfl rfl) hP hK hD) rfl rfl hl.1 rfl (lv_room (Nat.le_of_ble_eq_true rfl)) dX6_exchange_66 (by decide +kernel)) hS (fun q _ h => hFc q h) hFc (fun kR_339 ra339 t9_ H locs ht hvm hw9 hB9 hz1 hk1 hS => ?_)
        revert hB9
        refine fz_a2 ?_
        intro hra hB9
        subst hra
        have f339_0 := hw9
        try dsimp only at f339_0
        have hP : va_P (dC, dI) vwCl (WQ hQ aQ kQ hw fQ_inside fQ_outside fQ_shut iQ_rows iQ_allRows iQ_columns ++ (WW nW hw lw kw wl_x53 wb_x53 wG_x53)) H := fz_P ht hB9.1
        have hD : va_D A (WQ hQ aQ kQ hw fQ_inside fQ_outside fQ_shut iQ_rows iQ_allRows iQ_columns ++ (WW nW hw lw kw wl_x53 wb_x53 wG_x53)) := hB9.2.weaken (fun _ q _ h => hFc q.1 h)
        refine lv_astore hx hb dX6_exchange_69 hl (by decide) rfl (fun ls (hl : lv_has ls _ ([(7, .ref (hw kR_339)), (6, .int l6_x53), (5, .int k0_j155), (4, .int (wb kR_1)), (3, .ref (hw kR_1)), (0, .ref (hQ 0)), (1, .int p1), (2, .int p2)])) => ?_)
        refine lv_iconst (v := 0) hx hb dX6_exchange_71 (by decide) ?_
        refine lv_istore hx hb dX6_exchange_72 hl (by decide) rfl (fun ls (hl : lv_has ls _ ([(8, .int 0), (7, .ref (hw kR_339)), (6, .int l6_x53), (5, .int k0_j155), (4, .int (wb kR_1)), (3, .ref (hw kR_1)), (0, .ref (hQ 0)), (1, .int p1), (2, .int p2)])) => ?_)
        have hl : lv_has _ _ ([(8, .int 0), (7, .ref (hw kR_339)), (6, .int l6_x53), (5, .int k0_j155), (4, .int (wb kR_1)), (3, .ref (hw kR_1)), (0, .ref (hQ 0)), (1, .int p1), (2, .int p2)]) := lv_sub hl [0, 1, 2, 3, 4, 5, 6, 7, 8] rfl
        refine (fun (loop : ∀ (n9 : Nat) (wl_x74 : Nat → Int32) (wb_x74 : Nat → Int32) (wG_x74 : Nat → Nat → Int64) (l8_x74 : Int32) (H : Heap) (locs : List Loc) (ls : Array Slot), (∀ q : Nat, 0 ≤ (wl_x74 q).toInt ∧ (wl_x74 q).toInt ≤ 14) → (∀ q : Nat, 0 ≤ (wb_x74 q).toInt ∧ (wb_x74 q).toInt ≤ 1) → (0 ≤ l8_x74.toInt ∧ l8_x74.toInt ≤ 41) → (41 - l8_x74.toInt < ((n9 : Nat) : Int)) → va_P (dC, dI) vwCl (WQ hQ aQ kQ hw fQ_inside fQ_outside fQ_shut iQ_rows iQ_allRows iQ_columns ++ (WW nW hw lw kw wl_x74 wb_x74 wG_x74)) H → va_D A (WQ hQ aQ kQ hw fQ_inside fQ_outside fQ_shut iQ_rows iQ_allRows iQ_columns ++ (WW nW hw lw kw wl_x74 wb_x74 wG_x74)) → va_S A s.heap H locs → lv_has ls 13 [(8, .int l8_x74), (7, .ref (hw kR_339)), (6, .int l6_x53), (5, .int k0_j155), (4, .int (wb kR_1)), (3, .ref (hw kR_1)), (0, .ref (hQ 0)), (1, .int p1), (2, .int p2)] → W p l e _ s m _ below meth c H locs 0 0 _ (F0 m 74 ls [])) => loop (42) wl_x53 wb_x53 wG_x53 0 _ _ _ b_wl_x53 b_wb_x53 (show 0 ≤ (0 : Int32).toInt ∧ (0 : Int32).toInt ≤ 41 from by decide) ((by have e9 : (0 : Int32).toInt = 0 := (by decide : (0 : Int32).toInt = 0); omega)) hP hD hS hl) ?_
        intro n9
        induction n9 with
        | zero => intro wl_x74 wb_x74 wG_x74 l8_x74 H locs ls b_wl_x74 b_wb_x74 b_l8_x74 hf9; exact False.elim (by omega)
        | succ n9 ihx74 =>
          intro wl_x74 wb_x74 wG_x74 l8_x74 H locs ls b_wl_x74 b_wb_x74 b_l8_x74 hfx74 hP hD hS hl
          refine lv_iload hx hb dX6_exchange_74 (lv_at hl 0 rfl) ?_
          refine lv_aload_n hx hb dX6_exchange_76 rfl (lv_at hl 6 rfl) ?_
          refine va_get (D := (dC, dI)) (ci := 6) (v := .int iQ_columns) (C := RX6) (T := TX6) (N := 13) hx hb hts iwsMX6_exchange_in6 hown hK hP 0 rfl rfl 7 (by decide) (hts (.fieldLink RX6 54 "OptimaWorks$Tableau" "columns" "I") (by decide +kernel)) (fun _ h9 => h9) rfl dX6_exchange_77 ?_
          refine W.cut (pc := 200) (fun H locs ls stk =>  stk = [] ∧ va_P (dC, dI) vwCl (WQ hQ aQ kQ hw fQ_inside fQ_outside fQ_shut iQ_rows iQ_allRows iQ_columns ++ (WW nW hw lw kw wl_x74 wb_x74 wG_x74)) H ∧ va_D A (WQ hQ aQ kQ hw fQ_inside fQ_outside fQ_shut iQ_rows iQ_allRows iQ_columns ++ (WW nW hw lw kw wl_x74 wb_x74 wG_x74)) ∧ va_S A s.heap H locs ∧ lv_has ls 13 [(8, .int l8_x74), (7, .ref (hw kR_339)), (6, .int l6_x53), (5, .int k0_j155), (4, .int (wb kR_1)), (3, .ref (hw kR_1)), (0, .ref (hQ 0)), (1, .int p1), (2, .int p2)]) (fun join304 => ?_) ?_
          · refine lv_icmp_gt (tgt := 200) hx hb dX6_exchange_80 (by decide) (fun c_80 => ?_) (fun c_80 => ?_)
            · have t_80 : l8_x74.toInt > iQ_columns.toInt := toI_gt c_80 rfl rfl
              have hl : lv_has _ _ ([(8, .int l8_x74), (7, .ref (hw kR_339)), (6, .int l6_x53), (5, .int k0_j155), (4, .int (wb kR_1)), (3, .ref (hw kR_1)), (0, .ref (hQ 0)), (1, .int p1), (2, .int p2)]) := lv_sub hl [0, 1, 2, 3, 4, 5, 6, 7, 8] rfl
              exact join304 _ _ _ _ ⟨rfl, hP, hD, hS, hl⟩
            · have t_80 : ¬ l8_x74.toInt > iQ_columns.toInt := toI_ngt c_80 rfl rfl
              refine lv_iload hx hb dX6_exchange_83 (lv_at hl 2 rfl) ?_
              refine lv_iload_n hx hb dX6_exchange_85 rfl (lv_at hl 7 rfl) ?_
              refine lv_icmp_eq (tgt := 200) hx hb dX6_exchange_86 (by decide) (fun c_86 => ?_) (fun c_86 => ?_)
              · have t_86 : l6_x53.toInt = p1.toInt := toI_eq c_86 rfl rfl
                have hl : lv_has _ _ ([(8, .int l8_x74), (7, .ref (hw kR_339)), (6, .int l6_x53), (5, .int k0_j155), (4, .int (wb kR_1)), (3, .ref (hw kR_1)), (0, .ref (hQ 0)), (1, .int p1), (2, .int p2)]) := lv_sub hl [0, 1, 2, 3, 4, 5, 6, 7, 8] rfl
                exact join304 _ _ _ _ ⟨rfl, hP, hD, hS, hl⟩
              · have t_86 : ¬ l6_x53.toInt = p1.toInt := toI_neq c_86 rfl rfl
                refine lv_aload_n hx hb dX6_exchange_89 rfl (lv_at hl 6 rfl) ?_
                refine lv_iload hx hb dX6_exchange_90 (lv_at hl 2 rfl) ?_
                refine lv_iload hx hb dX6_exchange_92 (lv_at hl 0 rfl) ?_
                have hFc := allFree hD hS hA
                refine va_callr (va_runV (As := [.int l6_x53, .int l8_x74]) (rest := []) ⟨hx, hb, hml, hown, hts⟩ (m_X6_cellAt l dC dI hQ aQ kQ hw fQ_inside fQ_outside fQ_shut iQ_rows iQ_allRows iQ_columns nW lw kw wl_x74 wb_x74 wG_x74 l6_x53 l8_x74 (b_iQ_rows) (b_iQ_allRows) (b_iQ_columns) (by first | with_reducible assumption | omega | assumption) b_wl_x74 b_wb_x74 (by first | exact b_l6_x53 | with_reducible assumption | exact ⟨by omega, by omega⟩ | assumption) (by first | exact b_l8_x74 | with_reducible assumption | exact ⟨by omega, by omega⟩ | assumption) (by first | with_reducible assumption | omega | (rw [iI_t (by omega) (by omega)]; omega) | decide | assumption) (cell_ix b_tb (by omega) (by omega) (by omega) (by omega)) H.size) (cwV 2 hts gwsMX6_exchange_0 rfl rfl rfl hd_yX6_cellAt_RX6 (by decide +kernel)) (fz_pre (va_recv hK hP (ci := 6) (q0 := 0) rfl rfl) hP hK hD) rfl rfl hl.1 rfl (lv_room (Nat.le_of_ble_eq_true rfl)) dX6_exchange_94 (by decide +kernel)) hS (fun q _ h => hFc q h) hFc (fun kR_376 ra376 t9_ H locs ht hvm hw9 hB9 hz1 hk1 hS => ?_)
                revert hB9
                refine fz_a2 ?_
                intro hra hB9
                subst hra
                have f376_0 := hw9
                try dsimp only at f376_0
                have hP : va_P (dC, dI) vwCl (WQ hQ aQ kQ hw fQ_inside fQ_outside fQ_shut iQ_rows iQ_allRows iQ_columns ++ (WW nW hw lw kw wl_x74 wb_x74 wG_x74)) H := fz_P ht hB9.1
                have hD : va_D A (WQ hQ aQ kQ hw fQ_inside fQ_outside fQ_shut iQ_rows iQ_allRows iQ_columns ++ (WW nW hw lw kw wl_x74 wb_x74 wG_x74)) := hB9.2.weaken (fun _ q _ h => hFc q.1 h)
                refine lv_astore hx hb dX6_exchange_97 hl (by decide) rfl (fun ls (hl : lv_has ls _ ([(9, .ref (hw kR_376)), (8, .int l8_x74), (7, .ref (hw kR_339)), (6, .int l6_x53), (5, .int k0_j155), (4, .int (wb kR_1)), (3, .ref (hw kR_1)), (0, .ref (hQ 0)), (1, .int p1), (2, .int p2)])) => ?_)
                refine lv_aload_n hx hb dX6_exchange_99 rfl (lv_at hl 7 rfl) ?_
                refine lv_iload_n hx hb dX6_exchange_100 rfl (lv_at hl 8 rfl) ?_
                refine lv_iload hx hb dX6_exchange_101 (lv_at hl 1 rfl) ?_
                have hFc := allFree hD hS hA
                refine va_callr (va_runV (As := [.int p1, .int l8_x74]) (rest := []) ⟨hx, hb, hml, hown, hts⟩ (m_X6_cellAt l dC dI hQ aQ kQ hw fQ_inside fQ_outside fQ_shut iQ_rows iQ_allRows iQ_columns nW lw kw wl_x74 wb_x74 wG_x74 p1 l8_x74 (b_iQ_rows) (b_iQ_allRows) (b_iQ_columns) (by first | with_reducible assumption | omega | assumption) b_wl_x74 b_wb_x74 (b_p1) (by first | exact b_l8_x74 | with_reducible assumption | exact ⟨by omega, by omega⟩ | assumption) (by first | with_reducible assumption | omega | (rw [iI_t (by omega) (by omega)]; omega) | decide | assumption) (hrow.ix (by omega) (by omega)) H.size) (cwV 2 hts gwsMX6_exchange_0 rfl rfl rfl hd_yX6_cellAt_RX6 (by decide +kernel)) (fz_pre (va_recv hK hP (ci := 6) (q0 := 0) rfl rfl) hP hK hD) rfl rfl hl.1 rfl (lv_room (Nat.le_of_ble_eq_true rfl)) dX6_exchange_103 (by decide +kernel)) hS (fun q _ h => hFc q h) hFc (fun kR_377 ra377 t9_ H locs ht hvm hw9 hB9 hz1 hk1 hS => ?_)
                revert hB9
                refine fz_a2 ?_
                intro hra hB9
                subst hra
                have f377_0 := hw9
                try dsimp only at f377_0
                have hP : va_P (dC, dI) vwCl (WQ hQ aQ kQ hw fQ_inside fQ_outside fQ_shut iQ_rows iQ_allRows iQ_columns ++ (WW nW hw lw kw wl_x74 wb_x74 wG_x74)) H := fz_P ht hB9.1
                have hD : va_D A (WQ hQ aQ kQ hw fQ_inside fQ_outside fQ_shut iQ_rows iQ_allRows iQ_columns ++ (WW nW hw lw kw wl_x74 wb_x74 wG_x74)) := hB9.2.weaken (fun _ q _ h => hFc q.1 h)
                refine lv_astore hx hb dX6_exchange_106 hl (by decide) rfl (fun ls (hl : lv_has ls _ ([(10, .ref (hw kR_377)), (9, .ref (hw kR_376)), (8, .int l8_x74), (7, .ref (hw kR_339)), (6, .int l6_x53), (5, .int k0_j155), (4, .int (wb kR_1)), (3, .ref (hw kR_1)), (0, .ref (hQ 0)), (1, .int p1), (2, .int p2)])) => ?_)
                refine lv_aload hx hb dX6_exchange_108 (lv_at hl 3 rfl) ?_
                refine va_get (D := (dC, dI)) (ci := 8) (v := .int (wl_x74 kR_339)) (C := RX8) (T := TX8) (N := 3) hx hb hts iwsMX6_exchange_in8 hown hK hP (5 + (kR_339)) (apR rfl (WW_o (by omega))) rfl 1 (by decide) (hts (.fieldLink RX6 76 "OptimaWorks$Whole" "length" "I") (by decide +kernel)) (fun _ h9 => h9) rfl dX6_exchange_110 ?_
                have br110 := b_wl_x74 kR_339
                refine W.cut (pc := 129) (fun H locs ls stk => ∃ (k0_j305 : Int32), (0 ≤ k0_j305.toInt ∧ k0_j305.toInt ≤ 1) ∧  stk = [.int k0_j305] ∧ va_P (dC, dI) vwCl (WQ hQ aQ kQ hw fQ_inside fQ_outside fQ_shut iQ_rows iQ_allRows iQ_columns ++ (WW nW hw lw kw wl_x74 wb_x74 wG_x74)) H ∧ va_D A (WQ hQ aQ kQ hw fQ_inside fQ_outside fQ_shut iQ_rows iQ_allRows iQ_columns ++ (WW nW hw lw kw wl_x74 wb_x74 wG_x74)) ∧ va_S A s.heap H locs ∧ lv_has ls 13 [(10, .ref (hw kR_377)), (9, .ref (hw kR_376)), (8, .int l8_x74), (7, .ref (hw kR_339)), (6, .int l6_x53), (5, .int k0_j155), (4, .int (wb kR_1)), (3, .ref (hw kR_1)), (0, .ref (hQ 0)), (1, .int p1), (2, .int p2)]) (fun join305 => ?_) ?_
                · refine lv_if_eq (tgt := 124) hx hb dX6_exchange_113 (by decide) (fun c_113 => ?_) (fun c_113 => ?_)
                  · have t_113 : (wl_x74 kR_339).toInt = 0 := toI_eq c_113 rfl (by decide : (0 : Int32).toInt = 0)
                    refine lv_iconst (v := 1) hx hb dX6_exchange_124 (by decide) ?_
                    refine lv_goto (tgt := 129) hx hb dX6_exchange_125 (by decide) ?_
                    have hl : lv_has _ _ ([(10, .ref (hw kR_377)), (9, .ref (hw kR_376)), (8, .int l8_x74), (7, .ref (hw kR_339)), (6, .int l6_x53), (5, .int k0_j155), (4, .int (wb kR_1)), (3, .ref (hw kR_1)), (0, .ref (hQ 0)), (1, .int p1), (2, .int p2)]) := lv_sub hl [0, 1, 2, 3, 4, 5, 6, 7, 8, 9, 10] rfl
                    exact join305 _ _ _ _ ⟨1, (show 0 ≤ (1 : Int32).toInt ∧ (1 : Int32).toInt ≤ 1 from by decide), rfl, hP, hD, hS, hl⟩
                  · have t_113 : ¬ (wl_x74 kR_339).toInt = 0 := toI_neq c_113 rfl (by decide : (0 : Int32).toInt = 0)
                    refine lv_aload hx hb dX6_exchange_116 (lv_at hl 0 rfl) ?_
                    refine va_get (D := (dC, dI)) (ci := 8) (v := .int (wl_x74 kR_377)) (C := RX8) (T := TX8) (N := 3) hx hb hts iwsMX6_exchange_in8 hown hK hP (5 + (kR_377)) (apR rfl (WW_o (by omega))) rfl 1 (by decide) (hts (.fieldLink RX6 76 "OptimaWorks$Whole" "length" "I") (by decide +kernel)) (fun _ h9 => h9) rfl dX6_exchange_118 ?_
                    have br118 := b_wl_x74 kR_377
                    refine lv_if_ne (tgt := 128) hx hb dX6_exchange_121 (by decide) (fun c_121 => ?_) (fun c_121 => ?_)
                    · have t_121 : (wl_x74 kR_377).toInt ≠ 0 := toI_ne c_121 rfl (by decide : (0 : Int32).toInt = 0)
                      refine lv_iconst (v := 0) hx hb dX6_exchange_128 (by decide) ?_
                      have hl : lv_has _ _ ([(10, .ref (hw kR_377)), (9, .ref (hw kR_376)), (8, .int l8_x74), (7, .ref (hw kR_339)), (6, .int l6_x53), (5, .int k0_j155), (4, .int (wb kR_1)), (3, .ref (hw kR_1)), (0, .ref (hQ 0)), (1, .int p1), (2, .int p2)]) := lv_sub hl [0, 1, 2, 3, 4, 5, 6, 7, 8, 9, 10] rfl
                      exact join305 _ _ _ _ ⟨0, (show 0 ≤ (0 : Int32).toInt ∧ (0 : Int32).toInt ≤ 1 from by decide), rfl, hP, hD, hS, hl⟩
                    · have t_121 : (wl_x74 kR_377).toInt = 0 := toI_nne c_121 rfl (by decide : (0 : Int32).toInt = 0)
                      refine lv_iconst (v := 1) hx hb dX6_exchange_124 (by decide) ?_
                      refine lv_goto (tgt := 129) hx hb dX6_exchange_125 (by decide) ?_
                      have hl : lv_has _ _ ([(10, .ref (hw kR_377)), (9, .ref (hw kR_376)), (8, .int l8_x74), (7, .ref (hw kR_339)), (6, .int l6_x53), (5, .int k0_j155), (4, .int (wb kR_1)), (3, .ref (hw kR_1)), (0, .ref (hQ 0)), (1, .int p1), (2, .int p2)]) := lv_sub hl [0, 1, 2, 3, 4, 5, 6, 7, 8, 9, 10] rfl
                      exact join305 _ _ _ _ ⟨1, (show 0 ≤ (1 : Int32).toInt ∧ (1 : Int32).toInt ≤ 1 from by decide), rfl, hP, hD, hS, hl⟩
                · rintro H locs ls stk ⟨k0_j305, b_k0_j305, rfl, hP, hD, hS, hl⟩
                  refine lv_istore hx hb dX6_exchange_129 hl (by decide) rfl (fun ls (hl : lv_has ls _ ([(11, .int k0_j305), (10, .ref (hw kR_377)), (9, .ref (hw kR_376)), (8, .int l8_x74), (7, .ref (hw kR_339)), (6, .int l6_x53), (5, .int k0_j155), (4, .int (wb kR_1)), (3, .ref (hw kR_1)), (0, .ref (hQ 0)), (1, .int p1), (2, .int p2)])) => ?_)
                  refine lv_iload hx hb dX6_exchange_131 (lv_at hl 0 rfl) ?_
                  refine W.cut (pc := 154) (fun H locs ls stk => ∃ (k0_j306 : Int32), (0 ≤ k0_j306.toInt ∧ k0_j306.toInt ≤ 1) ∧  stk = [.int k0_j306] ∧ va_P (dC, dI) vwCl (WQ hQ aQ kQ hw fQ_inside fQ_outside fQ_shut iQ_rows iQ_allRows iQ_columns ++ (WW nW hw lw kw wl_x74 wb_x74 wG_x74)) H ∧ va_D A (WQ hQ aQ kQ hw fQ_inside fQ_outside fQ_shut iQ_rows iQ_allRows iQ_columns ++ (WW nW hw lw kw wl_x74 wb_x74 wG_x74)) ∧ va_S A s.heap H locs ∧ lv_has ls 13 [(11, .int k0_j305), (10, .ref (hw kR_377)), (9, .ref (hw kR_376)), (8, .int l8_x74), (7, .ref (hw kR_339)), (6, .int l6_x53), (5, .int k0_j155), (4, .int (wb kR_1)), (3, .ref (hw kR_1)), (0, .ref (hQ 0)), (1, .int p1), (2, .int p2)]) (fun join306 => ?_) ?_
                  · refine lv_if_eq (tgt := 153) hx hb dX6_exchange_133 (by decide) (fun c_133 => ?_) (fun c_133 => ?_)
                    · have t_133 : k0_j305.toInt = 0 := toI_eq c_133 rfl (by decide : (0 : Int32).toInt = 0)
                      refine lv_iconst (v := 0) hx hb dX6_exchange_153 (by decide) ?_
                      have hl : lv_has _ _ ([(11, .int k0_j305), (10, .ref (hw kR_377)), (9, .ref (hw kR_376)), (8, .int l8_x74), (7, .ref (hw kR_339)), (6, .int l6_x53), (5, .int k0_j155), (4, .int (wb kR_1)), (3, .ref (hw kR_1)), (0, .ref (hQ 0)), (1, .int p1), (2, .int p2)]) := lv_sub hl [0, 1, 2, 3, 4, 5, 6, 7, 8, 9, 10, 11] rfl
                      exact join306 _ _ _ _ ⟨0, (show 0 ≤ (0 : Int32).toInt ∧ (0 : Int32).toInt ≤ 1 from by decide), rfl, hP, hD, hS, hl⟩
                    · have t_133 : ¬ k0_j305.toInt = 0 := toI_neq c_133 rfl (by decide : (0 : Int32).toInt = 0)
                      refine lv_iload hx hb dX6_exchange_136 (lv_at hl 6 rfl) ?_
                      refine lv_if_ne (tgt := 149) hx hb dX6_exchange_138 (by decide) (fun c_138 => ?_) (fun c_138 => ?_)
                      · have t_138 : k0_j155.toInt ≠ 0 := toI_ne c_138 rfl (by decide : (0 : Int32).toInt = 0)
                        refine lv_iconst (v := 1) hx hb dX6_exchange_149 (by decide) ?_
                        refine lv_goto (tgt := 154) hx hb dX6_exchange_150 (by decide) ?_
                        have hl : lv_has _ _ ([(11, .int k0_j305), (10, .ref (hw kR_377)), (9, .ref (hw kR_376)), (8, .int l8_x74), (7, .ref (hw kR_339)), (6, .int l6_x53), (5, .int k0_j155), (4, .int (wb kR_1)), (3, .ref (hw kR_1)), (0, .ref (hQ 0)), (1, .int p1), (2, .int p2)]) := lv_sub hl [0, 1, 2, 3, 4, 5, 6, 7, 8, 9, 10, 11] rfl
                        exact join306 _ _ _ _ ⟨1, (show 0 ≤ (1 : Int32).toInt ∧ (1 : Int32).toInt ≤ 1 from by decide), rfl, hP, hD, hS, hl⟩
                      · have t_138 : k0_j155.toInt = 0 := toI_nne c_138 rfl (by decide : (0 : Int32).toInt = 0)
                        refine lv_aload hx hb dX6_exchange_141 (lv_at hl 2 rfl) ?_
                        refine va_get (D := (dC, dI)) (ci := 8) (v := .int (wl_x74 kR_376)) (C := RX8) (T := TX8) (N := 3) hx hb hts iwsMX6_exchange_in8 hown hK hP (5 + (kR_376)) (apR rfl (WW_o (by omega))) rfl 1 (by decide) (hts (.fieldLink RX6 76 "OptimaWorks$Whole" "length" "I") (by decide +kernel)) (fun _ h9 => h9) rfl dX6_exchange_143 ?_
                        have br143 := b_wl_x74 kR_376
                        refine lv_if_ne (tgt := 153) hx hb dX6_exchange_146 (by decide) (fun c_146 => ?_) (fun c_146 => ?_)
                        · have t_146 : (wl_x74 kR_376).toInt ≠ 0 := toI_ne c_146 rfl (by decide : (0 : Int32).toInt = 0)
                          refine lv_iconst (v := 0) hx hb dX6_exchange_153 (by decide) ?_
                          have hl : lv_has _ _ ([(11, .int k0_j305), (10, .ref (hw kR_377)), (9, .ref (hw kR_376)), (8, .int l8_x74), (7, .ref (hw kR_339)), (6, .int l6_x53), (5, .int k0_j155), (4, .int (wb kR_1)), (3, .ref (hw kR_1)), (0, .ref (hQ 0)), (1, .int p1), (2, .int p2)]) := lv_sub hl [0, 1, 2, 3, 4, 5, 6, 7, 8, 9, 10, 11] rfl
                          exact join306 _ _ _ _ ⟨0, (show 0 ≤ (0 : Int32).toInt ∧ (0 : Int32).toInt ≤ 1 from by decide), rfl, hP, hD, hS, hl⟩
                        · have t_146 : (wl_x74 kR_376).toInt = 0 := toI_nne c_146 rfl (by decide : (0 : Int32).toInt = 0)
                          refine lv_iconst (v := 1) hx hb dX6_exchange_149 (by decide) ?_
                          refine lv_goto (tgt := 154) hx hb dX6_exchange_150 (by decide) ?_
                          have hl : lv_has _ _ ([(11, .int k0_j305), (10, .ref (hw kR_377)), (9, .ref (hw kR_376)), (8, .int l8_x74), (7, .ref (hw kR_339)), (6, .int l6_x53), (5, .int k0_j155), (4, .int (wb kR_1)), (3, .ref (hw kR_1)), (0, .ref (hQ 0)), (1, .int p1), (2, .int p2)]) := lv_sub hl [0, 1, 2, 3, 4, 5, 6, 7, 8, 9, 10, 11] rfl
                          exact join306 _ _ _ _ ⟨1, (show 0 ≤ (1 : Int32).toInt ∧ (1 : Int32).toInt ≤ 1 from by decide), rfl, hP, hD, hS, hl⟩
                  · rintro H locs ls stk ⟨k0_j306, b_k0_j306, rfl, hP, hD, hS, hl⟩
                    refine lv_istore hx hb dX6_exchange_154 hl (by decide) rfl (fun ls (hl : lv_has ls _ ([(12, .int k0_j306), (11, .int k0_j305), (10, .ref (hw kR_377)), (9, .ref (hw kR_376)), (8, .int l8_x74), (7, .ref (hw kR_339)), (6, .int l6_x53), (5, .int k0_j155), (4, .int (wb kR_1)), (3, .ref (hw kR_1)), (0, .ref (hQ 0)), (1, .int p1), (2, .int p2)])) => ?_)
                    refine lv_iload hx hb dX6_exchange_156 (lv_at hl 4 rfl) ?_
                    refine lv_iload_n hx hb dX6_exchange_158 rfl (lv_at hl 12 rfl) ?_
                    refine W.cut (pc := 194) (fun H locs ls stk => ∃ (wl_j307 : Nat → Int32) (wb_j307 : Nat → Int32) (wG_j307 : Nat → Nat → Int64), (∀ q : Nat, 0 ≤ (wl_j307 q).toInt ∧ (wl_j307 q).toInt ≤ 14) ∧ (∀ q : Nat, 0 ≤ (wb_j307 q).toInt ∧ (wb_j307 q).toInt ≤ 1) ∧  stk = [] ∧ va_P (dC, dI) vwCl (WQ hQ aQ kQ hw fQ_inside fQ_outside fQ_shut iQ_rows iQ_allRows iQ_columns ++ (WW nW hw lw kw wl_j307 wb_j307 wG_j307)) H ∧ va_D A (WQ hQ aQ kQ hw fQ_inside fQ_outside fQ_shut iQ_rows iQ_allRows iQ_columns ++ (WW nW hw lw kw wl_j307 wb_j307 wG_j307)) ∧ va_S A s.heap H locs ∧ lv_has ls 13 [(12, .int k0_j306), (11, .int k0_j305), (10, .ref (hw kR_377)), (9, .ref (hw kR_376)), (8, .int l8_x74), (7, .ref (hw kR_339)), (6, .int l6_x53), (5, .int k0_j155), (4, .int (wb kR_1)), (3, .ref (hw kR_1)), (0, .ref (hQ 0)), (1, .int p1), (2, .int p2)]) (fun join307 => ?_) ?_
                    · refine lv_icmp_eq (tgt := 194) hx hb dX6_exchange_159 (by decide) (fun c_159 => ?_) (fun c_159 => ?_)
                      · have t_159 : l8_x74.toInt = p2.toInt := toI_eq c_159 rfl rfl
                        have hl : lv_has _ _ ([(12, .int k0_j306), (11, .int k0_j305), (10, .ref (hw kR_377)), (9, .ref (hw kR_376)), (8, .int l8_x74), (7, .ref (hw kR_339)), (6, .int l6_x53), (5, .int k0_j155), (4, .int (wb kR_1)), (3, .ref (hw kR_1)), (0, .ref (hQ 0)), (1, .int p1), (2, .int p2)]) := lv_sub hl [0, 1, 2, 3, 4, 5, 6, 7, 8, 9, 10, 11, 12] rfl
                        exact join307 _ _ _ _ ⟨wl_x74, wb_x74, wG_x74, b_wl_x74, b_wb_x74, rfl, hP, hD, hS, hl⟩
                      · have t_159 : ¬ l8_x74.toInt = p2.toInt := toI_neq c_159 rfl rfl
                        refine lv_iload hx hb dX6_exchange_162 (lv_at hl 0 rfl) ?_
                        refine lv_if_ne (tgt := 194) hx hb dX6_exchange_164 (by decide) (fun c_164 => ?_) (fun c_164 => ?_)
                        · have t_164 : k0_j306.toInt ≠ 0 := toI_ne c_164 rfl (by decide : (0 : Int32).toInt = 0)
                          have hl : lv_has _ _ ([(12, .int k0_j306), (11, .int k0_j305), (10, .ref (hw kR_377)), (9, .ref (hw kR_376)), (8, .int l8_x74), (7, .ref (hw kR_339)), (6, .int l6_x53), (5, .int k0_j155), (4, .int (wb kR_1)), (3, .ref (hw kR_1)), (0, .ref (hQ 0)), (1, .int p1), (2, .int p2)]) := lv_sub hl [0, 1, 2, 3, 4, 5, 6, 7, 8, 9, 10, 11, 12] rfl
                          exact join307 _ _ _ _ ⟨wl_x74, wb_x74, wG_x74, b_wl_x74, b_wb_x74, rfl, hP, hD, hS, hl⟩
                        · have t_164 : k0_j306.toInt = 0 := toI_nne c_164 rfl (by decide : (0 : Int32).toInt = 0)
                          refine lv_iload hx hb dX6_exchange_167 (lv_at hl 4 rfl) ?_
                          refine lv_if_eq (tgt := 182) hx hb dX6_exchange_169 (by decide) (fun c_169 => ?_) (fun c_169 => ?_)
                          · have t_169 : l8_x74.toInt = 0 := toI_eq c_169 rfl (by decide : (0 : Int32).toInt = 0)
                            refine lv_aload_n hx hb dX6_exchange_182 rfl (lv_at hl 10 rfl) ?_
                            refine lv_aload hx hb dX6_exchange_183 (lv_at hl 3 rfl) ?_
                            refine lv_aload hx hb dX6_exchange_185 (lv_at hl 5 rfl) ?_
                            refine lv_aload hx hb dX6_exchange_187 (lv_at hl 2 rfl) ?_
                            refine lv_iload hx hb dX6_exchange_189 (lv_at hl 8 rfl) ?_
                            have hFc := allFree hD hS hA
                            refine va_callv (va_runV (As := [.ref (hw kR_376), .ref (hw kR_339), .ref (hw kR_377), .int (wb kR_1)]) (rest := []) ⟨hx, hb, hml, hown, hts⟩ (m_X6_changeCell l dC dI hQ aQ kQ hw fQ_inside fQ_outside fQ_shut iQ_rows iQ_allRows iQ_columns nW lw kw wl_x74 wb_x74 wG_x74 kR_376 kR_339 kR_377 (wb kR_1) (b_iQ_rows) (b_iQ_allRows) (b_iQ_columns) (by first | with_reducible assumption | omega | assumption) b_wl_x74 b_wb_x74 (by first | with_reducible assumption | omega | (rw [iI_t (by omega) (by omega)]; omega) | decide | assumption) (by first | with_reducible assumption | omega | (rw [iI_t (by omega) (by omega)]; omega) | decide | assumption) (by first | with_reducible assumption | omega | (rw [iI_t (by omega) (by omega)]; omega) | decide | assumption) (by first | with_reducible assumption | omega | (rw [iI_t (by omega) (by omega)]; omega) | decide | assumption) H.size) (cwV 4 hts gwsMX6_exchange_3 rfl rfl rfl hd_yX6_changeCell_RX6 (by decide +kernel)) (fz_pre (va_recv hK hP (ci := 6) (q0 := 0) rfl rfl) hP hK hD) rfl rfl hl.1 rfl (lv_room (Nat.le_of_ble_eq_true rfl)) dX6_exchange_191 (by decide +kernel)) hS (fun q _ h => hFc q h) hFc (fun u t9_ H locs ht hvm hw9 hB9 hz1 hk1 hS => ?_)
                            revert u hw9 hB9
                            refine fz_p3 ?_
                            intro wl_381 wb_381 wG_381 hw9 hB9
                            try dsimp only at hw9 hB9
                            revert hw9
                            refine fz_a2 ?_
                            intro b_wl_381 b_wb_381
                            have hP : va_P (dC, dI) vwCl (WQ hQ aQ kQ hw fQ_inside fQ_outside fQ_shut iQ_rows iQ_allRows iQ_columns ++ (WW nW hw lw kw wl_381 wb_381 wG_381)) H := fz_P ht hB9.1
                            have hD : va_D A (WQ hQ aQ kQ hw fQ_inside fQ_outside fQ_shut iQ_rows iQ_allRows iQ_columns ++ (WW nW hw lw kw wl_381 wb_381 wG_381)) := hB9.2.weaken (fun _ q _ h => hFc q.1 h)
                            have hl : lv_has _ _ ([(12, .int k0_j306), (11, .int k0_j305), (10, .ref (hw kR_377)), (9, .ref (hw kR_376)), (8, .int l8_x74), (7, .ref (hw kR_339)), (6, .int l6_x53), (5, .int k0_j155), (4, .int (wb kR_1)), (3, .ref (hw kR_1)), (0, .ref (hQ 0)), (1, .int p1), (2, .int p2)]) := lv_sub hl [0, 1, 2, 3, 4, 5, 6, 7, 8, 9, 10, 11, 12] rfl
                            exact join307 _ _ _ _ ⟨wl_381, wb_381, wG_381, b_wl_381, b_wb_381, rfl, hP, hD, hS, hl⟩
                          · have t_169 : ¬ l8_x74.toInt = 0 := toI_neq c_169 rfl (by decide : (0 : Int32).toInt = 0)
                            refine lv_aload_n hx hb dX6_exchange_172 rfl (lv_at hl 10 rfl) ?_
                            refine va_get (D := (dC, dI)) (ci := 6) (v := .ref (aQ 3)) (C := RX6) (T := TX6) (N := 13) hx hb hts iwsMX6_exchange_in6 hown hK hP 0 rfl rfl 3 (by decide) (hts (.fieldLink RX6 24 "OptimaWorks$Tableau" "shut" "[Z") (by decide +kernel)) (fun _ h9 => h9) rfl dX6_exchange_173 ?_
                            refine lv_iload hx hb dX6_exchange_176 (lv_at hl 4 rfl) ?_
                            refine va_zald (cA := kQ 3) (n := 41) (f := fQ_shut) hx hb hK hP 4 3 rfl rfl (vp_in_iff.mpr ⟨b_l8_x74.1, (by omega)⟩) dX6_exchange_178 ?_
                            refine lv_topi (fun v382 hv382 => ?_)
                            clear hv382
                            refine lv_if_ne (tgt := 194) hx hb dX6_exchange_179 (by decide) (fun c_179 => ?_) (fun c_179 => ?_)
                            · have t_179 : v382.toInt ≠ 0 := toI_ne c_179 rfl (by decide : (0 : Int32).toInt = 0)
                              have hl : lv_has _ _ ([(12, .int k0_j306), (11, .int k0_j305), (10, .ref (hw kR_377)), (9, .ref (hw kR_376)), (8, .int l8_x74), (7, .ref (hw kR_339)), (6, .int l6_x53), (5, .int k0_j155), (4, .int (wb kR_1)), (3, .ref (hw kR_1)), (0, .ref (hQ 0)), (1, .int p1), (2, .int p2)]) := lv_sub hl [0, 1, 2, 3, 4, 5, 6, 7, 8, 9, 10, 11, 12] rfl
                              exact join307 _ _ _ _ ⟨wl_x74, wb_x74, wG_x74, b_wl_x74, b_wb_x74, rfl, hP, hD, hS, hl⟩
                            · have t_179 : v382.toInt = 0 := toI_nne c_179 rfl (by decide : (0 : Int32).toInt = 0)
                              refine lv_aload_n hx hb dX6_exchange_182 rfl (lv_at hl 10 rfl) ?_
                              refine lv_aload hx hb dX6_exchange_183 (lv_at hl 3 rfl) ?_
                              refine lv_aload hx hb dX6_exchange_185 (lv_at hl 5 rfl) ?_
                              refine lv_aload hx hb dX6_exchange_187 (lv_at hl 2 rfl) ?_
                              refine lv_iload hx hb dX6_exchange_189 (lv_at hl 8 rfl) ?_
                              have hFc := allFree hD hS hA
                              refine va_callv (va_runV (As := [.ref (hw kR_376), .ref (hw kR_339), .ref (hw kR_377), .int (wb kR_1)]) (rest := []) ⟨hx, hb, hml, hown, hts⟩ (m_X6_changeCell l dC dI hQ aQ kQ hw fQ_inside fQ_outside fQ_shut iQ_rows iQ_allRows iQ_columns nW lw kw wl_x74 wb_x74 wG_x74 kR_376 kR_339 kR_377 (wb kR_1) (b_iQ_rows) (b_iQ_allRows) (b_iQ_columns) (by first | with_reducible assumption | omega | assumption) b_wl_x74 b_wb_x74 (by first | with_reducible assumption | omega | (rw [iI_t (by omega) (by omega)]; omega) | decide | assumption) (by first | with_reducible assumption | omega | (rw [iI_t (by omega) (by omega)]; omega) | decide | assumption) (by first | with_reducible assumption | omega | (rw [iI_t (by omega) (by omega)]; omega) | decide | assumption) (by first | with_reducible assumption | omega | (rw [iI_t (by omega) (by omega)]; omega) | decide | assumption) H.size) (cwV 4 hts gwsMX6_exchange_3 rfl rfl rfl hd_yX6_changeCell_RX6 (by decide +kernel)) (fz_pre (va_recv hK hP (ci := 6) (q0 := 0) rfl rfl) hP hK hD) rfl rfl hl.1 rfl (lv_room (Nat.le_of_ble_eq_true rfl)) dX6_exchange_191 (by decide +kernel)) hS (fun q _ h => hFc q h) hFc (fun u t9_ H locs ht hvm hw9 hB9 hz1 hk1 hS => ?_)
                              revert u hw9 hB9
                              refine fz_p3 ?_
                              intro wl_383 wb_383 wG_383 hw9 hB9
                              try dsimp only at hw9 hB9
                              revert hw9
                              refine fz_a2 ?_
                              intro b_wl_383 b_wb_383
                              have hP : va_P (dC, dI) vwCl (WQ hQ aQ kQ hw fQ_inside fQ_outside fQ_shut iQ_rows iQ_allRows iQ_columns ++ (WW nW hw lw kw wl_383 wb_383 wG_383)) H := fz_P ht hB9.1
                              have hD : va_D A (WQ hQ aQ kQ hw fQ_inside fQ_outside fQ_shut iQ_rows iQ_allRows iQ_columns ++ (WW nW hw lw kw wl_383 wb_383 wG_383)) := hB9.2.weaken (fun _ q _ h => hFc q.1 h)
                              have hl : lv_has _ _ ([(12, .int k0_j306), (11, .int k0_j305), (10, .ref (hw kR_377)), (9, .ref (hw kR_376)), (8, .int l8_x74), (7, .ref (hw kR_339)), (6, .int l6_x53), (5, .int k0_j155), (4, .int (wb kR_1)), (3, .ref (hw kR_1)), (0, .ref (hQ 0)), (1, .int p1), (2, .int p2)]) := lv_sub hl [0, 1, 2, 3, 4, 5, 6, 7, 8, 9, 10, 11, 12] rfl
                              exact join307 _ _ _ _ ⟨wl_383, wb_383, wG_383, b_wl_383, b_wb_383, rfl, hP, hD, hS, hl⟩
                    · rintro H locs ls stk ⟨wl_j307, wb_j307, wG_j307, b_wl_j307, b_wb_j307, rfl, hP, hD, hS, hl⟩
                      refine lv_iinc (v := (iI (l8_x74.toInt + 1))) hx hb dX6_exchange_194 hl (k := 4) rfl (iI_add2 (iI_of _) (by decide : (1 : Int32) = iI 1)) (by decide) rfl (fun ls (hl : lv_has ls _ ([(8, .int (iI (l8_x74.toInt + 1))), (12, .int k0_j306), (11, .int k0_j305), (10, .ref (hw kR_377)), (9, .ref (hw kR_376)), (7, .ref (hw kR_339)), (6, .int l6_x53), (5, .int k0_j155), (4, .int (wb kR_1)), (3, .ref (hw kR_1)), (0, .ref (hQ 0)), (1, .int p1), (2, .int p2)])) => ?_)
                      refine lv_goto (tgt := 74) hx hb dX6_exchange_197 (by decide) ?_
                      have hl : lv_has _ _ ([(8, .int (iI (l8_x74.toInt + 1))), (7, .ref (hw kR_339)), (6, .int l6_x53), (5, .int k0_j155), (4, .int (wb kR_1)), (3, .ref (hw kR_1)), (0, .ref (hQ 0)), (1, .int p1), (2, .int p2)]) := lv_sub hl [0, 5, 6, 7, 8, 9, 10, 11, 12] rfl
                      exact ihx74 wl_j307 wb_j307 wG_j307 (iI (l8_x74.toInt + 1)) _ _ _ b_wl_j307 b_wb_j307 (iI_rng (Int.le_trans (by decide) (Int.add_le_add (b_l8_x74.1) (Int.le_refl _))) (by omega) (by decide) (by decide)) (by have e9 : ((iI (l8_x74.toInt + 1))).toInt = (l8_x74.toInt + 1) := (iI_t (Int.le_trans (by decide) (Int.add_le_add (b_l8_x74.1) (Int.le_refl _))) (Int.le_trans (Int.add_le_add (b_l8_x74.2) (Int.le_refl _)) (by decide))); omega) hP hD hS hl
          · rintro H locs ls stk ⟨rfl, hP, hD, hS, hl⟩
            refine lv_iload hx hb dX6_exchange_200 (lv_at hl 4 rfl) ?_
            refine W.cut (pc := 216) (fun H locs ls stk => ∃ (wb_j308 : Nat → Int32), (∀ q : Nat, 0 ≤ (wb_j308 q).toInt ∧ (wb_j308 q).toInt ≤ 1) ∧  stk = [] ∧ va_P (dC, dI) vwCl (WQ hQ aQ kQ hw fQ_inside fQ_outside fQ_shut iQ_rows iQ_allRows iQ_columns ++ (WW nW hw lw kw wl_x74 wb_j308 wG_x74)) H ∧ va_D A (WQ hQ aQ kQ hw fQ_inside fQ_outside fQ_shut iQ_rows iQ_allRows iQ_columns ++ (WW nW hw lw kw wl_x74 wb_j308 wG_x74)) ∧ va_S A s.heap H locs ∧ lv_has ls 13 [(8, .int l8_x74), (7, .ref (hw kR_339)), (6, .int l6_x53), (5, .int k0_j155), (4, .int (wb kR_1)), (3, .ref (hw kR_1)), (0, .ref (hQ 0)), (1, .int p1), (2, .int p2)]) (fun join308 => ?_) ?_
            · refine lv_if_eq (tgt := 216) hx hb dX6_exchange_202 (by decide) (fun c_202 => ?_) (fun c_202 => ?_)
              · have t_202 : (wb kR_1).toInt = 0 := toI_eq c_202 rfl (by decide : (0 : Int32).toInt = 0)
                have hl : lv_has _ _ ([(8, .int l8_x74), (7, .ref (hw kR_339)), (6, .int l6_x53), (5, .int k0_j155), (4, .int (wb kR_1)), (3, .ref (hw kR_1)), (0, .ref (hQ 0)), (1, .int p1), (2, .int p2)]) := lv_sub hl [0, 1, 2, 3, 4, 5, 6, 7, 8] rfl
                exact join308 _ _ _ _ ⟨wb_x74, b_wb_x74, rfl, hP, hD, hS, hl⟩
              · have t_202 : ¬ (wb kR_1).toInt = 0 := toI_neq c_202 rfl (by decide : (0 : Int32).toInt = 0)
                refine lv_iload hx hb dX6_exchange_205 (lv_at hl 2 rfl) ?_
                refine lv_iload_n hx hb dX6_exchange_207 rfl (lv_at hl 7 rfl) ?_
                refine lv_icmp_eq (tgt := 216) hx hb dX6_exchange_208 (by decide) (fun c_208 => ?_) (fun c_208 => ?_)
                · have t_208 : l6_x53.toInt = p1.toInt := toI_eq c_208 rfl rfl
                  have hl : lv_has _ _ ([(8, .int l8_x74), (7, .ref (hw kR_339)), (6, .int l6_x53), (5, .int k0_j155), (4, .int (wb kR_1)), (3, .ref (hw kR_1)), (0, .ref (hQ 0)), (1, .int p1), (2, .int p2)]) := lv_sub hl [0, 1, 2, 3, 4, 5, 6, 7, 8] rfl
                  exact join308 _ _ _ _ ⟨wb_x74, b_wb_x74, rfl, hP, hD, hS, hl⟩
                · have t_208 : ¬ l6_x53.toInt = p1.toInt := toI_neq c_208 rfl rfl
                  refine lv_aload hx hb dX6_exchange_211 (lv_at hl 1 rfl) ?_
                  have p9 : List.Perm (WQ hQ aQ kQ hw fQ_inside fQ_outside fQ_shut iQ_rows iQ_allRows iQ_columns ++ (WW nW hw lw kw wl_x74 wb_x74 wG_x74)) ((WW nW hw lw kw wl_x74 wb_x74 wG_x74) ++ (WQ hQ aQ kQ hw fQ_inside fQ_outside fQ_shut iQ_rows iQ_allRows iQ_columns)) := (List.perm_append_comm)
                  have hPc := hP.mem (fun q h => p9.mem_iff.mpr (List.mem_append_left _ h))
                  have hDc := (hD.perm p9).left
                  have hKc : va_K (dC, dI) vwCl (tW kw) _ := hK.sub [4] rfl
                  have hFc := freeG p9 hD hS hA
                  refine va_callv (va_runV (As := []) (rest := []) ⟨hx, hb, hml, hown, hts⟩ (m_X8_negate l dC dI nW hw lw kw wl_x74 wb_x74 wG_x74 kR_339 b_wl_x74 b_wb_x74 (by first | with_reducible assumption | omega | (rw [iI_t (by omega) (by omega)]; omega) | decide | assumption) H.size) (cwV 0 hts gwsMX6_exchange_4 rfl rfl rfl hd_yX8_negate_RX8 (by decide +kernel)) (fz_pre (va_recv hK hP (ci := 8) (q0 := 5 + (kR_339)) rfl (apR rfl (WW_o (by omega)))) hPc hKc hDc) rfl rfl hl.1 rfl (lv_room (Nat.le_of_ble_eq_true rfl)) dX6_exchange_213 (by decide +kernel)) hS (fun q _ h => hFc q h) hFc (fun wb_385 t9_ H locs ht hvm hw9 hB9 hz1 hk1 hS => ?_)
                  have b_wb_385 := hw9
                  try dsimp only at b_wb_385
                  have p8 : List.Perm (WQ hQ aQ kQ hw fQ_inside fQ_outside fQ_shut iQ_rows iQ_allRows iQ_columns ++ (WW nW hw lw kw wl_x74 wb_385 wG_x74)) ((WW nW hw lw kw wl_x74 wb_385 wG_x74) ++ (WQ hQ aQ kQ hw fQ_inside fQ_outside fQ_shut iQ_rows iQ_allRows iQ_columns)) := (List.perm_append_comm)
                  obtain ⟨hP, hD⟩ := frameG p9 p8 hP hD hk1 hFc (fz_P ht hB9.1) hB9.2
                  have hP : va_P (dC, dI) vwCl (WQ hQ aQ kQ hw fQ_inside fQ_outside fQ_shut iQ_rows iQ_allRows iQ_columns ++ (WW nW hw lw kw wl_x74 wb_385 wG_x74)) H := hP
                  have hD : va_D A (WQ hQ aQ kQ hw fQ_inside fQ_outside fQ_shut iQ_rows iQ_allRows iQ_columns ++ (WW nW hw lw kw wl_x74 wb_385 wG_x74)) := hD
                  have hl : lv_has _ _ ([(8, .int l8_x74), (7, .ref (hw kR_339)), (6, .int l6_x53), (5, .int k0_j155), (4, .int (wb kR_1)), (3, .ref (hw kR_1)), (0, .ref (hQ 0)), (1, .int p1), (2, .int p2)]) := lv_sub hl [0, 1, 2, 3, 4, 5, 6, 7, 8] rfl
                  exact join308 _ _ _ _ ⟨wb_385, b_wb_385, rfl, hP, hD, hS, hl⟩
            · rintro H locs ls stk ⟨wb_j308, b_wb_j308, rfl, hP, hD, hS, hl⟩
              refine lv_iinc (v := (iI (l6_x53.toInt + 1))) hx hb dX6_exchange_216 hl (k := 2) rfl (iI_add2 (iI_of _) (by decide : (1 : Int32) = iI 1)) (by decide) rfl (fun ls (hl : lv_has ls _ ([(6, .int (iI (l6_x53.toInt + 1))), (8, .int l8_x74), (7, .ref (hw kR_339)), (5, .int k0_j155), (4, .int (wb kR_1)), (3, .ref (hw kR_1)), (0, .ref (hQ 0)), (1, .int p1), (2, .int p2)])) => ?_)
              refine lv_goto (tgt := 53) hx hb dX6_exchange_219 (by decide) ?_
              have hl : lv_has _ _ ([(6, .int (iI (l6_x53.toInt + 1))), (5, .int k0_j155), (4, .int (wb kR_1)), (3, .ref (hw kR_1)), (0, .ref (hQ 0)), (1, .int p1), (2, .int p2)]) := lv_sub hl [0, 3, 4, 5, 6, 7, 8] rfl
              exact ihx53 wl_x74 wb_j308 wG_x74 (iI (l6_x53.toInt + 1)) _ _ _ b_wl_x74 b_wb_j308 (iI_rng (Int.le_trans (by decide) (Int.add_le_add (b_l6_x53.1) (Int.le_refl _))) (by omega) (by decide) (by decide)) (by have e9 : ((iI (l6_x53.toInt + 1))).toInt = (l6_x53.toInt + 1) := (iI_t (Int.le_trans (by decide) (Int.add_le_add (b_l6_x53.1) (Int.le_refl _))) (Int.le_trans (Int.add_le_add (b_l6_x53.2) (Int.le_refl _)) (by decide))); omega) hP hD hS hl

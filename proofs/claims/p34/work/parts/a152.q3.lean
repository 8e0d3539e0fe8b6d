theorem hd_yX6_columnWith_RX6 : yX6_columnWith.cls = RX6 ∧ yX6_columnWith.cls ≠ "java/lang/invoke/MethodHandle" ∧ yX6_columnWith.cls ≠ "java/lang/invoke/VarHandle" ∧ (parseMethodDescriptor yX6_columnWith.desc).map (fun d => d.parameters.length) = some 1 := by decide +kernel
theorem hd_yX6_exchange_RX6 : yX6_exchange.cls = RX6 ∧ yX6_exchange.cls ≠ "java/lang/invoke/MethodHandle" ∧ yX6_exchange.cls ≠ "java/lang/invoke/VarHandle" ∧ (parseMethodDescriptor yX6_exchange.desc).map (fun d => d.parameters.length) = some 2 := by decide +kernel
theorem hd_yX6_rowBelow_RX6 : yX6_rowBelow.cls = RX6 ∧ yX6_rowBelow.cls ≠ "java/lang/invoke/MethodHandle" ∧ yX6_rowBelow.cls ≠ "java/lang/invoke/VarHandle" ∧ (parseMethodDescriptor yX6_rowBelow.desc).map (fun d => d.parameters.length) = some 1 := by decide +kernel
theorem hd_yX6_columnOfSign_RX6 : yX6_columnOfSign.cls = RX6 ∧ yX6_columnOfSign.cls ≠ "java/lang/invoke/MethodHandle" ∧ yX6_columnOfSign.cls ≠ "java/lang/invoke/VarHandle" ∧ (parseMethodDescriptor yX6_columnOfSign.desc).map (fun d => d.parameters.length) = some 3 := by decide +kernel
theorem hd_yX6_tightest_RX6 : yX6_tightest.cls = RX6 ∧ yX6_tightest.cls ≠ "java/lang/invoke/MethodHandle" ∧ yX6_tightest.cls ≠ "java/lang/invoke/VarHandle" ∧ (parseMethodDescriptor yX6_tightest.desc).map (fun d => d.parameters.length) = some 1 := by decide +kernel
theorem hd_yX6_shutWith_RX6 : yX6_shutWith.cls = RX6 ∧ yX6_shutWith.cls ≠ "java/lang/invoke/MethodHandle" ∧ yX6_shutWith.cls ≠ "java/lang/invoke/VarHandle" ∧ (parseMethodDescriptor yX6_shutWith.desc).map (fun d => d.parameters.length) = some 1 := by decide +kernel
theorem hd_yX6_rowOf_RX6 : yX6_rowOf.cls = RX6 ∧ yX6_rowOf.cls ≠ "java/lang/invoke/MethodHandle" ∧ yX6_rowOf.cls ≠ "java/lang/invoke/VarHandle" ∧ (parseMethodDescriptor yX6_rowOf.desc).map (fun d => d.parameters.length) = some 1 := by decide +kernel
theorem hd_yX6_shutOutside_RX6 : yX6_shutOutside.cls = RX6 ∧ yX6_shutOutside.cls ≠ "java/lang/invoke/MethodHandle" ∧ yX6_shutOutside.cls ≠ "java/lang/invoke/VarHandle" ∧ (parseMethodDescriptor yX6_shutOutside.desc).map (fun d => d.parameters.length) = some 1 := by decide +kernel
theorem dX6_holdAtNought_0 : decode cX6_holdAtNought 0 = .ok (.aload_n 0, 1) := dk_42 (by decide +kernel)
theorem dX6_holdAtNought_1 : decode cX6_holdAtNought 1 = .ok (.iload_n 1, 1) := dk_27 (by decide +kernel)
theorem dX6_holdAtNought_2 : decode cX6_holdAtNought 2 = .ok (.invokevirtual 68, 3) := dk_182 (by decide +kernel)
theorem dX6_holdAtNought_5 : decode cX6_holdAtNought 5 = .ok (.istore_n 2, 1) := dk_61 (by decide +kernel)
theorem dX6_holdAtNought_6 : decode cX6_holdAtNought 6 = .ok (.iload_n 2, 1) := dk_28 (by decide +kernel)
theorem dX6_holdAtNought_7 : decode cX6_holdAtNought 7 = .ok (.iconst (-1), 1) := dk_2 (by decide +kernel)
theorem dX6_holdAtNought_8 : decode cX6_holdAtNought 8 = .ok (.if_icmp .ne 21, 3) := dk_160 (by decide +kernel)
theorem dX6_holdAtNought_11 : decode cX6_holdAtNought 11 = .ok (.aload_n 0, 1) := dk_42 (by decide +kernel)
theorem dX6_holdAtNought_12 : decode cX6_holdAtNought 12 = .ok (.iload_n 1, 1) := dk_27 (by decide +kernel)
theorem dX6_holdAtNought_13 : decode cX6_holdAtNought 13 = .ok (.iconst 0, 1) := dk_3 (by decide +kernel)
theorem dX6_holdAtNought_14 : decode cX6_holdAtNought 14 = .ok (.invokevirtual 72, 3) := dk_182 (by decide +kernel)
theorem dX6_holdAtNought_17 : decode cX6_holdAtNought 17 = .ok (.getfield 76, 3) := dk_180 (by decide +kernel)
theorem dX6_holdAtNought_20 : decode cX6_holdAtNought 20 = .ok (.ifCond .ne 7, 3) := dk_154 (by decide +kernel)
theorem dX6_holdAtNought_23 : decode cX6_holdAtNought 23 = .ok (.iconst 1, 1) := dk_4 (by decide +kernel)
theorem dX6_holdAtNought_24 : decode cX6_holdAtNought 24 = .ok (.goto 4, 3) := dk_167 (by decide +kernel)
theorem dX6_holdAtNought_27 : decode cX6_holdAtNought 27 = .ok (.iconst 0, 1) := dk_3 (by decide +kernel)
theorem dX6_holdAtNought_28 : decode cX6_holdAtNought 28 = .ok (.ireturn, 1) := dk_172 (by decide +kernel)
theorem dX6_holdAtNought_29 : decode cX6_holdAtNought 29 = .ok (.aload_n 0, 1) := dk_42 (by decide +kernel)
theorem dX6_holdAtNought_30 : decode cX6_holdAtNought 30 = .ok (.iload_n 1, 1) := dk_27 (by decide +kernel)
theorem dX6_holdAtNought_31 : decode cX6_holdAtNought 31 = .ok (.iload_n 2, 1) := dk_28 (by decide +kernel)
theorem dX6_holdAtNought_32 : decode cX6_holdAtNought 32 = .ok (.invokevirtual 79, 3) := dk_182 (by decide +kernel)
theorem dX6_holdAtNought_35 : decode cX6_holdAtNought 35 = .ok (.aload_n 0, 1) := dk_42 (by decide +kernel)
theorem dX6_holdAtNought_36 : decode cX6_holdAtNought 36 = .ok (.getfield 24, 3) := dk_180 (by decide +kernel)
theorem dX6_holdAtNought_39 : decode cX6_holdAtNought 39 = .ok (.iload_n 2, 1) := dk_28 (by decide +kernel)
theorem dX6_holdAtNought_40 : decode cX6_holdAtNought 40 = .ok (.iconst 1, 1) := dk_4 (by decide +kernel)
theorem dX6_holdAtNought_41 : decode cX6_holdAtNought 41 = .ok (.bastore, 1) := dk_84 (by decide +kernel)
theorem dX6_holdAtNought_42 : decode cX6_holdAtNought 42 = .ok (.iconst 1, 1) := dk_4 (by decide +kernel)
theorem dX6_holdAtNought_43 : decode cX6_holdAtNought 43 = .ok (.ireturn, 1) := dk_172 (by decide +kernel)
def wsMX6_holdAtNought : List Cond := .code yX6_holdAtNought cX6_holdAtNought 3 (some .boolean) :: ([.fieldLink RX6 24 "OptimaWorks$Tableau" "shut" "[Z", .fieldLink RX6 76 "OptimaWorks$Whole" "length" "I"] ++ wsX60 ++ wsX80 ++ (wsV RX6 68 RX6 yX6_columnWith wsMX6_columnWith) ++ (wsV RX6 79 RX6 yX6_exchange wsMX6_exchange) ++ (wsV RX6 72 RX6 yX6_cellAt wsMX6_cellAt))
theorem iwsMX6_holdAtNought_in6 : ∀ w ∈ wsX60, w ∈ wsMX6_holdAtNought := fun _ h => List.mem_cons_of_mem _ (List.mem_append_left _ (List.mem_append_left _ (List.mem_append_left _ (List.mem_append_left _ (List.mem_append_right _ h)))))
theorem iwsMX6_holdAtNought_in8 : ∀ w ∈ wsX80, w ∈ wsMX6_holdAtNought := fun _ h => List.mem_cons_of_mem _ (List.mem_append_left _ (List.mem_append_left _ (List.mem_append_left _ (List.mem_append_right _ h))))
theorem gwsMX6_holdAtNought_0 : GoodIn wsMX6_holdAtNought (wsV RX6 68 RX6 yX6_columnWith wsMX6_columnWith) := goodIn_sub (fun _ h => List.mem_cons_of_mem _ (List.mem_append_left _ (List.mem_append_left _ (List.mem_append_right _ h)))) (gdV (by decide +kernel) gdwsMX6_columnWith)
theorem gwsMX6_holdAtNought_1 : GoodIn wsMX6_holdAtNought (wsV RX6 79 RX6 yX6_exchange wsMX6_exchange) := goodIn_sub (fun _ h => List.mem_cons_of_mem _ (List.mem_append_left _ (List.mem_append_right _ h))) (gdV (by decide +kernel) gdwsMX6_exchange)
theorem gwsMX6_holdAtNought_2 : GoodIn wsMX6_holdAtNought (wsV RX6 72 RX6 yX6_cellAt wsMX6_cellAt) := goodIn_sub (fun _ h => List.mem_cons_of_mem _ (List.mem_append_right _ h)) (gdV (by decide +kernel) gdwsMX6_cellAt)
theorem gdwsMX6_holdAtNought : wsMX6_holdAtNought.all goodWord = true := gdC rfl (gdA (gdA (gdA (gdA (gdA (by decide +kernel : ([.fieldLink RX6 24 "OptimaWorks$Tableau" "shut" "[Z", .fieldLink RX6 76 "OptimaWorks$Whole" "length" "I"] : List Cond).all goodWord = true) gdwsX60) gdwsX80) (gdV (by decide +kernel) gdwsMX6_columnWith)) (gdV (by decide +kernel) gdwsMX6_exchange)) (gdV (by decide +kernel) gdwsMX6_cellAt))
set_option maxHeartbeats 4000000 in
set_option maxRecDepth 100000 in
/-- a row at nought -/
theorem m_X6_holdAtNought (l : Launch) (dC : Nat → ClassId) (dI : Nat → Nat → Nat) (hQ : Nat → Nat) (aQ : Nat → Nat) (kQ : Nat → ClassId) (hw : Nat → Nat) (fQ_inside : Nat → Int32) (fQ_outside : Nat → Int32) (fQ_shut : Nat → Int32) (iQ_rows : Int32) (iQ_allRows : Int32) (iQ_columns : Int32) (nW : Nat) (lw : Nat → Nat) (kw : ClassId) (wl : Nat → Int32) (wb : Nat → Int32) (wG : Nat → Nat → Int64) (p1 : Int32) (b_iQ_rows : 0 ≤ iQ_rows.toInt ∧ iQ_rows.toInt ≤ 40) (b_iQ_allRows : 0 ≤ iQ_allRows.toInt ∧ iQ_allRows.toInt ≤ 40) (b_iQ_columns : 0 ≤ iQ_columns.toInt ∧ iQ_columns.toInt ≤ 40) (b_tb : TbO iQ_rows iQ_allRows iQ_columns) (b_wl : ∀ q : Nat, 0 ≤ (wl q).toInt ∧ (wl q).toInt ≤ 14) (b_wb : ∀ q : Nat, 0 ≤ (wb q).toInt ∧ (wb q).toInt ≤ 1) (b_p1 : 0 ≤ p1.toInt ∧ p1.toInt ≤ 39) (hnW : 406 ≤ nW) (hrow : FitR p1.toInt iQ_columns.toInt) (sz : Nat) : Met l yX6_holdAtNought wsMX6_holdAtNought ({ frames := 5, cells := 0, slots := 0, locals := 131 }) (va_Pc [.ref (hQ 0), .int p1] (fun U => U.heap.size = sz ∧ va_P (dC, dI) vwCl (WQ hQ aQ kQ hw fQ_inside fQ_outside fQ_shut iQ_rows iQ_allRows iQ_columns ++ (WW nW hw lw kw wl wb wG)) U.heap ∧ va_K (dC, dI) vwCl (tQ kQ ++ (tW kw)) U ∧ va_D (fun _ => True) (WQ hQ aQ kQ hw fQ_inside fQ_outside fQ_shut iQ_rows iQ_allRows iQ_columns ++ (WW nW hw lw kw wl wb wG)))) (va_Qi (fun (r : Int32) (u : (Nat → Int32) × (Nat → Int32) × (Nat → Int32) × (Nat → Int32) × (Nat → Int32) × (Nat → Nat → Int64)) => (∀ q : Nat, 0 ≤ ((u.2.2.2.1) q).toInt ∧ ((u.2.2.2.1) q).toInt ≤ 14) ∧ (∀ q : Nat, 0 ≤ ((u.2.2.2.2.1) q).toInt ∧ ((u.2.2.2.2.1) q).toInt ≤ 1) ∧ (0 ≤ r.toInt ∧ r.toInt ≤ 1)) (fun (u : (Nat → Int32) × (Nat → Int32) × (Nat → Int32) × (Nat → Int32) × (Nat → Int32) × (Nat → Nat → Int64)) t => va_P (dC, dI) vwCl (WQ hQ aQ kQ hw (u.1) (u.2.1) (u.2.2.1) iQ_rows iQ_allRows iQ_columns ++ (WW nW hw lw kw (u.2.2.2.1) (u.2.2.2.2.1) (u.2.2.2.2.2))) t.heap ∧ va_D (va_A (WQ hQ aQ kQ hw fQ_inside fQ_outside fQ_shut iQ_rows iQ_allRows iQ_columns ++ (WW nW hw lw kw wl wb wG)) sz) (WQ hQ aQ kQ hw (u.1) (u.2.1) (u.2.2.1) iQ_rows iQ_allRows iQ_columns ++ (WW nW hw lw kw (u.2.2.2.1) (u.2.2.2.2.1) (u.2.2.2.2.2)))) (va_A (WQ hQ aQ kQ hw fQ_inside fQ_outside fQ_shut iQ_rows iQ_allRows iQ_columns ++ (WW nW hw lw kw wl wb wG)) sz)) 0 0 (va_A (WQ hQ aQ kQ hw fQ_inside fQ_outside fQ_shut iQ_rows iQ_allRows iQ_columns ++ (WW nW hw lw kw wl wb wG)) sz) := by
  refine Met.ofW (cc := cX6_holdAtNought) (maxL := 3) (ret := (some .boolean)) (by decide) rfl ?_
  intro p e s m args below meth c s₁ B hml hv
  obtain ⟨rfl, hsz, hP, hK, hD0⟩ := hv
  have hx := B.exec
  have hb := B.bytes
  have hr := B.returns
  have hts := atoms_spec (ws := wsMX6_holdAtNought) B.pre
  have hown : s.vm.findClass RX6 = some m.cls := findClass_of_methodNamed B.named
  have hlocks := B.notSynchronized
  subst hsz
  have hD := hD0.self (sz := s.heap.size)
  generalize hAe : va_A (WQ hQ aQ kQ hw fQ_inside fQ_outside fQ_shut iQ_rows iQ_allRows iQ_columns ++ (WW nW hw lw kw wl wb wG)) s.heap.size = A at hD ⊢
  have hA : ∀ q : Nat, s.heap.size ≤ q → A q := fun q h => by rw [← hAe]; exact Or.inr h
  have hS : va_S A s.heap s.heap [] := va_S.rf
  have hl := lv_entry ([.ref (hQ 0), .int p1]) (n := 3) (Nat.le_of_ble_eq_true rfl)
  rw [lg_entry_eq]
  generalize (lg_sl ([.ref (hQ 0), .int p1]) ++ List.replicate (3 - (lg_sl ([.ref (hQ 0), .int p1])).length) Slot.unset).toArray = ls at hl ⊢
  have hl : lv_has ls 3 [(0, .ref (hQ 0)), (1, .int p1)] := hl
  have hTb := b_tb.1
  refine lv_aload_n hx hb dX6_holdAtNought_0 rfl (lv_at hl 0 rfl) ?_
  refine lv_iload_n hx hb dX6_holdAtNought_1 rfl (lv_at hl 1 rfl) ?_
  have hFc := allFree hD hS hA
  refine va_calli (va_runV (As := [.int p1]) (rest := []) ⟨hx, hb, hml, hown, hts⟩ (m_X6_columnWith l dC dI hQ aQ kQ hw fQ_inside fQ_outside fQ_shut iQ_rows iQ_allRows iQ_columns nW lw kw wl wb wG p1 (b_iQ_rows) (b_iQ_allRows) (b_iQ_columns) (by first | assumption | omega) b_wl b_wb (b_p1) (by first | assumption | omega | (rw [iI_t (by omega) (by omega)]; omega) | decide) (hrow) s.heap.size) (cwV 1 hts gwsMX6_holdAtNought_0 rfl rfl rfl hd_yX6_columnWith_RX6 (by decide +kernel)) (fz_pre (va_recv hK hP (ci := 6) (q0 := 0) rfl rfl) hP hK hD) rfl rfl hl.1 rfl (lv_room (Nat.le_of_ble_eq_true rfl)) dX6_holdAtNought_2 (by decide +kernel)) hS (fun q _ h => hFc q h) hFc (fun r1 u t9_ H locs ht hvm hw9 hB9 hz1 hk1 hS => ?_)
  obtain ⟨b_r1, f1_0⟩ := hw9
  have hP : va_P (dC, dI) vwCl (WQ hQ aQ kQ hw fQ_inside fQ_outside fQ_shut iQ_rows iQ_allRows iQ_columns ++ (WW nW hw lw kw wl wb wG)) H := fz_P ht hB9.1
  have hD : va_D A (WQ hQ aQ kQ hw fQ_inside fQ_outside fQ_shut iQ_rows iQ_allRows iQ_columns ++ (WW nW hw lw kw wl wb wG)) := hB9.2.weaken (fun _ q _ h => hFc q.1 h)
  refine lv_istore_n hx hb dX6_holdAtNought_5 rfl hl (by decide) rfl (fun ls (hl : lv_has ls _ ([(2, .int r1), (0, .ref (hQ 0)), (1, .int p1)])) => ?_)
  refine lv_iload_n hx hb dX6_holdAtNought_6 rfl (lv_at hl 0 rfl) ?_
  refine lv_iconst (v := (-1)) hx hb dX6_holdAtNought_7 (by decide) ?_
  refine lv_icmp_ne (tgt := 29) hx hb dX6_holdAtNought_8 (by decide) (fun c_8 => ?_) (fun c_8 => ?_)
  · have t_8 : r1.toInt ≠ (-1) := toI_ne c_8 rfl (by decide : ((-1) : Int32).toInt = (-1))
    refine lv_aload_n hx hb dX6_holdAtNought_29 rfl (lv_at hl 1 rfl) ?_
    refine lv_iload_n hx hb dX6_holdAtNought_30 rfl (lv_at hl 2 rfl) ?_
    refine lv_iload_n hx hb dX6_holdAtNought_31 rfl (lv_at hl 0 rfl) ?_
    have hFc := allFree hD hS hA
    refine va_callv (va_runV (As := [.int p1, .int r1]) (rest := []) ⟨hx, hb, hml, hown, hts⟩ (m_X6_exchange l dC dI hQ aQ kQ hw fQ_inside fQ_outside fQ_shut iQ_rows iQ_allRows iQ_columns nW lw kw wl wb wG p1 r1 (b_iQ_rows) (b_iQ_allRows) (b_iQ_columns) (by first | assumption | omega) b_wl b_wb (b_p1) (by first | exact b_r1 | assumption | exact ⟨by omega, by omega⟩) (by first | assumption | omega | (rw [iI_t (by omega) (by omega)]; omega) | decide) (hrow) (by first | assumption | omega | (rw [iI_t (by omega) (by omega)]; omega) | decide) H.size) (cwV 2 hts gwsMX6_holdAtNought_1 rfl rfl rfl hd_yX6_exchange_RX6 (by decide +kernel)) (fz_pre (va_recv hK hP (ci := 6) (q0 := 0) rfl rfl) hP hK hD) rfl rfl hl.1 rfl (lv_room (Nat.le_of_ble_eq_true rfl)) dX6_holdAtNought_32 (by decide +kernel)) hS (fun q _ h => hFc q h) hFc (fun u t9_ H locs ht hvm hw9 hB9 hz1 hk1 hS => ?_)
    obtain ⟨fQ_inside_2, fQ_outside_2, wl_2, wb_2, wG_2⟩ := u
    try dsimp only at hw9 hB9
    obtain ⟨b_wl_2, b_wb_2⟩ := hw9
    have hP : va_P (dC, dI) vwCl (WQ hQ aQ kQ hw fQ_inside_2 fQ_outside_2 fQ_shut iQ_rows iQ_allRows iQ_columns ++ (WW nW hw lw kw wl_2 wb_2 wG_2)) H := fz_P ht hB9.1
    have hD : va_D A (WQ hQ aQ kQ hw fQ_inside_2 fQ_outside_2 fQ_shut iQ_rows iQ_allRows iQ_columns ++ (WW nW hw lw kw wl_2 wb_2 wG_2)) := hB9.2.weaken (fun _ q _ h => hFc q.1 h)
    refine lv_aload_n hx hb dX6_holdAtNought_35 rfl (lv_at hl 1 rfl) ?_
    refine va_get (D := (dC, dI)) (ci := 6) (v := .ref (aQ 3)) (C := RX6) (T := TX6) (N := 13) hx hb hts iwsMX6_holdAtNought_in6 hown hK hP 0 rfl rfl 3 (by decide) (hts (.fieldLink RX6 24 "OptimaWorks$Tableau" "shut" "[Z") (by decide +kernel)) (fun _ h9 => h9) rfl dX6_holdAtNought_36 ?_
    refine lv_iload_n hx hb dX6_holdAtNought_39 rfl (lv_at hl 0 rfl) ?_
    refine lv_iconst (v := 1) hx hb dX6_holdAtNought_40 (by decide) ?_
    refine va_zast (cA := kQ 3) (n := 41) (f := fQ_shut) hx hb hK hP hD hS 4 3 rfl rfl (vp_in_iff.mpr ⟨(by omega), (by omega)⟩) dX6_holdAtNought_41 (fun H locs hP hD hS => ?_)
    obtain ⟨u3, hu3⟩ : ∃ f9, f9 = upd fQ_shut (r1).toNatClampNeg (vp_nar FieldType.boolean (1 : Int32)) := ⟨_, rfl⟩
    have hP : va_P (dC, dI) vwCl (WQ hQ aQ kQ hw fQ_inside_2 fQ_outside_2 u3 iQ_rows iQ_allRows iQ_columns ++ (WW nW hw lw kw wl_2 wb_2 wG_2)) H := by rw [hu3]; exact hP
    have hD : va_D A (WQ hQ aQ kQ hw fQ_inside_2 fQ_outside_2 u3 iQ_rows iQ_allRows iQ_columns ++ (WW nW hw lw kw wl_2 wb_2 wG_2)) := by rw [hu3]; exact hD
    clear hu3
    refine lv_iconst (v := 1) hx hb dX6_holdAtNought_42 (by decide) ?_
    refine W.widen (k := 0) (n := 0) (by decide +kernel) (by decide +kernel) ?_
    exact W.zret (v := 1) hx hb hr rfl (fun t9_ ht hW => ⟨⟨(1 : Int32), (fQ_inside_2, fQ_outside_2, u3, wl_2, wb_2, wG_2), rfl, ⟨b_wl_2, b_wb_2, (show 0 ≤ (1 : Int32).toInt ∧ (1 : Int32).toInt ≤ 1 from by decide)⟩, by rw [ht]; exact hP, hD⟩, hS.F ht⟩) hS.2.2 dX6_holdAtNought_43
  · have t_8 : r1.toInt = (-1) := toI_nne c_8 rfl (by decide : ((-1) : Int32).toInt = (-1))
    refine lv_aload_n hx hb dX6_holdAtNought_11 rfl (lv_at hl 1 rfl) ?_
    refine lv_iload_n hx hb dX6_holdAtNought_12 rfl (lv_at hl 2 rfl) ?_
    refine lv_iconst (v := 0) hx hb dX6_holdAtNought_13 (by decide) ?_
    have hFc := allFree hD hS hA
    refine va_callr (va_runV (As := [.int p1, .int 0]) (rest := []) ⟨hx, hb, hml, hown, hts⟩ (m_X6_cellAt l dC dI hQ aQ kQ hw fQ_inside fQ_outside fQ_shut iQ_rows iQ_allRows iQ_columns nW lw kw wl wb wG p1 0 (b_iQ_rows) (b_iQ_allRows) (b_iQ_columns) (by first | assumption | omega) b_wl b_wb (b_p1) (show 0 ≤ (0 : Int32).toInt ∧ (0 : Int32).toInt ≤ 40 from by decide) (by first | assumption | omega | (rw [iI_t (by omega) (by omega)]; omega) | decide) (hrow.ix0 (by omega)) H.size) (cwV 2 hts gwsMX6_holdAtNought_2 rfl rfl rfl hd_yX6_cellAt_RX6 (by decide +kernel)) (fz_pre (va_recv hK hP (ci := 6) (q0 := 0) rfl rfl) hP hK hD) rfl rfl hl.1 rfl (lv_room (Nat.le_of_ble_eq_true rfl)) dX6_holdAtNought_14 (by decide +kernel)) hS (fun q _ h => hFc q h) hFc (fun u ra4 t9_ H locs ht hvm hw9 hB9 hz1 hk1 hS => ?_)
    obtain ⟨kR_4, hwit4⟩ : ∃ w9, w9 = u := ⟨u, rfl⟩
    subst hwit4
    obtain ⟨hra, hB9⟩ := hB9
    subst hra
    have f4_0 := hw9
    try dsimp only at f4_0
    have hP : va_P (dC, dI) vwCl (WQ hQ aQ kQ hw fQ_inside fQ_outside fQ_shut iQ_rows iQ_allRows iQ_columns ++ (WW nW hw lw kw wl wb wG)) H := fz_P ht hB9.1
    have hD : va_D A (WQ hQ aQ kQ hw fQ_inside fQ_outside fQ_shut iQ_rows iQ_allRows iQ_columns ++ (WW nW hw lw kw wl wb wG)) := hB9.2.weaken (fun _ q _ h => hFc q.1 h)
    refine va_get (D := (dC, dI)) (ci := 8) (v := .int (wl kR_4)) (C := RX8) (T := TX8) (N := 3) hx hb hts iwsMX6_holdAtNought_in8 hown hK hP (5 + (kR_4)) (apR rfl (WW_o (by omega))) rfl 1 (by decide) (hts (.fieldLink RX6 76 "OptimaWorks$Whole" "length" "I") (by decide +kernel)) (fun _ h9 => h9) rfl dX6_holdAtNought_17 ?_
    have br17 := b_wl kR_4
    refine W.cut (pc := 28) (fun H locs ls stk => ∃ (k0_j2 : Int32), (0 ≤ k0_j2.toInt ∧ k0_j2.toInt ≤ 1) ∧  stk = [.int k0_j2] ∧ va_P (dC, dI) vwCl (WQ hQ aQ kQ hw fQ_inside fQ_outside fQ_shut iQ_rows iQ_allRows iQ_columns ++ (WW nW hw lw kw wl wb wG)) H ∧ va_D A (WQ hQ aQ kQ hw fQ_inside fQ_outside fQ_shut iQ_rows iQ_allRows iQ_columns ++ (WW nW hw lw kw wl wb wG)) ∧ va_S A s.heap H locs ∧ lv_has ls 3 [(2, .int r1), (0, .ref (hQ 0)), (1, .int p1)]) (fun join2 => ?_) ?_
    · refine lv_if_ne (tgt := 27) hx hb dX6_holdAtNought_20 (by decide) (fun c_20 => ?_) (fun c_20 => ?_)
      · have t_20 : (wl kR_4).toInt ≠ 0 := toI_ne c_20 rfl (by decide : (0 : Int32).toInt = 0)
        refine lv_iconst (v := 0) hx hb dX6_holdAtNought_27 (by decide) ?_
        have hl : lv_has _ _ ([(2, .int r1), (0, .ref (hQ 0)), (1, .int p1)]) := lv_sub hl [0, 1, 2] rfl
        exact join2 _ _ _ _ ⟨0, (show 0 ≤ (0 : Int32).toInt ∧ (0 : Int32).toInt ≤ 1 from by decide), rfl, hP, hD, hS, hl⟩
      · have t_20 : (wl kR_4).toInt = 0 := toI_nne c_20 rfl (by decide : (0 : Int32).toInt = 0)
        refine lv_iconst (v := 1) hx hb dX6_holdAtNought_23 (by decide) ?_
        refine lv_goto (tgt := 28) hx hb dX6_holdAtNought_24 (by decide) ?_
        have hl : lv_has _ _ ([(2, .int r1), (0, .ref (hQ 0)), (1, .int p1)]) := lv_sub hl [0, 1, 2] rfl
        exact join2 _ _ _ _ ⟨1, (show 0 ≤ (1 : Int32).toInt ∧ (1 : Int32).toInt ≤ 1 from by decide), rfl, hP, hD, hS, hl⟩
    · rintro H locs ls stk ⟨k0_j2, b_k0_j2, rfl, hP, hD, hS, hl⟩
      refine W.widen (k := 0) (n := 0) (by decide +kernel) (by decide +kernel) ?_
      exact W.zret (v := k0_j2) hx hb hr (by rcases z01 (x := k0_j2) (b_k0_j2) with h9 | h9 <;> rw [h9] <;> rfl) (fun t9_ ht hW => ⟨⟨k0_j2, (fQ_inside, fQ_outside, fQ_shut, wl, wb, wG), rfl, ⟨b_wl, b_wb, (b_k0_j2)⟩, by rw [ht]; exact hP, hD⟩, hS.F ht⟩) hS.2.2 dX6_holdAtNought_28
theorem dX6_canKeep_0 : decode cX6_canKeep 0 = .ok (.iconst 0, 1) := dk_3 (by decide +kernel)
theorem dX6_canKeep_1 : decode cX6_canKeep 1 = .ok (.istore_n 1, 1) := dk_60 (by decide +kernel)
theorem dX6_canKeep_2 : decode cX6_canKeep 2 = .ok (.iload_n 1, 1) := dk_27 (by decide +kernel)
theorem dX6_canKeep_3 : decode cX6_canKeep 3 = .ok (.ldc 83, 2) := dk_18 (by decide +kernel)
theorem dX6_canKeep_5 : decode cX6_canKeep 5 = .ok (.if_icmp .ge 63, 3) := dk_162 (by decide +kernel)
theorem dX6_canKeep_8 : decode cX6_canKeep 8 = .ok (.aload_n 0, 1) := dk_42 (by decide +kernel)
theorem dX6_canKeep_9 : decode cX6_canKeep 9 = .ok (.iload_n 1, 1) := dk_27 (by decide +kernel)
theorem dX6_canKeep_10 : decode cX6_canKeep 10 = .ok (.bipush 40, 2) := dk_16 (by decide +kernel)
theorem dX6_canKeep_12 : decode cX6_canKeep 12 = .ok (.if_icmp .ge 7, 3) := dk_162 (by decide +kernel)
theorem dX6_canKeep_15 : decode cX6_canKeep 15 = .ok (.iconst 1, 1) := dk_4 (by decide +kernel)
theorem dX6_canKeep_16 : decode cX6_canKeep 16 = .ok (.goto 4, 3) := dk_167 (by decide +kernel)
theorem dX6_canKeep_19 : decode cX6_canKeep 19 = .ok (.iconst 0, 1) := dk_3 (by decide +kernel)
theorem dX6_canKeep_20 : decode cX6_canKeep 20 = .ok (.invokevirtual 84, 3) := dk_182 (by decide +kernel)
theorem dX6_canKeep_23 : decode cX6_canKeep 23 = .ok (.istore_n 2, 1) := dk_61 (by decide +kernel)
theorem dX6_canKeep_24 : decode cX6_canKeep 24 = .ok (.iload_n 2, 1) := dk_28 (by decide +kernel)
theorem dX6_canKeep_25 : decode cX6_canKeep 25 = .ok (.iconst (-1), 1) := dk_2 (by decide +kernel)
theorem dX6_canKeep_26 : decode cX6_canKeep 26 = .ok (.if_icmp .ne 5, 3) := dk_160 (by decide +kernel)
theorem dX6_canKeep_29 : decode cX6_canKeep 29 = .ok (.iconst 1, 1) := dk_4 (by decide +kernel)
theorem dX6_canKeep_30 : decode cX6_canKeep 30 = .ok (.ireturn, 1) := dk_172 (by decide +kernel)
theorem dX6_canKeep_31 : decode cX6_canKeep 31 = .ok (.aload_n 0, 1) := dk_42 (by decide +kernel)
theorem dX6_canKeep_32 : decode cX6_canKeep 32 = .ok (.iload_n 2, 1) := dk_28 (by decide +kernel)
theorem dX6_canKeep_33 : decode cX6_canKeep 33 = .ok (.iconst 1, 1) := dk_4 (by decide +kernel)
theorem dX6_canKeep_34 : decode cX6_canKeep 34 = .ok (.iload_n 1, 1) := dk_27 (by decide +kernel)
theorem dX6_canKeep_35 : decode cX6_canKeep 35 = .ok (.bipush 40, 2) := dk_16 (by decide +kernel)
theorem dX6_canKeep_37 : decode cX6_canKeep 37 = .ok (.if_icmp .ge 7, 3) := dk_162 (by decide +kernel)
theorem dX6_canKeep_40 : decode cX6_canKeep 40 = .ok (.iconst 1, 1) := dk_4 (by decide +kernel)
theorem dX6_canKeep_41 : decode cX6_canKeep 41 = .ok (.goto 4, 3) := dk_167 (by decide +kernel)
theorem dX6_canKeep_44 : decode cX6_canKeep 44 = .ok (.iconst 0, 1) := dk_3 (by decide +kernel)
theorem dX6_canKeep_45 : decode cX6_canKeep 45 = .ok (.invokevirtual 88, 3) := dk_182 (by decide +kernel)
theorem dX6_canKeep_48 : decode cX6_canKeep 48 = .ok (.istore_n 3, 1) := dk_62 (by decide +kernel)
theorem dX6_canKeep_49 : decode cX6_canKeep 49 = .ok (.iload_n 3, 1) := dk_29 (by decide +kernel)
theorem dX6_canKeep_50 : decode cX6_canKeep 50 = .ok (.iconst (-1), 1) := dk_2 (by decide +kernel)
theorem dX6_canKeep_51 : decode cX6_canKeep 51 = .ok (.if_icmp .ne 5, 3) := dk_160 (by decide +kernel)
theorem dX6_canKeep_54 : decode cX6_canKeep 54 = .ok (.iconst 0, 1) := dk_3 (by decide +kernel)
theorem dX6_canKeep_55 : decode cX6_canKeep 55 = .ok (.ireturn, 1) := dk_172 (by decide +kernel)
theorem dX6_canKeep_56 : decode cX6_canKeep 56 = .ok (.aload_n 0, 1) := dk_42 (by decide +kernel)
theorem dX6_canKeep_57 : decode cX6_canKeep 57 = .ok (.iload_n 2, 1) := dk_28 (by decide +kernel)
theorem dX6_canKeep_58 : decode cX6_canKeep 58 = .ok (.iload_n 3, 1) := dk_29 (by decide +kernel)
theorem dX6_canKeep_59 : decode cX6_canKeep 59 = .ok (.invokevirtual 79, 3) := dk_182 (by decide +kernel)
theorem dX6_canKeep_62 : decode cX6_canKeep 62 = .ok (.iinc 1 1, 3) := dk_132 (by decide +kernel)
theorem dX6_canKeep_65 : decode cX6_canKeep 65 = .ok (.goto (-63), 3) := dk_167 (by decide +kernel)
theorem dX6_canKeep_68 : decode cX6_canKeep 68 = .ok (.iconst 0, 1) := dk_3 (by decide +kernel)
theorem dX6_canKeep_69 : decode cX6_canKeep 69 = .ok (.ireturn, 1) := dk_172 (by decide +kernel)
def wsMX6_canKeep : List Cond := .code yX6_canKeep cX6_canKeep 4 (some .boolean) :: ([.constant RX6 83 1000000] ++ (wsV RX6 84 RX6 yX6_rowBelow wsMX6_rowBelow) ++ (wsV RX6 88 RX6 yX6_columnOfSign wsMX6_columnOfSign) ++ (wsV RX6 79 RX6 yX6_exchange wsMX6_exchange))
theorem gwsMX6_canKeep_0 : GoodIn wsMX6_canKeep (wsV RX6 84 RX6 yX6_rowBelow wsMX6_rowBelow) := goodIn_sub (fun _ h => List.mem_cons_of_mem _ (List.mem_append_left _ (List.mem_append_left _ (List.mem_append_right _ h)))) (gdV (by decide +kernel) gdwsMX6_rowBelow)
theorem gwsMX6_canKeep_1 : GoodIn wsMX6_canKeep (wsV RX6 88 RX6 yX6_columnOfSign wsMX6_columnOfSign) := goodIn_sub (fun _ h => List.mem_cons_of_mem _ (List.mem_append_left _ (List.mem_append_right _ h))) (gdV (by decide +kernel) gdwsMX6_columnOfSign)
theorem gwsMX6_canKeep_2 : GoodIn wsMX6_canKeep (wsV RX6 79 RX6 yX6_exchange wsMX6_exchange) := goodIn_sub (fun _ h => List.mem_cons_of_mem _ (List.mem_append_right _ h)) (gdV (by decide +kernel) gdwsMX6_exchange)
theorem gdwsMX6_canKeep : wsMX6_canKeep.all goodWord = true := gdC rfl (gdA (gdA (gdA (by decide +kernel : ([.constant RX6 83 1000000] : List Cond).all goodWord = true) (gdV (by decide +kernel) gdwsMX6_rowBelow)) (gdV (by decide +kernel) gdwsMX6_columnOfSign)) (gdV (by decide +kernel) gdwsMX6_exchange))
set_option maxHeartbeats 4000000 in
set_option maxRecDepth 100000 in
/-- can all rows be kept -/
theorem m_X6_canKeep (l : Launch) (dC : Nat → ClassId) (dI : Nat → Nat → Nat) (hQ : Nat → Nat) (aQ : Nat → Nat) (kQ : Nat → ClassId) (hw : Nat → Nat) (fQ_inside : Nat → Int32) (fQ_outside : Nat → Int32) (fQ_shut : Nat → Int32) (iQ_rows : Int32) (iQ_allRows : Int32) (iQ_columns : Int32) (nW : Nat) (lw : Nat → Nat) (kw : ClassId) (wl : Nat → Int32) (wb : Nat → Int32) (wG : Nat → Nat → Int64) (b_iQ_rows : 0 ≤ iQ_rows.toInt ∧ iQ_rows.toInt ≤ 40) (b_iQ_allRows : 0 ≤ iQ_allRows.toInt ∧ iQ_allRows.toInt ≤ 40) (b_iQ_columns : 0 ≤ iQ_columns.toInt ∧ iQ_columns.toInt ≤ 40) (b_tb : TbO iQ_rows iQ_allRows iQ_columns) (b_wl : ∀ q : Nat, 0 ≤ (wl q).toInt ∧ (wl q).toInt ≤ 14) (b_wb : ∀ q : Nat, 0 ≤ (wb q).toInt ∧ (wb q).toInt ≤ 1) (hnW : 406 ≤ nW) (sz : Nat) : Met l yX6_canKeep wsMX6_canKeep ({ frames := 5, cells := 0, slots := 0, locals := 131 }) (va_Pc [.ref (hQ 0)] (fun U => U.heap.size = sz ∧ va_P (dC, dI) vwCl (WQ hQ aQ kQ hw fQ_inside fQ_outside fQ_shut iQ_rows iQ_allRows iQ_columns ++ (WW nW hw lw kw wl wb wG)) U.heap ∧ va_K (dC, dI) vwCl (tQ kQ ++ (tW kw)) U ∧ va_D (fun _ => True) (WQ hQ aQ kQ hw fQ_inside fQ_outside fQ_shut iQ_rows iQ_allRows iQ_columns ++ (WW nW hw lw kw wl wb wG)))) (va_Qi (fun (r : Int32) (u : (Nat → Int32) × (Nat → Int32) × (Nat → Int32) × (Nat → Int32) × (Nat → Nat → Int64)) => (∀ q : Nat, 0 ≤ ((u.2.2.1) q).toInt ∧ ((u.2.2.1) q).toInt ≤ 14) ∧ (∀ q : Nat, 0 ≤ ((u.2.2.2.1) q).toInt ∧ ((u.2.2.2.1) q).toInt ≤ 1) ∧ (0 ≤ r.toInt ∧ r.toInt ≤ 1)) (fun (u : (Nat → Int32) × (Nat → Int32) × (Nat → Int32) × (Nat → Int32) × (Nat → Nat → Int64)) t => va_P (dC, dI) vwCl (WQ hQ aQ kQ hw (u.1) (u.2.1) fQ_shut iQ_rows iQ_allRows iQ_columns ++ (WW nW hw lw kw (u.2.2.1) (u.2.2.2.1) (u.2.2.2.2))) t.heap ∧ va_D (va_A (WQ hQ aQ kQ hw fQ_inside fQ_outside fQ_shut iQ_rows iQ_allRows iQ_columns ++ (WW nW hw lw kw wl wb wG)) sz) (WQ hQ aQ kQ hw (u.1) (u.2.1) fQ_shut iQ_rows iQ_allRows iQ_columns ++ (WW nW hw lw kw (u.2.2.1) (u.2.2.2.1) (u.2.2.2.2)))) (va_A (WQ hQ aQ kQ hw fQ_inside fQ_outside fQ_shut iQ_rows iQ_allRows iQ_columns ++ (WW nW hw lw kw wl wb wG)) sz)) 0 0 (va_A (WQ hQ aQ kQ hw fQ_inside fQ_outside fQ_shut iQ_rows iQ_allRows iQ_columns ++ (WW nW hw lw kw wl wb wG)) sz) := by
  refine Met.ofW (cc := cX6_canKeep) (maxL := 4) (ret := (some .boolean)) (by decide) rfl ?_
  intro p e s m args below meth c s₁ B hml hv
  obtain ⟨rfl, hsz, hP, hK, hD0⟩ := hv
  have hx := B.exec
  have hb := B.bytes
  have hr := B.returns
  have hts := atoms_spec (ws := wsMX6_canKeep) B.pre
  have hown : s.vm.findClass RX6 = some m.cls := findClass_of_methodNamed B.named
  have hlocks := B.notSynchronized
  subst hsz
  have hD := hD0.self (sz := s.heap.size)
  generalize hAe : va_A (WQ hQ aQ kQ hw fQ_inside fQ_outside fQ_shut iQ_rows iQ_allRows iQ_columns ++ (WW nW hw lw kw wl wb wG)) s.heap.size = A at hD ⊢
  have hA : ∀ q : Nat, s.heap.size ≤ q → A q := fun q h => by rw [← hAe]; exact Or.inr h
  have hS : va_S A s.heap s.heap [] := va_S.rf
  have hl := lv_entry ([.ref (hQ 0)]) (n := 4) (Nat.le_of_ble_eq_true rfl)
  rw [lg_entry_eq]
  generalize (lg_sl ([.ref (hQ 0)]) ++ List.replicate (4 - (lg_sl ([.ref (hQ 0)])).length) Slot.unset).toArray = ls at hl ⊢
  have hl : lv_has ls 4 [(0, .ref (hQ 0))] := hl
  have hTb := b_tb.1
  refine lv_iconst (v := 0) hx hb dX6_canKeep_0 (by decide) ?_
  refine lv_istore_n hx hb dX6_canKeep_1 rfl hl (by decide) rfl (fun ls (hl : lv_has ls _ ([(1, .int 0), (0, .ref (hQ 0))])) => ?_)
  have hl : lv_has _ _ ([(1, .int 0), (0, .ref (hQ 0))]) := lv_sub hl [0, 1] rfl
  refine (fun (loop : ∀ (n9 : Nat) (fQ_inside_x2 : Nat → Int32) (fQ_outside_x2 : Nat → Int32) (wl_x2 : Nat → Int32) (wb_x2 : Nat → Int32) (wG_x2 : Nat → Nat → Int64) (l1_x2 : Int32) (H : Heap) (locs : List Loc) (ls : Array Slot), (∀ q : Nat, 0 ≤ (wl_x2 q).toInt ∧ (wl_x2 q).toInt ≤ 14) → (∀ q : Nat, 0 ≤ (wb_x2 q).toInt ∧ (wb_x2 q).toInt ≤ 1) → (0 ≤ l1_x2.toInt ∧ l1_x2.toInt ≤ 1000000) → (1000000 - l1_x2.toInt < ((n9 : Nat) : Int)) → va_P (dC, dI) vwCl (WQ hQ aQ kQ hw fQ_inside_x2 fQ_outside_x2 fQ_shut iQ_rows iQ_allRows iQ_columns ++ (WW nW hw lw kw wl_x2 wb_x2 wG_x2)) H → va_D A (WQ hQ aQ kQ hw fQ_inside_x2 fQ_outside_x2 fQ_shut iQ_rows iQ_allRows iQ_columns ++ (WW nW hw lw kw wl_x2 wb_x2 wG_x2)) → va_S A s.heap H locs → lv_has ls 4 [(1, .int l1_x2), (0, .ref (hQ 0))] → W p l e _ s m _ below meth c H locs 0 0 _ (F0 m 2 ls [])) => loop (1000001) fQ_inside fQ_outside wl wb wG 0 _ _ _ b_wl b_wb (show 0 ≤ (0 : Int32).toInt ∧ (0 : Int32).toInt ≤ 1000000 from by decide) ((by have e9 : (0 : Int32).toInt = 0 := (by decide : (0 : Int32).toInt = 0); omega)) hP hD hS hl) ?_
  intro n9
  induction n9 with
  | zero => intro fQ_inside_x2 fQ_outside_x2 wl_x2 wb_x2 wG_x2 l1_x2 H locs ls b_wl_x2 b_wb_x2 b_l1_x2 hf9; exact False.elim (by omega)
  | succ n9 ihx2 =>
    intro fQ_inside_x2 fQ_outside_x2 wl_x2 wb_x2 wG_x2 l1_x2 H locs ls b_wl_x2 b_wb_x2 b_l1_x2 hfx2 hP hD hS hl
    refine lv_iload_n hx hb dX6_canKeep_2 rfl (lv_at hl 0 rfl) ?_
    refine lv_ldc (v := 1000000) hx hb hown (hts (.constant RX6 83 1000000) (by decide +kernel)) dX6_canKeep_3 ?_
    refine lv_icmp_ge (tgt := 68) hx hb dX6_canKeep_5 (by decide) (fun c_5 => ?_) (fun c_5 => ?_)
    · have t_5 : l1_x2.toInt ≥ 1000000 := toI_ge c_5 rfl (by decide : (1000000 : Int32).toInt = 1000000)
      refine lv_iconst (v := 0) hx hb dX6_canKeep_68 (by decide) ?_
      refine W.widen (k := 0) (n := 0) (by decide +kernel) (by decide +kernel) ?_
      exact W.zret (v := 0) hx hb hr rfl (fun t9_ ht hW => ⟨⟨(0 : Int32), (fQ_inside_x2, fQ_outside_x2, wl_x2, wb_x2, wG_x2), rfl, ⟨b_wl_x2, b_wb_x2, (show 0 ≤ (0 : Int32).toInt ∧ (0 : Int32).toInt ≤ 1 from by decide)⟩, by rw [ht]; exact hP, hD⟩, hS.F ht⟩) hS.2.2 dX6_canKeep_69
    · have t_5 : ¬ l1_x2.toInt ≥ 1000000 := toI_nge c_5 rfl (by decide : (1000000 : Int32).toInt = 1000000)
      refine lv_aload_n hx hb dX6_canKeep_8 rfl (lv_at hl 1 rfl) ?_
      refine lv_iload_n hx hb dX6_canKeep_9 rfl (lv_at hl 0 rfl) ?_
      refine lv_bipush (v := 40) hx hb dX6_canKeep_10 (by decide) ?_
      refine W.cut (pc := 20) (fun H locs ls stk => ∃ (k0_j7 : Int32), (0 ≤ k0_j7.toInt ∧ k0_j7.toInt ≤ 1) ∧  stk = [.int k0_j7, .ref (hQ 0)] ∧ va_P (dC, dI) vwCl (WQ hQ aQ kQ hw fQ_inside_x2 fQ_outside_x2 fQ_shut iQ_rows iQ_allRows iQ_columns ++ (WW nW hw lw kw wl_x2 wb_x2 wG_x2)) H ∧ va_D A (WQ hQ aQ kQ hw fQ_inside_x2 fQ_outside_x2 fQ_shut iQ_rows iQ_allRows iQ_columns ++ (WW nW hw lw kw wl_x2 wb_x2 wG_x2)) ∧ va_S A s.heap H locs ∧ lv_has ls 4 [(1, .int l1_x2), (0, .ref (hQ 0))]) (fun join7 => ?_) ?_
      · refine lv_icmp_ge (tgt := 19) hx hb dX6_canKeep_12 (by decide) (fun c_12 => ?_) (fun c_12 => ?_)
        · have t_12 : l1_x2.toInt ≥ 40 := toI_ge c_12 rfl (by decide : (40 : Int32).toInt = 40)
          refine lv_iconst (v := 0) hx hb dX6_canKeep_19 (by decide) ?_
          have hl : lv_has _ _ ([(1, .int l1_x2), (0, .ref (hQ 0))]) := lv_sub hl [0, 1] rfl
          exact join7 _ _ _ _ ⟨0, (show 0 ≤ (0 : Int32).toInt ∧ (0 : Int32).toInt ≤ 1 from by decide), rfl, hP, hD, hS, hl⟩
        · have t_12 : ¬ l1_x2.toInt ≥ 40 := toI_nge c_12 rfl (by decide : (40 : Int32).toInt = 40)
          refine lv_iconst (v := 1) hx hb dX6_canKeep_15 (by decide) ?_
          refine lv_goto (tgt := 20) hx hb dX6_canKeep_16 (by decide) ?_
          have hl : lv_has _ _ ([(1, .int l1_x2), (0, .ref (hQ 0))]) := lv_sub hl [0, 1] rfl
          exact join7 _ _ _ _ ⟨1, (show 0 ≤ (1 : Int32).toInt ∧ (1 : Int32).toInt ≤ 1 from by decide), rfl, hP, hD, hS, hl⟩
      · rintro H locs ls stk ⟨k0_j7, b_k0_j7, rfl, hP, hD, hS, hl⟩
        have hFc := allFree hD hS hA
        refine va_calli (va_runV (As := [.int k0_j7]) (rest := []) ⟨hx, hb, hml, hown, hts⟩ (m_X6_rowBelow l dC dI hQ aQ kQ hw fQ_inside_x2 fQ_outside_x2 fQ_shut iQ_rows iQ_allRows iQ_columns nW lw kw wl_x2 wb_x2 wG_x2 k0_j7 (b_iQ_rows) (b_iQ_allRows) (b_iQ_columns) (by first | assumption | omega) b_wl_x2 b_wb_x2 (by first | assumption | omega | (rw [iI_t (by omega) (by omega)]; omega) | decide) H.size) (cwV 1 hts gwsMX6_canKeep_0 rfl rfl rfl hd_yX6_rowBelow_RX6 (by decide +kernel)) (fz_pre (va_recv hK hP (ci := 6) (q0 := 0) rfl rfl) hP hK hD) rfl rfl hl.1 rfl (lv_room (Nat.le_of_ble_eq_true rfl)) dX6_canKeep_20 (by decide +kernel)) hS (fun q _ h => hFc q h) hFc (fun r7 u t9_ H locs ht hvm hw9 hB9 hz1 hk1 hS => ?_)
        obtain ⟨b_r7, f7_0⟩ := hw9
        have hP : va_P (dC, dI) vwCl (WQ hQ aQ kQ hw fQ_inside_x2 fQ_outside_x2 fQ_shut iQ_rows iQ_allRows iQ_columns ++ (WW nW hw lw kw wl_x2 wb_x2 wG_x2)) H := fz_P ht hB9.1
        have hD : va_D A (WQ hQ aQ kQ hw fQ_inside_x2 fQ_outside_x2 fQ_shut iQ_rows iQ_allRows iQ_columns ++ (WW nW hw lw kw wl_x2 wb_x2 wG_x2)) := hB9.2.weaken (fun _ q _ h => hFc q.1 h)
        refine lv_istore_n hx hb dX6_canKeep_23 rfl hl (by decide) rfl (fun ls (hl : lv_has ls _ ([(2, .int r7), (1, .int l1_x2), (0, .ref (hQ 0))])) => ?_)
        refine lv_iload_n hx hb dX6_canKeep_24 rfl (lv_at hl 0 rfl) ?_
        refine lv_iconst (v := (-1)) hx hb dX6_canKeep_25 (by decide) ?_
        refine lv_icmp_ne (tgt := 31) hx hb dX6_canKeep_26 (by decide) (fun c_26 => ?_) (fun c_26 => ?_)
        · have t_26 : r7.toInt ≠ (-1) := toI_ne c_26 rfl (by decide : ((-1) : Int32).toInt = (-1))
          refine lv_aload_n hx hb dX6_canKeep_31 rfl (lv_at hl 2 rfl) ?_
          refine lv_iload_n hx hb dX6_canKeep_32 rfl (lv_at hl 0 rfl) ?_
          refine lv_iconst (v := 1) hx hb dX6_canKeep_33 (by decide) ?_
          refine lv_iload_n hx hb dX6_canKeep_34 rfl (lv_at hl 1 rfl) ?_
          refine lv_bipush (v := 40) hx hb dX6_canKeep_35 (by decide) ?_
          refine W.cut (pc := 45) (fun H locs ls stk => ∃ (k0_j8 : Int32), (0 ≤ k0_j8.toInt ∧ k0_j8.toInt ≤ 1) ∧  stk = [.int k0_j8, .int 1, .int r7, .ref (hQ 0)] ∧ va_P (dC, dI) vwCl (WQ hQ aQ kQ hw fQ_inside_x2 fQ_outside_x2 fQ_shut iQ_rows iQ_allRows iQ_columns ++ (WW nW hw lw kw wl_x2 wb_x2 wG_x2)) H ∧ va_D A (WQ hQ aQ kQ hw fQ_inside_x2 fQ_outside_x2 fQ_shut iQ_rows iQ_allRows iQ_columns ++ (WW nW hw lw kw wl_x2 wb_x2 wG_x2)) ∧ va_S A s.heap H locs ∧ lv_has ls 4 [(2, .int r7), (1, .int l1_x2), (0, .ref (hQ 0))]) (fun join8 => ?_) ?_
          · refine lv_icmp_ge (tgt := 44) hx hb dX6_canKeep_37 (by decide) (fun c_37 => ?_) (fun c_37 => ?_)
            · have t_37 : l1_x2.toInt ≥ 40 := toI_ge c_37 rfl (by decide : (40 : Int32).toInt = 40)
              refine lv_iconst (v := 0) hx hb dX6_canKeep_44 (by decide) ?_
              have hl : lv_has _ _ ([(2, .int r7), (1, .int l1_x2), (0, .ref (hQ 0))]) := lv_sub hl [0, 1, 2] rfl
              exact join8 _ _ _ _ ⟨0, (show 0 ≤ (0 : Int32).toInt ∧ (0 : Int32).toInt ≤ 1 from by decide), rfl, hP, hD, hS, hl⟩
            · have t_37 : ¬ l1_x2.toInt ≥ 40 := toI_nge c_37 rfl (by decide : (40 : Int32).toInt = 40)
              refine lv_iconst (v := 1) hx hb dX6_canKeep_40 (by decide) ?_
              refine lv_goto (tgt := 45) hx hb dX6_canKeep_41 (by decide) ?_
              have hl : lv_has _ _ ([(2, .int r7), (1, .int l1_x2), (0, .ref (hQ 0))]) := lv_sub hl [0, 1, 2] rfl
              exact join8 _ _ _ _ ⟨1, (show 0 ≤ (1 : Int32).toInt ∧ (1 : Int32).toInt ≤ 1 from by decide), rfl, hP, hD, hS, hl⟩
          · rintro H locs ls stk ⟨k0_j8, b_k0_j8, rfl, hP, hD, hS, hl⟩
            have hFc := allFree hD hS hA
            refine va_calli (va_runV (As := [.int r7, .int 1, .int k0_j8]) (rest := []) ⟨hx, hb, hml, hown, hts⟩ (m_X6_columnOfSign l dC dI hQ aQ kQ hw fQ_inside_x2 fQ_outside_x2 fQ_shut iQ_rows iQ_allRows iQ_columns nW lw kw wl_x2 wb_x2 wG_x2 r7 1 k0_j8 (b_iQ_rows) (b_iQ_allRows) (b_iQ_columns) (by first | assumption | omega) b_wl_x2 b_wb_x2 (by first | exact b_r7 | assumption | exact ⟨by omega, by omega⟩) (by first | assumption | omega | (rw [iI_t (by omega) (by omega)]; omega) | decide) (FitR.of b_tb (by omega) (by omega) (by omega)) H.size) (cwV 3 hts gwsMX6_canKeep_1 rfl rfl rfl hd_yX6_columnOfSign_RX6 (by decide +kernel)) (fz_pre (va_recv hK hP (ci := 6) (q0 := 0) rfl rfl) hP hK hD) rfl rfl hl.1 rfl (lv_room (Nat.le_of_ble_eq_true rfl)) dX6_canKeep_45 (by decide +kernel)) hS (fun q _ h => hFc q h) hFc (fun r8 u t9_ H locs ht hvm hw9 hB9 hz1 hk1 hS => ?_)
            obtain ⟨b_r8, f8_0⟩ := hw9
            have hP : va_P (dC, dI) vwCl (WQ hQ aQ kQ hw fQ_inside_x2 fQ_outside_x2 fQ_shut iQ_rows iQ_allRows iQ_columns ++ (WW nW hw lw kw wl_x2 wb_x2 wG_x2)) H := fz_P ht hB9.1
            have hD : va_D A (WQ hQ aQ kQ hw fQ_inside_x2 fQ_outside_x2 fQ_shut iQ_rows iQ_allRows iQ_columns ++ (WW nW hw lw kw wl_x2 wb_x2 wG_x2)) := hB9.2.weaken (fun _ q _ h => hFc q.1 h)
            refine lv_istore_n hx hb dX6_canKeep_48 rfl hl (by decide) rfl (fun ls (hl : lv_has ls _ ([(3, .int r8), (2, .int r7), (1, .int l1_x2), (0, .ref (hQ 0))])) => ?_)
            refine lv_iload_n hx hb dX6_canKeep_49 rfl (lv_at hl 0 rfl) ?_
            refine lv_iconst (v := (-1)) hx hb dX6_canKeep_50 (by decide) ?_
            refine lv_icmp_ne (tgt := 56) hx hb dX6_canKeep_51 (by decide) (fun c_51 => ?_) (fun c_51 => ?_)
            · have t_51 : r8.toInt ≠ (-1) := toI_ne c_51 rfl (by decide : ((-1) : Int32).toInt = (-1))
              refine lv_aload_n hx hb dX6_canKeep_56 rfl (lv_at hl 3 rfl) ?_
              refine lv_iload_n hx hb dX6_canKeep_57 rfl (lv_at hl 1 rfl) ?_
              refine lv_iload_n hx hb dX6_canKeep_58 rfl (lv_at hl 0 rfl) ?_
              have hFc := allFree hD hS hA
              refine va_callv (va_runV (As := [.int r7, .int r8]) (rest := []) ⟨hx, hb, hml, hown, hts⟩ (m_X6_exchange l dC dI hQ aQ kQ hw fQ_inside_x2 fQ_outside_x2 fQ_shut iQ_rows iQ_allRows iQ_columns nW lw kw wl_x2 wb_x2 wG_x2 r7 r8 (b_iQ_rows) (b_iQ_allRows) (b_iQ_columns) (by first | assumption | omega) b_wl_x2 b_wb_x2 (by first | exact b_r7 | assumption | exact ⟨by omega, by omega⟩) (by first | exact b_r8 | assumption | exact ⟨by omega, by omega⟩) (by first | assumption | omega | (rw [iI_t (by omega) (by omega)]; omega) | decide) (FitR.of b_tb (by omega) (by omega) (by omega)) (by first | assumption | omega | (rw [iI_t (by omega) (by omega)]; omega) | decide) H.size) (cwV 2 hts gwsMX6_canKeep_2 rfl rfl rfl hd_yX6_exchange_RX6 (by decide +kernel)) (fz_pre (va_recv hK hP (ci := 6) (q0 := 0) rfl rfl) hP hK hD) rfl rfl hl.1 rfl (lv_room (Nat.le_of_ble_eq_true rfl)) dX6_canKeep_59 (by decide +kernel)) hS (fun q _ h => hFc q h) hFc (fun u t9_ H locs ht hvm hw9 hB9 hz1 hk1 hS => ?_)
              obtain ⟨fQ_inside_9, fQ_outside_9, wl_9, wb_9, wG_9⟩ := u
              try dsimp only at hw9 hB9
              obtain ⟨b_wl_9, b_wb_9⟩ := hw9
              have hP : va_P (dC, dI) vwCl (WQ hQ aQ kQ hw fQ_inside_9 fQ_outside_9 fQ_shut iQ_rows iQ_allRows iQ_columns ++ (WW nW hw lw kw wl_9 wb_9 wG_9)) H := fz_P ht hB9.1
              have hD : va_D A (WQ hQ aQ kQ hw fQ_inside_9 fQ_outside_9 fQ_shut iQ_rows iQ_allRows iQ_columns ++ (WW nW hw lw kw wl_9 wb_9 wG_9)) := hB9.2.weaken (fun _ q _ h => hFc q.1 h)
              refine lv_iinc (v := (iI (l1_x2.toInt + 1))) hx hb dX6_canKeep_62 hl (k := 2) rfl (iI_add2 (iI_of _) (by decide : (1 : Int32) = iI 1)) (by decide) rfl (fun ls (hl : lv_has ls _ ([(1, .int (iI (l1_x2.toInt + 1))), (3, .int r8), (2, .int r7), (0, .ref (hQ 0))])) => ?_)
              refine lv_goto (tgt := 2) hx hb dX6_canKeep_65 (by decide) ?_
              have hl : lv_has _ _ ([(1, .int (iI (l1_x2.toInt + 1))), (0, .ref (hQ 0))]) := lv_sub hl [0, 3] rfl
              exact ihx2 fQ_inside_9 fQ_outside_9 wl_9 wb_9 wG_9 (iI (l1_x2.toInt + 1)) _ _ _ b_wl_9 b_wb_9 (iI_rng (Int.le_trans (by decide) (Int.add_le_add (b_l1_x2.1) (Int.le_refl _))) (by omega) (by decide) (by decide)) (by have e9 : ((iI (l1_x2.toInt + 1))).toInt = (l1_x2.toInt + 1) := (iI_t (Int.le_trans (by decide) (Int.add_le_add (b_l1_x2.1) (Int.le_refl _))) (Int.le_trans (Int.add_le_add (b_l1_x2.2) (Int.le_refl _)) (by decide))); omega) hP hD hS hl
            · have t_51 : r8.toInt = (-1) := toI_nne c_51 rfl (by decide : ((-1) : Int32).toInt = (-1))
              refine lv_iconst (v := 0) hx hb dX6_canKeep_54 (by decide) ?_
              refine W.widen (k := 0) (n := 0) (by decide +kernel) (by decide +kernel) ?_
              exact W.zret (v := 0) hx hb hr rfl (fun t9_ ht hW => ⟨⟨(0 : Int32), (fQ_inside_x2, fQ_outside_x2, wl_x2, wb_x2, wG_x2), rfl, ⟨b_wl_x2, b_wb_x2, (show 0 ≤ (0 : Int32).toInt ∧ (0 : Int32).toInt ≤ 1 from by decide)⟩, by rw [ht]; exact hP, hD⟩, hS.F ht⟩) hS.2.2 dX6_canKeep_55
        · have t_26 : r7.toInt = (-1) := toI_nne c_26 rfl (by decide : ((-1) : Int32).toInt = (-1))
          refine lv_iconst (v := 1) hx hb dX6_canKeep_29 (by decide) ?_
          refine W.widen (k := 0) (n := 0) (by decide +kernel) (by decide +kernel) ?_
          exact W.zret (v := 1) hx hb hr rfl (fun t9_ ht hW => ⟨⟨(1 : Int32), (fQ_inside_x2, fQ_outside_x2, wl_x2, wb_x2, wG_x2), rfl, ⟨b_wl_x2, b_wb_x2, (show 0 ≤ (1 : Int32).toInt ∧ (1 : Int32).toInt ≤ 1 from by decide)⟩, by rw [ht]; exact hP, hD⟩, hS.F ht⟩) hS.2.2 dX6_canKeep_30
theorem dX6_makeLeast_0 : decode cX6_makeLeast 0 = .ok (.iconst 0, 1) := dk_3 (by decide +kernel)
theorem dX6_makeLeast_1 : decode cX6_makeLeast 1 = .ok (.istore_n 2, 1) := dk_61 (by decide +kernel)
theorem dX6_makeLeast_2 : decode cX6_makeLeast 2 = .ok (.iload_n 2, 1) := dk_28 (by decide +kernel)
theorem dX6_makeLeast_3 : decode cX6_makeLeast 3 = .ok (.ldc 83, 2) := dk_18 (by decide +kernel)
theorem dX6_makeLeast_5 : decode cX6_makeLeast 5 = .ok (.if_icmp .ge 59, 3) := dk_162 (by decide +kernel)
theorem dX6_makeLeast_8 : decode cX6_makeLeast 8 = .ok (.aload_n 0, 1) := dk_42 (by decide +kernel)
theorem dX6_makeLeast_9 : decode cX6_makeLeast 9 = .ok (.iload_n 1, 1) := dk_27 (by decide +kernel)
theorem dX6_makeLeast_10 : decode cX6_makeLeast 10 = .ok (.iconst (-1), 1) := dk_2 (by decide +kernel)
theorem dX6_makeLeast_11 : decode cX6_makeLeast 11 = .ok (.iload_n 2, 1) := dk_28 (by decide +kernel)
theorem dX6_makeLeast_12 : decode cX6_makeLeast 12 = .ok (.bipush 40, 2) := dk_16 (by decide +kernel)
theorem dX6_makeLeast_14 : decode cX6_makeLeast 14 = .ok (.if_icmp .ge 7, 3) := dk_162 (by decide +kernel)
theorem dX6_makeLeast_17 : decode cX6_makeLeast 17 = .ok (.iconst 1, 1) := dk_4 (by decide +kernel)
theorem dX6_makeLeast_18 : decode cX6_makeLeast 18 = .ok (.goto 4, 3) := dk_167 (by decide +kernel)
theorem dX6_makeLeast_21 : decode cX6_makeLeast 21 = .ok (.iconst 0, 1) := dk_3 (by decide +kernel)
theorem dX6_makeLeast_22 : decode cX6_makeLeast 22 = .ok (.invokevirtual 88, 3) := dk_182 (by decide +kernel)
theorem dX6_makeLeast_25 : decode cX6_makeLeast 25 = .ok (.istore_n 3, 1) := dk_62 (by decide +kernel)
theorem dX6_makeLeast_26 : decode cX6_makeLeast 26 = .ok (.iload_n 3, 1) := dk_29 (by decide +kernel)
theorem dX6_makeLeast_27 : decode cX6_makeLeast 27 = .ok (.iconst (-1), 1) := dk_2 (by decide +kernel)
theorem dX6_makeLeast_28 : decode cX6_makeLeast 28 = .ok (.if_icmp .ne 7, 3) := dk_160 (by decide +kernel)
theorem dX6_makeLeast_31 : decode cX6_makeLeast 31 = .ok (.iconst (-1), 1) := dk_2 (by decide +kernel)
theorem dX6_makeLeast_32 : decode cX6_makeLeast 32 = .ok (.goto 8, 3) := dk_167 (by decide +kernel)
theorem dX6_makeLeast_35 : decode cX6_makeLeast 35 = .ok (.aload_n 0, 1) := dk_42 (by decide +kernel)
theorem dX6_makeLeast_36 : decode cX6_makeLeast 36 = .ok (.iload_n 3, 1) := dk_29 (by decide +kernel)
theorem dX6_makeLeast_37 : decode cX6_makeLeast 37 = .ok (.invokevirtual 100, 3) := dk_182 (by decide +kernel)
theorem dX6_makeLeast_40 : decode cX6_makeLeast 40 = .ok (.istore 4, 2) := dk_54 (by decide +kernel)
theorem dX6_makeLeast_42 : decode cX6_makeLeast 42 = .ok (.iload 4, 2) := dk_21 (by decide +kernel)
theorem dX6_makeLeast_44 : decode cX6_makeLeast 44 = .ok (.iconst (-1), 1) := dk_2 (by decide +kernel)
theorem dX6_makeLeast_45 : decode cX6_makeLeast 45 = .ok (.if_icmp .ne 6, 3) := dk_160 (by decide +kernel)
theorem dX6_makeLeast_48 : decode cX6_makeLeast 48 = .ok (.goto 16, 3) := dk_167 (by decide +kernel)
theorem dX6_makeLeast_51 : decode cX6_makeLeast 51 = .ok (.aload_n 0, 1) := dk_42 (by decide +kernel)
theorem dX6_makeLeast_52 : decode cX6_makeLeast 52 = .ok (.iload 4, 2) := dk_21 (by decide +kernel)
theorem dX6_makeLeast_54 : decode cX6_makeLeast 54 = .ok (.iload_n 3, 1) := dk_29 (by decide +kernel)
theorem dX6_makeLeast_55 : decode cX6_makeLeast 55 = .ok (.invokevirtual 79, 3) := dk_182 (by decide +kernel)
theorem dX6_makeLeast_58 : decode cX6_makeLeast 58 = .ok (.iinc 2 1, 3) := dk_132 (by decide +kernel)
theorem dX6_makeLeast_61 : decode cX6_makeLeast 61 = .ok (.goto (-59), 3) := dk_167 (by decide +kernel)
theorem dX6_makeLeast_64 : decode cX6_makeLeast 64 = .ok (.aload_n 0, 1) := dk_42 (by decide +kernel)
theorem dX6_makeLeast_65 : decode cX6_makeLeast 65 = .ok (.iload_n 1, 1) := dk_27 (by decide +kernel)
theorem dX6_makeLeast_66 : decode cX6_makeLeast 66 = .ok (.invokevirtual 103, 3) := dk_182 (by decide +kernel)
theorem dX6_makeLeast_69 : decode cX6_makeLeast 69 = .ok (.return_, 1) := dk_177 (by decide +kernel)
def wsMX6_makeLeast : List Cond := .code yX6_makeLeast cX6_makeLeast 5 none :: ([.constant RX6 83 1000000] ++ (wsV RX6 88 RX6 yX6_columnOfSign wsMX6_columnOfSign) ++ (wsV RX6 100 RX6 yX6_tightest wsMX6_tightest) ++ (wsV RX6 79 RX6 yX6_exchange wsMX6_exchange) ++ (wsV RX6 103 RX6 yX6_shutWith wsMX6_shutWith))
theorem gwsMX6_makeLeast_0 : GoodIn wsMX6_makeLeast (wsV RX6 88 RX6 yX6_columnOfSign wsMX6_columnOfSign) := goodIn_sub (fun _ h => List.mem_cons_of_mem _ (List.mem_append_left _ (List.mem_append_left _ (List.mem_append_left _ (List.mem_append_right _ h))))) (gdV (by decide +kernel) gdwsMX6_columnOfSign)
theorem gwsMX6_makeLeast_1 : GoodIn wsMX6_makeLeast (wsV RX6 100 RX6 yX6_tightest wsMX6_tightest) := goodIn_sub (fun _ h => List.mem_cons_of_mem _ (List.mem_append_left _ (List.mem_append_left _ (List.mem_append_right _ h)))) (gdV (by decide +kernel) gdwsMX6_tightest)
theorem gwsMX6_makeLeast_2 : GoodIn wsMX6_makeLeast (wsV RX6 79 RX6 yX6_exchange wsMX6_exchange) := goodIn_sub (fun _ h => List.mem_cons_of_mem _ (List.mem_append_left _ (List.mem_append_right _ h))) (gdV (by decide +kernel) gdwsMX6_exchange)
theorem gwsMX6_makeLeast_3 : GoodIn wsMX6_makeLeast (wsV RX6 103 RX6 yX6_shutWith wsMX6_shutWith) := goodIn_sub (fun _ h => List.mem_cons_of_mem _ (List.mem_append_right _ h)) (gdV (by decide +kernel) gdwsMX6_shutWith)
theorem gdwsMX6_makeLeast : wsMX6_makeLeast.all goodWord = true := gdC rfl (gdA (gdA (gdA (gdA (by decide +kernel : ([.constant RX6 83 1000000] : List Cond).all goodWord = true) (gdV (by decide +kernel) gdwsMX6_columnOfSign)) (gdV (by decide +kernel) gdwsMX6_tightest)) (gdV (by decide +kernel) gdwsMX6_exchange)) (gdV (by decide +kernel) gdwsMX6_shutWith))
set_option maxHeartbeats 4000000 in
set_option maxRecDepth 100000 in
/-- a goal made least -/
theorem m_X6_makeLeast (l : Launch) (dC : Nat → ClassId) (dI : Nat → Nat → Nat) (hQ : Nat → Nat) (aQ : Nat → Nat) (kQ : Nat → ClassId) (hw : Nat → Nat) (fQ_inside : Nat → Int32) (fQ_outside : Nat → Int32) (fQ_shut : Nat → Int32) (iQ_rows : Int32) (iQ_allRows : Int32) (iQ_columns : Int32) (nW : Nat) (lw : Nat → Nat) (kw : ClassId) (wl : Nat → Int32) (wb : Nat → Int32) (wG : Nat → Nat → Int64) (p1 : Int32) (b_iQ_rows : 0 ≤ iQ_rows.toInt ∧ iQ_rows.toInt ≤ 40) (b_iQ_allRows : 0 ≤ iQ_allRows.toInt ∧ iQ_allRows.toInt ≤ 40) (b_iQ_columns : 0 ≤ iQ_columns.toInt ∧ iQ_columns.toInt ≤ 40) (b_tb : TbO iQ_rows iQ_allRows iQ_columns) (b_wl : ∀ q : Nat, 0 ≤ (wl q).toInt ∧ (wl q).toInt ≤ 14) (b_wb : ∀ q : Nat, 0 ≤ (wb q).toInt ∧ (wb q).toInt ≤ 1) (b_p1 : 0 ≤ p1.toInt ∧ p1.toInt ≤ 39) (hnW : 406 ≤ nW) (hrow : FitR p1.toInt iQ_columns.toInt) (sz : Nat) : Met l yX6_makeLeast wsMX6_makeLeast ({ frames := 5, cells := 0, slots := 0, locals := 131 }) (va_Pc [.ref (hQ 0), .int p1] (fun U => U.heap.size = sz ∧ va_P (dC, dI) vwCl (WQ hQ aQ kQ hw fQ_inside fQ_outside fQ_shut iQ_rows iQ_allRows iQ_columns ++ (WW nW hw lw kw wl wb wG)) U.heap ∧ va_K (dC, dI) vwCl (tQ kQ ++ (tW kw)) U ∧ va_D (fun _ => True) (WQ hQ aQ kQ hw fQ_inside fQ_outside fQ_shut iQ_rows iQ_allRows iQ_columns ++ (WW nW hw lw kw wl wb wG)))) (va_Qv (fun (u : (Nat → Int32) × (Nat → Int32) × (Nat → Int32) × (Nat → Int32) × (Nat → Int32) × (Nat → Nat → Int64)) => (∀ q : Nat, 0 ≤ ((u.2.2.2.1) q).toInt ∧ ((u.2.2.2.1) q).toInt ≤ 14) ∧ (∀ q : Nat, 0 ≤ ((u.2.2.2.2.1) q).toInt ∧ ((u.2.2.2.2.1) q).toInt ≤ 1)) (fun (u : (Nat → Int32) × (Nat → Int32) × (Nat → Int32) × (Nat → Int32) × (Nat → Int32) × (Nat → Nat → Int64)) t => va_P (dC, dI) vwCl (WQ hQ aQ kQ hw (u.1) (u.2.1) (u.2.2.1) iQ_rows iQ_allRows iQ_columns ++ (WW nW hw lw kw (u.2.2.2.1) (u.2.2.2.2.1) (u.2.2.2.2.2))) t.heap ∧ va_D (va_A (WQ hQ aQ kQ hw fQ_inside fQ_outside fQ_shut iQ_rows iQ_allRows iQ_columns ++ (WW nW hw lw kw wl wb wG)) sz) (WQ hQ aQ kQ hw (u.1) (u.2.1) (u.2.2.1) iQ_rows iQ_allRows iQ_columns ++ (WW nW hw lw kw (u.2.2.2.1) (u.2.2.2.2.1) (u.2.2.2.2.2)))) (va_A (WQ hQ aQ kQ hw fQ_inside fQ_outside fQ_shut iQ_rows iQ_allRows iQ_columns ++ (WW nW hw lw kw wl wb wG)) sz)) 0 0 (va_A (WQ hQ aQ kQ hw fQ_inside fQ_outside fQ_shut iQ_rows iQ_allRows iQ_columns ++ (WW nW hw lw kw wl wb wG)) sz) := by
  refine Met.ofW (cc := cX6_makeLeast) (maxL := 5) (ret := none) (by decide) rfl ?_
  intro p e s m args below meth c s₁ B hml hv
  obtain ⟨rfl, hsz, hP, hK, hD0⟩ := hv
  have hx := B.exec
  have hb := B.bytes
  have hr := B.returns
  have hts := atoms_spec (ws := wsMX6_makeLeast) B.pre
  have hown : s.vm.findClass RX6 = some m.cls := findClass_of_methodNamed B.named
  have hlocks := B.notSynchronized
  subst hsz
  have hD := hD0.self (sz := s.heap.size)
  generalize hAe : va_A (WQ hQ aQ kQ hw fQ_inside fQ_outside fQ_shut iQ_rows iQ_allRows iQ_columns ++ (WW nW hw lw kw wl wb wG)) s.heap.size = A at hD ⊢
  have hA : ∀ q : Nat, s.heap.size ≤ q → A q := fun q h => by rw [← hAe]; exact Or.inr h
  have hS : va_S A s.heap s.heap [] := va_S.rf
  have hl := lv_entry ([.ref (hQ 0), .int p1]) (n := 5) (Nat.le_of_ble_eq_true rfl)
  rw [lg_entry_eq]
  generalize (lg_sl ([.ref (hQ 0), .int p1]) ++ List.replicate (5 - (lg_sl ([.ref (hQ 0), .int p1])).length) Slot.unset).toArray = ls at hl ⊢
  have hl : lv_has ls 5 [(0, .ref (hQ 0)), (1, .int p1)] := hl
  have hTb := b_tb.1
  refine lv_iconst (v := 0) hx hb dX6_makeLeast_0 (by decide) ?_
  refine lv_istore_n hx hb dX6_makeLeast_1 rfl hl (by decide) rfl (fun ls (hl : lv_has ls _ ([(2, .int 0), (0, .ref (hQ 0)), (1, .int p1)])) => ?_)
  have hl : lv_has _ _ ([(2, .int 0), (0, .ref (hQ 0)), (1, .int p1)]) := lv_sub hl [0, 1, 2] rfl
  refine (fun (loop : ∀ (n9 : Nat) (fQ_inside_x2 : Nat → Int32) (fQ_outside_x2 : Nat → Int32) (wl_x2 : Nat → Int32) (wb_x2 : Nat → Int32) (wG_x2 : Nat → Nat → Int64) (l2_x2 : Int32) (H : Heap) (locs : List Loc) (ls : Array Slot), (∀ q : Nat, 0 ≤ (wl_x2 q).toInt ∧ (wl_x2 q).toInt ≤ 14) → (∀ q : Nat, 0 ≤ (wb_x2 q).toInt ∧ (wb_x2 q).toInt ≤ 1) → (0 ≤ l2_x2.toInt ∧ l2_x2.toInt ≤ 1000000) → (1000000 - l2_x2.toInt < ((n9 : Nat) : Int)) → va_P (dC, dI) vwCl (WQ hQ aQ kQ hw fQ_inside_x2 fQ_outside_x2 fQ_shut iQ_rows iQ_allRows iQ_columns ++ (WW nW hw lw kw wl_x2 wb_x2 wG_x2)) H → va_D A (WQ hQ aQ kQ hw fQ_inside_x2 fQ_outside_x2 fQ_shut iQ_rows iQ_allRows iQ_columns ++ (WW nW hw lw kw wl_x2 wb_x2 wG_x2)) → va_S A s.heap H locs → lv_has ls 5 [(2, .int l2_x2), (0, .ref (hQ 0)), (1, .int p1)] → W p l e _ s m _ below meth c H locs 0 0 _ (F0 m 2 ls [])) => loop (1000001) fQ_inside fQ_outside wl wb wG 0 _ _ _ b_wl b_wb (show 0 ≤ (0 : Int32).toInt ∧ (0 : Int32).toInt ≤ 1000000 from by decide) ((by have e9 : (0 : Int32).toInt = 0 := (by decide : (0 : Int32).toInt = 0); omega)) hP hD hS hl) ?_
  intro n9
  induction n9 with
  | zero => intro fQ_inside_x2 fQ_outside_x2 wl_x2 wb_x2 wG_x2 l2_x2 H locs ls b_wl_x2 b_wb_x2 b_l2_x2 hf9; exact False.elim (by omega)
  | succ n9 ihx2 =>
    intro fQ_inside_x2 fQ_outside_x2 wl_x2 wb_x2 wG_x2 l2_x2 H locs ls b_wl_x2 b_wb_x2 b_l2_x2 hfx2 hP hD hS hl
    refine lv_iload_n hx hb dX6_makeLeast_2 rfl (lv_at hl 0 rfl) ?_
    refine lv_ldc (v := 1000000) hx hb hown (hts (.constant RX6 83 1000000) (by decide +kernel)) dX6_makeLeast_3 ?_
    refine W.cut (pc := 64) (fun H locs ls stk => ∃ (wl_j11 : Nat → Int32) (wb_j11 : Nat → Int32) (wG_j11 : Nat → Nat → Int64), (∀ q : Nat, 0 ≤ (wl_j11 q).toInt ∧ (wl_j11 q).toInt ≤ 14) ∧ (∀ q : Nat, 0 ≤ (wb_j11 q).toInt ∧ (wb_j11 q).toInt ≤ 1) ∧  stk = [] ∧ va_P (dC, dI) vwCl (WQ hQ aQ kQ hw fQ_inside_x2 fQ_outside_x2 fQ_shut iQ_rows iQ_allRows iQ_columns ++ (WW nW hw lw kw wl_j11 wb_j11 wG_j11)) H ∧ va_D A (WQ hQ aQ kQ hw fQ_inside_x2 fQ_outside_x2 fQ_shut iQ_rows iQ_allRows iQ_columns ++ (WW nW hw lw kw wl_j11 wb_j11 wG_j11)) ∧ va_S A s.heap H locs ∧ lv_has ls 5 [(2, .int l2_x2), (0, .ref (hQ 0)), (1, .int p1)]) (fun join11 => ?_) ?_
    · refine lv_icmp_ge (tgt := 64) hx hb dX6_makeLeast_5 (by decide) (fun c_5 => ?_) (fun c_5 => ?_)
      · have t_5 : l2_x2.toInt ≥ 1000000 := toI_ge c_5 rfl (by decide : (1000000 : Int32).toInt = 1000000)
        have hl : lv_has _ _ ([(2, .int l2_x2), (0, .ref (hQ 0)), (1, .int p1)]) := lv_sub hl [0, 1, 2] rfl
        exact join11 _ _ _ _ ⟨wl_x2, wb_x2, wG_x2, b_wl_x2, b_wb_x2, rfl, hP, hD, hS, hl⟩
      · have t_5 : ¬ l2_x2.toInt ≥ 1000000 := toI_nge c_5 rfl (by decide : (1000000 : Int32).toInt = 1000000)
        refine lv_aload_n hx hb dX6_makeLeast_8 rfl (lv_at hl 1 rfl) ?_
        refine lv_iload_n hx hb dX6_makeLeast_9 rfl (lv_at hl 2 rfl) ?_
        refine lv_iconst (v := (-1)) hx hb dX6_makeLeast_10 (by decide) ?_
        refine lv_iload_n hx hb dX6_makeLeast_11 rfl (lv_at hl 0 rfl) ?_
        refine lv_bipush (v := 40) hx hb dX6_makeLeast_12 (by decide) ?_
        refine W.cut (pc := 22) (fun H locs ls stk => ∃ (k0_j12 : Int32), (0 ≤ k0_j12.toInt ∧ k0_j12.toInt ≤ 1) ∧  stk = [.int k0_j12, .int (-1), .int p1, .ref (hQ 0)] ∧ va_P (dC, dI) vwCl (WQ hQ aQ kQ hw fQ_inside_x2 fQ_outside_x2 fQ_shut iQ_rows iQ_allRows iQ_columns ++ (WW nW hw lw kw wl_x2 wb_x2 wG_x2)) H ∧ va_D A (WQ hQ aQ kQ hw fQ_inside_x2 fQ_outside_x2 fQ_shut iQ_rows iQ_allRows iQ_columns ++ (WW nW hw lw kw wl_x2 wb_x2 wG_x2)) ∧ va_S A s.heap H locs ∧ lv_has ls 5 [(2, .int l2_x2), (0, .ref (hQ 0)), (1, .int p1)]) (fun join12 => ?_) ?_
        · refine lv_icmp_ge (tgt := 21) hx hb dX6_makeLeast_14 (by decide) (fun c_14 => ?_) (fun c_14 => ?_)
          · have t_14 : l2_x2.toInt ≥ 40 := toI_ge c_14 rfl (by decide : (40 : Int32).toInt = 40)
            refine lv_iconst (v := 0) hx hb dX6_makeLeast_21 (by decide) ?_
            have hl : lv_has _ _ ([(2, .int l2_x2), (0, .ref (hQ 0)), (1, .int p1)]) := lv_sub hl [0, 1, 2] rfl
            exact join12 _ _ _ _ ⟨0, (show 0 ≤ (0 : Int32).toInt ∧ (0 : Int32).toInt ≤ 1 from by decide), rfl, hP, hD, hS, hl⟩
          · have t_14 : ¬ l2_x2.toInt ≥ 40 := toI_nge c_14 rfl (by decide : (40 : Int32).toInt = 40)
            refine lv_iconst (v := 1) hx hb dX6_makeLeast_17 (by decide) ?_
            refine lv_goto (tgt := 22) hx hb dX6_makeLeast_18 (by decide) ?_
            have hl : lv_has _ _ ([(2, .int l2_x2), (0, .ref (hQ 0)), (1, .int p1)]) := lv_sub hl [0, 1, 2] rfl
            exact join12 _ _ _ _ ⟨1, (show 0 ≤ (1 : Int32).toInt ∧ (1 : Int32).toInt ≤ 1 from by decide), rfl, hP, hD, hS, hl⟩
        · rintro H locs ls stk ⟨k0_j12, b_k0_j12, rfl, hP, hD, hS, hl⟩
          have hFc := allFree hD hS hA
          refine va_calli (va_runV (As := [.int p1, .int (-1), .int k0_j12]) (rest := []) ⟨hx, hb, hml, hown, hts⟩ (m_X6_columnOfSign l dC dI hQ aQ kQ hw fQ_inside_x2 fQ_outside_x2 fQ_shut iQ_rows iQ_allRows iQ_columns nW lw kw wl_x2 wb_x2 wG_x2 p1 (-1) k0_j12 (b_iQ_rows) (b_iQ_allRows) (b_iQ_columns) (by first | assumption | omega) b_wl_x2 b_wb_x2 (b_p1) (by first | assumption | omega | (rw [iI_t (by omega) (by omega)]; omega) | decide) (hrow) H.size) (cwV 3 hts gwsMX6_makeLeast_0 rfl rfl rfl hd_yX6_columnOfSign_RX6 (by decide +kernel)) (fz_pre (va_recv hK hP (ci := 6) (q0 := 0) rfl rfl) hP hK hD) rfl rfl hl.1 rfl (lv_room (Nat.le_of_ble_eq_true rfl)) dX6_makeLeast_22 (by decide +kernel)) hS (fun q _ h => hFc q h) hFc (fun r17 u t9_ H locs ht hvm hw9 hB9 hz1 hk1 hS => ?_)
          obtain ⟨b_r17, f17_0⟩ := hw9
          have hP : va_P (dC, dI) vwCl (WQ hQ aQ kQ hw fQ_inside_x2 fQ_outside_x2 fQ_shut iQ_rows iQ_allRows iQ_columns ++ (WW nW hw lw kw wl_x2 wb_x2 wG_x2)) H := fz_P ht hB9.1
          have hD : va_D A (WQ hQ aQ kQ hw fQ_inside_x2 fQ_outside_x2 fQ_shut iQ_rows iQ_allRows iQ_columns ++ (WW nW hw lw kw wl_x2 wb_x2 wG_x2)) := hB9.2.weaken (fun _ q _ h => hFc q.1 h)
          refine lv_istore_n hx hb dX6_makeLeast_25 rfl hl (by decide) rfl (fun ls (hl : lv_has ls _ ([(3, .int r17), (2, .int l2_x2), (0, .ref (hQ 0)), (1, .int p1)])) => ?_)
          refine lv_iload_n hx hb dX6_makeLeast_26 rfl (lv_at hl 0 rfl) ?_
          refine lv_iconst (v := (-1)) hx hb dX6_makeLeast_27 (by decide) ?_
          refine lv_icmp_ne (tgt := 35) hx hb dX6_makeLeast_28 (by decide) (fun c_28 => ?_) (fun c_28 => ?_)
          · have t_28 : r17.toInt ≠ (-1) := toI_ne c_28 rfl (by decide : ((-1) : Int32).toInt = (-1))
            refine lv_aload_n hx hb dX6_makeLeast_35 rfl (lv_at hl 2 rfl) ?_
            refine lv_iload_n hx hb dX6_makeLeast_36 rfl (lv_at hl 0 rfl) ?_
            have hFc := allFree hD hS hA
            refine va_calli (va_runV (As := [.int r17]) (rest := []) ⟨hx, hb, hml, hown, hts⟩ (m_X6_tightest l dC dI hQ aQ kQ hw fQ_inside_x2 fQ_outside_x2 fQ_shut iQ_rows iQ_allRows iQ_columns nW lw kw wl_x2 wb_x2 wG_x2 r17 (b_iQ_rows) (b_iQ_allRows) (b_iQ_columns) (by first | assumption | omega) b_wl_x2 b_wb_x2 (by first | exact b_r17 | assumption | exact ⟨by omega, by omega⟩) (by first | assumption | omega | (rw [iI_t (by omega) (by omega)]; omega) | decide) (by first | assumption | omega | (rw [iI_t (by omega) (by omega)]; omega) | decide) H.size) (cwV 1 hts gwsMX6_makeLeast_1 rfl rfl rfl hd_yX6_tightest_RX6 (by decide +kernel)) (fz_pre (va_recv hK hP (ci := 6) (q0 := 0) rfl rfl) hP hK hD) rfl rfl hl.1 rfl (lv_room (Nat.le_of_ble_eq_true rfl)) dX6_makeLeast_37 (by decide +kernel)) hS (fun q _ h => hFc q h) hFc (fun r18 u t9_ H locs ht hvm hw9 hB9 hz1 hk1 hS => ?_)
            obtain ⟨wl_18, wb_18, wG_18⟩ := u
            try dsimp only at hw9 hB9
            obtain ⟨b_wl_18, b_wb_18, b_r18, f18_0⟩ := hw9
            have hP : va_P (dC, dI) vwCl (WQ hQ aQ kQ hw fQ_inside_x2 fQ_outside_x2 fQ_shut iQ_rows iQ_allRows iQ_columns ++ (WW nW hw lw kw wl_18 wb_18 wG_18)) H := fz_P ht hB9.1
            have hD : va_D A (WQ hQ aQ kQ hw fQ_inside_x2 fQ_outside_x2 fQ_shut iQ_rows iQ_allRows iQ_columns ++ (WW nW hw lw kw wl_18 wb_18 wG_18)) := hB9.2.weaken (fun _ q _ h => hFc q.1 h)
            refine lv_istore hx hb dX6_makeLeast_40 hl (by decide) rfl (fun ls (hl : lv_has ls _ ([(4, .int r18), (3, .int r17), (2, .int l2_x2), (0, .ref (hQ 0)), (1, .int p1)])) => ?_)
            refine lv_iload hx hb dX6_makeLeast_42 (lv_at hl 0 rfl) ?_
            refine lv_iconst (v := (-1)) hx hb dX6_makeLeast_44 (by decide) ?_
            refine lv_icmp_ne (tgt := 51) hx hb dX6_makeLeast_45 (by decide) (fun c_45 => ?_) (fun c_45 => ?_)
            · have t_45 : r18.toInt ≠ (-1) := toI_ne c_45 rfl (by decide : ((-1) : Int32).toInt = (-1))
              refine lv_aload_n hx hb dX6_makeLeast_51 rfl (lv_at hl 3 rfl) ?_
              refine lv_iload hx hb dX6_makeLeast_52 (lv_at hl 0 rfl) ?_
              refine lv_iload_n hx hb dX6_makeLeast_54 rfl (lv_at hl 1 rfl) ?_
              have hFc := allFree hD hS hA
              refine va_callv (va_runV (As := [.int r18, .int r17]) (rest := []) ⟨hx, hb, hml, hown, hts⟩ (m_X6_exchange l dC dI hQ aQ kQ hw fQ_inside_x2 fQ_outside_x2 fQ_shut iQ_rows iQ_allRows iQ_columns nW lw kw wl_18 wb_18 wG_18 r18 r17 (b_iQ_rows) (b_iQ_allRows) (b_iQ_columns) (by first | assumption | omega) b_wl_18 b_wb_18 (by first | exact b_r18 | assumption | exact ⟨by omega, by omega⟩) (by first | exact b_r17 | assumption | exact ⟨by omega, by omega⟩) (by first | assumption | omega | (rw [iI_t (by omega) (by omega)]; omega) | decide) (FitR.of b_tb (by omega) (by omega) (by omega)) (by first | assumption | omega | (rw [iI_t (by omega) (by omega)]; omega) | decide) H.size) (cwV 2 hts gwsMX6_makeLeast_2 rfl rfl rfl hd_yX6_exchange_RX6 (by decide +kernel)) (fz_pre (va_recv hK hP (ci := 6) (q0 := 0) rfl rfl) hP hK hD) rfl rfl hl.1 rfl (lv_room (Nat.le_of_ble_eq_true rfl)) dX6_makeLeast_55 (by decide +kernel)) hS (fun q _ h => hFc q h) hFc (fun u t9_ H locs ht hvm hw9 hB9 hz1 hk1 hS => ?_)
              obtain ⟨fQ_inside_19, fQ_outside_19, wl_19, wb_19, wG_19⟩ := u
              try dsimp only at hw9 hB9
              obtain ⟨b_wl_19, b_wb_19⟩ := hw9
              have hP : va_P (dC, dI) vwCl (WQ hQ aQ kQ hw fQ_inside_19 fQ_outside_19 fQ_shut iQ_rows iQ_allRows iQ_columns ++ (WW nW hw lw kw wl_19 wb_19 wG_19)) H := fz_P ht hB9.1
              have hD : va_D A (WQ hQ aQ kQ hw fQ_inside_19 fQ_outside_19 fQ_shut iQ_rows iQ_allRows iQ_columns ++ (WW nW hw lw kw wl_19 wb_19 wG_19)) := hB9.2.weaken (fun _ q _ h => hFc q.1 h)
              refine lv_iinc (v := (iI (l2_x2.toInt + 1))) hx hb dX6_makeLeast_58 hl (k := 2) rfl (iI_add2 (iI_of _) (by decide : (1 : Int32) = iI 1)) (by decide) rfl (fun ls (hl : lv_has ls _ ([(2, .int (iI (l2_x2.toInt + 1))), (4, .int r18), (3, .int r17), (0, .ref (hQ 0)), (1, .int p1)])) => ?_)
              refine lv_goto (tgt := 2) hx hb dX6_makeLeast_61 (by decide) ?_
              have hl : lv_has _ _ ([(2, .int (iI (l2_x2.toInt + 1))), (0, .ref (hQ 0)), (1, .int p1)]) := lv_sub hl [0, 3, 4] rfl
              exact ihx2 fQ_inside_19 fQ_outside_19 wl_19 wb_19 wG_19 (iI (l2_x2.toInt + 1)) _ _ _ b_wl_19 b_wb_19 (iI_rng (Int.le_trans (by decide) (Int.add_le_add (b_l2_x2.1) (Int.le_refl _))) (by omega) (by decide) (by decide)) (by have e9 : ((iI (l2_x2.toInt + 1))).toInt = (l2_x2.toInt + 1) := (iI_t (Int.le_trans (by decide) (Int.add_le_add (b_l2_x2.1) (Int.le_refl _))) (Int.le_trans (Int.add_le_add (b_l2_x2.2) (Int.le_refl _)) (by decide))); omega) hP hD hS hl
            · have t_45 : r18.toInt = (-1) := toI_nne c_45 rfl (by decide : ((-1) : Int32).toInt = (-1))
              refine lv_goto (tgt := 64) hx hb dX6_makeLeast_48 (by decide) ?_
              have hl : lv_has _ _ ([(2, .int l2_x2), (0, .ref (hQ 0)), (1, .int p1)]) := lv_sub hl [2, 3, 4] rfl
              exact join11 _ _ _ _ ⟨wl_18, wb_18, wG_18, b_wl_18, b_wb_18, rfl, hP, hD, hS, hl⟩
          · have t_28 : r17.toInt = (-1) := toI_nne c_28 rfl (by decide : ((-1) : Int32).toInt = (-1))
            refine lv_iconst (v := (-1)) hx hb dX6_makeLeast_31 (by decide) ?_
            refine lv_goto (tgt := 40) hx hb dX6_makeLeast_32 (by decide) ?_
            refine lv_istore hx hb dX6_makeLeast_40 hl (by decide) rfl (fun ls (hl : lv_has ls _ ([(4, .int (-1)), (3, .int r17), (2, .int l2_x2), (0, .ref (hQ 0)), (1, .int p1)])) => ?_)
            refine lv_iload hx hb dX6_makeLeast_42 (lv_at hl 0 rfl) ?_
            refine lv_iconst (v := (-1)) hx hb dX6_makeLeast_44 (by decide) ?_
            refine lv_icmp_ne (tgt := 51) hx hb dX6_makeLeast_45 (by decide) (fun c9 => absurd c9 (by decide)) (fun _ => ?_)
            refine lv_goto (tgt := 64) hx hb dX6_makeLeast_48 (by decide) ?_
            have hl : lv_has _ _ ([(2, .int l2_x2), (0, .ref (hQ 0)), (1, .int p1)]) := lv_sub hl [2, 3, 4] rfl
            exact join11 _ _ _ _ ⟨wl_x2, wb_x2, wG_x2, b_wl_x2, b_wb_x2, rfl, hP, hD, hS, hl⟩
    · rintro H locs ls stk ⟨wl_j11, wb_j11, wG_j11, b_wl_j11, b_wb_j11, rfl, hP, hD, hS, hl⟩
      refine lv_aload_n hx hb dX6_makeLeast_64 rfl (lv_at hl 1 rfl) ?_
      refine lv_iload_n hx hb dX6_makeLeast_65 rfl (lv_at hl 2 rfl) ?_
      have hFc := allFree hD hS hA
      refine va_callv (va_runV (As := [.int p1]) (rest := []) ⟨hx, hb, hml, hown, hts⟩ (m_X6_shutWith l dC dI hQ aQ kQ hw fQ_inside_x2 fQ_outside_x2 fQ_shut iQ_rows iQ_allRows iQ_columns nW lw kw wl_j11 wb_j11 wG_j11 p1 (b_iQ_rows) (b_iQ_allRows) (b_iQ_columns) (by first | assumption | omega) b_wl_j11 b_wb_j11 (b_p1) (by first | assumption | omega | (rw [iI_t (by omega) (by omega)]; omega) | decide) (hrow) H.size) (cwV 1 hts gwsMX6_makeLeast_3 rfl rfl rfl hd_yX6_shutWith_RX6 (by decide +kernel)) (fz_pre (va_recv hK hP (ci := 6) (q0 := 0) rfl rfl) hP hK hD) rfl rfl hl.1 rfl (lv_room (Nat.le_of_ble_eq_true rfl)) dX6_makeLeast_66 (by decide +kernel)) hS (fun q _ h => hFc q h) hFc (fun u t9_ H locs ht hvm hw9 hB9 hz1 hk1 hS => ?_)
      obtain ⟨fQ_shut_20, hwit20⟩ : ∃ w9, w9 = u := ⟨u, rfl⟩
      subst hwit20
      clear hw9
      have hP : va_P (dC, dI) vwCl (WQ hQ aQ kQ hw fQ_inside_x2 fQ_outside_x2 fQ_shut_20 iQ_rows iQ_allRows iQ_columns ++ (WW nW hw lw kw wl_j11 wb_j11 wG_j11)) H := fz_P ht hB9.1
      have hD : va_D A (WQ hQ aQ kQ hw fQ_inside_x2 fQ_outside_x2 fQ_shut_20 iQ_rows iQ_allRows iQ_columns ++ (WW nW hw lw kw wl_j11 wb_j11 wG_j11)) := hB9.2.weaken (fun _ q _ h => hFc q.1 h)
      refine W.widen (k := 0) (n := 0) (by decide +kernel) (by decide +kernel) ?_
      exact W.vret hx hb hr (fun t9_ ht hW => ⟨⟨(fQ_inside_x2, fQ_outside_x2, fQ_shut_20, wl_j11, wb_j11, wG_j11), rfl, ⟨b_wl_j11, b_wb_j11⟩, by rw [ht]; exact hP, hD⟩, hS.F ht⟩) hS.2.2 dX6_makeLeast_69
theorem dX6_sink_0 : decode cX6_sink 0 = .ok (.iconst 0, 1) := dk_3 (by decide +kernel)
theorem dX6_sink_1 : decode cX6_sink 1 = .ok (.istore_n 2, 1) := dk_61 (by decide +kernel)
theorem dX6_sink_2 : decode cX6_sink 2 = .ok (.iload_n 2, 1) := dk_28 (by decide +kernel)
theorem dX6_sink_3 : decode cX6_sink 3 = .ok (.ldc 83, 2) := dk_18 (by decide +kernel)
theorem dX6_sink_5 : decode cX6_sink 5 = .ok (.if_icmp .ge 91, 3) := dk_162 (by decide +kernel)
theorem dX6_sink_8 : decode cX6_sink 8 = .ok (.aload_n 0, 1) := dk_42 (by decide +kernel)
theorem dX6_sink_9 : decode cX6_sink 9 = .ok (.iload_n 1, 1) := dk_27 (by decide +kernel)
theorem dX6_sink_10 : decode cX6_sink 10 = .ok (.invokevirtual 107, 3) := dk_182 (by decide +kernel)
theorem dX6_sink_13 : decode cX6_sink 13 = .ok (.istore_n 3, 1) := dk_62 (by decide +kernel)
theorem dX6_sink_14 : decode cX6_sink 14 = .ok (.iload_n 3, 1) := dk_29 (by decide +kernel)
theorem dX6_sink_15 : decode cX6_sink 15 = .ok (.iconst (-1), 1) := dk_2 (by decide +kernel)
theorem dX6_sink_16 : decode cX6_sink 16 = .ok (.if_icmp .ne 5, 3) := dk_160 (by decide +kernel)
theorem dX6_sink_19 : decode cX6_sink 19 = .ok (.iconst 1, 1) := dk_4 (by decide +kernel)
theorem dX6_sink_20 : decode cX6_sink 20 = .ok (.ireturn, 1) := dk_172 (by decide +kernel)
theorem dX6_sink_21 : decode cX6_sink 21 = .ok (.aload_n 0, 1) := dk_42 (by decide +kernel)
theorem dX6_sink_22 : decode cX6_sink 22 = .ok (.iload_n 3, 1) := dk_29 (by decide +kernel)
theorem dX6_sink_23 : decode cX6_sink 23 = .ok (.iconst (-1), 1) := dk_2 (by decide +kernel)
theorem dX6_sink_24 : decode cX6_sink 24 = .ok (.iload_n 2, 1) := dk_28 (by decide +kernel)
theorem dX6_sink_25 : decode cX6_sink 25 = .ok (.bipush 40, 2) := dk_16 (by decide +kernel)
theorem dX6_sink_27 : decode cX6_sink 27 = .ok (.if_icmp .ge 7, 3) := dk_162 (by decide +kernel)
theorem dX6_sink_30 : decode cX6_sink 30 = .ok (.iconst 1, 1) := dk_4 (by decide +kernel)
theorem dX6_sink_31 : decode cX6_sink 31 = .ok (.goto 4, 3) := dk_167 (by decide +kernel)
theorem dX6_sink_34 : decode cX6_sink 34 = .ok (.iconst 0, 1) := dk_3 (by decide +kernel)
theorem dX6_sink_35 : decode cX6_sink 35 = .ok (.invokevirtual 88, 3) := dk_182 (by decide +kernel)
theorem dX6_sink_38 : decode cX6_sink 38 = .ok (.istore 4, 2) := dk_54 (by decide +kernel)
theorem dX6_sink_40 : decode cX6_sink 40 = .ok (.iload 4, 2) := dk_21 (by decide +kernel)
theorem dX6_sink_42 : decode cX6_sink 42 = .ok (.iconst (-1), 1) := dk_2 (by decide +kernel)
theorem dX6_sink_43 : decode cX6_sink 43 = .ok (.if_icmp .ne 7, 3) := dk_160 (by decide +kernel)
theorem dX6_sink_46 : decode cX6_sink 46 = .ok (.iconst (-1), 1) := dk_2 (by decide +kernel)
theorem dX6_sink_47 : decode cX6_sink 47 = .ok (.goto 9, 3) := dk_167 (by decide +kernel)
theorem dX6_sink_50 : decode cX6_sink 50 = .ok (.aload_n 0, 1) := dk_42 (by decide +kernel)
theorem dX6_sink_51 : decode cX6_sink 51 = .ok (.iload 4, 2) := dk_21 (by decide +kernel)
theorem dX6_sink_53 : decode cX6_sink 53 = .ok (.invokevirtual 100, 3) := dk_182 (by decide +kernel)
theorem dX6_sink_56 : decode cX6_sink 56 = .ok (.istore 5, 2) := dk_54 (by decide +kernel)
theorem dX6_sink_58 : decode cX6_sink 58 = .ok (.iload 5, 2) := dk_21 (by decide +kernel)
theorem dX6_sink_60 : decode cX6_sink 60 = .ok (.iconst (-1), 1) := dk_2 (by decide +kernel)
theorem dX6_sink_61 : decode cX6_sink 61 = .ok (.if_icmp .ne 21, 3) := dk_160 (by decide +kernel)
theorem dX6_sink_64 : decode cX6_sink 64 = .ok (.aload_n 0, 1) := dk_42 (by decide +kernel)
theorem dX6_sink_65 : decode cX6_sink 65 = .ok (.iload_n 3, 1) := dk_29 (by decide +kernel)
theorem dX6_sink_66 : decode cX6_sink 66 = .ok (.iconst 0, 1) := dk_3 (by decide +kernel)
theorem dX6_sink_67 : decode cX6_sink 67 = .ok (.invokevirtual 72, 3) := dk_182 (by decide +kernel)
theorem dX6_sink_70 : decode cX6_sink 70 = .ok (.getfield 76, 3) := dk_180 (by decide +kernel)
theorem dX6_sink_73 : decode cX6_sink 73 = .ok (.ifCond .ne 7, 3) := dk_154 (by decide +kernel)
theorem dX6_sink_76 : decode cX6_sink 76 = .ok (.iconst 1, 1) := dk_4 (by decide +kernel)
theorem dX6_sink_77 : decode cX6_sink 77 = .ok (.goto 4, 3) := dk_167 (by decide +kernel)
theorem dX6_sink_80 : decode cX6_sink 80 = .ok (.iconst 0, 1) := dk_3 (by decide +kernel)
theorem dX6_sink_81 : decode cX6_sink 81 = .ok (.ireturn, 1) := dk_172 (by decide +kernel)
theorem dX6_sink_82 : decode cX6_sink 82 = .ok (.aload_n 0, 1) := dk_42 (by decide +kernel)
theorem dX6_sink_83 : decode cX6_sink 83 = .ok (.iload 5, 2) := dk_21 (by decide +kernel)
theorem dX6_sink_85 : decode cX6_sink 85 = .ok (.iload 4, 2) := dk_21 (by decide +kernel)
theorem dX6_sink_87 : decode cX6_sink 87 = .ok (.invokevirtual 79, 3) := dk_182 (by decide +kernel)
theorem dX6_sink_90 : decode cX6_sink 90 = .ok (.iinc 2 1, 3) := dk_132 (by decide +kernel)
theorem dX6_sink_93 : decode cX6_sink 93 = .ok (.goto (-91), 3) := dk_167 (by decide +kernel)
theorem dX6_sink_96 : decode cX6_sink 96 = .ok (.iconst 0, 1) := dk_3 (by decide +kernel)
theorem dX6_sink_97 : decode cX6_sink 97 = .ok (.ireturn, 1) := dk_172 (by decide +kernel)
def wsMX6_sink : List Cond := .code yX6_sink cX6_sink 6 (some .boolean) :: ([.constant RX6 83 1000000, .fieldLink RX6 76 "OptimaWorks$Whole" "length" "I"] ++ wsX80 ++ (wsV RX6 107 RX6 yX6_rowOf wsMX6_rowOf) ++ (wsV RX6 88 RX6 yX6_columnOfSign wsMX6_columnOfSign) ++ (wsV RX6 100 RX6 yX6_tightest wsMX6_tightest) ++ (wsV RX6 79 RX6 yX6_exchange wsMX6_exchange) ++ (wsV RX6 72 RX6 yX6_cellAt wsMX6_cellAt))
theorem iwsMX6_sink_in8 : ∀ w ∈ wsX80, w ∈ wsMX6_sink := fun _ h => List.mem_cons_of_mem _ (List.mem_append_left _ (List.mem_append_left _ (List.mem_append_left _ (List.mem_append_left _ (List.mem_append_left _ (List.mem_append_right _ h))))))
theorem gwsMX6_sink_0 : GoodIn wsMX6_sink (wsV RX6 107 RX6 yX6_rowOf wsMX6_rowOf) := goodIn_sub (fun _ h => List.mem_cons_of_mem _ (List.mem_append_left _ (List.mem_append_left _ (List.mem_append_left _ (List.mem_append_left _ (List.mem_append_right _ h)))))) (gdV (by decide +kernel) gdwsMX6_rowOf)
theorem gwsMX6_sink_1 : GoodIn wsMX6_sink (wsV RX6 88 RX6 yX6_columnOfSign wsMX6_columnOfSign) := goodIn_sub (fun _ h => List.mem_cons_of_mem _ (List.mem_append_left _ (List.mem_append_left _ (List.mem_append_left _ (List.mem_append_right _ h))))) (gdV (by decide +kernel) gdwsMX6_columnOfSign)
theorem gwsMX6_sink_2 : GoodIn wsMX6_sink (wsV RX6 100 RX6 yX6_tightest wsMX6_tightest) := goodIn_sub (fun _ h => List.mem_cons_of_mem _ (List.mem_append_left _ (List.mem_append_left _ (List.mem_append_right _ h)))) (gdV (by decide +kernel) gdwsMX6_tightest)
theorem gwsMX6_sink_3 : GoodIn wsMX6_sink (wsV RX6 79 RX6 yX6_exchange wsMX6_exchange) := goodIn_sub (fun _ h => List.mem_cons_of_mem _ (List.mem_append_left _ (List.mem_append_right _ h))) (gdV (by decide +kernel) gdwsMX6_exchange)
theorem gwsMX6_sink_4 : GoodIn wsMX6_sink (wsV RX6 72 RX6 yX6_cellAt wsMX6_cellAt) := goodIn_sub (fun _ h => List.mem_cons_of_mem _ (List.mem_append_right _ h)) (gdV (by decide +kernel) gdwsMX6_cellAt)
theorem gdwsMX6_sink : wsMX6_sink.all goodWord = true := gdC rfl (gdA (gdA (gdA (gdA (gdA (gdA (by decide +kernel : ([.constant RX6 83 1000000, .fieldLink RX6 76 "OptimaWorks$Whole" "length" "I"] : List Cond).all goodWord = true) gdwsX80) (gdV (by decide +kernel) gdwsMX6_rowOf)) (gdV (by decide +kernel) gdwsMX6_columnOfSign)) (gdV (by decide +kernel) gdwsMX6_tightest)) (gdV (by decide +kernel) gdwsMX6_exchange)) (gdV (by decide +kernel) gdwsMX6_cellAt))
set_option maxHeartbeats 4000000 in
set_option maxRecDepth 100000 in
/-- a variable made least -/
theorem m_X6_sink (l : Launch) (dC : Nat → ClassId) (dI : Nat → Nat → Nat) (hQ : Nat → Nat) (aQ : Nat → Nat) (kQ : Nat → ClassId) (hw : Nat → Nat) (fQ_inside : Nat → Int32) (fQ_outside : Nat → Int32) (fQ_shut : Nat → Int32) (iQ_rows : Int32) (iQ_allRows : Int32) (iQ_columns : Int32) (nW : Nat) (lw : Nat → Nat) (kw : ClassId) (wl : Nat → Int32) (wb : Nat → Int32) (wG : Nat → Nat → Int64) (p1 : Int32) (b_iQ_rows : 0 ≤ iQ_rows.toInt ∧ iQ_rows.toInt ≤ 40) (b_iQ_allRows : 0 ≤ iQ_allRows.toInt ∧ iQ_allRows.toInt ≤ 40) (b_iQ_columns : 0 ≤ iQ_columns.toInt ∧ iQ_columns.toInt ≤ 40) (b_tb : TbO iQ_rows iQ_allRows iQ_columns) (b_wl : ∀ q : Nat, 0 ≤ (wl q).toInt ∧ (wl q).toInt ≤ 14) (b_wb : ∀ q : Nat, 0 ≤ (wb q).toInt ∧ (wb q).toInt ≤ 1) (hnW : 406 ≤ nW) (sz : Nat) : Met l yX6_sink wsMX6_sink ({ frames := 5, cells := 0, slots := 0, locals := 131 }) (va_Pc [.ref (hQ 0), .int p1] (fun U => U.heap.size = sz ∧ va_P (dC, dI) vwCl (WQ hQ aQ kQ hw fQ_inside fQ_outside fQ_shut iQ_rows iQ_allRows iQ_columns ++ (WW nW hw lw kw wl wb wG)) U.heap ∧ va_K (dC, dI) vwCl (tQ kQ ++ (tW kw)) U ∧ va_D (fun _ => True) (WQ hQ aQ kQ hw fQ_inside fQ_outside fQ_shut iQ_rows iQ_allRows iQ_columns ++ (WW nW hw lw kw wl wb wG)))) (va_Qi (fun (r : Int32) (u : (Nat → Int32) × (Nat → Int32) × (Nat → Int32) × (Nat → Int32) × (Nat → Nat → Int64)) => (∀ q : Nat, 0 ≤ ((u.2.2.1) q).toInt ∧ ((u.2.2.1) q).toInt ≤ 14) ∧ (∀ q : Nat, 0 ≤ ((u.2.2.2.1) q).toInt ∧ ((u.2.2.2.1) q).toInt ≤ 1) ∧ (0 ≤ r.toInt ∧ r.toInt ≤ 1)) (fun (u : (Nat → Int32) × (Nat → Int32) × (Nat → Int32) × (Nat → Int32) × (Nat → Nat → Int64)) t => va_P (dC, dI) vwCl (WQ hQ aQ kQ hw (u.1) (u.2.1) fQ_shut iQ_rows iQ_allRows iQ_columns ++ (WW nW hw lw kw (u.2.2.1) (u.2.2.2.1) (u.2.2.2.2))) t.heap ∧ va_D (va_A (WQ hQ aQ kQ hw fQ_inside fQ_outside fQ_shut iQ_rows iQ_allRows iQ_columns ++ (WW nW hw lw kw wl wb wG)) sz) (WQ hQ aQ kQ hw (u.1) (u.2.1) fQ_shut iQ_rows iQ_allRows iQ_columns ++ (WW nW hw lw kw (u.2.2.1) (u.2.2.2.1) (u.2.2.2.2)))) (va_A (WQ hQ aQ kQ hw fQ_inside fQ_outside fQ_shut iQ_rows iQ_allRows iQ_columns ++ (WW nW hw lw kw wl wb wG)) sz)) 0 0 (va_A (WQ hQ aQ kQ hw fQ_inside fQ_outside fQ_shut iQ_rows iQ_allRows iQ_columns ++ (WW nW hw lw kw wl wb wG)) sz) := by
  refine Met.ofW (cc := cX6_sink) (maxL := 6) (ret := (some .boolean)) (by decide) rfl ?_
  intro p e s m args below meth c s₁ B hml hv
  obtain ⟨rfl, hsz, hP, hK, hD0⟩ := hv
  have hx := B.exec
  have hb := B.bytes
  have hr := B.returns
  have hts := atoms_spec (ws := wsMX6_sink) B.pre
  have hown : s.vm.findClass RX6 = some m.cls := findClass_of_methodNamed B.named
  have hlocks := B.notSynchronized
  subst hsz
  have hD := hD0.self (sz := s.heap.size)
  generalize hAe : va_A (WQ hQ aQ kQ hw fQ_inside fQ_outside fQ_shut iQ_rows iQ_allRows iQ_columns ++ (WW nW hw lw kw wl wb wG)) s.heap.size = A at hD ⊢
  have hA : ∀ q : Nat, s.heap.size ≤ q → A q := fun q h => by rw [← hAe]; exact Or.inr h
  have hS : va_S A s.heap s.heap [] := va_S.rf
  have hl := lv_entry ([.ref (hQ 0), .int p1]) (n := 6) (Nat.le_of_ble_eq_true rfl)
  rw [lg_entry_eq]
  generalize (lg_sl ([.ref (hQ 0), .int p1]) ++ List.replicate (6 - (lg_sl ([.ref (hQ 0), .int p1])).length) Slot.unset).toArray = ls at hl ⊢
  have hl : lv_has ls 6 [(0, .ref (hQ 0)), (1, .int p1)] := hl
  have hTb := b_tb.1
  refine lv_iconst (v := 0) hx hb dX6_sink_0 (by decide) ?_
  refine lv_istore_n hx hb dX6_sink_1 rfl hl (by decide) rfl (fun ls (hl : lv_has ls _ ([(2, .int 0), (0, .ref (hQ 0)), (1, .int p1)])) => ?_)
  have hl : lv_has _ _ ([(2, .int 0), (0, .ref (hQ 0)), (1, .int p1)]) := lv_sub hl [0, 1, 2] rfl
  refine (fun (loop : ∀ (n9 : Nat) (fQ_inside_x2 : Nat → Int32) (fQ_outside_x2 : Nat → Int32) (wl_x2 : Nat → Int32) (wb_x2 : Nat → Int32) (wG_x2 : Nat → Nat → Int64) (l2_x2 : Int32) (H : Heap) (locs : List Loc) (ls : Array Slot), (∀ q : Nat, 0 ≤ (wl_x2 q).toInt ∧ (wl_x2 q).toInt ≤ 14) → (∀ q : Nat, 0 ≤ (wb_x2 q).toInt ∧ (wb_x2 q).toInt ≤ 1) → (0 ≤ l2_x2.toInt ∧ l2_x2.toInt ≤ 1000000) → (1000000 - l2_x2.toInt < ((n9 : Nat) : Int)) → va_P (dC, dI) vwCl (WQ hQ aQ kQ hw fQ_inside_x2 fQ_outside_x2 fQ_shut iQ_rows iQ_allRows iQ_columns ++ (WW nW hw lw kw wl_x2 wb_x2 wG_x2)) H → va_D A (WQ hQ aQ kQ hw fQ_inside_x2 fQ_outside_x2 fQ_shut iQ_rows iQ_allRows iQ_columns ++ (WW nW hw lw kw wl_x2 wb_x2 wG_x2)) → va_S A s.heap H locs → lv_has ls 6 [(2, .int l2_x2), (0, .ref (hQ 0)), (1, .int p1)] → W p l e _ s m _ below meth c H locs 0 0 _ (F0 m 2 ls [])) => loop (1000001) fQ_inside fQ_outside wl wb wG 0 _ _ _ b_wl b_wb (show 0 ≤ (0 : Int32).toInt ∧ (0 : Int32).toInt ≤ 1000000 from by decide) ((by have e9 : (0 : Int32).toInt = 0 := (by decide : (0 : Int32).toInt = 0); omega)) hP hD hS hl) ?_
  intro n9
  induction n9 with
  | zero => intro fQ_inside_x2 fQ_outside_x2 wl_x2 wb_x2 wG_x2 l2_x2 H locs ls b_wl_x2 b_wb_x2 b_l2_x2 hf9; exact False.elim (by omega)
  | succ n9 ihx2 =>
    intro fQ_inside_x2 fQ_outside_x2 wl_x2 wb_x2 wG_x2 l2_x2 H locs ls b_wl_x2 b_wb_x2 b_l2_x2 hfx2 hP hD hS hl
    refine lv_iload_n hx hb dX6_sink_2 rfl (lv_at hl 0 rfl) ?_
    refine lv_ldc (v := 1000000) hx hb hown (hts (.constant RX6 83 1000000) (by decide +kernel)) dX6_sink_3 ?_
    refine lv_icmp_ge (tgt := 96) hx hb dX6_sink_5 (by decide) (fun c_5 => ?_) (fun c_5 => ?_)
    · have t_5 : l2_x2.toInt ≥ 1000000 := toI_ge c_5 rfl (by decide : (1000000 : Int32).toInt = 1000000)
      refine lv_iconst (v := 0) hx hb dX6_sink_96 (by decide) ?_
      refine W.widen (k := 0) (n := 0) (by decide +kernel) (by decide +kernel) ?_
      exact W.zret (v := 0) hx hb hr rfl (fun t9_ ht hW => ⟨⟨(0 : Int32), (fQ_inside_x2, fQ_outside_x2, wl_x2, wb_x2, wG_x2), rfl, ⟨b_wl_x2, b_wb_x2, (show 0 ≤ (0 : Int32).toInt ∧ (0 : Int32).toInt ≤ 1 from by decide)⟩, by rw [ht]; exact hP, hD⟩, hS.F ht⟩) hS.2.2 dX6_sink_97
    · have t_5 : ¬ l2_x2.toInt ≥ 1000000 := toI_nge c_5 rfl (by decide : (1000000 : Int32).toInt = 1000000)
      refine lv_aload_n hx hb dX6_sink_8 rfl (lv_at hl 1 rfl) ?_
      refine lv_iload_n hx hb dX6_sink_9 rfl (lv_at hl 2 rfl) ?_
      have hFc := allFree hD hS hA
      refine va_calli (va_runV (As := [.int p1]) (rest := []) ⟨hx, hb, hml, hown, hts⟩ (m_X6_rowOf l dC dI hQ aQ kQ hw fQ_inside_x2 fQ_outside_x2 fQ_shut iQ_rows iQ_allRows iQ_columns nW lw kw wl_x2 wb_x2 wG_x2 p1 (b_iQ_rows) (b_iQ_allRows) (b_iQ_columns) (by first | assumption | omega) b_wl_x2 b_wb_x2 (by first | assumption | omega | (rw [iI_t (by omega) (by omega)]; omega) | decide) H.size) (cwV 1 hts gwsMX6_sink_0 rfl rfl rfl hd_yX6_rowOf_RX6 (by decide +kernel)) (fz_pre (va_recv hK hP (ci := 6) (q0 := 0) rfl rfl) hP hK hD) rfl rfl hl.1 rfl (lv_room (Nat.le_of_ble_eq_true rfl)) dX6_sink_10 (by decide +kernel)) hS (fun q _ h => hFc q h) hFc (fun r13 u t9_ H locs ht hvm hw9 hB9 hz1 hk1 hS => ?_)
      obtain ⟨b_r13, f13_0⟩ := hw9
      have hP : va_P (dC, dI) vwCl (WQ hQ aQ kQ hw fQ_inside_x2 fQ_outside_x2 fQ_shut iQ_rows iQ_allRows iQ_columns ++ (WW nW hw lw kw wl_x2 wb_x2 wG_x2)) H := fz_P ht hB9.1
      have hD : va_D A (WQ hQ aQ kQ hw fQ_inside_x2 fQ_outside_x2 fQ_shut iQ_rows iQ_allRows iQ_columns ++ (WW nW hw lw kw wl_x2 wb_x2 wG_x2)) := hB9.2.weaken (fun _ q _ h => hFc q.1 h)
      refine lv_istore_n hx hb dX6_sink_13 rfl hl (by decide) rfl (fun ls (hl : lv_has ls _ ([(3, .int r13), (2, .int l2_x2), (0, .ref (hQ 0)), (1, .int p1)])) => ?_)
      refine lv_iload_n hx hb dX6_sink_14 rfl (lv_at hl 0 rfl) ?_
      refine lv_iconst (v := (-1)) hx hb dX6_sink_15 (by decide) ?_
      refine lv_icmp_ne (tgt := 21) hx hb dX6_sink_16 (by decide) (fun c_16 => ?_) (fun c_16 => ?_)
      · have t_16 : r13.toInt ≠ (-1) := toI_ne c_16 rfl (by decide : ((-1) : Int32).toInt = (-1))
        refine lv_aload_n hx hb dX6_sink_21 rfl (lv_at hl 2 rfl) ?_
        refine lv_iload_n hx hb dX6_sink_22 rfl (lv_at hl 0 rfl) ?_
        refine lv_iconst (v := (-1)) hx hb dX6_sink_23 (by decide) ?_
        refine lv_iload_n hx hb dX6_sink_24 rfl (lv_at hl 1 rfl) ?_
        refine lv_bipush (v := 40) hx hb dX6_sink_25 (by decide) ?_
        refine W.cut (pc := 35) (fun H locs ls stk => ∃ (k0_j14 : Int32), (0 ≤ k0_j14.toInt ∧ k0_j14.toInt ≤ 1) ∧  stk = [.int k0_j14, .int (-1), .int r13, .ref (hQ 0)] ∧ va_P (dC, dI) vwCl (WQ hQ aQ kQ hw fQ_inside_x2 fQ_outside_x2 fQ_shut iQ_rows iQ_allRows iQ_columns ++ (WW nW hw lw kw wl_x2 wb_x2 wG_x2)) H ∧ va_D A (WQ hQ aQ kQ hw fQ_inside_x2 fQ_outside_x2 fQ_shut iQ_rows iQ_allRows iQ_columns ++ (WW nW hw lw kw wl_x2 wb_x2 wG_x2)) ∧ va_S A s.heap H locs ∧ lv_has ls 6 [(3, .int r13), (2, .int l2_x2), (0, .ref (hQ 0)), (1, .int p1)]) (fun join14 => ?_) ?_
        · refine lv_icmp_ge (tgt := 34) hx hb dX6_sink_27 (by decide) (fun c_27 => ?_) (fun c_27 => ?_)
          · have t_27 : l2_x2.toInt ≥ 40 := toI_ge c_27 rfl (by decide : (40 : Int32).toInt = 40)
            refine lv_iconst (v := 0) hx hb dX6_sink_34 (by decide) ?_
            have hl : lv_has _ _ ([(3, .int r13), (2, .int l2_x2), (0, .ref (hQ 0)), (1, .int p1)]) := lv_sub hl [0, 1, 2, 3] rfl
            exact join14 _ _ _ _ ⟨0, (show 0 ≤ (0 : Int32).toInt ∧ (0 : Int32).toInt ≤ 1 from by decide), rfl, hP, hD, hS, hl⟩
          · have t_27 : ¬ l2_x2.toInt ≥ 40 := toI_nge c_27 rfl (by decide : (40 : Int32).toInt = 40)
            refine lv_iconst (v := 1) hx hb dX6_sink_30 (by decide) ?_
            refine lv_goto (tgt := 35) hx hb dX6_sink_31 (by decide) ?_
            have hl : lv_has _ _ ([(3, .int r13), (2, .int l2_x2), (0, .ref (hQ 0)), (1, .int p1)]) := lv_sub hl [0, 1, 2, 3] rfl
            exact join14 _ _ _ _ ⟨1, (show 0 ≤ (1 : Int32).toInt ∧ (1 : Int32).toInt ≤ 1 from by decide), rfl, hP, hD, hS, hl⟩
        · rintro H locs ls stk ⟨k0_j14, b_k0_j14, rfl, hP, hD, hS, hl⟩
          have hFc := allFree hD hS hA
          refine va_calli (va_runV (As := [.int r13, .int (-1), .int k0_j14]) (rest := []) ⟨hx, hb, hml, hown, hts⟩ (m_X6_columnOfSign l dC dI hQ aQ kQ hw fQ_inside_x2 fQ_outside_x2 fQ_shut iQ_rows iQ_allRows iQ_columns nW lw kw wl_x2 wb_x2 wG_x2 r13 (-1) k0_j14 (b_iQ_rows) (b_iQ_allRows) (b_iQ_columns) (by first | assumption | omega) b_wl_x2 b_wb_x2 (by first | exact b_r13 | assumption | exact ⟨by omega, by omega⟩) (by first | assumption | omega | (rw [iI_t (by omega) (by omega)]; omega) | decide) (FitR.of b_tb (by omega) (by omega) (by omega)) H.size) (cwV 3 hts gwsMX6_sink_1 rfl rfl rfl hd_yX6_columnOfSign_RX6 (by decide +kernel)) (fz_pre (va_recv hK hP (ci := 6) (q0 := 0) rfl rfl) hP hK hD) rfl rfl hl.1 rfl (lv_room (Nat.le_of_ble_eq_true rfl)) dX6_sink_35 (by decide +kernel)) hS (fun q _ h => hFc q h) hFc (fun r14 u t9_ H locs ht hvm hw9 hB9 hz1 hk1 hS => ?_)
          obtain ⟨b_r14, f14_0⟩ := hw9
          have hP : va_P (dC, dI) vwCl (WQ hQ aQ kQ hw fQ_inside_x2 fQ_outside_x2 fQ_shut iQ_rows iQ_allRows iQ_columns ++ (WW nW hw lw kw wl_x2 wb_x2 wG_x2)) H := fz_P ht hB9.1
          have hD : va_D A (WQ hQ aQ kQ hw fQ_inside_x2 fQ_outside_x2 fQ_shut iQ_rows iQ_allRows iQ_columns ++ (WW nW hw lw kw wl_x2 wb_x2 wG_x2)) := hB9.2.weaken (fun _ q _ h => hFc q.1 h)
          refine lv_istore hx hb dX6_sink_38 hl (by decide) rfl (fun ls (hl : lv_has ls _ ([(4, .int r14), (3, .int r13), (2, .int l2_x2), (0, .ref (hQ 0)), (1, .int p1)])) => ?_)
          refine lv_iload hx hb dX6_sink_40 (lv_at hl 0 rfl) ?_
          refine lv_iconst (v := (-1)) hx hb dX6_sink_42 (by decide) ?_
          refine lv_icmp_ne (tgt := 50) hx hb dX6_sink_43 (by decide) (fun c_43 => ?_) (fun c_43 => ?_)
          · have t_43 : r14.toInt ≠ (-1) := toI_ne c_43 rfl (by decide : ((-1) : Int32).toInt = (-1))
            refine lv_aload_n hx hb dX6_sink_50 rfl (lv_at hl 3 rfl) ?_
            refine lv_iload hx hb dX6_sink_51 (lv_at hl 0 rfl) ?_
            have hFc := allFree hD hS hA
            refine va_calli (va_runV (As := [.int r14]) (rest := []) ⟨hx, hb, hml, hown, hts⟩ (m_X6_tightest l dC dI hQ aQ kQ hw fQ_inside_x2 fQ_outside_x2 fQ_shut iQ_rows iQ_allRows iQ_columns nW lw kw wl_x2 wb_x2 wG_x2 r14 (b_iQ_rows) (b_iQ_allRows) (b_iQ_columns) (by first | assumption | omega) b_wl_x2 b_wb_x2 (by first | exact b_r14 | assumption | exact ⟨by omega, by omega⟩) (by first | assumption | omega | (rw [iI_t (by omega) (by omega)]; omega) | decide) (by first | assumption | omega | (rw [iI_t (by omega) (by omega)]; omega) | decide) H.size) (cwV 1 hts gwsMX6_sink_2 rfl rfl rfl hd_yX6_tightest_RX6 (by decide +kernel)) (fz_pre (va_recv hK hP (ci := 6) (q0 := 0) rfl rfl) hP hK hD) rfl rfl hl.1 rfl (lv_room (Nat.le_of_ble_eq_true rfl)) dX6_sink_53 (by decide +kernel)) hS (fun q _ h => hFc q h) hFc (fun r15 u t9_ H locs ht hvm hw9 hB9 hz1 hk1 hS => ?_)
            obtain ⟨wl_15, wb_15, wG_15⟩ := u
            try dsimp only at hw9 hB9
            obtain ⟨b_wl_15, b_wb_15, b_r15, f15_0⟩ := hw9
            have hP : va_P (dC, dI) vwCl (WQ hQ aQ kQ hw fQ_inside_x2 fQ_outside_x2 fQ_shut iQ_rows iQ_allRows iQ_columns ++ (WW nW hw lw kw wl_15 wb_15 wG_15)) H := fz_P ht hB9.1
            have hD : va_D A (WQ hQ aQ kQ hw fQ_inside_x2 fQ_outside_x2 fQ_shut iQ_rows iQ_allRows iQ_columns ++ (WW nW hw lw kw wl_15 wb_15 wG_15)) := hB9.2.weaken (fun _ q _ h => hFc q.1 h)
            refine lv_istore hx hb dX6_sink_56 hl (by decide) rfl (fun ls (hl : lv_has ls _ ([(5, .int r15), (4, .int r14), (3, .int r13), (2, .int l2_x2), (0, .ref (hQ 0)), (1, .int p1)])) => ?_)
            refine lv_iload hx hb dX6_sink_58 (lv_at hl 0 rfl) ?_
            refine lv_iconst (v := (-1)) hx hb dX6_sink_60 (by decide) ?_
            refine lv_icmp_ne (tgt := 82) hx hb dX6_sink_61 (by decide) (fun c_61 => ?_) (fun c_61 => ?_)
            · have t_61 : r15.toInt ≠ (-1) := toI_ne c_61 rfl (by decide : ((-1) : Int32).toInt = (-1))
              refine lv_aload_n hx hb dX6_sink_82 rfl (lv_at hl 4 rfl) ?_
              refine lv_iload hx hb dX6_sink_83 (lv_at hl 0 rfl) ?_
              refine lv_iload hx hb dX6_sink_85 (lv_at hl 1 rfl) ?_
              have hFc := allFree hD hS hA
              refine va_callv (va_runV (As := [.int r15, .int r14]) (rest := []) ⟨hx, hb, hml, hown, hts⟩ (m_X6_exchange l dC dI hQ aQ kQ hw fQ_inside_x2 fQ_outside_x2 fQ_shut iQ_rows iQ_allRows iQ_columns nW lw kw wl_15 wb_15 wG_15 r15 r14 (b_iQ_rows) (b_iQ_allRows) (b_iQ_columns) (by first | assumption | omega) b_wl_15 b_wb_15 (by first | exact b_r15 | assumption | exact ⟨by omega, by omega⟩) (by first | exact b_r14 | assumption | exact ⟨by omega, by omega⟩) (by first | assumption | omega | (rw [iI_t (by omega) (by omega)]; omega) | decide) (FitR.of b_tb (by omega) (by omega) (by omega)) (by first | assumption | omega | (rw [iI_t (by omega) (by omega)]; omega) | decide) H.size) (cwV 2 hts gwsMX6_sink_3 rfl rfl rfl hd_yX6_exchange_RX6 (by decide +kernel)) (fz_pre (va_recv hK hP (ci := 6) (q0 := 0) rfl rfl) hP hK hD) rfl rfl hl.1 rfl (lv_room (Nat.le_of_ble_eq_true rfl)) dX6_sink_87 (by decide +kernel)) hS (fun q _ h => hFc q h) hFc (fun u t9_ H locs ht hvm hw9 hB9 hz1 hk1 hS => ?_)
              obtain ⟨fQ_inside_16, fQ_outside_16, wl_16, wb_16, wG_16⟩ := u
              try dsimp only at hw9 hB9
              obtain ⟨b_wl_16, b_wb_16⟩ := hw9
              have hP : va_P (dC, dI) vwCl (WQ hQ aQ kQ hw fQ_inside_16 fQ_outside_16 fQ_shut iQ_rows iQ_allRows iQ_columns ++ (WW nW hw lw kw wl_16 wb_16 wG_16)) H := fz_P ht hB9.1
              have hD : va_D A (WQ hQ aQ kQ hw fQ_inside_16 fQ_outside_16 fQ_shut iQ_rows iQ_allRows iQ_columns ++ (WW nW hw lw kw wl_16 wb_16 wG_16)) := hB9.2.weaken (fun _ q _ h => hFc q.1 h)
              refine lv_iinc (v := (iI (l2_x2.toInt + 1))) hx hb dX6_sink_90 hl (k := 3) rfl (iI_add2 (iI_of _) (by decide : (1 : Int32) = iI 1)) (by decide) rfl (fun ls (hl : lv_has ls _ ([(2, .int (iI (l2_x2.toInt + 1))), (5, .int r15), (4, .int r14), (3, .int r13), (0, .ref (hQ 0)), (1, .int p1)])) => ?_)
              refine lv_goto (tgt := 2) hx hb dX6_sink_93 (by decide) ?_
              have hl : lv_has _ _ ([(2, .int (iI (l2_x2.toInt + 1))), (0, .ref (hQ 0)), (1, .int p1)]) := lv_sub hl [0, 4, 5] rfl
              exact ihx2 fQ_inside_16 fQ_outside_16 wl_16 wb_16 wG_16 (iI (l2_x2.toInt + 1)) _ _ _ b_wl_16 b_wb_16 (iI_rng (Int.le_trans (by decide) (Int.add_le_add (b_l2_x2.1) (Int.le_refl _))) (by omega) (by decide) (by decide)) (by have e9 : ((iI (l2_x2.toInt + 1))).toInt = (l2_x2.toInt + 1) := (iI_t (Int.le_trans (by decide) (Int.add_le_add (b_l2_x2.1) (Int.le_refl _))) (Int.le_trans (Int.add_le_add (b_l2_x2.2) (Int.le_refl _)) (by decide))); omega) hP hD hS hl
            · have t_61 : r15.toInt = (-1) := toI_nne c_61 rfl (by decide : ((-1) : Int32).toInt = (-1))
              refine lv_aload_n hx hb dX6_sink_64 rfl (lv_at hl 4 rfl) ?_
              refine lv_iload_n hx hb dX6_sink_65 rfl (lv_at hl 2 rfl) ?_
              refine lv_iconst (v := 0) hx hb dX6_sink_66 (by decide) ?_
              have hFc := allFree hD hS hA
              refine va_callr (va_runV (As := [.int r13, .int 0]) (rest := []) ⟨hx, hb, hml, hown, hts⟩ (m_X6_cellAt l dC dI hQ aQ kQ hw fQ_inside_x2 fQ_outside_x2 fQ_shut iQ_rows iQ_allRows iQ_columns nW lw kw wl_15 wb_15 wG_15 r13 0 (b_iQ_rows) (b_iQ_allRows) (b_iQ_columns) (by first | assumption | omega) b_wl_15 b_wb_15 (by first | exact b_r13 | assumption | exact ⟨by omega, by omega⟩) (show 0 ≤ (0 : Int32).toInt ∧ (0 : Int32).toInt ≤ 40 from by decide) (by first | assumption | omega | (rw [iI_t (by omega) (by omega)]; omega) | decide) (cell_ix0 b_tb (by omega) (by omega) (by omega)) H.size) (cwV 2 hts gwsMX6_sink_4 rfl rfl rfl hd_yX6_cellAt_RX6 (by decide +kernel)) (fz_pre (va_recv hK hP (ci := 6) (q0 := 0) rfl rfl) hP hK hD) rfl rfl hl.1 rfl (lv_room (Nat.le_of_ble_eq_true rfl)) dX6_sink_67 (by decide +kernel)) hS (fun q _ h => hFc q h) hFc (fun u ra17 t9_ H locs ht hvm hw9 hB9 hz1 hk1 hS => ?_)
              obtain ⟨kR_17, hwit17⟩ : ∃ w9, w9 = u := ⟨u, rfl⟩
              subst hwit17
              obtain ⟨hra, hB9⟩ := hB9
              subst hra
              have f17_0 := hw9
              try dsimp only at f17_0
              have hP : va_P (dC, dI) vwCl (WQ hQ aQ kQ hw fQ_inside_x2 fQ_outside_x2 fQ_shut iQ_rows iQ_allRows iQ_columns ++ (WW nW hw lw kw wl_15 wb_15 wG_15)) H := fz_P ht hB9.1
              have hD : va_D A (WQ hQ aQ kQ hw fQ_inside_x2 fQ_outside_x2 fQ_shut iQ_rows iQ_allRows iQ_columns ++ (WW nW hw lw kw wl_15 wb_15 wG_15)) := hB9.2.weaken (fun _ q _ h => hFc q.1 h)
              refine va_get (D := (dC, dI)) (ci := 8) (v := .int (wl_15 kR_17)) (C := RX8) (T := TX8) (N := 3) hx hb hts iwsMX6_sink_in8 hown hK hP (5 + (kR_17)) (apR rfl (WW_o (by omega))) rfl 1 (by decide) (hts (.fieldLink RX6 76 "OptimaWorks$Whole" "length" "I") (by decide +kernel)) (fun _ h9 => h9) rfl dX6_sink_70 ?_
              have br70 := b_wl_15 kR_17
              refine W.cut (pc := 81) (fun H locs ls stk => ∃ (k0_j15 : Int32), (0 ≤ k0_j15.toInt ∧ k0_j15.toInt ≤ 1) ∧  stk = [.int k0_j15] ∧ va_P (dC, dI) vwCl (WQ hQ aQ kQ hw fQ_inside_x2 fQ_outside_x2 fQ_shut iQ_rows iQ_allRows iQ_columns ++ (WW nW hw lw kw wl_15 wb_15 wG_15)) H ∧ va_D A (WQ hQ aQ kQ hw fQ_inside_x2 fQ_outside_x2 fQ_shut iQ_rows iQ_allRows iQ_columns ++ (WW nW hw lw kw wl_15 wb_15 wG_15)) ∧ va_S A s.heap H locs ∧ lv_has ls 6 [(5, .int r15), (4, .int r14), (3, .int r13), (2, .int l2_x2), (0, .ref (hQ 0)), (1, .int p1)]) (fun join15 => ?_) ?_
              · refine lv_if_ne (tgt := 80) hx hb dX6_sink_73 (by decide) (fun c_73 => ?_) (fun c_73 => ?_)
                · have t_73 : (wl_15 kR_17).toInt ≠ 0 := toI_ne c_73 rfl (by decide : (0 : Int32).toInt = 0)
                  refine lv_iconst (v := 0) hx hb dX6_sink_80 (by decide) ?_
                  have hl : lv_has _ _ ([(5, .int r15), (4, .int r14), (3, .int r13), (2, .int l2_x2), (0, .ref (hQ 0)), (1, .int p1)]) := lv_sub hl [0, 1, 2, 3, 4, 5] rfl
                  exact join15 _ _ _ _ ⟨0, (show 0 ≤ (0 : Int32).toInt ∧ (0 : Int32).toInt ≤ 1 from by decide), rfl, hP, hD, hS, hl⟩
                · have t_73 : (wl_15 kR_17).toInt = 0 := toI_nne c_73 rfl (by decide : (0 : Int32).toInt = 0)
                  refine lv_iconst (v := 1) hx hb dX6_sink_76 (by decide) ?_
                  refine lv_goto (tgt := 81) hx hb dX6_sink_77 (by decide) ?_
                  have hl : lv_has _ _ ([(5, .int r15), (4, .int r14), (3, .int r13), (2, .int l2_x2), (0, .ref (hQ 0)), (1, .int p1)]) := lv_sub hl [0, 1, 2, 3, 4, 5] rfl
                  exact join15 _ _ _ _ ⟨1, (show 0 ≤ (1 : Int32).toInt ∧ (1 : Int32).toInt ≤ 1 from by decide), rfl, hP, hD, hS, hl⟩
              · rintro H locs ls stk ⟨k0_j15, b_k0_j15, rfl, hP, hD, hS, hl⟩
                refine W.widen (k := 0) (n := 0) (by decide +kernel) (by decide +kernel) ?_
                exact W.zret (v := k0_j15) hx hb hr (by rcases z01 (x := k0_j15) (b_k0_j15) with h9 | h9 <;> rw [h9] <;> rfl) (fun t9_ ht hW => ⟨⟨k0_j15, (fQ_inside_x2, fQ_outside_x2, wl_15, wb_15, wG_15), rfl, ⟨b_wl_15, b_wb_15, (b_k0_j15)⟩, by rw [ht]; exact hP, hD⟩, hS.F ht⟩) hS.2.2 dX6_sink_81
          · have t_43 : r14.toInt = (-1) := toI_nne c_43 rfl (by decide : ((-1) : Int32).toInt = (-1))
            refine lv_iconst (v := (-1)) hx hb dX6_sink_46 (by decide) ?_
            refine lv_goto (tgt := 56) hx hb dX6_sink_47 (by decide) ?_
            refine lv_istore hx hb dX6_sink_56 hl (by decide) rfl (fun ls (hl : lv_has ls _ ([(5, .int (-1)), (4, .int r14), (3, .int r13), (2, .int l2_x2), (0, .ref (hQ 0)), (1, .int p1)])) => ?_)
            refine lv_iload hx hb dX6_sink_58 (lv_at hl 0 rfl) ?_
            refine lv_iconst (v := (-1)) hx hb dX6_sink_60 (by decide) ?_
            refine lv_icmp_ne (tgt := 82) hx hb dX6_sink_61 (by decide) (fun c9 => absurd c9 (by decide)) (fun _ => ?_)
            refine lv_aload_n hx hb dX6_sink_64 rfl (lv_at hl 4 rfl) ?_
            refine lv_iload_n hx hb dX6_sink_65 rfl (lv_at hl 2 rfl) ?_
            refine lv_iconst (v := 0) hx hb dX6_sink_66 (by decide) ?_
            have hFc := allFree hD hS hA
            refine va_callr (va_runV (As := [.int r13, .int 0]) (rest := []) ⟨hx, hb, hml, hown, hts⟩ (m_X6_cellAt l dC dI hQ aQ kQ hw fQ_inside_x2 fQ_outside_x2 fQ_shut iQ_rows iQ_allRows iQ_columns nW lw kw wl_x2 wb_x2 wG_x2 r13 0 (b_iQ_rows) (b_iQ_allRows) (b_iQ_columns) (by first | assumption | omega) b_wl_x2 b_wb_x2 (by first | exact b_r13 | assumption | exact ⟨by omega, by omega⟩) (show 0 ≤ (0 : Int32).toInt ∧ (0 : Int32).toInt ≤ 40 from by decide) (by first | assumption | omega | (rw [iI_t (by omega) (by omega)]; omega) | decide) (cell_ix0 b_tb (by omega) (by omega) (by omega)) H.size) (cwV 2 hts gwsMX6_sink_4 rfl rfl rfl hd_yX6_cellAt_RX6 (by decide +kernel)) (fz_pre (va_recv hK hP (ci := 6) (q0 := 0) rfl rfl) hP hK hD) rfl rfl hl.1 rfl (lv_room (Nat.le_of_ble_eq_true rfl)) dX6_sink_67 (by decide +kernel)) hS (fun q _ h => hFc q h) hFc (fun u ra18 t9_ H locs ht hvm hw9 hB9 hz1 hk1 hS => ?_)
            obtain ⟨kR_18, hwit18⟩ : ∃ w9, w9 = u := ⟨u, rfl⟩
            subst hwit18
            obtain ⟨hra, hB9⟩ := hB9
            subst hra
            have f18_0 := hw9
            try dsimp only at f18_0
            have hP : va_P (dC, dI) vwCl (WQ hQ aQ kQ hw fQ_inside_x2 fQ_outside_x2 fQ_shut iQ_rows iQ_allRows iQ_columns ++ (WW nW hw lw kw wl_x2 wb_x2 wG_x2)) H := fz_P ht hB9.1
            have hD : va_D A (WQ hQ aQ kQ hw fQ_inside_x2 fQ_outside_x2 fQ_shut iQ_rows iQ_allRows iQ_columns ++ (WW nW hw lw kw wl_x2 wb_x2 wG_x2)) := hB9.2.weaken (fun _ q _ h => hFc q.1 h)
            refine va_get (D := (dC, dI)) (ci := 8) (v := .int (wl_x2 kR_18)) (C := RX8) (T := TX8) (N := 3) hx hb hts iwsMX6_sink_in8 hown hK hP (5 + (kR_18)) (apR rfl (WW_o (by omega))) rfl 1 (by decide) (hts (.fieldLink RX6 76 "OptimaWorks$Whole" "length" "I") (by decide +kernel)) (fun _ h9 => h9) rfl dX6_sink_70 ?_
            have br70 := b_wl_x2 kR_18
            refine W.cut (pc := 81) (fun H locs ls stk => ∃ (k0_j16 : Int32), (0 ≤ k0_j16.toInt ∧ k0_j16.toInt ≤ 1) ∧  stk = [.int k0_j16] ∧ va_P (dC, dI) vwCl (WQ hQ aQ kQ hw fQ_inside_x2 fQ_outside_x2 fQ_shut iQ_rows iQ_allRows iQ_columns ++ (WW nW hw lw kw wl_x2 wb_x2 wG_x2)) H ∧ va_D A (WQ hQ aQ kQ hw fQ_inside_x2 fQ_outside_x2 fQ_shut iQ_rows iQ_allRows iQ_columns ++ (WW nW hw lw kw wl_x2 wb_x2 wG_x2)) ∧ va_S A s.heap H locs ∧ lv_has ls 6 [(5, .int (-1)), (4, .int r14), (3, .int r13), (2, .int l2_x2), (0, .ref (hQ 0)), (1, .int p1)]) (fun join16 => ?_) ?_
            · refine lv_if_ne (tgt := 80) hx hb dX6_sink_73 (by decide) (fun c_73 => ?_) (fun c_73 => ?_)
              · have t_73 : (wl_x2 kR_18).toInt ≠ 0 := toI_ne c_73 rfl (by decide : (0 : Int32).toInt = 0)
                refine lv_iconst (v := 0) hx hb dX6_sink_80 (by decide) ?_
                have hl : lv_has _ _ ([(5, .int (-1)), (4, .int r14), (3, .int r13), (2, .int l2_x2), (0, .ref (hQ 0)), (1, .int p1)]) := lv_sub hl [0, 1, 2, 3, 4, 5] rfl
                exact join16 _ _ _ _ ⟨0, (show 0 ≤ (0 : Int32).toInt ∧ (0 : Int32).toInt ≤ 1 from by decide), rfl, hP, hD, hS, hl⟩
              · have t_73 : (wl_x2 kR_18).toInt = 0 := toI_nne c_73 rfl (by decide : (0 : Int32).toInt = 0)
                refine lv_iconst (v := 1) hx hb dX6_sink_76 (by decide) ?_
                refine lv_goto (tgt := 81) hx hb dX6_sink_77 (by decide) ?_
                have hl : lv_has _ _ ([(5, .int (-1)), (4, .int r14), (3, .int r13), (2, .int l2_x2), (0, .ref (hQ 0)), (1, .int p1)]) := lv_sub hl [0, 1, 2, 3, 4, 5] rfl
                exact join16 _ _ _ _ ⟨1, (show 0 ≤ (1 : Int32).toInt ∧ (1 : Int32).toInt ≤ 1 from by decide), rfl, hP, hD, hS, hl⟩
            · rintro H locs ls stk ⟨k0_j16, b_k0_j16, rfl, hP, hD, hS, hl⟩
              refine W.widen (k := 0) (n := 0) (by decide +kernel) (by decide +kernel) ?_
              exact W.zret (v := k0_j16) hx hb hr (by rcases z01 (x := k0_j16) (b_k0_j16) with h9 | h9 <;> rw [h9] <;> rfl) (fun t9_ ht hW => ⟨⟨k0_j16, (fQ_inside_x2, fQ_outside_x2, wl_x2, wb_x2, wG_x2), rfl, ⟨b_wl_x2, b_wb_x2, (b_k0_j16)⟩, by rw [ht]; exact hP, hD⟩, hS.F ht⟩) hS.2.2 dX6_sink_81
      · have t_16 : r13.toInt = (-1) := toI_nne c_16 rfl (by decide : ((-1) : Int32).toInt = (-1))
        refine lv_iconst (v := 1) hx hb dX6_sink_19 (by decide) ?_
        refine W.widen (k := 0) (n := 0) (by decide +kernel) (by decide +kernel) ?_
        exact W.zret (v := 1) hx hb hr rfl (fun t9_ ht hW => ⟨⟨(1 : Int32), (fQ_inside_x2, fQ_outside_x2, wl_x2, wb_x2, wG_x2), rfl, ⟨b_wl_x2, b_wb_x2, (show 0 ≤ (1 : Int32).toInt ∧ (1 : Int32).toInt ≤ 1 from by decide)⟩, by rw [ht]; exact hP, hD⟩, hS.F ht⟩) hS.2.2 dX6_sink_20
theorem dX6_keepSunk_0 : decode cX6_keepSunk 0 = .ok (.aload_n 0, 1) := dk_42 (by decide +kernel)
theorem dX6_keepSunk_1 : decode cX6_keepSunk 1 = .ok (.iload_n 1, 1) := dk_27 (by decide +kernel)
theorem dX6_keepSunk_2 : decode cX6_keepSunk 2 = .ok (.invokevirtual 107, 3) := dk_182 (by decide +kernel)
theorem dX6_keepSunk_5 : decode cX6_keepSunk 5 = .ok (.istore_n 2, 1) := dk_61 (by decide +kernel)
theorem dX6_keepSunk_6 : decode cX6_keepSunk 6 = .ok (.iload_n 2, 1) := dk_28 (by decide +kernel)
theorem dX6_keepSunk_7 : decode cX6_keepSunk 7 = .ok (.iconst (-1), 1) := dk_2 (by decide +kernel)
theorem dX6_keepSunk_8 : decode cX6_keepSunk 8 = .ok (.if_icmp .eq 11, 3) := dk_159 (by decide +kernel)
theorem dX6_keepSunk_11 : decode cX6_keepSunk 11 = .ok (.aload_n 0, 1) := dk_42 (by decide +kernel)
theorem dX6_keepSunk_12 : decode cX6_keepSunk 12 = .ok (.iload_n 2, 1) := dk_28 (by decide +kernel)
theorem dX6_keepSunk_13 : decode cX6_keepSunk 13 = .ok (.invokevirtual 103, 3) := dk_182 (by decide +kernel)
theorem dX6_keepSunk_16 : decode cX6_keepSunk 16 = .ok (.goto 8, 3) := dk_167 (by decide +kernel)
theorem dX6_keepSunk_19 : decode cX6_keepSunk 19 = .ok (.aload_n 0, 1) := dk_42 (by decide +kernel)
theorem dX6_keepSunk_20 : decode cX6_keepSunk 20 = .ok (.iload_n 1, 1) := dk_27 (by decide +kernel)
theorem dX6_keepSunk_21 : decode cX6_keepSunk 21 = .ok (.invokevirtual 110, 3) := dk_182 (by decide +kernel)
theorem dX6_keepSunk_24 : decode cX6_keepSunk 24 = .ok (.return_, 1) := dk_177 (by decide +kernel)
def wsMX6_keepSunk : List Cond := .code yX6_keepSunk cX6_keepSunk 3 none :: ([] ++ (wsV RX6 107 RX6 yX6_rowOf wsMX6_rowOf) ++ (wsV RX6 110 RX6 yX6_shutOutside wsMX6_shutOutside) ++ (wsV RX6 103 RX6 yX6_shutWith wsMX6_shutWith))
theorem gwsMX6_keepSunk_0 : GoodIn wsMX6_keepSunk (wsV RX6 107 RX6 yX6_rowOf wsMX6_rowOf) := goodIn_sub (fun _ h => List.mem_cons_of_mem _ (List.mem_append_left _ (List.mem_append_left _ (List.mem_append_right _ h)))) (gdV (by decide +kernel) gdwsMX6_rowOf)
theorem gwsMX6_keepSunk_1 : GoodIn wsMX6_keepSunk (wsV RX6 110 RX6 yX6_shutOutside wsMX6_shutOutside) := goodIn_sub (fun _ h => List.mem_cons_of_mem _ (List.mem_append_left _ (List.mem_append_right _ h))) (gdV (by decide +kernel) gdwsMX6_shutOutside)
theorem gwsMX6_keepSunk_2 : GoodIn wsMX6_keepSunk (wsV RX6 103 RX6 yX6_shutWith wsMX6_shutWith) := goodIn_sub (fun _ h => List.mem_cons_of_mem _ (List.mem_append_right _ h)) (gdV (by decide +kernel) gdwsMX6_shutWith)
theorem gdwsMX6_keepSunk : wsMX6_keepSunk.all goodWord = true := gdC rfl (gdA (gdA (gdA (by decide +kernel : ([] : List Cond).all goodWord = true) (gdV (by decide +kernel) gdwsMX6_rowOf)) (gdV (by decide +kernel) gdwsMX6_shutOutside)) (gdV (by decide +kernel) gdwsMX6_shutWith))
set_option maxHeartbeats 4000000 in
set_option maxRecDepth 100000 in
/-- it stays so -/
theorem m_X6_keepSunk (l : Launch) (dC : Nat → ClassId) (dI : Nat → Nat → Nat) (hQ : Nat → Nat) (aQ : Nat → Nat) (kQ : Nat → ClassId) (hw : Nat → Nat) (fQ_inside : Nat → Int32) (fQ_outside : Nat → Int32) (fQ_shut : Nat → Int32) (iQ_rows : Int32) (iQ_allRows : Int32) (iQ_columns : Int32) (nW : Nat) (lw : Nat → Nat) (kw : ClassId) (wl : Nat → Int32) (wb : Nat → Int32) (wG : Nat → Nat → Int64) (p1 : Int32) (b_iQ_rows : 0 ≤ iQ_rows.toInt ∧ iQ_rows.toInt ≤ 40) (b_iQ_allRows : 0 ≤ iQ_allRows.toInt ∧ iQ_allRows.toInt ≤ 40) (b_iQ_columns : 0 ≤ iQ_columns.toInt ∧ iQ_columns.toInt ≤ 40) (b_tb : TbO iQ_rows iQ_allRows iQ_columns) (b_wl : ∀ q : Nat, 0 ≤ (wl q).toInt ∧ (wl q).toInt ≤ 14) (b_wb : ∀ q : Nat, 0 ≤ (wb q).toInt ∧ (wb q).toInt ≤ 1) (hnW : 406 ≤ nW) (sz : Nat) : Met l yX6_keepSunk wsMX6_keepSunk ({ frames := 2, cells := 0, slots := 0, locals := 44 }) (va_Pc [.ref (hQ 0), .int p1] (fun U => U.heap.size = sz ∧ va_P (dC, dI) vwCl (WQ hQ aQ kQ hw fQ_inside fQ_outside fQ_shut iQ_rows iQ_allRows iQ_columns ++ (WW nW hw lw kw wl wb wG)) U.heap ∧ va_K (dC, dI) vwCl (tQ kQ ++ (tW kw)) U ∧ va_D (fun _ => True) (WQ hQ aQ kQ hw fQ_inside fQ_outside fQ_shut iQ_rows iQ_allRows iQ_columns ++ (WW nW hw lw kw wl wb wG)))) (va_Qv (fun (u : Nat → Int32) => True) (fun (u : Nat → Int32) t => va_P (dC, dI) vwCl (WQ hQ aQ kQ hw fQ_inside fQ_outside u iQ_rows iQ_allRows iQ_columns ++ (WW nW hw lw kw wl wb wG)) t.heap ∧ va_D (va_A (WQ hQ aQ kQ hw fQ_inside fQ_outside fQ_shut iQ_rows iQ_allRows iQ_columns ++ (WW nW hw lw kw wl wb wG)) sz) (WQ hQ aQ kQ hw fQ_inside fQ_outside u iQ_rows iQ_allRows iQ_columns ++ (WW nW hw lw kw wl wb wG))) (va_A (WQ hQ aQ kQ hw fQ_inside fQ_outside fQ_shut iQ_rows iQ_allRows iQ_columns ++ (WW nW hw lw kw wl wb wG)) sz)) 0 0 (va_A (WQ hQ aQ kQ hw fQ_inside fQ_outside fQ_shut iQ_rows iQ_allRows iQ_columns ++ (WW nW hw lw kw wl wb wG)) sz) := by
  refine Met.ofW (cc := cX6_keepSunk) (maxL := 3) (ret := none) (by decide) rfl ?_
  intro p e s m args below meth c s₁ B hml hv
  obtain ⟨rfl, hsz, hP, hK, hD0⟩ := hv
  have hx := B.exec
  have hb := B.bytes
  have hr := B.returns
  have hts := atoms_spec (ws := wsMX6_keepSunk) B.pre
  have hown : s.vm.findClass RX6 = some m.cls := findClass_of_methodNamed B.named
  have hlocks := B.notSynchronized
  subst hsz
  have hD := hD0.self (sz := s.heap.size)
  generalize hAe : va_A (WQ hQ aQ kQ hw fQ_inside fQ_outside fQ_shut iQ_rows iQ_allRows iQ_columns ++ (WW nW hw lw kw wl wb wG)) s.heap.size = A at hD ⊢
  have hA : ∀ q : Nat, s.heap.size ≤ q → A q := fun q h => by rw [← hAe]; exact Or.inr h
  have hS : va_S A s.heap s.heap [] := va_S.rf
  have hl := lv_entry ([.ref (hQ 0), .int p1]) (n := 3) (Nat.le_of_ble_eq_true rfl)
  rw [lg_entry_eq]
  generalize (lg_sl ([.ref (hQ 0), .int p1]) ++ List.replicate (3 - (lg_sl ([.ref (hQ 0), .int p1])).length) Slot.unset).toArray = ls at hl ⊢
  have hl : lv_has ls 3 [(0, .ref (hQ 0)), (1, .int p1)] := hl
  have hTb := b_tb.1
  refine lv_aload_n hx hb dX6_keepSunk_0 rfl (lv_at hl 0 rfl) ?_
  refine lv_iload_n hx hb dX6_keepSunk_1 rfl (lv_at hl 1 rfl) ?_
  have hFc := allFree hD hS hA
  refine va_calli (va_runV (As := [.int p1]) (rest := []) ⟨hx, hb, hml, hown, hts⟩ (m_X6_rowOf l dC dI hQ aQ kQ hw fQ_inside fQ_outside fQ_shut iQ_rows iQ_allRows iQ_columns nW lw kw wl wb wG p1 (b_iQ_rows) (b_iQ_allRows) (b_iQ_columns) (by first | assumption | omega) b_wl b_wb (by first | assumption | omega | (rw [iI_t (by omega) (by omega)]; omega) | decide) s.heap.size) (cwV 1 hts gwsMX6_keepSunk_0 rfl rfl rfl hd_yX6_rowOf_RX6 (by decide +kernel)) (fz_pre (va_recv hK hP (ci := 6) (q0 := 0) rfl rfl) hP hK hD) rfl rfl hl.1 rfl (lv_room (Nat.le_of_ble_eq_true rfl)) dX6_keepSunk_2 (by decide +kernel)) hS (fun q _ h => hFc q h) hFc (fun r1 u t9_ H locs ht hvm hw9 hB9 hz1 hk1 hS => ?_)
  obtain ⟨b_r1, f1_0⟩ := hw9
  have hP : va_P (dC, dI) vwCl (WQ hQ aQ kQ hw fQ_inside fQ_outside fQ_shut iQ_rows iQ_allRows iQ_columns ++ (WW nW hw lw kw wl wb wG)) H := fz_P ht hB9.1
  have hD : va_D A (WQ hQ aQ kQ hw fQ_inside fQ_outside fQ_shut iQ_rows iQ_allRows iQ_columns ++ (WW nW hw lw kw wl wb wG)) := hB9.2.weaken (fun _ q _ h => hFc q.1 h)
  refine lv_istore_n hx hb dX6_keepSunk_5 rfl hl (by decide) rfl (fun ls (hl : lv_has ls _ ([(2, .int r1), (0, .ref (hQ 0)), (1, .int p1)])) => ?_)
  refine lv_iload_n hx hb dX6_keepSunk_6 rfl (lv_at hl 0 rfl) ?_
  refine lv_iconst (v := (-1)) hx hb dX6_keepSunk_7 (by decide) ?_
  refine W.cut (pc := 24) (fun H locs ls stk => ∃ (fQ_shut_j2 : Nat → Int32),  stk = [] ∧ va_P (dC, dI) vwCl (WQ hQ aQ kQ hw fQ_inside fQ_outside fQ_shut_j2 iQ_rows iQ_allRows iQ_columns ++ (WW nW hw lw kw wl wb wG)) H ∧ va_D A (WQ hQ aQ kQ hw fQ_inside fQ_outside fQ_shut_j2 iQ_rows iQ_allRows iQ_columns ++ (WW nW hw lw kw wl wb wG)) ∧ va_S A s.heap H locs ∧ lv_has ls 3 [(2, .int r1), (0, .ref (hQ 0)), (1, .int p1)]) (fun join2 => ?_) ?_
  · refine lv_icmp_eq (tgt := 19) hx hb dX6_keepSunk_8 (by decide) (fun c_8 => ?_) (fun c_8 => ?_)
    · have t_8 : r1.toInt = (-1) := toI_eq c_8 rfl (by decide : ((-1) : Int32).toInt = (-1))
      refine lv_aload_n hx hb dX6_keepSunk_19 rfl (lv_at hl 1 rfl) ?_
      refine lv_iload_n hx hb dX6_keepSunk_20 rfl (lv_at hl 2 rfl) ?_
      have hFc := allFree hD hS hA
      refine va_callv (va_runV (As := [.int p1]) (rest := []) ⟨hx, hb, hml, hown, hts⟩ (m_X6_shutOutside l dC dI hQ aQ kQ hw fQ_inside fQ_outside fQ_shut iQ_rows iQ_allRows iQ_columns nW lw kw wl wb wG p1 (b_iQ_rows) (b_iQ_allRows) (b_iQ_columns) (by first | assumption | omega) b_wl b_wb (by first | assumption | omega | (rw [iI_t (by omega) (by omega)]; omega) | decide) H.size) (cwV 1 hts gwsMX6_keepSunk_1 rfl rfl rfl hd_yX6_shutOutside_RX6 (by decide +kernel)) (fz_pre (va_recv hK hP (ci := 6) (q0 := 0) rfl rfl) hP hK hD) rfl rfl hl.1 rfl (lv_room (Nat.le_of_ble_eq_true rfl)) dX6_keepSunk_21 (by decide +kernel)) hS (fun q _ h => hFc q h) hFc (fun u t9_ H locs ht hvm hw9 hB9 hz1 hk1 hS => ?_)
      obtain ⟨fQ_shut_4, hwit4⟩ : ∃ w9, w9 = u := ⟨u, rfl⟩
      subst hwit4
      clear hw9
      have hP : va_P (dC, dI) vwCl (WQ hQ aQ kQ hw fQ_inside fQ_outside fQ_shut_4 iQ_rows iQ_allRows iQ_columns ++ (WW nW hw lw kw wl wb wG)) H := fz_P ht hB9.1
      have hD : va_D A (WQ hQ aQ kQ hw fQ_inside fQ_outside fQ_shut_4 iQ_rows iQ_allRows iQ_columns ++ (WW nW hw lw kw wl wb wG)) := hB9.2.weaken (fun _ q _ h => hFc q.1 h)
      have hl : lv_has _ _ ([(2, .int r1), (0, .ref (hQ 0)), (1, .int p1)]) := lv_sub hl [0, 1, 2] rfl
      exact join2 _ _ _ _ ⟨fQ_shut_4, rfl, hP, hD, hS, hl⟩
    · have t_8 : ¬ r1.toInt = (-1) := toI_neq c_8 rfl (by decide : ((-1) : Int32).toInt = (-1))
      refine lv_aload_n hx hb dX6_keepSunk_11 rfl (lv_at hl 1 rfl) ?_
      refine lv_iload_n hx hb dX6_keepSunk_12 rfl (lv_at hl 0 rfl) ?_
      have hFc := allFree hD hS hA
      refine va_callv (va_runV (As := [.int r1]) (rest := []) ⟨hx, hb, hml, hown, hts⟩ (m_X6_shutWith l dC dI hQ aQ kQ hw fQ_inside fQ_outside fQ_shut iQ_rows iQ_allRows iQ_columns nW lw kw wl wb wG r1 (b_iQ_rows) (b_iQ_allRows) (b_iQ_columns) (by first | assumption | omega) b_wl b_wb (by first | exact b_r1 | assumption | exact ⟨by omega, by omega⟩) (by first | assumption | omega | (rw [iI_t (by omega) (by omega)]; omega) | decide) (FitR.of b_tb (by omega) (by omega) (by omega)) H.size) (cwV 1 hts gwsMX6_keepSunk_2 rfl rfl rfl hd_yX6_shutWith_RX6 (by decide +kernel)) (fz_pre (va_recv hK hP (ci := 6) (q0 := 0) rfl rfl) hP hK hD) rfl rfl hl.1 rfl (lv_room (Nat.le_of_ble_eq_true rfl)) dX6_keepSunk_13 (by decide +kernel)) hS (fun q _ h => hFc q h) hFc (fun u t9_ H locs ht hvm hw9 hB9 hz1 hk1 hS => ?_)
      obtain ⟨fQ_shut_5, hwit5⟩ : ∃ w9, w9 = u := ⟨u, rfl⟩
      subst hwit5
      clear hw9
      have hP : va_P (dC, dI) vwCl (WQ hQ aQ kQ hw fQ_inside fQ_outside fQ_shut_5 iQ_rows iQ_allRows iQ_columns ++ (WW nW hw lw kw wl wb wG)) H := fz_P ht hB9.1
      have hD : va_D A (WQ hQ aQ kQ hw fQ_inside fQ_outside fQ_shut_5 iQ_rows iQ_allRows iQ_columns ++ (WW nW hw lw kw wl wb wG)) := hB9.2.weaken (fun _ q _ h => hFc q.1 h)
      refine lv_goto (tgt := 24) hx hb dX6_keepSunk_16 (by decide) ?_
      have hl : lv_has _ _ ([(2, .int r1), (0, .ref (hQ 0)), (1, .int p1)]) := lv_sub hl [0, 1, 2] rfl
      exact join2 _ _ _ _ ⟨fQ_shut_5, rfl, hP, hD, hS, hl⟩
  · rintro H locs ls stk ⟨fQ_shut_j2, rfl, hP, hD, hS, hl⟩
    refine W.widen (k := 0) (n := 0) (by decide +kernel) (by decide +kernel) ?_
    exact W.vret hx hb hr (fun t9_ ht hW => ⟨⟨fQ_shut_j2, rfl, trivial, by rw [ht]; exact hP, hD⟩, hS.F ht⟩) hS.2.2 dX6_keepSunk_24
theorem dX6_drop_0 : decode cX6_drop 0 = .ok (.aload_n 0, 1) := dk_42 (by decide +kernel)
theorem dX6_drop_1 : decode cX6_drop 1 = .ok (.iload_n 1, 1) := dk_27 (by decide +kernel)
theorem dX6_drop_2 : decode cX6_drop 2 = .ok (.invokevirtual 107, 3) := dk_182 (by decide +kernel)
theorem dX6_drop_5 : decode cX6_drop 5 = .ok (.istore_n 2, 1) := dk_61 (by decide +kernel)
theorem dX6_drop_6 : decode cX6_drop 6 = .ok (.iload_n 2, 1) := dk_28 (by decide +kernel)
theorem dX6_drop_7 : decode cX6_drop 7 = .ok (.iconst (-1), 1) := dk_2 (by decide +kernel)
theorem dX6_drop_8 : decode cX6_drop 8 = .ok (.if_icmp .ne 7, 3) := dk_160 (by decide +kernel)
theorem dX6_drop_11 : decode cX6_drop 11 = .ok (.iconst (-1), 1) := dk_2 (by decide +kernel)
theorem dX6_drop_12 : decode cX6_drop 12 = .ok (.goto 8, 3) := dk_167 (by decide +kernel)
theorem dX6_drop_15 : decode cX6_drop 15 = .ok (.aload_n 0, 1) := dk_42 (by decide +kernel)
theorem dX6_drop_16 : decode cX6_drop 16 = .ok (.iload_n 2, 1) := dk_28 (by decide +kernel)
theorem dX6_drop_17 : decode cX6_drop 17 = .ok (.invokevirtual 68, 3) := dk_182 (by decide +kernel)
theorem dX6_drop_20 : decode cX6_drop 20 = .ok (.istore_n 3, 1) := dk_62 (by decide +kernel)
theorem dX6_drop_21 : decode cX6_drop 21 = .ok (.iload_n 3, 1) := dk_29 (by decide +kernel)
theorem dX6_drop_22 : decode cX6_drop 22 = .ok (.iconst (-1), 1) := dk_2 (by decide +kernel)
theorem dX6_drop_23 : decode cX6_drop 23 = .ok (.if_icmp .eq 9, 3) := dk_159 (by decide +kernel)
theorem dX6_drop_26 : decode cX6_drop 26 = .ok (.aload_n 0, 1) := dk_42 (by decide +kernel)
theorem dX6_drop_27 : decode cX6_drop 27 = .ok (.iload_n 2, 1) := dk_28 (by decide +kernel)
theorem dX6_drop_28 : decode cX6_drop 28 = .ok (.iload_n 3, 1) := dk_29 (by decide +kernel)
theorem dX6_drop_29 : decode cX6_drop 29 = .ok (.invokevirtual 79, 3) := dk_182 (by decide +kernel)
theorem dX6_drop_32 : decode cX6_drop 32 = .ok (.aload_n 0, 1) := dk_42 (by decide +kernel)
theorem dX6_drop_33 : decode cX6_drop 33 = .ok (.iload_n 1, 1) := dk_27 (by decide +kernel)
theorem dX6_drop_34 : decode cX6_drop 34 = .ok (.invokevirtual 110, 3) := dk_182 (by decide +kernel)
theorem dX6_drop_37 : decode cX6_drop 37 = .ok (.return_, 1) := dk_177 (by decide +kernel)
def wsMX6_drop : List Cond := .code yX6_drop cX6_drop 4 none :: ([] ++ (wsV RX6 107 RX6 yX6_rowOf wsMX6_rowOf) ++ (wsV RX6 68 RX6 yX6_columnWith wsMX6_columnWith) ++ (wsV RX6 79 RX6 yX6_exchange wsMX6_exchange) ++ (wsV RX6 110 RX6 yX6_shutOutside wsMX6_shutOutside))
theorem gwsMX6_drop_0 : GoodIn wsMX6_drop (wsV RX6 107 RX6 yX6_rowOf wsMX6_rowOf) := goodIn_sub (fun _ h => List.mem_cons_of_mem _ (List.mem_append_left _ (List.mem_append_left _ (List.mem_append_left _ (List.mem_append_right _ h))))) (gdV (by decide +kernel) gdwsMX6_rowOf)
theorem gwsMX6_drop_1 : GoodIn wsMX6_drop (wsV RX6 68 RX6 yX6_columnWith wsMX6_columnWith) := goodIn_sub (fun _ h => List.mem_cons_of_mem _ (List.mem_append_left _ (List.mem_append_left _ (List.mem_append_right _ h)))) (gdV (by decide +kernel) gdwsMX6_columnWith)
theorem gwsMX6_drop_2 : GoodIn wsMX6_drop (wsV RX6 79 RX6 yX6_exchange wsMX6_exchange) := goodIn_sub (fun _ h => List.mem_cons_of_mem _ (List.mem_append_left _ (List.mem_append_right _ h))) (gdV (by decide +kernel) gdwsMX6_exchange)
theorem gwsMX6_drop_3 : GoodIn wsMX6_drop (wsV RX6 110 RX6 yX6_shutOutside wsMX6_shutOutside) := goodIn_sub (fun _ h => List.mem_cons_of_mem _ (List.mem_append_right _ h)) (gdV (by decide +kernel) gdwsMX6_shutOutside)
theorem gdwsMX6_drop : wsMX6_drop.all goodWord = true := gdC rfl (gdA (gdA (gdA (gdA (by decide +kernel : ([] : List Cond).all goodWord = true) (gdV (by decide +kernel) gdwsMX6_rowOf)) (gdV (by decide +kernel) gdwsMX6_columnWith)) (gdV (by decide +kernel) gdwsMX6_exchange)) (gdV (by decide +kernel) gdwsMX6_shutOutside))
set_option maxHeartbeats 4000000 in
set_option maxRecDepth 100000 in
/-- it stays nought -/
theorem m_X6_drop (l : Launch) (dC : Nat → ClassId) (dI : Nat → Nat → Nat) (hQ : Nat → Nat) (aQ : Nat → Nat) (kQ : Nat → ClassId) (hw : Nat → Nat) (fQ_inside : Nat → Int32) (fQ_outside : Nat → Int32) (fQ_shut : Nat → Int32) (iQ_rows : Int32) (iQ_allRows : Int32) (iQ_columns : Int32) (nW : Nat) (lw : Nat → Nat) (kw : ClassId) (wl : Nat → Int32) (wb : Nat → Int32) (wG : Nat → Nat → Int64) (p1 : Int32) (b_iQ_rows : 0 ≤ iQ_rows.toInt ∧ iQ_rows.toInt ≤ 40) (b_iQ_allRows : 0 ≤ iQ_allRows.toInt ∧ iQ_allRows.toInt ≤ 40) (b_iQ_columns : 0 ≤ iQ_columns.toInt ∧ iQ_columns.toInt ≤ 40) (b_tb : TbO iQ_rows iQ_allRows iQ_columns) (b_wl : ∀ q : Nat, 0 ≤ (wl q).toInt ∧ (wl q).toInt ≤ 14) (b_wb : ∀ q : Nat, 0 ≤ (wb q).toInt ∧ (wb q).toInt ≤ 1) (hnW : 406 ≤ nW) (sz : Nat) : Met l yX6_drop wsMX6_drop ({ frames := 5, cells := 0, slots := 0, locals := 131 }) (va_Pc [.ref (hQ 0), .int p1] (fun U => U.heap.size = sz ∧ va_P (dC, dI) vwCl (WQ hQ aQ kQ hw fQ_inside fQ_outside fQ_shut iQ_rows iQ_allRows iQ_columns ++ (WW nW hw lw kw wl wb wG)) U.heap ∧ va_K (dC, dI) vwCl (tQ kQ ++ (tW kw)) U ∧ va_D (fun _ => True) (WQ hQ aQ kQ hw fQ_inside fQ_outside fQ_shut iQ_rows iQ_allRows iQ_columns ++ (WW nW hw lw kw wl wb wG)))) (va_Qv (fun (u : (Nat → Int32) × (Nat → Int32) × (Nat → Int32) × (Nat → Int32) × (Nat → Int32) × (Nat → Nat → Int64)) => (∀ q : Nat, 0 ≤ ((u.2.2.2.1) q).toInt ∧ ((u.2.2.2.1) q).toInt ≤ 14) ∧ (∀ q : Nat, 0 ≤ ((u.2.2.2.2.1) q).toInt ∧ ((u.2.2.2.2.1) q).toInt ≤ 1)) (fun (u : (Nat → Int32) × (Nat → Int32) × (Nat → Int32) × (Nat → Int32) × (Nat → Int32) × (Nat → Nat → Int64)) t => va_P (dC, dI) vwCl (WQ hQ aQ kQ hw (u.1) (u.2.1) (u.2.2.1) iQ_rows iQ_allRows iQ_columns ++ (WW nW hw lw kw (u.2.2.2.1) (u.2.2.2.2.1) (u.2.2.2.2.2))) t.heap ∧ va_D (va_A (WQ hQ aQ kQ hw fQ_inside fQ_outside fQ_shut iQ_rows iQ_allRows iQ_columns ++ (WW nW hw lw kw wl wb wG)) sz) (WQ hQ aQ kQ hw (u.1) (u.2.1) (u.2.2.1) iQ_rows iQ_allRows iQ_columns ++ (WW nW hw lw kw (u.2.2.2.1) (u.2.2.2.2.1) (u.2.2.2.2.2)))) (va_A (WQ hQ aQ kQ hw fQ_inside fQ_outside fQ_shut iQ_rows iQ_allRows iQ_columns ++ (WW nW hw lw kw wl wb wG)) sz)) 0 0 (va_A (WQ hQ aQ kQ hw fQ_inside fQ_outside fQ_shut iQ_rows iQ_allRows iQ_columns ++ (WW nW hw lw kw wl wb wG)) sz) := by
  refine Met.ofW (cc := cX6_drop) (maxL := 4) (ret := none) (by decide) rfl ?_
  intro p e s m args below meth c s₁ B hml hv
  obtain ⟨rfl, hsz, hP, hK, hD0⟩ := hv
  have hx := B.exec
  have hb := B.bytes
  have hr := B.returns
  have hts := atoms_spec (ws := wsMX6_drop) B.pre
  have hown : s.vm.findClass RX6 = some m.cls := findClass_of_methodNamed B.named
  have hlocks := B.notSynchronized
  subst hsz
  have hD := hD0.self (sz := s.heap.size)
  generalize hAe : va_A (WQ hQ aQ kQ hw fQ_inside fQ_outside fQ_shut iQ_rows iQ_allRows iQ_columns ++ (WW nW hw lw kw wl wb wG)) s.heap.size = A at hD ⊢
  have hA : ∀ q : Nat, s.heap.size ≤ q → A q := fun q h => by rw [← hAe]; exact Or.inr h
  have hS : va_S A s.heap s.heap [] := va_S.rf
  have hl := lv_entry ([.ref (hQ 0), .int p1]) (n := 4) (Nat.le_of_ble_eq_true rfl)
  rw [lg_entry_eq]
  generalize (lg_sl ([.ref (hQ 0), .int p1]) ++ List.replicate (4 - (lg_sl ([.ref (hQ 0), .int p1])).length) Slot.unset).toArray = ls at hl ⊢
  have hl : lv_has ls 4 [(0, .ref (hQ 0)), (1, .int p1)] := hl
  have hTb := b_tb.1
  refine lv_aload_n hx hb dX6_drop_0 rfl (lv_at hl 0 rfl) ?_
  refine lv_iload_n hx hb dX6_drop_1 rfl (lv_at hl 1 rfl) ?_
  have hFc := allFree hD hS hA
  refine va_calli (va_runV (As := [.int p1]) (rest := []) ⟨hx, hb, hml, hown, hts⟩ (m_X6_rowOf l dC dI hQ aQ kQ hw fQ_inside fQ_outside fQ_shut iQ_rows iQ_allRows iQ_columns nW lw kw wl wb wG p1 (b_iQ_rows) (b_iQ_allRows) (b_iQ_columns) (by first | assumption | omega) b_wl b_wb (by first | assumption | omega | (rw [iI_t (by omega) (by omega)]; omega) | decide) s.heap.size) (cwV 1 hts gwsMX6_drop_0 rfl rfl rfl hd_yX6_rowOf_RX6 (by decide +kernel)) (fz_pre (va_recv hK hP (ci := 6) (q0 := 0) rfl rfl) hP hK hD) rfl rfl hl.1 rfl (lv_room (Nat.le_of_ble_eq_true rfl)) dX6_drop_2 (by decide +kernel)) hS (fun q _ h => hFc q h) hFc (fun r1 u t9_ H locs ht hvm hw9 hB9 hz1 hk1 hS => ?_)
  obtain ⟨b_r1, f1_0⟩ := hw9
  have hP : va_P (dC, dI) vwCl (WQ hQ aQ kQ hw fQ_inside fQ_outside fQ_shut iQ_rows iQ_allRows iQ_columns ++ (WW nW hw lw kw wl wb wG)) H := fz_P ht hB9.1
  have hD : va_D A (WQ hQ aQ kQ hw fQ_inside fQ_outside fQ_shut iQ_rows iQ_allRows iQ_columns ++ (WW nW hw lw kw wl wb wG)) := hB9.2.weaken (fun _ q _ h => hFc q.1 h)
  refine lv_istore_n hx hb dX6_drop_5 rfl hl (by decide) rfl (fun ls (hl : lv_has ls _ ([(2, .int r1), (0, .ref (hQ 0)), (1, .int p1)])) => ?_)
  refine lv_iload_n hx hb dX6_drop_6 rfl (lv_at hl 0 rfl) ?_
  refine lv_iconst (v := (-1)) hx hb dX6_drop_7 (by decide) ?_
  refine lv_icmp_ne (tgt := 15) hx hb dX6_drop_8 (by decide) (fun c_8 => ?_) (fun c_8 => ?_)
  · have t_8 : r1.toInt ≠ (-1) := toI_ne c_8 rfl (by decide : ((-1) : Int32).toInt = (-1))
    refine lv_aload_n hx hb dX6_drop_15 rfl (lv_at hl 1 rfl) ?_
    refine lv_iload_n hx hb dX6_drop_16 rfl (lv_at hl 0 rfl) ?_
    have hFc := allFree hD hS hA
    refine va_calli (va_runV (As := [.int r1]) (rest := []) ⟨hx, hb, hml, hown, hts⟩ (m_X6_columnWith l dC dI hQ aQ kQ hw fQ_inside fQ_outside fQ_shut iQ_rows iQ_allRows iQ_columns nW lw kw wl wb wG r1 (b_iQ_rows) (b_iQ_allRows) (b_iQ_columns) (by first | assumption | omega) b_wl b_wb (by first | exact b_r1 | assumption | exact ⟨by omega, by omega⟩) (by first | assumption | omega | (rw [iI_t (by omega) (by omega)]; omega) | decide) (FitR.of b_tb (by omega) (by omega) (by omega)) H.size) (cwV 1 hts gwsMX6_drop_1 rfl rfl rfl hd_yX6_columnWith_RX6 (by decide +kernel)) (fz_pre (va_recv hK hP (ci := 6) (q0 := 0) rfl rfl) hP hK hD) rfl rfl hl.1 rfl (lv_room (Nat.le_of_ble_eq_true rfl)) dX6_drop_17 (by decide +kernel)) hS (fun q _ h => hFc q h) hFc (fun r2 u t9_ H locs ht hvm hw9 hB9 hz1 hk1 hS => ?_)
    obtain ⟨b_r2, f2_0⟩ := hw9
    have hP : va_P (dC, dI) vwCl (WQ hQ aQ kQ hw fQ_inside fQ_outside fQ_shut iQ_rows iQ_allRows iQ_columns ++ (WW nW hw lw kw wl wb wG)) H := fz_P ht hB9.1
    have hD : va_D A (WQ hQ aQ kQ hw fQ_inside fQ_outside fQ_shut iQ_rows iQ_allRows iQ_columns ++ (WW nW hw lw kw wl wb wG)) := hB9.2.weaken (fun _ q _ h => hFc q.1 h)
    refine lv_istore_n hx hb dX6_drop_20 rfl hl (by decide) rfl (fun ls (hl : lv_has ls _ ([(3, .int r2), (2, .int r1), (0, .ref (hQ 0)), (1, .int p1)])) => ?_)
    refine lv_iload_n hx hb dX6_drop_21 rfl (lv_at hl 0 rfl) ?_
    refine lv_iconst (v := (-1)) hx hb dX6_drop_22 (by decide) ?_
    refine W.cut (pc := 32) (fun H locs ls stk => ∃ (fQ_inside_j2 : Nat → Int32) (fQ_outside_j2 : Nat → Int32) (wl_j2 : Nat → Int32) (wb_j2 : Nat → Int32) (wG_j2 : Nat → Nat → Int64), (∀ q : Nat, 0 ≤ (wl_j2 q).toInt ∧ (wl_j2 q).toInt ≤ 14) ∧ (∀ q : Nat, 0 ≤ (wb_j2 q).toInt ∧ (wb_j2 q).toInt ≤ 1) ∧  stk = [] ∧ va_P (dC, dI) vwCl (WQ hQ aQ kQ hw fQ_inside_j2 fQ_outside_j2 fQ_shut iQ_rows iQ_allRows iQ_columns ++ (WW nW hw lw kw wl_j2 wb_j2 wG_j2)) H ∧ va_D A (WQ hQ aQ kQ hw fQ_inside_j2 fQ_outside_j2 fQ_shut iQ_rows iQ_allRows iQ_columns ++ (WW nW hw lw kw wl_j2 wb_j2 wG_j2)) ∧ va_S A s.heap H locs ∧ lv_has ls 4 [(3, .int r2), (2, .int r1), (0, .ref (hQ 0)), (1, .int p1)]) (fun join2 => ?_) ?_
    · refine lv_icmp_eq (tgt := 32) hx hb dX6_drop_23 (by decide) (fun c_23 => ?_) (fun c_23 => ?_)
      · have t_23 : r2.toInt = (-1) := toI_eq c_23 rfl (by decide : ((-1) : Int32).toInt = (-1))
        have hl : lv_has _ _ ([(3, .int r2), (2, .int r1), (0, .ref (hQ 0)), (1, .int p1)]) := lv_sub hl [0, 1, 2, 3] rfl
        exact join2 _ _ _ _ ⟨fQ_inside, fQ_outside, wl, wb, wG, b_wl, b_wb, rfl, hP, hD, hS, hl⟩
      · have t_23 : ¬ r2.toInt = (-1) := toI_neq c_23 rfl (by decide : ((-1) : Int32).toInt = (-1))
        refine lv_aload_n hx hb dX6_drop_26 rfl (lv_at hl 2 rfl) ?_
        refine lv_iload_n hx hb dX6_drop_27 rfl (lv_at hl 1 rfl) ?_
        refine lv_iload_n hx hb dX6_drop_28 rfl (lv_at hl 0 rfl) ?_
        have hFc := allFree hD hS hA
        refine va_callv (va_runV (As := [.int r1, .int r2]) (rest := []) ⟨hx, hb, hml, hown, hts⟩ (m_X6_exchange l dC dI hQ aQ kQ hw fQ_inside fQ_outside fQ_shut iQ_rows iQ_allRows iQ_columns nW lw kw wl wb wG r1 r2 (b_iQ_rows) (b_iQ_allRows) (b_iQ_columns) (by first | assumption | omega) b_wl b_wb (by first | exact b_r1 | assumption | exact ⟨by omega, by omega⟩) (by first | exact b_r2 | assumption | exact ⟨by omega, by omega⟩) (by first | assumption | omega | (rw [iI_t (by omega) (by omega)]; omega) | decide) (FitR.of b_tb (by omega) (by omega) (by omega)) (by first | assumption | omega | (rw [iI_t (by omega) (by omega)]; omega) | decide) H.size) (cwV 2 hts gwsMX6_drop_2 rfl rfl rfl hd_yX6_exchange_RX6 (by decide +kernel)) (fz_pre (va_recv hK hP (ci := 6) (q0 := 0) rfl rfl) hP hK hD) rfl rfl hl.1 rfl (lv_room (Nat.le_of_ble_eq_true rfl)) dX6_drop_29 (by decide +kernel)) hS (fun q _ h => hFc q h) hFc (fun u t9_ H locs ht hvm hw9 hB9 hz1 hk1 hS => ?_)
        obtain ⟨fQ_inside_4, fQ_outside_4, wl_4, wb_4, wG_4⟩ := u
        try dsimp only at hw9 hB9
        obtain ⟨b_wl_4, b_wb_4⟩ := hw9
        have hP : va_P (dC, dI) vwCl (WQ hQ aQ kQ hw fQ_inside_4 fQ_outside_4 fQ_shut iQ_rows iQ_allRows iQ_columns ++ (WW nW hw lw kw wl_4 wb_4 wG_4)) H := fz_P ht hB9.1
        have hD : va_D A (WQ hQ aQ kQ hw fQ_inside_4 fQ_outside_4 fQ_shut iQ_rows iQ_allRows iQ_columns ++ (WW nW hw lw kw wl_4 wb_4 wG_4)) := hB9.2.weaken (fun _ q _ h => hFc q.1 h)
        have hl : lv_has _ _ ([(3, .int r2), (2, .int r1), (0, .ref (hQ 0)), (1, .int p1)]) := lv_sub hl [0, 1, 2, 3] rfl
        exact join2 _ _ _ _ ⟨fQ_inside_4, fQ_outside_4, wl_4, wb_4, wG_4, b_wl_4, b_wb_4, rfl, hP, hD, hS, hl⟩
    · rintro H locs ls stk ⟨fQ_inside_j2, fQ_outside_j2, wl_j2, wb_j2, wG_j2, b_wl_j2, b_wb_j2, rfl, hP, hD, hS, hl⟩
      refine lv_aload_n hx hb dX6_drop_32 rfl (lv_at hl 2 rfl) ?_
      refine lv_iload_n hx hb dX6_drop_33 rfl (lv_at hl 3 rfl) ?_
      have hFc := allFree hD hS hA
      refine va_callv (va_runV (As := [.int p1]) (rest := []) ⟨hx, hb, hml, hown, hts⟩ (m_X6_shutOutside l dC dI hQ aQ kQ hw fQ_inside_j2 fQ_outside_j2 fQ_shut iQ_rows iQ_allRows iQ_columns nW lw kw wl_j2 wb_j2 wG_j2 p1 (b_iQ_rows) (b_iQ_allRows) (b_iQ_columns) (by first | assumption | omega) b_wl_j2 b_wb_j2 (by first | assumption | omega | (rw [iI_t (by omega) (by omega)]; omega) | decide) H.size) (cwV 1 hts gwsMX6_drop_3 rfl rfl rfl hd_yX6_shutOutside_RX6 (by decide +kernel)) (fz_pre (va_recv hK hP (ci := 6) (q0 := 0) rfl rfl) hP hK hD) rfl rfl hl.1 rfl (lv_room (Nat.le_of_ble_eq_true rfl)) dX6_drop_34 (by decide +kernel)) hS (fun q _ h => hFc q h) hFc (fun u t9_ H locs ht hvm hw9 hB9 hz1 hk1 hS => ?_)
      obtain ⟨fQ_shut_5, hwit5⟩ : ∃ w9, w9 = u := ⟨u, rfl⟩
      subst hwit5
      clear hw9
      have hP : va_P (dC, dI) vwCl (WQ hQ aQ kQ hw fQ_inside_j2 fQ_outside_j2 fQ_shut_5 iQ_rows iQ_allRows iQ_columns ++ (WW nW hw lw kw wl_j2 wb_j2 wG_j2)) H := fz_P ht hB9.1
      have hD : va_D A (WQ hQ aQ kQ hw fQ_inside_j2 fQ_outside_j2 fQ_shut_5 iQ_rows iQ_allRows iQ_columns ++ (WW nW hw lw kw wl_j2 wb_j2 wG_j2)) := hB9.2.weaken (fun _ q _ h => hFc q.1 h)
      refine W.widen (k := 0) (n := 0) (by decide +kernel) (by decide +kernel) ?_
      exact W.vret hx hb hr (fun t9_ ht hW => ⟨⟨(fQ_inside_j2, fQ_outside_j2, fQ_shut_5, wl_j2, wb_j2, wG_j2), rfl, ⟨b_wl_j2, b_wb_j2⟩, by rw [ht]; exact hP, hD⟩, hS.F ht⟩) hS.2.2 dX6_drop_37
  · have t_8 : r1.toInt = (-1) := toI_nne c_8 rfl (by decide : ((-1) : Int32).toInt = (-1))
    refine lv_iconst (v := (-1)) hx hb dX6_drop_11 (by decide) ?_
    refine lv_goto (tgt := 20) hx hb dX6_drop_12 (by decide) ?_
    refine lv_istore_n hx hb dX6_drop_20 rfl hl (by decide) rfl (fun ls (hl : lv_has ls _ ([(3, .int (-1)), (2, .int r1), (0, .ref (hQ 0)), (1, .int p1)])) => ?_)
    refine lv_iload_n hx hb dX6_drop_21 rfl (lv_at hl 0 rfl) ?_
    refine lv_iconst (v := (-1)) hx hb dX6_drop_22 (by decide) ?_
    refine lv_icmp_eq (tgt := 32) hx hb dX6_drop_23 (by decide) (fun _ => ?_) (fun c9 => absurd (by decide) c9)
    refine lv_aload_n hx hb dX6_drop_32 rfl (lv_at hl 2 rfl) ?_
    refine lv_iload_n hx hb dX6_drop_33 rfl (lv_at hl 3 rfl) ?_
    have hFc := allFree hD hS hA
    refine va_callv (va_runV (As := [.int p1]) (rest := []) ⟨hx, hb, hml, hown, hts⟩ (m_X6_shutOutside l dC dI hQ aQ kQ hw fQ_inside fQ_outside fQ_shut iQ_rows iQ_allRows iQ_columns nW lw kw wl wb wG p1 (b_iQ_rows) (b_iQ_allRows) (b_iQ_columns) (by first | assumption | omega) b_wl b_wb (by first | assumption | omega | (rw [iI_t (by omega) (by omega)]; omega) | decide) H.size) (cwV 1 hts gwsMX6_drop_3 rfl rfl rfl hd_yX6_shutOutside_RX6 (by decide +kernel)) (fz_pre (va_recv hK hP (ci := 6) (q0 := 0) rfl rfl) hP hK hD) rfl rfl hl.1 rfl (lv_room (Nat.le_of_ble_eq_true rfl)) dX6_drop_34 (by decide +kernel)) hS (fun q _ h => hFc q h) hFc (fun u t9_ H locs ht hvm hw9 hB9 hz1 hk1 hS => ?_)
    obtain ⟨fQ_shut_6, hwit6⟩ : ∃ w9, w9 = u := ⟨u, rfl⟩
    subst hwit6
    clear hw9
    have hP : va_P (dC, dI) vwCl (WQ hQ aQ kQ hw fQ_inside fQ_outside fQ_shut_6 iQ_rows iQ_allRows iQ_columns ++ (WW nW hw lw kw wl wb wG)) H := fz_P ht hB9.1
    have hD : va_D A (WQ hQ aQ kQ hw fQ_inside fQ_outside fQ_shut_6 iQ_rows iQ_allRows iQ_columns ++ (WW nW hw lw kw wl wb wG)) := hB9.2.weaken (fun _ q _ h => hFc q.1 h)
    refine W.widen (k := 0) (n := 0) (by decide +kernel) (by decide +kernel) ?_
    exact W.vret hx hb hr (fun t9_ ht hW => ⟨⟨(fQ_inside, fQ_outside, fQ_shut_6, wl, wb, wG), rfl, ⟨b_wl, b_wb⟩, by rw [ht]; exact hP, hD⟩, hS.F ht⟩) hS.2.2 dX6_drop_37
theorem dX6_isInside_0 : decode cX6_isInside 0 = .ok (.aload_n 0, 1) := dk_42 (by decide +kernel)
theorem dX6_isInside_1 : decode cX6_isInside 1 = .ok (.iload_n 1, 1) := dk_27 (by decide +kernel)
theorem dX6_isInside_2 : decode cX6_isInside 2 = .ok (.invokevirtual 107, 3) := dk_182 (by decide +kernel)
theorem dX6_isInside_5 : decode cX6_isInside 5 = .ok (.iconst (-1), 1) := dk_2 (by decide +kernel)
theorem dX6_isInside_6 : decode cX6_isInside 6 = .ok (.if_icmp .eq 7, 3) := dk_159 (by decide +kernel)
theorem dX6_isInside_9 : decode cX6_isInside 9 = .ok (.iconst 1, 1) := dk_4 (by decide +kernel)
theorem dX6_isInside_10 : decode cX6_isInside 10 = .ok (.goto 4, 3) := dk_167 (by decide +kernel)
theorem dX6_isInside_13 : decode cX6_isInside 13 = .ok (.iconst 0, 1) := dk_3 (by decide +kernel)
theorem dX6_isInside_14 : decode cX6_isInside 14 = .ok (.ireturn, 1) := dk_172 (by decide +kernel)
def wsMX6_isInside : List Cond := .code yX6_isInside cX6_isInside 2 (some .boolean) :: ([] ++ (wsV RX6 107 RX6 yX6_rowOf wsMX6_rowOf))
theorem gwsMX6_isInside_0 : GoodIn wsMX6_isInside (wsV RX6 107 RX6 yX6_rowOf wsMX6_rowOf) := goodIn_sub (fun _ h => List.mem_cons_of_mem _ (List.mem_append_right _ h)) (gdV (by decide +kernel) gdwsMX6_rowOf)
theorem gdwsMX6_isInside : wsMX6_isInside.all goodWord = true := gdC rfl (gdA (by decide +kernel : ([] : List Cond).all goodWord = true) (gdV (by decide +kernel) gdwsMX6_rowOf))
set_option maxHeartbeats 4000000 in
set_option maxRecDepth 100000 in
/-- is it inside -/
theorem m_X6_isInside (l : Launch) (dC : Nat → ClassId) (dI : Nat → Nat → Nat) (hQ : Nat → Nat) (aQ : Nat → Nat) (kQ : Nat → ClassId) (hw : Nat → Nat) (fQ_inside : Nat → Int32) (fQ_outside : Nat → Int32) (fQ_shut : Nat → Int32) (iQ_rows : Int32) (iQ_allRows : Int32) (iQ_columns : Int32) (nW : Nat) (lw : Nat → Nat) (kw : ClassId) (wl : Nat → Int32) (wb : Nat → Int32) (wG : Nat → Nat → Int64) (p1 : Int32) (b_iQ_rows : 0 ≤ iQ_rows.toInt ∧ iQ_rows.toInt ≤ 40) (b_iQ_allRows : 0 ≤ iQ_allRows.toInt ∧ iQ_allRows.toInt ≤ 40) (b_iQ_columns : 0 ≤ iQ_columns.toInt ∧ iQ_columns.toInt ≤ 40) (b_tb : TbO iQ_rows iQ_allRows iQ_columns) (b_wl : ∀ q : Nat, 0 ≤ (wl q).toInt ∧ (wl q).toInt ≤ 14) (b_wb : ∀ q : Nat, 0 ≤ (wb q).toInt ∧ (wb q).toInt ≤ 1) (hnW : 406 ≤ nW) (sz : Nat) : Met l yX6_isInside wsMX6_isInside ({ frames := 1, cells := 0, slots := 0, locals := 22 }) (va_Pc [.ref (hQ 0), .int p1] (fun U => U.heap.size = sz ∧ va_P (dC, dI) vwCl (WQ hQ aQ kQ hw fQ_inside fQ_outside fQ_shut iQ_rows iQ_allRows iQ_columns ++ (WW nW hw lw kw wl wb wG)) U.heap ∧ va_K (dC, dI) vwCl (tQ kQ ++ (tW kw)) U ∧ va_D (fun _ => True) (WQ hQ aQ kQ hw fQ_inside fQ_outside fQ_shut iQ_rows iQ_allRows iQ_columns ++ (WW nW hw lw kw wl wb wG)))) (va_Qi (fun (r : Int32) (u : Unit) => (0 ≤ r.toInt ∧ r.toInt ≤ 1)) (fun (u : Unit) t => va_P (dC, dI) vwCl (WQ hQ aQ kQ hw fQ_inside fQ_outside fQ_shut iQ_rows iQ_allRows iQ_columns ++ (WW nW hw lw kw wl wb wG)) t.heap ∧ va_D (va_A (WQ hQ aQ kQ hw fQ_inside fQ_outside fQ_shut iQ_rows iQ_allRows iQ_columns ++ (WW nW hw lw kw wl wb wG)) sz) (WQ hQ aQ kQ hw fQ_inside fQ_outside fQ_shut iQ_rows iQ_allRows iQ_columns ++ (WW nW hw lw kw wl wb wG))) (va_A (WQ hQ aQ kQ hw fQ_inside fQ_outside fQ_shut iQ_rows iQ_allRows iQ_columns ++ (WW nW hw lw kw wl wb wG)) sz)) 0 0 (va_A (WQ hQ aQ kQ hw fQ_inside fQ_outside fQ_shut iQ_rows iQ_allRows iQ_columns ++ (WW nW hw lw kw wl wb wG)) sz) := by
  refine Met.ofW (cc := cX6_isInside) (maxL := 2) (ret := (some .boolean)) (by decide) rfl ?_
  intro p e s m args below meth c s₁ B hml hv
  obtain ⟨rfl, hsz, hP, hK, hD0⟩ := hv
  have hx := B.exec
  have hb := B.bytes
  have hr := B.returns
  have hts := atoms_spec (ws := wsMX6_isInside) B.pre
  have hown : s.vm.findClass RX6 = some m.cls := findClass_of_methodNamed B.named
  have hlocks := B.notSynchronized
  subst hsz
  have hD := hD0.self (sz := s.heap.size)
  generalize hAe : va_A (WQ hQ aQ kQ hw fQ_inside fQ_outside fQ_shut iQ_rows iQ_allRows iQ_columns ++ (WW nW hw lw kw wl wb wG)) s.heap.size = A at hD ⊢
  have hA : ∀ q : Nat, s.heap.size ≤ q → A q := fun q h => by rw [← hAe]; exact Or.inr h
  have hS : va_S A s.heap s.heap [] := va_S.rf
  have hl := lv_entry ([.ref (hQ 0), .int p1]) (n := 2) (Nat.le_of_ble_eq_true rfl)
  rw [lg_entry_eq]
  generalize (lg_sl ([.ref (hQ 0), .int p1]) ++ List.replicate (2 - (lg_sl ([.ref (hQ 0), .int p1])).length) Slot.unset).toArray = ls at hl ⊢
  have hl : lv_has ls 2 [(0, .ref (hQ 0)), (1, .int p1)] := hl
  have hTb := b_tb.1
  refine lv_aload_n hx hb dX6_isInside_0 rfl (lv_at hl 0 rfl) ?_
  refine lv_iload_n hx hb dX6_isInside_1 rfl (lv_at hl 1 rfl) ?_
  have hFc := allFree hD hS hA
  refine va_calli (va_runV (As := [.int p1]) (rest := []) ⟨hx, hb, hml, hown, hts⟩ (m_X6_rowOf l dC dI hQ aQ kQ hw fQ_inside fQ_outside fQ_shut iQ_rows iQ_allRows iQ_columns nW lw kw wl wb wG p1 (b_iQ_rows) (b_iQ_allRows) (b_iQ_columns) (by first | assumption | omega) b_wl b_wb (by first | assumption | omega | (rw [iI_t (by omega) (by omega)]; omega) | decide) s.heap.size) (cwV 1 hts gwsMX6_isInside_0 rfl rfl rfl hd_yX6_rowOf_RX6 (by decide +kernel)) (fz_pre (va_recv hK hP (ci := 6) (q0 := 0) rfl rfl) hP hK hD) rfl rfl hl.1 rfl (lv_room (Nat.le_of_ble_eq_true rfl)) dX6_isInside_2 (by decide +kernel)) hS (fun q _ h => hFc q h) hFc (fun r1 u t9_ H locs ht hvm hw9 hB9 hz1 hk1 hS => ?_)
  obtain ⟨b_r1, f1_0⟩ := hw9
  have hP : va_P (dC, dI) vwCl (WQ hQ aQ kQ hw fQ_inside fQ_outside fQ_shut iQ_rows iQ_allRows iQ_columns ++ (WW nW hw lw kw wl wb wG)) H := fz_P ht hB9.1
  have hD : va_D A (WQ hQ aQ kQ hw fQ_inside fQ_outside fQ_shut iQ_rows iQ_allRows iQ_columns ++ (WW nW hw lw kw wl wb wG)) := hB9.2.weaken (fun _ q _ h => hFc q.1 h)
  refine lv_iconst (v := (-1)) hx hb dX6_isInside_5 (by decide) ?_
  refine W.cut (pc := 14) (fun H locs ls stk => ∃ (k0_j2 : Int32), (0 ≤ k0_j2.toInt ∧ k0_j2.toInt ≤ 1) ∧  stk = [.int k0_j2] ∧ va_P (dC, dI) vwCl (WQ hQ aQ kQ hw fQ_inside fQ_outside fQ_shut iQ_rows iQ_allRows iQ_columns ++ (WW nW hw lw kw wl wb wG)) H ∧ va_D A (WQ hQ aQ kQ hw fQ_inside fQ_outside fQ_shut iQ_rows iQ_allRows iQ_columns ++ (WW nW hw lw kw wl wb wG)) ∧ va_S A s.heap H locs ∧ lv_has ls 2 [(0, .ref (hQ 0)), (1, .int p1)]) (fun join2 => ?_) ?_
  · refine lv_icmp_eq (tgt := 13) hx hb dX6_isInside_6 (by decide) (fun c_6 => ?_) (fun c_6 => ?_)
    · have t_6 : r1.toInt = (-1) := toI_eq c_6 rfl (by decide : ((-1) : Int32).toInt = (-1))
      refine lv_iconst (v := 0) hx hb dX6_isInside_13 (by decide) ?_
      have hl : lv_has _ _ ([(0, .ref (hQ 0)), (1, .int p1)]) := lv_sub hl [0, 1] rfl
      exact join2 _ _ _ _ ⟨0, (show 0 ≤ (0 : Int32).toInt ∧ (0 : Int32).toInt ≤ 1 from by decide), rfl, hP, hD, hS, hl⟩
    · have t_6 : ¬ r1.toInt = (-1) := toI_neq c_6 rfl (by decide : ((-1) : Int32).toInt = (-1))
      refine lv_iconst (v := 1) hx hb dX6_isInside_9 (by decide) ?_
      refine lv_goto (tgt := 14) hx hb dX6_isInside_10 (by decide) ?_
      have hl : lv_has _ _ ([(0, .ref (hQ 0)), (1, .int p1)]) := lv_sub hl [0, 1] rfl
      exact join2 _ _ _ _ ⟨1, (show 0 ≤ (1 : Int32).toInt ∧ (1 : Int32).toInt ≤ 1 from by decide), rfl, hP, hD, hS, hl⟩
  · rintro H locs ls stk ⟨k0_j2, b_k0_j2, rfl, hP, hD, hS, hl⟩
    refine W.widen (k := 0) (n := 0) (by decide +kernel) (by decide +kernel) ?_
    exact W.zret (v := k0_j2) hx hb hr (by rcases z01 (x := k0_j2) (b_k0_j2) with h9 | h9 <;> rw [h9] <;> rfl) (fun t9_ ht hW => ⟨⟨k0_j2, (), rfl, (b_k0_j2), by rw [ht]; exact hP, hD⟩, hS.F ht⟩) hS.2.2 dX6_isInside_14

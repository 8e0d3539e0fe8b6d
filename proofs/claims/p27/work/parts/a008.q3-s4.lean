section
theorem hd_yX6_columnWith_RX6 : yX6_columnWith.cls = RX6 ∧ yX6_columnWith.cls ≠ "java/lang/invoke/MethodHandle" ∧ yX6_columnWith.cls ≠ "java/lang/invoke/VarHandle" ∧ (parseMethodDescriptor yX6_columnWith.desc).map (fun d => d.parameters.length) = some 1 := by decide +kernel
theorem hd_yX6_exchange_RX6 : yX6_exchange.cls = RX6 ∧ yX6_exchange.cls ≠ "java/lang/invoke/MethodHandle" ∧ yX6_exchange.cls ≠ "java/lang/invoke/VarHandle" ∧ (parseMethodDescriptor yX6_exchange.desc).map (fun d => d.parameters.length) = some 2 := by decide +kernel
theorem hd_yX6_rowBelow_RX6 : yX6_rowBelow.cls = RX6 ∧ yX6_rowBelow.cls ≠ "java/lang/invoke/MethodHandle" ∧ yX6_rowBelow.cls ≠ "java/lang/invoke/VarHandle" ∧ (parseMethodDescriptor yX6_rowBelow.desc).map (fun d => d.parameters.length) = some 1 := by decide +kernel
theorem hd_yX6_columnOfSign_RX6 : yX6_columnOfSign.cls = RX6 ∧ yX6_columnOfSign.cls ≠ "java/lang/invoke/MethodHandle" ∧ yX6_columnOfSign.cls ≠ "java/lang/invoke/VarHandle" ∧ (parseMethodDescriptor yX6_columnOfSign.desc).map (fun d => d.parameters.length) = some 3 := by decide +kernel
theorem hd_yX6_tightest_RX6 : yX6_tightest.cls = RX6 ∧ yX6_tightest.cls ≠ "java/lang/invoke/MethodHandle" ∧ yX6_tightest.cls ≠ "java/lang/invoke/VarHandle" ∧ (parseMethodDescriptor yX6_tightest.desc).map (fun d => d.parameters.length) = some 1 := by decide +kernel
theorem hd_yX6_shutWith_RX6 : yX6_shutWith.cls = RX6 ∧ yX6_shutWith.cls ≠ "java/lang/invoke/MethodHandle" ∧ yX6_shutWith.cls ≠ "java/lang/invoke/VarHandle" ∧ (parseMethodDescriptor yX6_shutWith.desc).map (fun d => d.parameters.length) = some 1 := by decide +kernel
theorem hd_yX6_rowOf_RX6 : yX6_rowOf.cls = RX6 ∧ yX6_rowOf.cls ≠ "java/lang/invoke/MethodHandle" ∧ yX6_rowOf.cls ≠ "java/lang/invoke/VarHandle" ∧ (parseMethodDescriptor yX6_rowOf.desc).map (fun d => d.parameters.length) = some 1 := by decide +kernel
theorem hd_yX6_shutOutside_RX6 : yX6_shutOutside.cls = RX6 ∧ yX6_shutOutside.cls ≠ "java/lang/invoke/MethodHandle" ∧ yX6_shutOutside.cls ≠ "java/lang/invoke/VarHandle" ∧ (parseMethodDescriptor yX6_shutOutside.desc).map (fun d => d.parameters.length) = some 1 := by decide +kernel
theorem dX6_holdAtNought_0 : decode cX6_holdAtNought 0 = .ok (.aload_n 0, 1) := dk_42 (by decide +kernel)
theorem dX6_holdAtNought_1 : decode cX6_holdAtNought 1 = .ok (.iload_n 1, 1) := dk_27 (by decide +kernel)
theorem dX6_holdAtNought_2 : decode cX6_holdAtNought 2 = .ok (.invokevirtual 68, 3) := dk_182 (by decide +kernel)
theorem dX6_holdAtNought_5 : decode cX6_holdAtNought 5 = .ok (.istore_n 2, 1) := dk_61 (by decide +kernel)
theorem dX6_holdAtNought_6 : decode cX6_holdAtNought 6 = .ok (.iload_n 2, 1) := dk_28 (by decide +kernel)
theorem dX6_holdAtNought_7 : decode cX6_holdAtNought 7 = .ok (.iconst (-1), 1) := dk_2 (by decide +kernel)
theorem dX6_holdAtNought_8 : decode cX6_holdAtNought 8 = .ok (.if_icmp .ne 21, 3) := dk_160 (by decide +kernel)
theorem dX6_holdAtNought_11 : decode cX6_holdAtNought 11 = .ok (.aload_n 0, 1) := dk_42 (by decide +kernel)
theorem dX6_holdAtNought_12 : decode cX6_holdAtNought 12 = .ok (.iload_n 1, 1) := dk_27 (by decide +kernel)
theorem dX6_holdAtNought_13 : decode cX6_holdAtNought 13 = .ok (.iconst 0, 1) := dk_3 (by decide +kernel)
theorem dX6_holdAtNought_14 : decode cX6_holdAtNought 14 = .ok (.invokevirtual 72, 3) := dk_182 (by decide +kernel)
theorem dX6_holdAtNought_17 : decode cX6_holdAtNought 17 = .ok (.getfield 76, 3) := dk_180 (by decide +kernel)
theorem dX6_holdAtNought_20 : decode cX6_holdAtNought 20 = .ok (.ifCond .ne 7, 3) := dk_154 (by decide +kernel)
theorem dX6_holdAtNought_23 : decode cX6_holdAtNought 23 = .ok (.iconst 1, 1) := dk_4 (by decide +kernel)
theorem dX6_holdAtNought_24 : decode cX6_holdAtNought 24 = .ok (.goto 4, 3) := dk_167 (by decide +kernel)
theorem dX6_holdAtNought_27 : decode cX6_holdAtNought 27 = .ok (.iconst 0, 1) := dk_3 (by decide +kernel)
theorem dX6_holdAtNought_28 : decode cX6_holdAtNought 28 = .ok (.ireturn, 1) := dk_172 (by decide +kernel)
theorem dX6_holdAtNought_29 : decode cX6_holdAtNought 29 = .ok (.aload_n 0, 1) := dk_42 (by decide +kernel)
theorem dX6_holdAtNought_30 : decode cX6_holdAtNought 30 = .ok (.iload_n 1, 1) := dk_27 (by decide +kernel)
theorem dX6_holdAtNought_31 : decode cX6_holdAtNought 31 = .ok (.iload_n 2, 1) := dk_28 (by decide +kernel)
theorem dX6_holdAtNought_32 : decode cX6_holdAtNought 32 = .ok (.invokevirtual 79, 3) := dk_182 (by decide +kernel)
theorem dX6_holdAtNought_35 : decode cX6_holdAtNought 35 = .ok (.aload_n 0, 1) := dk_42 (by decide +kernel)
theorem dX6_holdAtNought_36 : decode cX6_holdAtNought 36 = .ok (.getfield 24, 3) := dk_180 (by decide +kernel)
theorem dX6_holdAtNought_39 : decode cX6_holdAtNought 39 = .ok (.iload_n 2, 1) := dk_28 (by decide +kernel)
theorem dX6_holdAtNought_40 : decode cX6_holdAtNought 40 = .ok (.iconst 1, 1) := dk_4 (by decide +kernel)
theorem dX6_holdAtNought_41 : decode cX6_holdAtNought 41 = .ok (.bastore, 1) := dk_84 (by decide +kernel)
theorem dX6_holdAtNought_42 : decode cX6_holdAtNought 42 = .ok (.iconst 1, 1) := dk_4 (by decide +kernel)
theorem dX6_holdAtNought_43 : decode cX6_holdAtNought 43 = .ok (.ireturn, 1) := dk_172 (by decide +kernel)
def wsMX6_holdAtNought : List Cond := .code yX6_holdAtNought cX6_holdAtNought 3 (some .boolean) :: ([.fieldLink RX6 24 "OptimaWorks$Tableau" "shut" "[Z", .fieldLink RX6 76 "OptimaWorks$Whole" "length" "I"] ++ wsX60 ++ wsX80 ++ (wsV RX6 68 RX6 yX6_columnWith wsMX6_columnWith) ++ (wsV RX6 79 RX6 yX6_exchange wsMX6_exchange) ++ (wsV RX6 72 RX6 yX6_cellAt wsMX6_cellAt))
theorem iwsMX6_holdAtNought_in6 : ∀ w ∈ wsX60, w ∈ wsMX6_holdAtNought := fun _ h => List.mem_cons_of_mem _ (List.mem_append_left _ (List.mem_append_left _ (List.mem_append_left _ (List.mem_append_left _ (List.mem_append_right _ h)))))
theorem iwsMX6_holdAtNought_in8 : ∀ w ∈ wsX80, w ∈ wsMX6_holdAtNought := fun _ h => List.mem_cons_of_mem _ (List.mem_append_left _ (List.mem_append_left _ (List.mem_append_left _ (List.mem_append_right _ h))))
theorem gwsMX6_holdAtNought_0 : GoodIn wsMX6_holdAtNought (wsV RX6 68 RX6 yX6_columnWith wsMX6_columnWith) := goodIn_sub (fun _ h => List.mem_cons_of_mem _ (List.mem_append_left _ (List.mem_append_left _ (List.mem_append_right _ h)))) (gdV (by decide +kernel) gdwsMX6_columnWith)
theorem gwsMX6_holdAtNought_1 : GoodIn wsMX6_holdAtNought (wsV RX6 79 RX6 yX6_exchange wsMX6_exchange) := goodIn_sub (fun _ h => List.mem_cons_of_mem _ (List.mem_append_left _ (List.mem_append_right _ h))) (gdV (by decide +kernel) gdwsMX6_exchange)
theorem gwsMX6_holdAtNought_2 : GoodIn wsMX6_holdAtNought (wsV RX6 72 RX6 yX6_cellAt wsMX6_cellAt) := goodIn_sub (fun _ h => List.mem_cons_of_mem _ (List.mem_append_right _ h)) (gdV (by decide +kernel) gdwsMX6_cellAt)
theorem gdwsMX6_holdAtNought : wsMX6_holdAtNought.all goodWord = true := gdC rfl (gdA (gdA (gdA (gdA (gdA (by decide +kernel : ([.fieldLink RX6 24 "OptimaWorks$Tableau" "shut" "[Z", .fieldLink RX6 76 "OptimaWorks$Whole" "length" "I"] : List Cond).all goodWord = true) gdwsX60) gdwsX80) (gdV (by decide +kernel) gdwsMX6_columnWith)) (gdV (by decide +kernel) gdwsMX6_exchange)) (gdV (by decide +kernel) gdwsMX6_cellAt))
set_option maxHeartbeats 4000000 in
set_option maxRecDepth 100000 in
/-- a row at nought -/
theorem m_X6_holdAtNought (l : Launch) (dC : Nat → ClassId) (dI : Nat → Nat → Nat) (hQ : Nat → Nat) (aQ : Nat → Nat) (kQ : Nat → ClassId) (hw : Nat → Nat) (fQ_inside : Nat → Int32) (fQ_outside : Nat → Int32) (fQ_shut : Nat → Int32) (iQ_rows : Int32) (iQ_allRows : Int32) (iQ_columns : Int32) (nW : Nat) (lw : Nat → Nat) (kw : ClassId) (wl : Nat → Int32) (wb : Nat → Int32) (wG : Nat → Nat → Int64) (p1 : Int32) (b_iQ_rows : 0 ≤ iQ_rows.toInt ∧ iQ_rows.toInt ≤ 40) (b_iQ_allRows : 0 ≤ iQ_allRows.toInt ∧ iQ_allRows.toInt ≤ 40) (b_iQ_columns : 0 ≤ iQ_columns.toInt ∧ iQ_columns.toInt ≤ 40) (b_tb : TbO iQ_rows iQ_allRows iQ_columns) (b_wl : ∀ q : Nat, 0 ≤ (wl q).toInt ∧ (wl q).toInt ≤ 14) (b_wb : ∀ q : Nat, 0 ≤ (wb q).toInt ∧ (wb q).toInt ≤ 1) (b_p1 : 0 ≤ p1.toInt ∧ p1.toInt ≤ 39) (hnW : 406 ≤ nW) (hrow : FitR p1.toInt iQ_columns.toInt) (sz : Nat) : Met l yX6_holdAtNought wsMX6_holdAtNought ({ frames := 5, cells := 0, slots := 0, locals := 131 }) (va_Pc [.ref (hQ 0), .int p1] (fun U => U.heap.size = sz ∧ va_P (dC, dI) vwCl (WQ hQ aQ kQ hw fQ_inside fQ_outside fQ_shut iQ_rows iQ_allRows iQ_columns ++ (WW nW hw lw kw wl wb wG)) U.heap ∧ va_K (dC, dI) vwCl (tQ kQ ++ (tW kw)) U ∧ va_D (fun _ => True) (WQ hQ aQ kQ hw fQ_inside fQ_outside fQ_shut iQ_rows iQ_allRows iQ_columns ++ (WW nW hw lw kw wl wb wG)))) (va_Qi (fun (r : Int32) (u : (Nat → Int32) × (Nat → Int32) × (Nat → Int32) × (Nat → Int32) × (Nat → Int32) × (Nat → Nat → Int64)) => (∀ q : Nat, 0 ≤ ((u.2.2.2.1) q).toInt ∧ ((u.2.2.2.1) q).toInt ≤ 14) ∧ (∀ q : Nat, 0 ≤ ((u.2.2.2.2.1) q).toInt ∧ ((u.2.2.2.2.1) q).toInt ≤ 1) ∧ (0 ≤ r.toInt ∧ r.toInt ≤ 1)) (fun (u : (Nat → Int32) × (Nat → Int32) × (Nat → Int32) × (Nat → Int32) × (Nat → Int32) × (Nat → Nat → Int64)) t => va_P (dC, dI) vwCl (WQ hQ aQ kQ hw (u.1) (u.2.1) (u.2.2.1) iQ_rows iQ_allRows iQ_columns ++ (WW nW hw lw kw (u.2.2.2.1) (u.2.2.2.2.1) (u.2.2.2.2.2))) t.heap ∧ va_D (va_A (WQ hQ aQ kQ hw fQ_inside fQ_outside fQ_shut iQ_rows iQ_allRows iQ_columns ++ (WW nW hw lw kw wl wb wG)) sz) (WQ hQ aQ kQ hw (u.1) (u.2.1) (u.2.2.1) iQ_rows iQ_allRows iQ_columns ++ (WW nW hw lw kw (u.2.2.2.1) (u.2.2.2.2.1) (u.2.2.2.2.2)))) (va_A (WQ hQ aQ kQ hw fQ_inside fQ_outside fQ_shut iQ_rows iQ_allRows iQ_columns ++ (WW nW hw lw kw wl wb wG)) sz)) 0 0 (va_A (WQ hQ aQ kQ hw fQ_inside fQ_outside fQ_shut iQ_rows iQ_allRows iQ_columns ++ (WW nW hw lw kw wl wb wG)) sz) := by
  refine Met.ofW (cc := cX6_holdAtNought) (maxL := 3) (ret := (some .boolean)) (by decide) rfl ?_
  intro p e s m args below meth c s₁ B hml hv
  obtain ⟨rfl, hsz, hP, hK, hD0⟩ := hv
  have hx := B.exec
  have hb := B.bytes
  have hr := B.returns
  have hts := atoms_spec (ws := wsMX6_holdAtNought) B.pre
  have hown : s.vm.findClass RX6 = some m.cls := findClass_of_methodNamed B.named
  have hlocks := B.notSynchronized
  subst hsz
  have hD := hD0.self (sz := s.heap.size)
  generalize hAe : va_A (WQ hQ aQ kQ hw fQ_inside fQ_outside fQ_shut iQ_rows iQ_allRows iQ_columns ++ (WW nW hw lw kw wl wb wG)) s.heap.size = A at hD ⊢
  have hA : ∀ q : Nat, s.heap.size ≤ q → A q := fun q h => by rw [← hAe]; exact Or.inr h
  have hS : va_S A s.heap s.heap [] := va_S.rf
  have hl := lv_entry ([.ref (hQ 0), .int p1]) (n := 3) (Nat.le_of_ble_eq_true rfl)
  rw [lg_entry_eq]
  generalize (lg_sl ([.ref (hQ 0), .int p1]) ++ List.replicate (3 - (lg_sl ([.ref (hQ 0), .int p1])).length) Slot.unset).toArray = ls at hl ⊢
  have hl : lv_has ls 3 [(0, .ref (hQ 0)), (1, .int p1)] := hl
  have hTb := b_tb.1
  refine lv_aload_n hx hb dX6_holdAtNought_0 rfl (lv_at hl 0 rfl) ?_
  refine lv_iload_n hx hb dX6_holdAtNought_1 rfl (lv_at hl 1 rfl) ?_
  have hFc := allFree hD hS hA
  refine va_calli (va_runV (As := [.int p1]) (rest := []) ⟨hx, hb, hml, hown, hts⟩ (m_X6_columnWith l dC dI hQ aQ kQ hw fQ_inside fQ_outside fQ_shut iQ_rows iQ_allRows iQ_columns nW lw kw wl wb wG p1 (b_iQ_rows) (b_iQ_allRows) (b_iQ_columns) (by first | with_reducible assumption | omega | assumption) b_wl b_wb (b_p1) (by first | with_reducible assumption | omega | (rw [iI_t (by omega) (by omega)]; omega) | decide | assumption) (hrow) s.heap.size) (cwV 1 hts gwsMX6_holdAtNought_0 rfl rfl rfl hd_yX6_columnWith_RX6 (by decide +kernel)) (fz_pre (va_recv hK hP (ci := 6) (q0 := 0) rfl rfl) hP hK hD) rfl rfl hl.1 rfl (lv_room (Nat.le_of_ble_eq_true rfl)) dX6_holdAtNought_2 (by decide +kernel)) hS (fun q _ h => hFc q h) hFc (fun r1 u t9_ H locs ht hvm hw9 hB9 hz1 hk1 hS => ?_)
  revert hw9
  refine fz_a2 ?_
  intro b_r1 f1_0
  have hP : va_P (dC, dI) vwCl (WQ hQ aQ kQ hw fQ_inside fQ_outside fQ_shut iQ_rows iQ_allRows iQ_columns ++ (WW nW hw lw kw wl wb wG)) H := fz_P ht hB9.1
  have hD := fz_sd hP (hB9.2.weaken (fun _ q _ h => hFc q.1 h)) rfl
  refine lv_istore_n hx hb dX6_holdAtNought_5 rfl hl (by decide) rfl (fun ls (hl : lv_has ls _ ([(2, .int r1), (0, .ref (hQ 0)), (1, .int p1)])) => ?_)
  refine lv_iload_n hx hb dX6_holdAtNought_6 rfl (lv_at hl 0 rfl) ?_
  refine lv_iconst (v := (-1)) hx hb dX6_holdAtNought_7 (by decide) ?_
  refine lv_icmp_ne (tgt := 29) hx hb dX6_holdAtNought_8 (by decide) (fun c_8 => ?_) (fun c_8 => ?_)
  · have t_8 : r1.toInt ≠ (-1) := toI_ne c_8 rfl (by decide : ((-1) : Int32).toInt = (-1))
    refine lv_aload_n hx hb dX6_holdAtNought_29 rfl (lv_at hl 1 rfl) ?_
    refine lv_iload_n hx hb dX6_holdAtNought_30 rfl (lv_at hl 2 rfl) ?_
    refine lv_iload_n hx hb dX6_holdAtNought_31 rfl (lv_at hl 0 rfl) ?_
    have hFc := allFree hD hS hA
    refine va_callv (va_runV (As := [.int p1, .int r1]) (rest := []) ⟨hx, hb, hml, hown, hts⟩ (m_X6_exchange l dC dI hQ aQ kQ hw fQ_inside fQ_outside fQ_shut iQ_rows iQ_allRows iQ_columns nW lw kw wl wb wG p1 r1 (b_iQ_rows) (b_iQ_allRows) (b_iQ_columns) (by first | with_reducible assumption | omega | assumption) b_wl b_wb (b_p1) (by first | exact b_r1 | with_reducible assumption | exact ⟨by omega, by omega⟩ | assumption) (by first | with_reducible assumption | omega | (rw [iI_t (by omega) (by omega)]; omega) | decide | assumption) (hrow) (by first | with_reducible assumption | omega | (rw [iI_t (by omega) (by omega)]; omega) | decide | assumption) H.size) (cwV 2 hts gwsMX6_holdAtNought_1 rfl rfl rfl hd_yX6_exchange_RX6 (by decide +kernel)) (fz_pre (va_recv hK hP (ci := 6) (q0 := 0) rfl rfl) hP hK hD) rfl rfl hl.1 rfl (lv_room (Nat.le_of_ble_eq_true rfl)) dX6_holdAtNought_32 (by decide +kernel)) hS (fun q _ h => hFc q h) hFc (fun u t9_ H locs ht hvm hw9 hB9 hz1 hk1 hS => ?_)
    revert u hw9 hB9
    refine fz_p5 ?_
    intro fQ_inside_2 fQ_outside_2 wl_2 wb_2 wG_2 hw9 hB9
    try dsimp only at hw9 hB9
    revert hw9
    refine fz_a2 ?_
    intro b_wl_2 b_wb_2
    have hP : va_P (dC, dI) vwCl (WQ hQ aQ kQ hw fQ_inside_2 fQ_outside_2 fQ_shut iQ_rows iQ_allRows iQ_columns ++ (WW nW hw lw kw wl_2 wb_2 wG_2)) H := fz_P ht hB9.1
    have hD := fz_sd hP (hB9.2.weaken (fun _ q _ h => hFc q.1 h)) rfl
    refine lv_aload_n hx hb dX6_holdAtNought_35 rfl (lv_at hl 1 rfl) ?_
    refine va_get (D := (dC, dI)) (ci := 6) (v := .ref (aQ 3)) (C := RX6) (T := TX6) (N := 13) hx hb hts iwsMX6_holdAtNought_in6 hown hK hP 0 rfl rfl 3 (by decide) (hts (.fieldLink RX6 24 "OptimaWorks$Tableau" "shut" "[Z") (by decide +kernel)) (fun _ h9 => h9) rfl dX6_holdAtNought_36 ?_
    refine lv_iload_n hx hb dX6_holdAtNought_39 rfl (lv_at hl 0 rfl) ?_
    refine lv_iconst (v := 1) hx hb dX6_holdAtNought_40 (by decide) ?_
    refine va_zast (cA := kQ 3) (n := 41) (f := fQ_shut) hx hb hK hP hD hS 4 3 rfl rfl (vp_in_iff.mpr ⟨(by omega), (by omega)⟩) dX6_holdAtNought_41 (fun H locs hP hD hS => ?_)
    obtain ⟨u3, hu3⟩ : ∃ f9, f9 = upd fQ_shut (r1).toNatClampNeg (vp_nar FieldType.boolean (1 : Int32)) := ⟨_, rfl⟩
    have hP : va_P (dC, dI) vwCl (WQ hQ aQ kQ hw fQ_inside_2 fQ_outside_2 u3 iQ_rows iQ_allRows iQ_columns ++ (WW nW hw lw kw wl_2 wb_2 wG_2)) H := by rw [hu3]; exact hP
    have hD : va_D A (WQ hQ aQ kQ hw fQ_inside_2 fQ_outside_2 u3 iQ_rows iQ_allRows iQ_columns ++ (WW nW hw lw kw wl_2 wb_2 wG_2)) := by rw [hu3]; exact hD
    clear hu3
    refine lv_iconst (v := 1) hx hb dX6_holdAtNought_42 (by decide) ?_
    refine W.widen (k := 0) (n := 0) (by decide +kernel) (by decide +kernel) ?_
    exact W.zret (v := 1) hx hb hr rfl (fun t9_ ht hW => ⟨⟨(1 : Int32), (fQ_inside_2, fQ_outside_2, u3, wl_2, wb_2, wG_2), rfl, ⟨b_wl_2, b_wb_2, (show 0 ≤ (1 : Int32).toInt ∧ (1 : Int32).toInt ≤ 1 from by decide)⟩, by rw [ht]; exact hP, hD⟩, hS.F ht⟩) hS.2.2 dX6_holdAtNought_43
  · have t_8 : r1.toInt = (-1) := toI_nne c_8 rfl (by decide : ((-1) : Int32).toInt = (-1))
    refine lv_aload_n hx hb dX6_holdAtNought_11 rfl (lv_at hl 1 rfl) ?_
    refine lv_iload_n hx hb dX6_holdAtNought_12 rfl (lv_at hl 2 rfl) ?_
    refine lv_iconst (v := 0) hx hb dX6_holdAtNought_13 (by decide) ?_
    have hFc := allFree hD hS hA
    refine va_callr (va_runV (As := [.int p1, .int 0]) (rest := []) ⟨hx, hb, hml, hown, hts⟩ (m_X6_cellAt l dC dI hQ aQ kQ hw fQ_inside fQ_outside fQ_shut iQ_rows iQ_allRows iQ_columns nW lw kw wl wb wG p1 0 (b_iQ_rows) (b_iQ_allRows) (b_iQ_columns) (by first | with_reducible assumption | omega | assumption) b_wl b_wb (b_p1) (show 0 ≤ (0 : Int32).toInt ∧ (0 : Int32).toInt ≤ 40 from by decide) (by first | with_reducible assumption | omega | (rw [iI_t (by omega) (by omega)]; omega) | decide | assumption) (hrow.ix0 (by omega)) H.size) (cwV 2 hts gwsMX6_holdAtNought_2 rfl rfl rfl hd_yX6_cellAt_RX6 (by decide +kernel)) (fz_pre (va_recv hK hP (ci := 6) (q0 := 0) rfl rfl) hP hK hD) rfl rfl hl.1 rfl (lv_room (Nat.le_of_ble_eq_true rfl)) dX6_holdAtNought_14 (by decide +kernel)) hS (fun q _ h => hFc q h) hFc (fun kR_4 ra4 t9_ H locs ht hvm hw9 hB9 hz1 hk1 hS => ?_)
    revert hB9
    refine fz_a2 ?_
    intro hra hB9
    subst hra
    have f4_0 := hw9
    try dsimp only at f4_0
    have hP : va_P (dC, dI) vwCl (WQ hQ aQ kQ hw fQ_inside fQ_outside fQ_shut iQ_rows iQ_allRows iQ_columns ++ (WW nW hw lw kw wl wb wG)) H := fz_P ht hB9.1
    have hD := fz_sd hP (hB9.2.weaken (fun _ q _ h => hFc q.1 h)) rfl
    refine va_get (D := (dC, dI)) (ci := 8) (v := .int (wl kR_4)) (C := RX8) (T := TX8) (N := 3) hx hb hts iwsMX6_holdAtNought_in8 hown hK hP (5 + (kR_4)) (apR rfl (WW_o (by omega))) rfl 1 (by decide) (hts (.fieldLink RX6 76 "OptimaWorks$Whole" "length" "I") (by decide +kernel)) (fun _ h9 => h9) rfl dX6_holdAtNought_17 ?_
    have br17 := b_wl kR_4
    refine W.cut (pc := 28) (fun H locs ls stk => ∃ (k0_j2 : Int32), (0 ≤ k0_j2.toInt ∧ k0_j2.toInt ≤ 1) ∧  stk = [.int k0_j2] ∧ va_P (dC, dI) vwCl (WQ hQ aQ kQ hw fQ_inside fQ_outside fQ_shut iQ_rows iQ_allRows iQ_columns ++ (WW nW hw lw kw wl wb wG)) H ∧ va_D A (WQ hQ aQ kQ hw fQ_inside fQ_outside fQ_shut iQ_rows iQ_allRows iQ_columns ++ (WW nW hw lw kw wl wb wG)) ∧ va_S A s.heap H locs ∧ lv_has ls 3 [(2, .int r1), (0, .ref (hQ 0)), (1, .int p1)]) (fun join2 => ?_) ?_
    · refine lv_if_ne (tgt := 27) hx hb dX6_holdAtNought_20 (by decide) (fun c_20 => ?_) (fun c_20 => ?_)
      · have t_20 : (wl kR_4).toInt ≠ 0 := toI_ne c_20 rfl (by decide : (0 : Int32).toInt = 0)
        refine lv_iconst (v := 0) hx hb dX6_holdAtNought_27 (by decide) ?_
        have hl : lv_has _ _ ([(2, .int r1), (0, .ref (hQ 0)), (1, .int p1)]) := lv_sub hl [0, 1, 2] rfl
        exact join2 _ _ _ _ ⟨0, (show 0 ≤ (0 : Int32).toInt ∧ (0 : Int32).toInt ≤ 1 from by decide), rfl, hP, hD, hS, hl⟩
      · have t_20 : (wl kR_4).toInt = 0 := toI_nne c_20 rfl (by decide : (0 : Int32).toInt = 0)
        refine lv_iconst (v := 1) hx hb dX6_holdAtNought_23 (by decide) ?_
        refine lv_goto (tgt := 28) hx hb dX6_holdAtNought_24 (by decide) ?_
        have hl : lv_has _ _ ([(2, .int r1), (0, .ref (hQ 0)), (1, .int p1)]) := lv_sub hl [0, 1, 2] rfl
        exact join2 _ _ _ _ ⟨1, (show 0 ≤ (1 : Int32).toInt ∧ (1 : Int32).toInt ≤ 1 from by decide), rfl, hP, hD, hS, hl⟩
    · rintro H locs ls stk ⟨k0_j2, b_k0_j2, rfl, hP, hD, hS, hl⟩
      refine W.widen (k := 0) (n := 0) (by decide +kernel) (by decide +kernel) ?_
      exact W.zret (v := k0_j2) hx hb hr (by rcases z01 (x := k0_j2) (b_k0_j2) with h9 | h9 <;> rw [h9] <;> rfl) (fun t9_ ht hW => ⟨⟨k0_j2, (fQ_inside, fQ_outside, fQ_shut, wl, wb, wG), rfl, ⟨b_wl, b_wb, (b_k0_j2)⟩, by rw [ht]; exact hP, hD⟩, hS.F ht⟩) hS.2.2 dX6_holdAtNought_28
theorem dX6_canKeep_0 : decode cX6_canKeep 0 = .ok (.iconst 0, 1) := dk_3 (by decide +kernel)
theorem dX6_canKeep_1 : decode cX6_canKeep 1 = .ok (.istore_n 1, 1) := dk_60 (by decide +kernel)
theorem dX6_canKeep_2 : decode cX6_canKeep 2 = .ok (.iload_n 1, 1) := dk_27 (by decide +kernel)
theorem dX6_canKeep_3 : decode cX6_canKeep 3 = .ok (.ldc 83, 2) := dk_18 (by decide +kernel)
theorem dX6_canKeep_5 : decode cX6_canKeep 5 = .ok (.if_icmp .ge 63, 3) := dk_162 (by decide +kernel)
theorem dX6_canKeep_8 : decode cX6_canKeep 8 = .ok (.aload_n 0, 1) := dk_42 (by decide +kernel)
theorem dX6_canKeep_9 : decode cX6_canKeep 9 = .ok (.iload_n 1, 1) := dk_27 (by decide +kernel)
theorem dX6_canKeep_10 : decode cX6_canKeep 10 = .ok (.bipush 40, 2) := dk_16 (by decide +kernel)
theorem dX6_canKeep_12 : decode cX6_canKeep 12 = .ok (.if_icmp .ge 7, 3) := dk_162 (by decide +kernel)
theorem dX6_canKeep_15 : decode cX6_canKeep 15 = .ok (.iconst 1, 1) := dk_4 (by decide +kernel)
theorem dX6_canKeep_16 : decode cX6_canKeep 16 = .ok (.goto 4, 3) := dk_167 (by decide +kernel)
theorem dX6_canKeep_19 : decode cX6_canKeep 19 = .ok (.iconst 0, 1) := dk_3 (by decide +kernel)
theorem dX6_canKeep_20 : decode cX6_canKeep 20 = .ok (.invokevirtual 84, 3) := dk_182 (by decide +kernel)
theorem dX6_canKeep_23 : decode cX6_canKeep 23 = .ok (.istore_n 2, 1) := dk_61 (by decide +kernel)
theorem dX6_canKeep_24 : decode cX6_canKeep 24 = .ok (.iload_n 2, 1) := dk_28 (by decide +kernel)
theorem dX6_canKeep_25 : decode cX6_canKeep 25 = .ok (.iconst (-1), 1) := dk_2 (by decide +kernel)
theorem dX6_canKeep_26 : decode cX6_canKeep 26 = .ok (.if_icmp .ne 5, 3) := dk_160 (by decide +kernel)
theorem dX6_canKeep_29 : decode cX6_canKeep 29 = .ok (.iconst 1, 1) := dk_4 (by decide +kernel)
theorem dX6_canKeep_30 : decode cX6_canKeep 30 = .ok (.ireturn, 1) := dk_172 (by decide +kernel)
theorem dX6_canKeep_31 : decode cX6_canKeep 31 = .ok (.aload_n 0, 1) := dk_42 (by decide +kernel)
theorem dX6_canKeep_32 : decode cX6_canKeep 32 = .ok (.iload_n 2, 1) := dk_28 (by decide +kernel)
theorem dX6_canKeep_33 : decode cX6_canKeep 33 = .ok (.iconst 1, 1) := dk_4 (by decide +kernel)
theorem dX6_canKeep_34 : decode cX6_canKeep 34 = .ok (.iload_n 1, 1) := dk_27 (by decide +kernel)
theorem dX6_canKeep_35 : decode cX6_canKeep 35 = .ok (.bipush 40, 2) := dk_16 (by decide +kernel)
theorem dX6_canKeep_37 : decode cX6_canKeep 37 = .ok (.if_icmp .ge 7, 3) := dk_162 (by decide +kernel)
theorem dX6_canKeep_40 : decode cX6_canKeep 40 = .ok (.iconst 1, 1) := dk_4 (by decide +kernel)
theorem dX6_canKeep_41 : decode cX6_canKeep 41 = .ok (.goto 4, 3) := dk_167 (by decide +kernel)
theorem dX6_canKeep_44 : decode cX6_canKeep 44 = .ok (.iconst 0, 1) := dk_3 (by decide +kernel)
theorem dX6_canKeep_45 : decode cX6_canKeep 45 = .ok (.invokevirtual 88, 3) := dk_182 (by decide +kernel)
theorem dX6_canKeep_48 : decode cX6_canKeep 48 = .ok (.istore_n 3, 1) := dk_62 (by decide +kernel)
theorem dX6_canKeep_49 : decode cX6_canKeep 49 = .ok (.iload_n 3, 1) := dk_29 (by decide +kernel)
theorem dX6_canKeep_50 : decode cX6_canKeep 50 = .ok (.iconst (-1), 1) := dk_2 (by decide +kernel)
theorem dX6_canKeep_51 : decode cX6_canKeep 51 = .ok (.if_icmp .ne 5, 3) := dk_160 (by decide +kernel)
theorem dX6_canKeep_54 : decode cX6_canKeep 54 = .ok (.iconst 0, 1) := dk_3 (by decide +kernel)
theorem dX6_canKeep_55 : decode cX6_canKeep 55 = .ok (.ireturn, 1) := dk_172 (by decide +kernel)
theorem dX6_canKeep_56 : decode cX6_canKeep 56 = .ok (.aload_n 0, 1) := dk_42 (by decide +kernel)
theorem dX6_canKeep_57 : decode cX6_canKeep 57 = .ok (.iload_n 2, 1) := dk_28 (by decide +kernel)
theorem dX6_canKeep_58 : decode cX6_canKeep 58 = .ok (.iload_n 3, 1) := dk_29 (by decide +kernel)
theorem dX6_canKeep_59 : decode cX6_canKeep 59 = .ok (.invokevirtual 79, 3) := dk_182 (by decide +kernel)
theorem dX6_canKeep_62 : decode cX6_canKeep 62 = .ok (.iinc 1 1, 3) := dk_132 (by decide +kernel)
theorem dX6_canKeep_65 : decode cX6_canKeep 65 = .ok (.goto (-63), 3) := dk_167 (by decide +kernel)
theorem dX6_canKeep_68 : decode cX6_canKeep 68 = .ok (.iconst 0, 1) := dk_3 (by decide +kernel)
theorem dX6_canKeep_69 : decode cX6_canKeep 69 = .ok (.ireturn, 1) := dk_172 (by decide +kernel)
def wsMX6_canKeep : List Cond := .code yX6_canKeep cX6_canKeep 4 (some .boolean) :: ([.constant RX6 83 1000000] ++ (wsV RX6 84 RX6 yX6_rowBelow wsMX6_rowBelow) ++ (wsV RX6 88 RX6 yX6_columnOfSign wsMX6_columnOfSign) ++ (wsV RX6 79 RX6 yX6_exchange wsMX6_exchange))
theorem gwsMX6_canKeep_0 : GoodIn wsMX6_canKeep (wsV RX6 84 RX6 yX6_rowBelow wsMX6_rowBelow) := goodIn_sub (fun _ h => List.mem_cons_of_mem _ (List.mem_append_left _ (List.mem_append_left _ (List.mem_append_right _ h)))) (gdV (by decide +kernel) gdwsMX6_rowBelow)
theorem gwsMX6_canKeep_1 : GoodIn wsMX6_canKeep (wsV RX6 88 RX6 yX6_columnOfSign wsMX6_columnOfSign) := goodIn_sub (fun _ h => List.mem_cons_of_mem _ (List.mem_append_left _ (List.mem_append_right _ h))) (gdV (by decide +kernel) gdwsMX6_columnOfSign)
theorem gwsMX6_canKeep_2 : GoodIn wsMX6_canKeep (wsV RX6 79 RX6 yX6_exchange wsMX6_exchange) := goodIn_sub (fun _ h => List.mem_cons_of_mem _ (List.mem_append_right _ h)) (gdV (by decide +kernel) gdwsMX6_exchange)
theorem gdwsMX6_canKeep : wsMX6_canKeep.all goodWord = true := gdC rfl (gdA (gdA (gdA (by decide +kernel : ([.constant RX6 83 1000000] : List Cond).all goodWord = true) (gdV (by decide +kernel) gdwsMX6_rowBelow)) (gdV (by decide +kernel) gdwsMX6_columnOfSign)) (gdV (by decide +kernel) gdwsMX6_exchange))
set_option maxHeartbeats 4000000 in
set_option maxRecDepth 100000 in
/-- can all rows be kept -/
theorem m_X6_canKeep (l : Launch) (dC : Nat → ClassId) (dI : Nat → Nat → Nat) (hQ : Nat → Nat) (aQ : Nat → Nat) (kQ : Nat → ClassId) (hw : Nat → Nat) (fQ_inside : Nat → Int32) (fQ_outside : Nat → Int32) (fQ_shut : Nat → Int32) (iQ_rows : Int32) (iQ_allRows : Int32) (iQ_columns : Int32) (nW : Nat) (lw : Nat → Nat) (kw : ClassId) (wl : Nat → Int32) (wb : Nat → Int32) (wG : Nat → Nat → Int64) (b_iQ_rows : 0 ≤ iQ_rows.toInt ∧ iQ_rows.toInt ≤ 40) (b_iQ_allRows : 0 ≤ iQ_allRows.toInt ∧ iQ_allRows.toInt ≤ 40) (b_iQ_columns : 0 ≤ iQ_columns.toInt ∧ iQ_columns.toInt ≤ 40) (b_tb : TbO iQ_rows iQ_allRows iQ_columns) (b_wl : ∀ q : Nat, 0 ≤ (wl q).toInt ∧ (wl q).toInt ≤ 14) (b_wb : ∀ q : Nat, 0 ≤ (wb q).toInt ∧ (wb q).toInt ≤ 1) (hnW : 406 ≤ nW) (sz : Nat) : Met l yX6_canKeep wsMX6_canKeep ({ frames := 5, cells := 0, slots := 0, locals := 131 }) (va_Pc [.ref (hQ 0)] (fun U => U.heap.size = sz ∧ va_P (dC, dI) vwCl (WQ hQ aQ kQ hw fQ_inside fQ_outside fQ_shut iQ_rows iQ_allRows iQ_columns ++ (WW nW hw lw kw wl wb wG)) U.heap ∧ va_K (dC, dI) vwCl (tQ kQ ++ (tW kw)) U ∧ va_D (fun _ => True) (WQ hQ aQ kQ hw fQ_inside fQ_outside fQ_shut iQ_rows iQ_allRows iQ_columns ++ (WW nW hw lw kw wl wb wG)))) (va_Qi (fun (r : Int32) (u : (Nat → Int32) × (Nat → Int32) × (Nat → Int32) × (Nat → Int32) × (Nat → Nat → Int64)) => (∀ q : Nat, 0 ≤ ((u.2.2.1) q).toInt ∧ ((u.2.2.1) q).toInt ≤ 14) ∧ (∀ q : Nat, 0 ≤ ((u.2.2.2.1) q).toInt ∧ ((u.2.2.2.1) q).toInt ≤ 1) ∧ (0 ≤ r.toInt ∧ r.toInt ≤ 1)) (fun (u : (Nat → Int32) × (Nat → Int32) × (Nat → Int32) × (Nat → Int32) × (Nat → Nat → Int64)) t => va_P (dC, dI) vwCl (WQ hQ aQ kQ hw (u.1) (u.2.1) fQ_shut iQ_rows iQ_allRows iQ_columns ++ (WW nW hw lw kw (u.2.2.1) (u.2.2.2.1) (u.2.2.2.2))) t.heap ∧ va_D (va_A (WQ hQ aQ kQ hw fQ_inside fQ_outside fQ_shut iQ_rows iQ_allRows iQ_columns ++ (WW nW hw lw kw wl wb wG)) sz) (WQ hQ aQ kQ hw (u.1) (u.2.1) fQ_shut iQ_rows iQ_allRows iQ_columns ++ (WW nW hw lw kw (u.2.2.1) (u.2.2.2.1) (u.2.2.2.2)))) (va_A (WQ hQ aQ kQ hw fQ_inside fQ_outside fQ_shut iQ_rows iQ_allRows iQ_columns ++ (WW nW hw lw kw wl wb wG)) sz)) 0 0 (va_A (WQ hQ aQ kQ hw fQ_inside fQ_outside fQ_shut iQ_rows iQ_allRows iQ_columns ++ (WW nW hw lw kw wl wb wG)) sz) := by
  refine Met.ofW (cc := cX6_canKeep) (maxL := 4) (ret := (some .boolean)) (by decide) rfl ?_
  intro p e s m args below meth c s₁ B hml hv
  obtain ⟨rfl, hsz, hP, hK, hD0⟩ := hv
  have hx := B.exec
  have hb := B.bytes
  have hr := B.returns
  have hts := atoms_spec (ws := wsMX6_canKeep) B.pre
  have hown : s.vm.findClass RX6 = some m.cls := findClass_of_methodNamed B.named
  have hlocks := B.notSynchronized
  subst hsz
  have hD := hD0.self (sz := s.heap.size)
  generalize hAe : va_A (WQ hQ aQ kQ hw fQ_inside fQ_outside fQ_shut iQ_rows iQ_allRows iQ_columns ++ (WW nW hw lw kw wl wb wG)) s.heap.size = A at hD ⊢
  have hA : ∀ q : Nat, s.heap.size ≤ q → A q := fun q h => by rw [← hAe]; exact Or.inr h
  have hS : va_S A s.heap s.heap [] := va_S.rf
  have hl := lv_entry ([.ref (hQ 0)]) (n := 4) (Nat.le_of_ble_eq_true rfl)
  rw [lg_entry_eq]
  generalize (lg_sl ([.ref (hQ 0)]) ++ List.replicate (4 - (lg_sl ([.ref (hQ 0)])).length) Slot.unset).toArray = ls at hl ⊢
  have hl : lv_has ls 4 [(0, .ref (hQ 0))] := hl
  have hTb := b_tb.1
  refine lv_iconst (v := 0) hx hb dX6_canKeep_0 (by decide) ?_
  refine lv_istore_n hx hb dX6_canKeep_1 rfl hl (by decide) rfl (fun ls (hl : lv_has ls _ ([(1, .int 0), (0, .ref (hQ 0))])) => ?_)
  have hl : lv_has _ _ ([(1, .int 0), (0, .ref (hQ 0))]) := lv_sub hl [0, 1] rfl
  refine (fun (loop : ∀ (n9 : Nat) (fQ_inside_x2 : Nat → Int32) (fQ_outside_x2 : Nat → Int32) (wl_x2 : Nat → Int32) (wb_x2 : Nat → Int32) (wG_x2 : Nat → Nat → Int64) (l1_x2 : Int32) (H : Heap) (locs : List Loc) (ls : Array Slot), (∀ q : Nat, 0 ≤ (wl_x2 q).toInt ∧ (wl_x2 q).toInt ≤ 14) → (∀ q : Nat, 0 ≤ (wb_x2 q).toInt ∧ (wb_x2 q).toInt ≤ 1) → (0 ≤ l1_x2.toInt ∧ l1_x2.toInt ≤ 1000000) → (1000000 - l1_x2.toInt < ((n9 : Nat) : Int)) → va_P (dC, dI) vwCl (WQ hQ aQ kQ hw fQ_inside_x2 fQ_outside_x2 fQ_shut iQ_rows iQ_allRows iQ_columns ++ (WW nW hw lw kw wl_x2 wb_x2 wG_x2)) H → va_D A (WQ hQ aQ kQ hw fQ_inside_x2 fQ_outside_x2 fQ_shut iQ_rows iQ_allRows iQ_columns ++ (WW nW hw lw kw wl_x2 wb_x2 wG_x2)) → va_S A s.heap H locs → lv_has ls 4 [(1, .int l1_x2), (0, .ref (hQ 0))] → W p l e _ s m _ below meth c H locs 0 0 _ (F0 m 2 ls [])) => loop (1000001) fQ_inside fQ_outside wl wb wG 0 _ _ _ b_wl b_wb (show 0 ≤ (0 : Int32).toInt ∧ (0 : Int32).toInt ≤ 1000000 from by decide) ((by have e9 : (0 : Int32).toInt = 0 := (by decide : (0 : Int32).toInt = 0); omega)) hP hD hS hl) ?_
  intro n9
  induction n9 with
  | zero => intro fQ_inside_x2 fQ_outside_x2 wl_x2 wb_x2 wG_x2 l1_x2 H locs ls b_wl_x2 b_wb_x2 b_l1_x2 hf9; exact False.elim (by omega)
  | succ n9 ihx2 =>
    intro fQ_inside_x2 fQ_outside_x2 wl_x2 wb_x2 wG_x2 l1_x2 H locs ls b_wl_x2 b_wb_x2 b_l1_x2 hfx2 hP hD hS hl
    refine lv_iload_n hx hb dX6_canKeep_2 rfl (lv_at hl 0 rfl) ?_
    refine lv_ldc (v := 1000000) hx hb hown (hts (.constant RX6 83 1000000) (by decide +kernel)) dX6_canKeep_3 ?_
    refine lv_icmp_ge (tgt := 68) hx hb dX6_canKeep_5 (by decide) (fun c_5 => ?_) (fun c_5 => ?_)
    · have t_5 : l1_x2.toInt ≥ 1000000 := toI_ge c_5 rfl (by decide : (1000000 : Int32).toInt = 1000000)
      refine lv_iconst (v := 0) hx hb dX6_canKeep_68 (by decide) ?_
      refine W.widen (k := 0) (n := 0) (by decide +kernel) (by decide +kernel) ?_
      exact W.zret (v := 0) hx hb hr rfl (fun t9_ ht hW => ⟨⟨(0 : Int32), (fQ_inside_x2, fQ_outside_x2, wl_x2, wb_x2, wG_x2), rfl, ⟨b_wl_x2, b_wb_x2, (show 0 ≤ (0 : Int32).toInt ∧ (0 : Int32).toInt ≤ 1 from by decide)⟩, by rw [ht]; exact hP, hD⟩, hS.F ht⟩) hS.2.2 dX6_canKeep_69
    · have t_5 : ¬ l1_x2.toInt ≥ 1000000 := toI_nge c_5 rfl (by decide : (1000000 : Int32).toInt = 1000000)
      refine lv_aload_n hx hb dX6_canKeep_8 rfl (lv_at hl 1 rfl) ?_
      refine lv_iload_n hx hb dX6_canKeep_9 rfl (lv_at hl 0 rfl) ?_
      refine lv_bipush (v := 40) hx hb dX6_canKeep_10 (by decide) ?_
      refine W.cut (pc := 20) (fun H locs ls stk => ∃ (k0_j7 : Int32), (0 ≤ k0_j7.toInt ∧ k0_j7.toInt ≤ 1) ∧  stk = [.int k0_j7, .ref (hQ 0)] ∧ va_P (dC, dI) vwCl (WQ hQ aQ kQ hw fQ_inside_x2 fQ_outside_x2 fQ_shut iQ_rows iQ_allRows iQ_columns ++ (WW nW hw lw kw wl_x2 wb_x2 wG_x2)) H ∧ va_D A (WQ hQ aQ kQ hw fQ_inside_x2 fQ_outside_x2 fQ_shut iQ_rows iQ_allRows iQ_columns ++ (WW nW hw lw kw wl_x2 wb_x2 wG_x2)) ∧ va_S A s.heap H locs ∧ lv_has ls 4 [(1, .int l1_x2), (0, .ref (hQ 0))]) (fun join7 => ?_) ?_
      · refine lv_icmp_ge (tgt := 19) hx hb dX6_canKeep_12 (by decide) (fun c_12 => ?_) (fun c_12 => ?_)
        · have t_12 : l1_x2.toInt ≥ 40 := toI_ge c_12 rfl (by decide : (40 : Int32).toInt = 40)
          refine lv_iconst (v := 0) hx hb dX6_canKeep_19 (by decide) ?_
          have hl : lv_has _ _ ([(1, .int l1_x2), (0, .ref (hQ 0))]) := lv_sub hl [0, 1] rfl
          exact join7 _ _ _ _ ⟨0, (show 0 ≤ (0 : Int32).toInt ∧ (0 : Int32).toInt ≤ 1 from by decide), rfl, hP, hD, hS, hl⟩
        · have t_12 : ¬ l1_x2.toInt ≥ 40 := toI_nge c_12 rfl (by decide : (40 : Int32).toInt = 40)
          refine lv_iconst (v := 1) hx hb dX6_canKeep_15 (by decide) ?_
          refine lv_goto (tgt := 20) hx hb dX6_canKeep_16 (by decide) ?_
          have hl : lv_has _ _ ([(1, .int l1_x2), (0, .ref (hQ 0))]) := lv_sub hl [0, 1] rfl
          exact join7 _ _ _ _ ⟨1, (show 0 ≤ (1 : Int32).toInt ∧ (1 : Int32).toInt ≤ 1 from by decide), rfl, hP, hD, hS, hl⟩
      · rintro H locs ls stk ⟨k0_j7, b_k0_j7, rfl, hP, hD, hS, hl⟩
        have hFc := allFree hD hS hA
        refine va_calli (va_runV (As := [.int k0_j7]) (rest := []) ⟨hx, hb, hml, hown, hts⟩ (m_X6_rowBelow l dC dI hQ aQ kQ hw fQ_inside_x2 fQ_outside_x2 fQ_shut iQ_rows iQ_allRows iQ_columns nW lw kw wl_x2 wb_x2 wG_x2 k0_j7 (b_iQ_rows) (b_iQ_allRows) (b_iQ_columns) (by first | with_reducible assumption | omega | assumption) b_wl_x2 b_wb_x2 (by first | with_reducible assumption | omega | (rw [iI_t (by omega) (by omega)]; omega) | decide | assumption) H.size) (cwV 1 hts gwsMX6_canKeep_0 rfl rfl rfl hd_yX6_rowBelow_RX6 (by decide +kernel)) (fz_pre (va_recv hK hP (ci := 6) (q0 := 0) rfl rfl) hP hK hD) rfl rfl hl.1 rfl (lv_room (Nat.le_of_ble_eq_true rfl)) dX6_canKeep_20 (by decide +kernel)) hS (fun q _ h => hFc q h) hFc (fun r7 u t9_ H locs ht hvm hw9 hB9 hz1 hk1 hS => ?_)
        revert hw9
        refine fz_a2 ?_
        intro b_r7 f7_0
        have hP : va_P (dC, dI) vwCl (WQ hQ aQ kQ hw fQ_inside_x2 fQ_outside_x2 fQ_shut iQ_rows iQ_allRows iQ_columns ++ (WW nW hw lw kw wl_x2 wb_x2 wG_x2)) H := fz_P ht hB9.1
        have hD := fz_sd hP (hB9.2.weaken (fun _ q _ h => hFc q.1 h)) rfl
        refine lv_istore_n hx hb dX6_canKeep_23 rfl hl (by decide) rfl (fun ls (hl : lv_has ls _ ([(2, .int r7), (1, .int l1_x2), (0, .ref (hQ 0))])) => ?_)
        refine lv_iload_n hx hb dX6_canKeep_24 rfl (lv_at hl 0 rfl) ?_
        refine lv_iconst (v := (-1)) hx hb dX6_canKeep_25 (by decide) ?_
        refine lv_icmp_ne (tgt := 31) hx hb dX6_canKeep_26 (by decide) (fun c_26 => ?_) (fun c_26 => ?_)
        · have t_26 : r7.toInt ≠ (-1) := toI_ne c_26 rfl (by decide : ((-1) : Int32).toInt = (-1))
          refine lv_aload_n hx hb dX6_canKeep_31 rfl (lv_at hl 2 rfl) ?_
          refine lv_iload_n hx hb dX6_canKeep_32 rfl (lv_at hl 0 rfl) ?_
          refine lv_iconst (v := 1) hx hb dX6_canKeep_33 (by decide) ?_
          refine lv_iload_n hx hb dX6_canKeep_34 rfl (lv_at hl 1 rfl) ?_
          refine lv_bipush (v := 40) hx hb dX6_canKeep_35 (by decide) ?_
          refine W.cut (pc := 45) (fun H locs ls stk => ∃ (k0_j8 : Int32), (0 ≤ k0_j8.toInt ∧ k0_j8.toInt ≤ 1) ∧  stk = [.int k0_j8, .int 1, .int r7, .ref (hQ 0)] ∧ va_P (dC, dI) vwCl (WQ hQ aQ kQ hw fQ_inside_x2 fQ_outside_x2 fQ_shut iQ_rows iQ_allRows iQ_columns ++ (WW nW hw lw kw wl_x2 wb_x2 wG_x2)) H ∧ va_D A (WQ hQ aQ kQ hw fQ_inside_x2 fQ_outside_x2 fQ_shut iQ_rows iQ_allRows iQ_columns ++ (WW nW hw lw kw wl_x2 wb_x2 wG_x2)) ∧ va_S A s.heap H locs ∧ lv_has ls 4 [(2, .int r7), (1, .int l1_x2), (0, .ref (hQ 0))]) (fun join8 => ?_) ?_
          · refine lv_icmp_ge (tgt := 44) hx hb dX6_canKeep_37 (by decide) (fun c_37 => ?_) (fun c_37 => ?_)
            · have t_37 : l1_x2.toInt ≥ 40 := toI_ge c_37 rfl (by decide : (40 : Int32).toInt = 40)
              refine lv_iconst (v := 0) hx hb dX6_canKeep_44 (by decide) ?_
              have hl : lv_has _ _ ([(2, .int r7), (1, .int l1_x2), (0, .ref (hQ 0))]) := lv_sub hl [0, 1, 2] rfl
              exact join8 _ _ _ _ ⟨0, (show 0 ≤ (0 : Int32).toInt ∧ (0 : Int32).toInt ≤ 1 from by decide), rfl, hP, hD, hS, hl⟩
            · have t_37 : ¬ l1_x2.toInt ≥ 40 := toI_nge c_37 rfl (by decide : (40 : Int32).toInt = 40)
              refine lv_iconst (v := 1) hx hb dX6_canKeep_40 (by decide) ?_
              refine lv_goto (tgt := 45) hx hb dX6_canKeep_41 (by decide) ?_
              have hl : lv_has _ _ ([(2, .int r7), (1, .int l1_x2), (0, .ref (hQ 0))]) := lv_sub hl [0, 1, 2] rfl
              exact join8 _ _ _ _ ⟨1, (show 0 ≤ (1 : Int32).toInt ∧ (1 : Int32).toInt ≤ 1 from by decide), rfl, hP, hD, hS, hl⟩
          · rintro H locs ls stk ⟨k0_j8, b_k0_j8, rfl, hP, hD, hS, hl⟩
            have hFc := allFree hD hS hA
            refine va_calli (va_runV (As := [.int r7, .int 1, .int k0_j8]) (rest := []) ⟨hx, hb, hml, hown, hts⟩ (m_X6_columnOfSign l dC dI hQ aQ kQ hw fQ_inside_x2 fQ_outside_x2 fQ_shut iQ_rows iQ_allRows iQ_columns nW lw kw wl_x2 wb_x2 wG_x2 r7 1 k0_j8 (b_iQ_rows) (b_iQ_allRows) (b_iQ_columns) (by first | with_reducible assumption | omega | assumption) b_wl_x2 b_wb_x2 (by first | exact b_r7 | with_reducible assumption | exact ⟨by omega, by omega⟩ | assumption) (by first | with_reducible assumption | omega | (rw [iI_t (by omega) (by omega)]; omega) | decide | assumption) (FitR.of b_tb (by omega) (by omega) (by omega)) H.size) (cwV 3 hts gwsMX6_canKeep_1 rfl rfl rfl hd_yX6_columnOfSign_RX6 (by decide +kernel)) (fz_pre (va_recv hK hP (ci := 6) (q0 := 0) rfl rfl) hP hK hD) rfl rfl hl.1 rfl (lv_room (Nat.le_of_ble_eq_true rfl)) dX6_canKeep_45 (by decide +kernel)) hS (fun q _ h => hFc q h) hFc (fun r8 u t9_ H locs ht hvm hw9 hB9 hz1 hk1 hS => ?_)
            revert hw9
            refine fz_a2 ?_
            intro b_r8 f8_0
            have hP : va_P (dC, dI) vwCl (WQ hQ aQ kQ hw fQ_inside_x2 fQ_outside_x2 fQ_shut iQ_rows iQ_allRows iQ_columns ++ (WW nW hw lw kw wl_x2 wb_x2 wG_x2)) H := fz_P ht hB9.1
            have hD := fz_sd hP (hB9.2.weaken (fun _ q _ h => hFc q.1 h)) rfl
            refine lv_istore_n hx hb dX6_canKeep_48 rfl hl (by decide) rfl (fun ls (hl : lv_has ls _ ([(3, .int r8), (2, .int r7), (1, .int l1_x2), (0, .ref (hQ 0))])) => ?_)
            refine lv_iload_n hx hb dX6_canKeep_49 rfl (lv_at hl 0 rfl) ?_
            refine lv_iconst (v := (-1)) hx hb dX6_canKeep_50 (by decide) ?_
            refine lv_icmp_ne (tgt := 56) hx hb dX6_canKeep_51 (by decide) (fun c_51 => ?_) (fun c_51 => ?_)
            · have t_51 : r8.toInt ≠ (-1) := toI_ne c_51 rfl (by decide : ((-1) : Int32).toInt = (-1))
              refine lv_aload_n hx hb dX6_canKeep_56 rfl (lv_at hl 3 rfl) ?_
              refine lv_iload_n hx hb dX6_canKeep_57 rfl (lv_at hl 1 rfl) ?_
              refine lv_iload_n hx hb dX6_canKeep_58 rfl (lv_at hl 0 rfl) ?_
              have hFc := allFree hD hS hA
              refine va_callv (va_runV (As := [.int r7, .int r8]) (rest := []) ⟨hx, hb, hml, hown, hts⟩ (m_X6_exchange l dC dI hQ aQ kQ hw fQ_inside_x2 fQ_outside_x2 fQ_shut iQ_rows iQ_allRows iQ_columns nW lw kw wl_x2 wb_x2 wG_x2 r7 r8 (b_iQ_rows) (b_iQ_allRows) (b_iQ_columns) (by first | with_reducible assumption | omega | assumption) b_wl_x2 b_wb_x2 (by first | exact b_r7 | with_reducible assumption | exact ⟨by omega, by omega⟩ | assumption) (by first | exact b_r8 | with_reducible assumption | exact ⟨by omega, by omega⟩ | assumption) (by first | with_reducible assumption | omega | (rw [iI_t (by omega) (by omega)]; omega) | decide | assumption) (FitR.of b_tb (by omega) (by omega) (by omega)) (by first | with_reducible assumption | omega | (rw [iI_t (by omega) (by omega)]; omega) | decide | assumption) H.size) (cwV 2 hts gwsMX6_canKeep_2 rfl rfl rfl hd_yX6_exchange_RX6 (by decide +kernel)) (fz_pre (va_recv hK hP (ci := 6) (q0 := 0) rfl rfl) hP hK hD) rfl rfl hl.1 rfl (lv_room (Nat.le_of_ble_eq_true rfl)) dX6_canKeep_59 (by decide +kernel)) hS (fun q _ h => hFc q h) hFc (fun u t9_ H locs ht hvm hw9 hB9 hz1 hk1 hS => ?_)
              revert u hw9 hB9
              refine fz_p5 ?_
              intro fQ_inside_9 fQ_outside_9 wl_9 wb_9 wG_9 hw9 hB9
              try dsimp only at hw9 hB9
              revert hw9
              refine fz_a2 ?_
              intro b_wl_9 b_wb_9
              have hP : va_P (dC, dI) vwCl (WQ hQ aQ kQ hw fQ_inside_9 fQ_outside_9 fQ_shut iQ_rows iQ_allRows iQ_columns ++ (WW nW hw lw kw wl_9 wb_9 wG_9)) H := fz_P ht hB9.1
              have hD := fz_sd hP (hB9.2.weaken (fun _ q _ h => hFc q.1 h)) rfl
              refine lv_iinc (v := (iI (l1_x2.toInt + 1))) hx hb dX6_canKeep_62 hl (k := 2) rfl (iI_add2 (iI_of _) (by decide : (1 : Int32) = iI 1)) (by decide) rfl (fun ls (hl : lv_has ls _ ([(1, .int (iI (l1_x2.toInt + 1))), (3, .int r8), (2, .int r7), (0, .ref (hQ 0))])) => ?_)
              refine lv_goto (tgt := 2) hx hb dX6_canKeep_65 (by decide) ?_
              have hl : lv_has _ _ ([(1, .int (iI (l1_x2.toInt + 1))), (0, .ref (hQ 0))]) := lv_sub hl [0, 3] rfl
              exact ihx2 fQ_inside_9 fQ_outside_9 wl_9 wb_9 wG_9 (iI (l1_x2.toInt + 1)) _ _ _ b_wl_9 b_wb_9 (iI_rng (Int.le_trans (by decide) (Int.add_le_add (b_l1_x2.1) (Int.le_refl _))) (by omega) (by decide) (by decide)) (by have e9 : ((iI (l1_x2.toInt + 1))).toInt = (l1_x2.toInt + 1) := (iI_t (Int.le_trans (by decide) (Int.add_le_add (b_l1_x2.1) (Int.le_refl _))) (Int.le_trans (Int.add_le_add (b_l1_x2.2) (Int.le_refl _)) (by decide))); omega) hP hD hS hl
            · have t_51 : r8.toInt = (-1) := toI_nne c_51 rfl (by decide : ((-1) : Int32).toInt = (-1))
              refine lv_iconst (v := 0) hx hb dX6_canKeep_54 (by decide) ?_
              refine W.widen (k := 0) (n := 0) (by decide +kernel) (by decide +kernel) ?_
              exact W.zret (v := 0) hx hb hr rfl (fun t9_ ht hW => ⟨⟨(0 : Int32), (fQ_inside_x2, fQ_outside_x2, wl_x2, wb_x2, wG_x2), rfl, ⟨b_wl_x2, b_wb_x2, (show 0 ≤ (0 : Int32).toInt ∧ (0 : Int32).toInt ≤ 1 from by decide)⟩, by rw [ht]; exact hP, hD⟩, hS.F ht⟩) hS.2.2 dX6_canKeep_55
        · have t_26 : r7.toInt = (-1) := toI_nne c_26 rfl (by decide : ((-1) : Int32).toInt = (-1))
          refine lv_iconst (v := 1) hx hb dX6_canKeep_29 (by decide) ?_
          refine W.widen (k := 0) (n := 0) (by decide +kernel) (by decide +kernel) ?_
          exact W.zret (v := 1) hx hb hr rfl (fun t9_ ht hW => ⟨⟨(1 : Int32), (fQ_inside_x2, fQ_outside_x2, wl_x2, wb_x2, wG_x2), rfl, ⟨b_wl_x2, b_wb_x2, (show 0 ≤ (1 : Int32).toInt ∧ (1 : Int32).toInt ≤ 1 from by decide)⟩, by rw [ht]; exact hP, hD⟩, hS.F ht⟩) hS.2.2 dX6_canKeep_30
theorem dX6_makeLeast_0 : decode cX6_makeLeast 0 = .ok (.iconst 0, 1) := dk_3 (by decide +kernel)
theorem dX6_makeLeast_1 : decode cX6_makeLeast 1 = .ok (.istore_n 2, 1) := dk_61 (by decide +kernel)
theorem dX6_makeLeast_2 : decode cX6_makeLeast 2 = .ok (.iload_n 2, 1) := dk_28 (by decide +kernel)
theorem dX6_makeLeast_3 : decode cX6_makeLeast 3 = .ok (.ldc 83, 2) := dk_18 (by decide +kernel)
theorem dX6_makeLeast_5 : decode cX6_makeLeast 5 = .ok (.if_icmp .ge 59, 3) := dk_162 (by decide +kernel)
theorem dX6_makeLeast_8 : decode cX6_makeLeast 8 = .ok (.aload_n 0, 1) := dk_42 (by decide +kernel)
theorem dX6_makeLeast_9 : decode cX6_makeLeast 9 = .ok (.iload_n 1, 1) := dk_27 (by decide +kernel)
theorem dX6_makeLeast_10 : decode cX6_makeLeast 10 = .ok (.iconst (-1), 1) := dk_2 (by decide +kernel)
theorem dX6_makeLeast_11 : decode cX6_makeLeast 11 = .ok (.iload_n 2, 1) := dk_28 (by decide +kernel)
theorem dX6_makeLeast_12 : decode cX6_makeLeast 12 = .ok (.bipush 40, 2) := dk_16 (by decide +kernel)
theorem dX6_makeLeast_14 : decode cX6_makeLeast 14 = .ok (.if_icmp .ge 7, 3) := dk_162 (by decide +kernel)
theorem dX6_makeLeast_17 : decode cX6_makeLeast 17 = .ok (.iconst 1, 1) := dk_4 (by decide +kernel)
theorem dX6_makeLeast_18 : decode cX6_makeLeast 18 = .ok (.goto 4, 3) := dk_167 (by decide +kernel)
theorem dX6_makeLeast_21 : decode cX6_makeLeast 21 = .ok (.iconst 0, 1) := dk_3 (by decide +kernel)
theorem dX6_makeLeast_22 : decode cX6_makeLeast 22 = .ok (.invokevirtual 88, 3) := dk_182 (by decide +kernel)
theorem dX6_makeLeast_25 : decode cX6_makeLeast 25 = .ok (.istore_n 3, 1) := dk_62 (by decide +kernel)
theorem dX6_makeLeast_26 : decode cX6_makeLeast 26 = .ok (.iload_n 3, 1) := dk_29 (by decide +kernel)
theorem dX6_makeLeast_27 : decode cX6_makeLeast 27 = .ok (.iconst (-1), 1) := dk_2 (by decide +kernel)
theorem dX6_makeLeast_28 : decode cX6_makeLeast 28 = .ok (.if_icmp .ne 7, 3) := dk_160 (by decide +kernel)
theorem dX6_makeLeast_31 : decode cX6_makeLeast 31 = .ok (.iconst (-1), 1) := dk_2 (by decide +kernel)
theorem dX6_makeLeast_32 : decode cX6_makeLeast 32 = .ok (.goto 8, 3) := dk_167 (by decide +kernel)
theorem dX6_makeLeast_35 : decode cX6_makeLeast 35 = .ok (.aload_n 0, 1) := dk_42 (by decide +kernel)
theorem dX6_makeLeast_36 : decode cX6_makeLeast 36 = .ok (.iload_n 3, 1) := dk_29 (by decide +kernel)
theorem dX6_makeLeast_37 : decode cX6_makeLeast 37 = .ok (.invokevirtual 100, 3) := dk_182 (by decide +kernel)
theorem dX6_makeLeast_40 : decode cX6_makeLeast 40 = .ok (.istore 4, 2) := dk_54 (by decide +kernel)
theorem dX6_makeLeast_42 : decode cX6_makeLeast 42 = .ok (.iload 4, 2) := dk_21 (by decide +kernel)
theorem dX6_makeLeast_44 : decode cX6_makeLeast 44 = .ok (.iconst (-1), 1) := dk_2 (by decide +kernel)
theorem dX6_makeLeast_45 : decode cX6_makeLeast 45 = .ok (.if_icmp .ne 6, 3) := dk_160 (by decide +kernel)
theorem dX6_makeLeast_48 : decode cX6_makeLeast 48 = .ok (.goto 16, 3) := dk_167 (by decide +kernel)
theorem dX6_makeLeast_51 : decode cX6_makeLeast 51 = .ok (.aload_n 0, 1) := dk_42 (by decide +kernel)
theorem dX6_makeLeast_52 : decode cX6_makeLeast 52 = .ok (.iload 4, 2) := dk_21 (by decide +kernel)
theorem dX6_makeLeast_54 : decode cX6_makeLeast 54 = .ok (.iload_n 3, 1) := dk_29 (by decide +kernel)
theorem dX6_makeLeast_55 : decode cX6_makeLeast 55 = .ok (.invokevirtual 79, 3) := dk_182 (by decide +kernel)
theorem dX6_makeLeast_58 : decode cX6_makeLeast 58 = .ok (.iinc 2 1, 3) := dk_132 (by decide +kernel)
theorem dX6_makeLeast_61 : decode cX6_makeLeast 61 = .ok (.goto (-59), 3) := dk_167 (by decide +kernel)
theorem dX6_makeLeast_64 : decode cX6_makeLeast 64 = .ok (.aload_n 0, 1) := dk_42 (by decide +kernel)
theorem dX6_makeLeast_65 : decode cX6_makeLeast 65 = .ok (.iload_n 1, 1) := dk_27 (by decide +kernel)
theorem dX6_makeLeast_66 : decode cX6_makeLeast 66 = .ok (.invokevirtual 103, 3) := dk_182 (by decide +kernel)
theorem dX6_makeLeast_69 : decode cX6_makeLeast 69 = .ok (.return_, 1) := dk_177 (by decide +kernel)
def wsMX6_makeLeast : List Cond := .code yX6_makeLeast cX6_makeLeast 5 none :: ([.constant RX6 83 1000000] ++ (wsV RX6 88 RX6 yX6_columnOfSign wsMX6_columnOfSign) ++ (wsV RX6 100 RX6 yX6_tightest wsMX6_tightest) ++ (wsV RX6 79 RX6 yX6_exchange wsMX6_exchange) ++ (wsV RX6 103 RX6 yX6_shutWith wsMX6_shutWith))
theorem gwsMX6_makeLeast_0 : GoodIn wsMX6_makeLeast (wsV RX6 88 RX6 yX6_columnOfSign wsMX6_columnOfSign) := goodIn_sub (fun _ h => List.mem_cons_of_mem _ (List.mem_append_left _ (List.mem_append_left _ (List.mem_append_left _ (List.mem_append_right _ h))))) (gdV (by decide +kernel) gdwsMX6_columnOfSign)
theorem gwsMX6_makeLeast_1 : GoodIn wsMX6_makeLeast (wsV RX6 100 RX6 yX6_tightest wsMX6_tightest) := goodIn_sub (fun _ h => List.mem_cons_of_mem _ (List.mem_append_left _ (List.mem_append_left _ (List.mem_append_right _ h)))) (gdV (by decide +kernel) gdwsMX6_tightest)
theorem gwsMX6_makeLeast_2 : GoodIn wsMX6_makeLeast (wsV RX6 79 RX6 yX6_exchange wsMX6_exchange) := goodIn_sub (fun _ h => List.mem_cons_of_mem _ (List.mem_append_left _ (List.mem_append_right _ h))) (gdV (by decide +kernel) gdwsMX6_exchange)
theorem gwsMX6_makeLeast_3 : GoodIn wsMX6_makeLeast (wsV RX6 103 RX6 yX6_shutWith wsMX6_shutWith) := goodIn_sub (fun _ h => List.mem_cons_of_mem _ (List.mem_append_right _ h)) (gdV (by decide +kernel) gdwsMX6_shutWith)
theorem gdwsMX6_makeLeast : wsMX6_makeLeast.all goodWord = true := gdC rfl (gdA (gdA (gdA (gdA (by decide +kernel : ([.constant RX6 83 1000000] : List Cond).all goodWord = true) (gdV (by decide +kernel) gdwsMX6_columnOfSign)) (gdV (by decide +kernel) gdwsMX6_tightest)) (gdV (by decide +kernel) gdwsMX6_exchange)) (gdV (by decide +kernel) gdwsMX6_shutWith))
set_option maxHeartbeats 4000000 in
set_option maxRecDepth 100000 in
/-- a goal made least -/
theorem m_X6_makeLeast (l : Launch) (dC : Nat → ClassId) (dI : Nat → Nat → Nat) (hQ : Nat → Nat) (aQ : Nat → Nat) (kQ : Nat → ClassId) (hw : Nat → Nat) (fQ_inside : Nat → Int32) (fQ_outside : Nat → Int32) (fQ_shut : Nat → Int32) (iQ_rows : Int32) (iQ_allRows : Int32) (iQ_columns : Int32) (nW : Nat) (lw : Nat → Nat) (kw : ClassId) (wl : Nat → Int32) (wb : Nat → Int32) (wG : Nat → Nat → Int64) (p1 : Int32) (b_iQ_rows : 0 ≤ iQ_rows.toInt ∧ iQ_rows.toInt ≤ 40) (b_iQ_allRows : 0 ≤ iQ_allRows.toInt ∧ iQ_allRows.toInt ≤ 40) (b_iQ_columns : 0 ≤ iQ_columns.toInt ∧ iQ_columns.toInt ≤ 40) (b_tb : TbO iQ_rows iQ_allRows iQ_columns) (b_wl : ∀ q : Nat, 0 ≤ (wl q).toInt ∧ (wl q).toInt ≤ 14) (b_wb : ∀ q : Nat, 0 ≤ (wb q).toInt ∧ (wb q).toInt ≤ 1) (b_p1 : 0 ≤ p1.toInt ∧ p1.toInt ≤ 39) (hnW : 406 ≤ nW) (hrow : FitR p1.toInt iQ_columns.toInt) (sz : Nat) : Met l yX6_makeLeast wsMX6_makeLeast ({ frames := 5, cells := 0, slots := 0, locals := 131 }) (va_Pc [.ref (hQ 0), .int p1] (fun U => U.heap.size = sz ∧ va_P (dC, dI) vwCl (WQ hQ aQ kQ hw fQ_inside fQ_outside fQ_shut iQ_rows iQ_allRows iQ_columns ++ (WW nW hw lw kw wl wb wG)) U.heap ∧ va_K (dC, dI) vwCl (tQ kQ ++ (tW kw)) U ∧ va_D (fun _ => True) (WQ hQ aQ kQ hw fQ_inside fQ_outside fQ_shut iQ_rows iQ_allRows iQ_columns ++ (WW nW hw lw kw wl wb wG)))) (va_Qv (fun (u : (Nat → Int32) × (Nat → Int32) × (Nat → Int32) × (Nat → Int32) × (Nat → Int32) × (Nat → Nat → Int64)) => (∀ q : Nat, 0 ≤ ((u.2.2.2.1) q).toInt ∧ ((u.2.2.2.1) q).toInt ≤ 14) ∧ (∀ q : Nat, 0 ≤ ((u.2.2.2.2.1) q).toInt ∧ ((u.2.2.2.2.1) q).toInt ≤ 1)) (fun (u : (Nat → Int32) × (Nat → Int32) × (Nat → Int32) × (Nat → Int32) × (Nat → Int32) × (Nat → Nat → Int64)) t => va_P (dC, dI) vwCl (WQ hQ aQ kQ hw (u.1) (u.2.1) (u.2.2.1) iQ_rows iQ_allRows iQ_columns ++ (WW nW hw lw kw (u.2.2.2.1) (u.2.2.2.2.1) (u.2.2.2.2.2))) t.heap ∧ va_D (va_A (WQ hQ aQ kQ hw fQ_inside fQ_outside fQ_shut iQ_rows iQ_allRows iQ_columns ++ (WW nW hw lw kw wl wb wG)) sz) (WQ hQ aQ kQ hw (u.1) (u.2.1) (u.2.2.1) iQ_rows iQ_allRows iQ_columns ++ (WW nW hw lw kw (u.2.2.2.1) (u.2.2.2.2.1) (u.2.2.2.2.2)))) (va_A (WQ hQ aQ kQ hw fQ_inside fQ_outside fQ_shut iQ_rows iQ_allRows iQ_columns ++ (WW nW hw lw kw wl wb wG)) sz)) 0 0 (va_A (WQ hQ aQ kQ hw fQ_inside fQ_outside fQ_shut iQ_rows iQ_allRows iQ_columns ++ (WW nW hw lw kw wl wb wG)) sz) := by
  refine Met.ofW (cc := cX6_makeLeast) (maxL := 5) (ret := none) (by decide) rfl ?_
  intro p e s m args below meth c s₁ B hml hv
  obtain ⟨rfl, hsz, hP, hK, hD0⟩ := hv
  have hx := B.exec
  have hb := B.bytes
  have hr := B.returns
  have hts := atoms_spec (ws := wsMX6_makeLeast) B.pre
  have hown : s.vm.findClass RX6 = some m.cls := findClass_of_methodNamed B.named
  have hlocks := B.notSynchronized
  subst hsz
  have hD := hD0.self (sz := s.heap.size)
  generalize hAe : va_A (WQ hQ aQ kQ hw fQ_inside fQ_outside fQ_shut iQ_rows iQ_allRows iQ_columns ++ (WW nW hw lw kw wl wb wG)) s.heap.size = A at hD ⊢
  have hA : ∀ q : Nat, s.heap.size ≤ q → A q := fun q h => by rw [← hAe]; exact Or.inr h
  have hS : va_S A s.heap s.heap [] := va_S.rf
  have hl := lv_entry ([.ref (hQ 0), .int p1]) (n := 5) (Nat.le_of_ble_eq_true rfl)
  rw [lg_entry_eq]
  generalize (lg_sl ([.ref (hQ 0), .int p1]) ++ List.replicate (5 - (lg_sl ([.ref (hQ 0), .int p1])).length) Slot.unset).toArray = ls at hl ⊢
  have hl : lv_has ls 5 [(0, .ref (hQ 0)), (1, .int p1)] := hl
  have hTb := b_tb.1
  refine lv_iconst (v := 0) hx hb dX6_makeLeast_0 (by decide) ?_
  refine lv_istore_n hx hb dX6_makeLeast_1 rfl hl (by decide) rfl (fun ls (hl : lv_has ls _ ([(2, .int 0), (0, .ref (hQ 0)), (1, .int p1)])) => ?_)
  have hl : lv_has _ _ ([(2, .int 0), (0, .ref (hQ 0)), (1, .int p1)]) := lv_sub hl [0, 1, 2] rfl
  refine (fun (loop : ∀ (n9 : Nat) (fQ_inside_x2 : Nat → Int32) (fQ_outside_x2 : Nat → Int32) (wl_x2 : Nat → Int32) (wb_x2 : Nat → Int32) (wG_x2 : Nat → Nat → Int64) (l2_x2 : Int32) (H : Heap) (locs : List Loc) (ls : Array Slot), (∀ q : Nat, 0 ≤ (wl_x2 q).toInt ∧ (wl_x2 q).toInt ≤ 14) → (∀ q : Nat, 0 ≤ (wb_x2 q).toInt ∧ (wb_x2 q).toInt ≤ 1) → (0 ≤ l2_x2.toInt ∧ l2_x2.toInt ≤ 1000000) → (1000000 - l2_x2.toInt < ((n9 : Nat) : Int)) → va_P (dC, dI) vwCl (WQ hQ aQ kQ hw fQ_inside_x2 fQ_outside_x2 fQ_shut iQ_rows iQ_allRows iQ_columns ++ (WW nW hw lw kw wl_x2 wb_x2 wG_x2)) H → va_D A (WQ hQ aQ kQ hw fQ_inside_x2 fQ_outside_x2 fQ_shut iQ_rows iQ_allRows iQ_columns ++ (WW nW hw lw kw wl_x2 wb_x2 wG_x2)) → va_S A s.heap H locs → lv_has ls 5 [(2, .int l2_x2), (0, .ref (hQ 0)), (1, .int p1)] → W p l e _ s m _ below meth c H locs 0 0 _ (F0 m 2 ls [])) => loop (1000001) fQ_inside fQ_outside wl wb wG 0 _ _ _ b_wl b_wb (show 0 ≤ (0 : Int32).toInt ∧ (0 : Int32).toInt ≤ 1000000 from by decide) ((by have e9 : (0 : Int32).toInt = 0 := (by decide : (0 : Int32).toInt = 0); omega)) hP hD hS hl) ?_
  intro n9
  induction n9 with
  | zero => intro fQ_inside_x2 fQ_outside_x2 wl_x2 wb_x2 wG_x2 l2_x2 H locs ls b_wl_x2 b_wb_x2 b_l2_x2 hf9; exact False.elim (by omega)
  | succ n9 ihx2 =>
    intro fQ_inside_x2 fQ_outside_x2 wl_x2 wb_x2 wG_x2 l2_x2 H locs ls b_wl_x2 b_wb_x2 b_l2_x2 hfx2 hP hD hS hl
    refine lv_iload_n hx hb dX6_makeLeast_2 rfl (lv_at hl 0 rfl) ?_
    refine lv_ldc (v := 1000000) hx hb hown (hts (.constant RX6 83 1000000) (by decide +kernel)) dX6_makeLeast_3 ?_
    refine W.cut (pc := 64) (fun H locs ls stk => ∃ (wl_j11 : Nat → Int32) (wb_j11 : Nat → Int32) (wG_j11 : Nat → Nat → Int64), (∀ q : Nat, 0 ≤ (wl_j11 q).toInt ∧ (wl_j11 q).toInt ≤ 14) ∧ (∀ q : Nat, 0 ≤ (wb_j11 q).toInt ∧ (wb_j11 q).toInt ≤ 1) ∧  stk = [] ∧ va_P (dC, dI) vwCl (WQ hQ aQ kQ hw fQ_inside_x2 fQ_outside_x2 fQ_shut iQ_rows iQ_allRows iQ_columns ++ (WW nW hw lw kw wl_j11 wb_j11 wG_j11)) H ∧ va_D A (WQ hQ aQ kQ hw fQ_inside_x2 fQ_outside_x2 fQ_shut iQ_rows iQ_allRows iQ_columns ++ (WW nW hw lw kw wl_j11 wb_j11 wG_j11)) ∧ va_S A s.heap H locs ∧ lv_has ls 5 [(2, .int l2_x2), (0, .ref (hQ 0)), (1, .int p1)]) (fun join11 => ?_) ?_
    · refine lv_icmp_ge (tgt := 64) hx hb dX6_makeLeast_5 (by decide) (fun c_5 => ?_) (fun c_5 => ?_)
      · have t_5 : l2_x2.toInt ≥ 1000000 := toI_ge c_5 rfl (by decide : (1000000 : Int32).toInt = 1000000)
        have hl : lv_has _ _ ([(2, .int l2_x2), (0, .ref (hQ 0)), (1, .int p1)]) := lv_sub hl [0, 1, 2] rfl
        exact join11 _ _ _ _ ⟨wl_x2, wb_x2, wG_x2, b_wl_x2, b_wb_x2, rfl, hP, hD, hS, hl⟩
      · have t_5 : ¬ l2_x2.toInt ≥ 1000000 := toI_nge c_5 rfl (by decide : (1000000 : Int32).toInt = 1000000)
        refine lv_aload_n hx hb dX6_makeLeast_8 rfl (lv_at hl 1 rfl) ?_
        refine lv_iload_n hx hb dX6_makeLeast_9 rfl (lv_at hl 2 rfl) ?_
        refine lv_iconst (v := (-1)) hx hb dX6_makeLeast_10 (by decide) ?_
        refine lv_iload_n hx hb dX6_makeLeast_11 rfl (lv_at hl 0 rfl) ?_
        refine lv_bipush (v := 40) hx hb dX6_makeLeast_12 (by decide) ?_
        refine W.cut (pc := 22) (fun H locs ls stk => ∃ (k0_j12 : Int32), (0 ≤ k0_j12.toInt ∧ k0_j12.toInt ≤ 1) ∧  stk = [.int k0_j12, .int (-1), .int p1, .ref (hQ 0)] ∧ va_P (dC, dI) vwCl (WQ hQ aQ kQ hw fQ_inside_x2 fQ_outside_x2 fQ_shut iQ_rows iQ_allRows iQ_columns ++ (WW nW hw lw kw wl_x2 wb_x2 wG_x2)) H ∧ va_D A (WQ hQ aQ kQ hw fQ_inside_x2 fQ_outside_x2 fQ_shut iQ_rows iQ_allRows iQ_columns ++ (WW nW hw lw kw wl_x2 wb_x2 wG_x2)) ∧ va_S A s.heap H locs ∧ lv_has ls 5 [(2, .int l2_x2), (0, .ref (hQ 0)), (1, .int p1)]) (fun join12 => ?_) ?_
        · refine lv_icmp_ge (tgt := 21) hx hb dX6_makeLeast_14 (by decide) (fun c_14 => ?_) (fun c_14 => ?_)
          · have t_14 : l2_x2.toInt ≥ 40 := toI_ge c_14 rfl (by decide : (40 : Int32).toInt = 40)
            refine lv_iconst (v := 0) hx hb dX6_makeLeast_21 (by decide) ?_
            have hl : lv_has _ _ ([(2, .int l2_x2), (0, .ref (hQ 0)), (1, .int p1)]) := lv_sub hl [0, 1, 2] rfl
            exact join12 _ _ _ _ ⟨0, (show 0 ≤ (0 : Int32).toInt ∧ (0 : Int32).toInt ≤ 1 from by decide), rfl, hP, hD, hS, hl⟩
          · have t_14 : ¬ l2_x2.toInt ≥ 40 := toI_nge c_14 rfl (by decide : (40 : Int32).toInt = 40)
            refine lv_iconst (v := 1) hx hb dX6_makeLeast_17 (by decide) ?_
            refine lv_goto (tgt := 22) hx hb dX6_makeLeast_18 (by decide) ?_
            have hl : lv_has _ _ ([(2, .int l2_x2), (0, .ref (hQ 0)), (1, .int p1)]) := lv_sub hl [0, 1, 2] rfl
            exact join12 _ _ _ _ ⟨1, (show 0 ≤ (1 : Int32).toInt ∧ (1 : Int32).toInt ≤ 1 from by decide), rfl, hP, hD, hS, hl⟩
        · rintro H locs ls stk ⟨k0_j12, b_k0_j12, rfl, hP, hD, hS, hl⟩
          have hFc := allFree hD hS hA
          refine va_calli (va_runV (As := [.int p1, .int (-1), .int k0_j12]) (rest := []) ⟨hx, hb, hml, hown, hts⟩ (m_X6_columnOfSign l dC dI hQ aQ kQ hw fQ_inside_x2 fQ_outside_x2 fQ_shut iQ_rows iQ_allRows iQ_columns nW lw kw wl_x2 wb_x2 wG_x2 p1 (-1) k0_j12 (b_iQ_rows) (b_iQ_allRows) (b_iQ_columns) (by first | with_reducible assumption | omega | assumption) b_wl_x2 b_wb_x2 (b_p1) (by first | with_reducible assumption | omega | (rw [iI_t (by omega) (by omega)]; omega) | decide | assumption) (hrow) H.size) (cwV 3 hts gwsMX6_makeLeast_0 rfl rfl rfl hd_yX6_columnOfSign_RX6 (by decide +kernel)) (fz_pre (va_recv hK hP (ci := 6) (q0 := 0) rfl rfl) hP hK hD) rfl rfl hl.1 rfl (lv_room (Nat.le_of_ble_eq_true rfl)) dX6_makeLeast_22 (by decide +kernel)) hS (fun q _ h => hFc q h) hFc (fun r17 u t9_ H locs ht hvm hw9 hB9 hz1 hk1 hS => ?_)
          revert hw9
          refine fz_a2 ?_
          intro b_r17 f17_0
          have hP : va_P (dC, dI) vwCl (WQ hQ aQ kQ hw fQ_inside_x2 fQ_outside_x2 fQ_shut iQ_rows iQ_allRows iQ_columns ++ (WW nW hw lw kw wl_x2 wb_x2 wG_x2)) H := fz_P ht hB9.1
          have hD := fz_sd hP (hB9.2.weaken (fun _ q _ h => hFc q.1 h)) rfl
          refine lv_istore_n hx hb dX6_makeLeast_25 rfl hl (by decide) rfl (fun ls (hl : lv_has ls _ ([(3, .int r17), (2, .int l2_x2), (0, .ref (hQ 0)), (1, .int p1)])) => ?_)
          refine lv_iload_n hx hb dX6_makeLeast_26 rfl (lv_at hl 0 rfl) ?_
          refine lv_iconst (v := (-1)) hx hb dX6_makeLeast_27 (by decide) ?_
          refine lv_icmp_ne (tgt := 35) hx hb dX6_makeLeast_28 (by decide) (fun c_28 => ?_) (fun c_28 => ?_)
          · have t_28 : r17.toInt ≠ (-1) := toI_ne c_28 rfl (by decide : ((-1) : Int32).toInt = (-1))
            refine lv_aload_n hx hb dX6_makeLeast_35 rfl (lv_at hl 2 rfl) ?_
            refine lv_iload_n hx hb dX6_makeLeast_36 rfl (lv_at hl 0 rfl) ?_
            have hFc := allFree hD hS hA
            refine va_calli (va_runV (As := [.int r17]) (rest := []) ⟨hx, hb, hml, hown, hts⟩ (m_X6_tightest l dC dI hQ aQ kQ hw fQ_inside_x2 fQ_outside_x2 fQ_shut iQ_rows iQ_allRows iQ_columns nW lw kw wl_x2 wb_x2 wG_x2 r17 (b_iQ_rows) (b_iQ_allRows) (b_iQ_columns) (by first | with_reducible assumption | omega | assumption) b_wl_x2 b_wb_x2 (by first | exact b_r17 | with_reducible assumption | exact ⟨by omega, by omega⟩ | assumption) (by first | with_reducible assumption | omega | (rw [iI_t (by omega) (by omega)]; omega) | decide | assumption) (by first | with_reducible assumption | omega | (rw [iI_t (by omega) (by omega)]; omega) | decide | assumption) H.size) (cwV 1 hts gwsMX6_makeLeast_1 rfl rfl rfl hd_yX6_tightest_RX6 (by decide +kernel)) (fz_pre (va_recv hK hP (ci := 6) (q0 := 0) rfl rfl) hP hK hD) rfl rfl hl.1 rfl (lv_room (Nat.le_of_ble_eq_true rfl)) dX6_makeLeast_37 (by decide +kernel)) hS (fun q _ h => hFc q h) hFc (fun r18 u t9_ H locs ht hvm hw9 hB9 hz1 hk1 hS => ?_)
            revert u hw9 hB9
            refine fz_p3 ?_
            intro wl_18 wb_18 wG_18 hw9 hB9
            try dsimp only at hw9 hB9
            revert hw9
            refine fz_a4 ?_
            intro b_wl_18 b_wb_18 b_r18 f18_0
            have hP : va_P (dC, dI) vwCl (WQ hQ aQ kQ hw fQ_inside_x2 fQ_outside_x2 fQ_shut iQ_rows iQ_allRows iQ_columns ++ (WW nW hw lw kw wl_18 wb_18 wG_18)) H := fz_P ht hB9.1
            have hD := fz_sd hP (hB9.2.weaken (fun _ q _ h => hFc q.1 h)) rfl
            refine lv_istore hx hb dX6_makeLeast_40 hl (by decide) rfl (fun ls (hl : lv_has ls _ ([(4, .int r18), (3, .int r17), (2, .int l2_x2), (0, .ref (hQ 0)), (1, .int p1)])) => ?_)
            refine lv_iload hx hb dX6_makeLeast_42 (lv_at hl 0 rfl) ?_
            refine lv_iconst (v := (-1)) hx hb dX6_makeLeast_44 (by decide) ?_
            refine lv_icmp_ne (tgt := 51) hx hb dX6_makeLeast_45 (by decide) (fun c_45 => ?_) (fun c_45 => ?_)
            · have t_45 : r18.toInt ≠ (-1) := toI_ne c_45 rfl (by decide : ((-1) : Int32).toInt = (-1))
              refine lv_aload_n hx hb dX6_makeLeast_51 rfl (lv_at hl 3 rfl) ?_
              refine lv_iload hx hb dX6_makeLeast_52 (lv_at hl 0 rfl) ?_
              refine lv_iload_n hx hb dX6_makeLeast_54 rfl (lv_at hl 1 rfl) ?_
              have hFc := allFree hD hS hA
              refine va_callv (va_runV (As := [.int r18, .int r17]) (rest := []) ⟨hx, hb, hml, hown, hts⟩ (m_X6_exchange l dC dI hQ aQ kQ hw fQ_inside_x2 fQ_outside_x2 fQ_shut iQ_rows iQ_allRows iQ_columns nW lw kw wl_18 wb_18 wG_18 r18 r17 (b_iQ_rows) (b_iQ_allRows) (b_iQ_columns) (by first | with_reducible assumption | omega | assumption) b_wl_18 b_wb_18 (by first | exact b_r18 | with_reducible assumption | exact ⟨by omega, by omega⟩ | assumption) (by first | exact b_r17 | with_reducible assumption | exact ⟨by omega, by omega⟩ | assumption) (by first | with_reducible assumption | omega | (rw [iI_t (by omega) (by omega)]; omega) | decide | assumption) (FitR.of b_tb (by omega) (by omega) (by omega)) (by first | with_reducible assumption | omega | (rw [iI_t (by omega) (by omega)]; omega) | decide | assumption) H.size) (cwV 2 hts gwsMX6_makeLeast_2 rfl rfl rfl hd_yX6_exchange_RX6 (by decide +kernel)) (fz_pre (va_recv hK hP (ci := 6) (q0 := 0) rfl rfl) hP hK hD) rfl rfl hl.1 rfl (lv_room (Nat.le_of_ble_eq_true rfl)) dX6_makeLeast_55 (by decide +kernel)) hS (fun q _ h => hFc q h) hFc (fun u t9_ H locs ht hvm hw9 hB9 hz1 hk1 hS => ?_)
              revert u hw9 hB9
              refine fz_p5 ?_
              intro fQ_inside_19 fQ_outside_19 wl_19 wb_19 wG_19 hw9 hB9
              try dsimp only at hw9 hB9
              revert hw9
              refine fz_a2 ?_
              intro b_wl_19 b_wb_19
              have hP : va_P (dC, dI) vwCl (WQ hQ aQ kQ hw fQ_inside_19 fQ_outside_19 fQ_shut iQ_rows iQ_allRows iQ_columns ++ (WW nW hw lw kw wl_19 wb_19 wG_19)) H := fz_P ht hB9.1
              have hD := fz_sd hP (hB9.2.weaken (fun _ q _ h => hFc q.1 h)) rfl
              refine lv_iinc (v := (iI (l2_x2.toInt + 1))) hx hb dX6_makeLeast_58 hl (k := 2) rfl (iI_add2 (iI_of _) (by decide : (1 : Int32) = iI 1)) (by decide) rfl (fun ls (hl : lv_has ls _ ([(2, .int (iI (l2_x2.toInt + 1))), (4, .int r18), (3, .int r17), (0, .ref (hQ 0)), (1, .int p1)])) => ?_)
              refine lv_goto (tgt := 2) hx hb dX6_makeLeast_61 (by decide) ?_
              have hl : lv_has _ _ ([(2, .int (iI (l2_x2.toInt + 1))), (0, .ref (hQ 0)), (1, .int p1)]) := lv_sub hl [0, 3, 4] rfl
              exact ihx2 fQ_inside_19 fQ_outside_19 wl_19 wb_19 wG_19 (iI (l2_x2.toInt + 1)) _ _ _ b_wl_19 b_wb_19 (iI_rng (Int.le_trans (by decide) (Int.add_le_add (b_l2_x2.1) (Int.le_refl _))) (by omega) (by decide) (by decide)) (by have e9 : ((iI (l2_x2.toInt + 1))).toInt = (l2_x2.toInt + 1) := (iI_t (Int.le_trans (by decide) (Int.add_le_add (b_l2_x2.1) (Int.le_refl _))) (Int.le_trans (Int.add_le_add (b_l2_x2.2) (Int.le_refl _)) (by decide))); omega) hP hD hS hl
            · have t_45 : r18.toInt = (-1) := toI_nne c_45 rfl (by decide : ((-1) : Int32).toInt = (-1))
              refine lv_goto (tgt := 64) hx hb dX6_makeLeast_48 (by decide) ?_
              have hl : lv_has _ _ ([(2, .int l2_x2), (0, .ref (hQ 0)), (1, .int p1)]) := lv_sub hl [2, 3, 4] rfl
              exact join11 _ _ _ _ ⟨wl_18, wb_18, wG_18, b_wl_18, b_wb_18, rfl, hP, hD, hS, hl⟩
          · have t_28 : r17.toInt = (-1) := toI_nne c_28 rfl (by decide : ((-1) : Int32).toInt = (-1))
            refine lv_iconst (v := (-1)) hx hb dX6_makeLeast_31 (by decide) ?_
            refine lv_goto (tgt := 40) hx hb dX6_makeLeast_32 (by decide) ?_
            refine lv_istore hx hb dX6_makeLeast_40 hl (by decide) rfl (fun ls (hl : lv_has ls _ ([(4, .int (-1)), (3, .int r17), (2, .int l2_x2), (0, .ref (hQ 0)), (1, .int p1)])) => ?_)
            refine lv_iload hx hb dX6_makeLeast_42 (lv_at hl 0 rfl) ?_
            refine lv_iconst (v := (-1)) hx hb dX6_makeLeast_44 (by decide) ?_
            refine lv_icmp_ne (tgt := 51) hx hb dX6_makeLeast_45 (by decide) (fun c9 => absurd c9 (by decide)) (fun _ => ?_)
            refine lv_goto (tgt := 64) hx hb dX6_makeLeast_48 (by decide) ?_
            have hl : lv_has _ _ ([(2, .int l2_x2), (0, .ref (hQ 0)), (1, .int p1)]) := lv_sub hl [2, 3, 4] rfl
            exact join11 _ _ _ _ ⟨wl_x2, wb_x2, wG_x2, b_wl_x2, b_wb_x2, rfl, hP, hD, hS, hl⟩
    · intro H locs ls stk
      refine fz_e3 ?_
      intro wl_j11 wb_j11 wG_j11
      refine fz_a7 ?_
      intro b_wl_j11 b_wb_j11 hst9_2 hP hD hS hl
      subst hst9_2
      refine lv_aload_n hx hb dX6_makeLeast_64 rfl (lv_at hl 1 rfl) ?_
      refine lv_iload_n hx hb dX6_makeLeast_65 rfl (lv_at hl 2 rfl) ?_
      have hFc := allFree hD hS hA
      refine va_callv (va_runV (As := [.int p1]) (rest := []) ⟨hx, hb, hml, hown, hts⟩ (m_X6_shutWith l dC dI hQ aQ kQ hw fQ_inside_x2 fQ_outside_x2 fQ_shut iQ_rows iQ_allRows iQ_columns nW lw kw wl_j11 wb_j11 wG_j11 p1 (b_iQ_rows) (b_iQ_allRows) (b_iQ_columns) (by first | with_reducible assumption | omega | assumption) b_wl_j11 b_wb_j11 (b_p1) (by first | with_reducible assumption | omega | (rw [iI_t (by omega) (by omega)]; omega) | decide | assumption) (hrow) H.size) (cwV 1 hts gwsMX6_makeLeast_3 rfl rfl rfl hd_yX6_shutWith_RX6 (by decide +kernel)) (fz_pre (va_recv hK hP (ci := 6) (q0 := 0) rfl rfl) hP hK hD) rfl rfl hl.1 rfl (lv_room (Nat.le_of_ble_eq_true rfl)) dX6_makeLeast_66 (by decide +kernel)) hS (fun q _ h => hFc q h) hFc (fun fQ_shut_20 t9_ H locs ht hvm hw9 hB9 hz1 hk1 hS => ?_)
      clear hw9
      have hP : va_P (dC, dI) vwCl (WQ hQ aQ kQ hw fQ_inside_x2 fQ_outside_x2 fQ_shut_20 iQ_rows iQ_allRows iQ_columns ++ (WW nW hw lw kw wl_j11 wb_j11 wG_j11)) H := fz_P ht hB9.1
      have hD := fz_sd hP (hB9.2.weaken (fun _ q _ h => hFc q.1 h)) rfl
      refine W.widen (k := 0) (n := 0) (by decide +kernel) (by decide +kernel) ?_
      exact W.vret hx hb hr (fun t9_ ht hW => ⟨⟨(fQ_inside_x2, fQ_outside_x2, fQ_shut_20, wl_j11, wb_j11, wG_j11), rfl, ⟨b_wl_j11, b_wb_j11⟩, by rw [ht]; exact hP, hD⟩, hS.F ht⟩) hS.2.2 dX6_makeLeast_69
theorem dX6_sink_0 : decode cX6_sink 0 = .ok (.iconst 0, 1) := dk_3 (by decide +kernel)
theorem dX6_sink_1 : decode cX6_sink 1 = .ok (.istore_n 2, 1) := dk_61 (by decide +kernel)
theorem dX6_sink_2 : decode cX6_sink 2 = .ok (.iload_n 2, 1) := dk_28 (by decide +kernel)
theorem dX6_sink_3 : decode cX6_sink 3 = .ok (.ldc 83, 2) := dk_18 (by decide +kernel)
theorem dX6_sink_5 : decode cX6_sink 5 = .ok (.if_icmp .ge 91, 3) := dk_162 (by decide +kernel)
theorem dX6_sink_8 : decode cX6_sink 8 = .ok (.aload_n 0, 1) := dk_42 (by decide +kernel)
theorem dX6_sink_9 : decode cX6_sink 9 = .ok (.iload_n 1, 1) := dk_27 (by decide +kernel)
theorem dX6_sink_10 : decode cX6_sink 10 = .ok (.invokevirtual 107, 3) := dk_182 (by decide +kernel)
theorem dX6_sink_13 : decode cX6_sink 13 = .ok (.istore_n 3, 1) := dk_62 (by decide +kernel)
theorem dX6_sink_14 : decode cX6_sink 14 = .ok (.iload_n 3, 1) := dk_29 (by decide +kernel)
theorem dX6_sink_15 : decode cX6_sink 15 = .ok (.iconst (-1), 1) := dk_2 (by decide +kernel)
theorem dX6_sink_16 : decode cX6_sink 16 = .ok (.if_icmp .ne 5, 3) := dk_160 (by decide +kernel)
theorem dX6_sink_19 : decode cX6_sink 19 = .ok (.iconst 1, 1) := dk_4 (by decide +kernel)
theorem dX6_sink_20 : decode cX6_sink 20 = .ok (.ireturn, 1) := dk_172 (by decide +kernel)
theorem dX6_sink_21 : decode cX6_sink 21 = .ok (.aload_n 0, 1) := dk_42 (by decide +kernel)
theorem dX6_sink_22 : decode cX6_sink 22 = .ok (.iload_n 3, 1) := dk_29 (by decide +kernel)
theorem dX6_sink_23 : decode cX6_sink 23 = .ok (.iconst (-1), 1) := dk_2 (by decide +kernel)
theorem dX6_sink_24 : decode cX6_sink 24 = .ok (.iload_n 2, 1) := dk_28 (by decide +kernel)
theorem dX6_sink_25 : decode cX6_sink 25 = .ok (.bipush 40, 2) := dk_16 (by decide +kernel)
theorem dX6_sink_27 : decode cX6_sink 27 = .ok (.if_icmp .ge 7, 3) := dk_162 (by decide +kernel)
theorem dX6_sink_30 : decode cX6_sink 30 = .ok (.iconst 1, 1) := dk_4 (by decide +kernel)
theorem dX6_sink_31 : decode cX6_sink 31 = .ok (.goto 4, 3) := dk_167 (by decide +kernel)
theorem dX6_sink_34 : decode cX6_sink 34 = .ok (.iconst 0, 1) := dk_3 (by decide +kernel)
theorem dX6_sink_35 : decode cX6_sink 35 = .ok (.invokevirtual 88, 3) := dk_182 (by decide +kernel)
theorem dX6_sink_38 : decode cX6_sink 38 = .ok (.istore 4, 2) := dk_54 (by decide +kernel)
theorem dX6_sink_40 : decode cX6_sink 40 = .ok (.iload 4, 2) := dk_21 (by decide +kernel)
theorem dX6_sink_42 : decode cX6_sink 42 = .ok (.iconst (-1), 1) := dk_2 (by decide +kernel)
theorem dX6_sink_43 : decode cX6_sink 43 = .ok (.if_icmp .ne 7, 3) := dk_160 (by decide +kernel)
theorem dX6_sink_46 : decode cX6_sink 46 = .ok (.iconst (-1), 1) := dk_2 (by decide +kernel)
theorem dX6_sink_47 : decode cX6_sink 47 = .ok (.goto 9, 3) := dk_167 (by decide +kernel)
theorem dX6_sink_50 : decode cX6_sink 50 = .ok (.aload_n 0, 1) := dk_42 (by decide +kernel)
theorem dX6_sink_51 : decode cX6_sink 51 = .ok (.iload 4, 2) := dk_21 (by decide +kernel)
theorem dX6_sink_53 : decode cX6_sink 53 = .ok (.invokevirtual 100, 3) := dk_182 (by decide +kernel)
theorem dX6_sink_56 : decode cX6_sink 56 = .ok (.istore 5, 2) := dk_54 (by decide +kernel)
theorem dX6_sink_58 : decode cX6_sink 58 = .ok (.iload 5, 2) := dk_21 (by decide +kernel)
theorem dX6_sink_60 : decode cX6_sink 60 = .ok (.iconst (-1), 1) := dk_2 (by decide +kernel)
theorem dX6_sink_61 : decode cX6_sink 61 = .ok (.if_icmp .ne 21, 3) := dk_160 (by decide +kernel)
theorem dX6_sink_64 : decode cX6_sink 64 = .ok (.aload_n 0, 1) := dk_42 (by decide +kernel)
theorem dX6_sink_65 : decode cX6_sink 65 = .ok (.iload_n 3, 1) := dk_29 (by decide +kernel)
theorem dX6_sink_66 : decode cX6_sink 66 = .ok (.iconst 0, 1) := dk_3 (by decide +kernel)
theorem dX6_sink_67 : decode cX6_sink 67 = .ok (.invokevirtual 72, 3) := dk_182 (by decide +kernel)
theorem dX6_sink_70 : decode cX6_sink 70 = .ok (.getfield 76, 3) := dk_180 (by decide +kernel)
theorem dX6_sink_73 : decode cX6_sink 73 = .ok (.ifCond .ne 7, 3) := dk_154 (by decide +kernel)
theorem dX6_sink_76 : decode cX6_sink 76 = .ok (.iconst 1, 1) := dk_4 (by decide +kernel)
theorem dX6_sink_77 : decode cX6_sink 77 = .ok (.goto 4, 3) := dk_167 (by decide +kernel)
theorem dX6_sink_80 : decode cX6_sink 80 = .ok (.iconst 0, 1) := dk_3 (by decide +kernel)
theorem dX6_sink_81 : decode cX6_sink 81 = .ok (.ireturn, 1) := dk_172 (by decide +kernel)
theorem dX6_sink_82 : decode cX6_sink 82 = .ok (.aload_n 0, 1) := dk_42 (by decide +kernel)
theorem dX6_sink_83 : decode cX6_sink 83 = .ok (.iload 5, 2) := dk_21 (by decide +kernel)
theorem dX6_sink_85 : decode cX6_sink 85 = .ok (.iload 4, 2) := dk_21 (by decide +kernel)
theorem dX6_sink_87 : decode cX6_sink 87 = .ok (.invokevirtual 79, 3) := dk_182 (by decide +kernel)
theorem dX6_sink_90 : decode cX6_sink 90 = .ok (.iinc 2 1, 3) := dk_132 (by decide +kernel)
theorem dX6_sink_93 : decode cX6_sink 93 = .ok (.goto (-91), 3) := dk_167 (by decide +kernel)
theorem dX6_sink_96 : decode cX6_sink 96 = .ok (.iconst 0, 1) := dk_3 (by decide +kernel)
theorem dX6_sink_97 : decode cX6_sink 97 = .ok (.ireturn, 1) := dk_172 (by decide +kernel)
def wsMX6_sink : List Cond := .code yX6_sink cX6_sink 6 (some .boolean) :: ([.constant RX6 83 1000000, .fieldLink RX6 76 "OptimaWorks$Whole" "length" "I"] ++ wsX80 ++ (wsV RX6 107 RX6 yX6_rowOf wsMX6_rowOf) ++ (wsV RX6 88 RX6 yX6_columnOfSign wsMX6_columnOfSign) ++ (wsV RX6 100 RX6 yX6_tightest wsMX6_tightest) ++ (wsV RX6 79 RX6 yX6_exchange wsMX6_exchange) ++ (wsV RX6 72 RX6 yX6_cellAt wsMX6_cellAt))
theorem iwsMX6_sink_in8 : ∀ w ∈ wsX80, w ∈ wsMX6_sink := fun _ h => List.mem_cons_of_mem _ (List.mem_append_left _ (List.mem_append_left _ (List.mem_append_left _ (List.mem_append_left _ (List.mem_append_left _ (List.mem_append_right _ h))))))
theorem gwsMX6_sink_0 : GoodIn wsMX6_sink (wsV RX6 107 RX6 yX6_rowOf wsMX6_rowOf) := goodIn_sub (fun _ h => List.mem_cons_of_mem _ (List.mem_append_left _ (List.mem_append_left _ (List.mem_append_left _ (List.mem_append_left _ (List.mem_append_right _ h)))))) (gdV (by decide +kernel) gdwsMX6_rowOf)
theorem gwsMX6_sink_1 : GoodIn wsMX6_sink (wsV RX6 88 RX6 yX6_columnOfSign wsMX6_columnOfSign) := goodIn_sub (fun _ h => List.mem_cons_of_mem _ (List.mem_append_left _ (List.mem_append_left _ (List.mem_append_left _ (List.mem_append_right _ h))))) (gdV (by decide +kernel) gdwsMX6_columnOfSign)
theorem gwsMX6_sink_2 : GoodIn wsMX6_sink (wsV RX6 100 RX6 yX6_tightest wsMX6_tightest) := goodIn_sub (fun _ h => List.mem_cons_of_mem _ (List.mem_append_left _ (List.mem_append_left _ (List.mem_append_right _ h)))) (gdV (by decide +kernel) gdwsMX6_tightest)
theorem gwsMX6_sink_3 : GoodIn wsMX6_sink (wsV RX6 79 RX6 yX6_exchange wsMX6_exchange) := goodIn_sub (fun _ h => List.mem_cons_of_mem _ (List.mem_append_left _ (List.mem_append_right _ h))) (gdV (by decide +kernel) gdwsMX6_exchange)
theorem gwsMX6_sink_4 : GoodIn wsMX6_sink (wsV RX6 72 RX6 yX6_cellAt wsMX6_cellAt) := goodIn_sub (fun _ h => List.mem_cons_of_mem _ (List.mem_append_right _ h)) (gdV (by decide +kernel) gdwsMX6_cellAt)
theorem gdwsMX6_sink : wsMX6_sink.all goodWord = true := gdC rfl (gdA (gdA (gdA (gdA (gdA (gdA (by decide +kernel : ([.constant RX6 83 1000000, .fieldLink RX6 76 "OptimaWorks$Whole" "length" "I"] : List Cond).all goodWord = true) gdwsX80) (gdV (by decide +kernel) gdwsMX6_rowOf)) (gdV (by decide +kernel) gdwsMX6_columnOfSign)) (gdV (by decide +kernel) gdwsMX6_tightest)) (gdV (by decide +kernel) gdwsMX6_exchange)) (gdV (by decide +kernel) gdwsMX6_cellAt))
theorem hm_m_X6_sink_0 : (.fieldLink RX6 76 "OptimaWorks$Whole" "length" "I" : Cond) ∈ wsMX6_sink := by decide +kernel
set_option maxHeartbeats 4000000 in
set_option maxRecDepth 100000 in
/-- a variable made least -/
theorem m_X6_sink (l : Launch) (dC : Nat → ClassId) (dI : Nat → Nat → Nat) (hQ : Nat → Nat) (aQ : Nat → Nat) (kQ : Nat → ClassId) (hw : Nat → Nat) (fQ_inside : Nat → Int32) (fQ_outside : Nat → Int32) (fQ_shut : Nat → Int32) (iQ_rows : Int32) (iQ_allRows : Int32) (iQ_columns : Int32) (nW : Nat) (lw : Nat → Nat) (kw : ClassId) (wl : Nat → Int32) (wb : Nat → Int32) (wG : Nat → Nat → Int64) (p1 : Int32) (b_iQ_rows : 0 ≤ iQ_rows.toInt ∧ iQ_rows.toInt ≤ 40) (b_iQ_allRows : 0 ≤ iQ_allRows.toInt ∧ iQ_allRows.toInt ≤ 40) (b_iQ_columns : 0 ≤ iQ_columns.toInt ∧ iQ_columns.toInt ≤ 40) (b_tb : TbO iQ_rows iQ_allRows iQ_columns) (b_wl : ∀ q : Nat, 0 ≤ (wl q).toInt ∧ (wl q).toInt ≤ 14) (b_wb : ∀ q : Nat, 0 ≤ (wb q).toInt ∧ (wb q).toInt ≤ 1) (hnW : 406 ≤ nW) (sz : Nat) : Met l yX6_sink wsMX6_sink ({ frames := 5, cells := 0, slots := 0, locals := 131 }) (va_Pc [.ref (hQ 0), .int p1] (fun U => U.heap.size = sz ∧ va_P (dC, dI) vwCl (WQ hQ aQ kQ hw fQ_inside fQ_outside fQ_shut iQ_rows iQ_allRows iQ_columns ++ (WW nW hw lw kw wl wb wG)) U.heap ∧ va_K (dC, dI) vwCl (tQ kQ ++ (tW kw)) U ∧ va_D (fun _ => True) (WQ hQ aQ kQ hw fQ_inside fQ_outside fQ_shut iQ_rows iQ_allRows iQ_columns ++ (WW nW hw lw kw wl wb wG)))) (va_Qi (fun (r : Int32) (u : (Nat → Int32) × (Nat → Int32) × (Nat → Int32) × (Nat → Int32) × (Nat → Nat → Int64)) => (∀ q : Nat, 0 ≤ ((u.2.2.1) q).toInt ∧ ((u.2.2.1) q).toInt ≤ 14) ∧ (∀ q : Nat, 0 ≤ ((u.2.2.2.1) q).toInt ∧ ((u.2.2.2.1) q).toInt ≤ 1) ∧ (0 ≤ r.toInt ∧ r.toInt ≤ 1)) (fun (u : (Nat → Int32) × (Nat → Int32) × (Nat → Int32) × (Nat → Int32) × (Nat → Nat → Int64)) t => va_P (dC, dI) vwCl (WQ hQ aQ kQ hw (u.1) (u.2.1) fQ_shut iQ_rows iQ_allRows iQ_columns ++ (WW nW hw lw kw (u.2.2.1) (u.2.2.2.1) (u.2.2.2.2))) t.heap ∧ va_D (va_A (WQ hQ aQ kQ hw fQ_inside fQ_outside fQ_shut iQ_rows iQ_allRows iQ_columns ++ (WW nW hw lw kw wl wb wG)) sz) (WQ hQ aQ kQ hw (u.1) (u.2.1) fQ_shut iQ_rows iQ_allRows iQ_columns ++ (WW nW hw lw kw (u.2.2.1) (u.2.2.2.1) (u.2.2.2.2)))) (va_A (WQ hQ aQ kQ hw fQ_inside fQ_outside fQ_shut iQ_rows iQ_allRows iQ_columns ++ (WW nW hw lw kw wl wb wG)) sz)) 0 0 (va_A (WQ hQ aQ kQ hw fQ_inside fQ_outside fQ_shut iQ_rows iQ_allRows iQ_columns ++ (WW nW hw lw kw wl wb wG)) sz) := by
  refine Met.ofW (cc := cX6_sink) (maxL := 6) (ret := (some .boolean)) (by decide) rfl ?_
  intro p e s m args below meth c s₁ B hml hv
  obtain ⟨rfl, hsz, hP, hK, hD0⟩ := hv
  have hx := B.exec
  have hb := B.bytes
  have hr := B.returns
  have hts := atoms_spec (ws := wsMX6_sink) B.pre
  have hown : s.vm.findClass RX6 = some m.cls := findClass_of_methodNamed B.named
  have hlocks := B.notSynchronized
  subst hsz
  have hD := hD0.self (sz := s.heap.size)
  generalize hAe : va_A (WQ hQ aQ kQ hw fQ_inside fQ_outside fQ_shut iQ_rows iQ_allRows iQ_columns ++ (WW nW hw lw kw wl wb wG)) s.heap.size = A at hD ⊢
  have hA : ∀ q : Nat, s.heap.size ≤ q → A q := fun q h => by rw [← hAe]; exact Or.inr h
  have hS : va_S A s.heap s.heap [] := va_S.rf
  have hl := lv_entry ([.ref (hQ 0), .int p1]) (n := 6) (Nat.le_of_ble_eq_true rfl)
  rw [lg_entry_eq]
  generalize (lg_sl ([.ref (hQ 0), .int p1]) ++ List.replicate (6 - (lg_sl ([.ref (hQ 0), .int p1])).length) Slot.unset).toArray = ls at hl ⊢
  have hl : lv_has ls 6 [(0, .ref (hQ 0)), (1, .int p1)] := hl
  have hTb := b_tb.1
  refine lv_iconst (v := 0) hx hb dX6_sink_0 (by decide) ?_
  refine lv_istore_n hx hb dX6_sink_1 rfl hl (by decide) rfl (fun ls (hl : lv_has ls _ ([(2, .int 0), (0, .ref (hQ 0)), (1, .int p1)])) => ?_)
  have hl : lv_has _ _ ([(2, .int 0), (0, .ref (hQ 0)), (1, .int p1)]) := lv_sub hl [0, 1, 2] rfl
  refine (fun (loop : ∀ (n9 : Nat) (fQ_inside_x2 : Nat → Int32) (fQ_outside_x2 : Nat → Int32) (wl_x2 : Nat → Int32) (wb_x2 : Nat → Int32) (wG_x2 : Nat → Nat → Int64) (l2_x2 : Int32) (H : Heap) (locs : List Loc) (ls : Array Slot), (∀ q : Nat, 0 ≤ (wl_x2 q).toInt ∧ (wl_x2 q).toInt ≤ 14) → (∀ q : Nat, 0 ≤ (wb_x2 q).toInt ∧ (wb_x2 q).toInt ≤ 1) → (0 ≤ l2_x2.toInt ∧ l2_x2.toInt ≤ 1000000) → (1000000 - l2_x2.toInt < ((n9 : Nat) : Int)) → va_P (dC, dI) vwCl (WQ hQ aQ kQ hw fQ_inside_x2 fQ_outside_x2 fQ_shut iQ_rows iQ_allRows iQ_columns ++ (WW nW hw lw kw wl_x2 wb_x2 wG_x2)) H → va_D A (WQ hQ aQ kQ hw fQ_inside_x2 fQ_outside_x2 fQ_shut iQ_rows iQ_allRows iQ_columns ++ (WW nW hw lw kw wl_x2 wb_x2 wG_x2)) → va_S A s.heap H locs → lv_has ls 6 [(2, .int l2_x2), (0, .ref (hQ 0)), (1, .int p1)] → W p l e _ s m _ below meth c H locs 0 0 _ (F0 m 2 ls [])) => loop (1000001) fQ_inside fQ_outside wl wb wG 0 _ _ _ b_wl b_wb (show 0 ≤ (0 : Int32).toInt ∧ (0 : Int32).toInt ≤ 1000000 from by decide) ((by have e9 : (0 : Int32).toInt = 0 := (by decide : (0 : Int32).toInt = 0); omega)) hP hD hS hl) ?_
  intro n9
  induction n9 with
  | zero => intro fQ_inside_x2 fQ_outside_x2 wl_x2 wb_x2 wG_x2 l2_x2 H locs ls b_wl_x2 b_wb_x2 b_l2_x2 hf9; exact False.elim (by omega)
  | succ n9 ihx2 =>
    intro fQ_inside_x2 fQ_outside_x2 wl_x2 wb_x2 wG_x2 l2_x2 H locs ls b_wl_x2 b_wb_x2 b_l2_x2 hfx2 hP hD hS hl
    refine lv_iload_n hx hb dX6_sink_2 rfl (lv_at hl 0 rfl) ?_
    refine lv_ldc (v := 1000000) hx hb hown (hts (.constant RX6 83 1000000) (by decide +kernel)) dX6_sink_3 ?_
    refine lv_icmp_ge (tgt := 96) hx hb dX6_sink_5 (by decide) (fun c_5 => ?_) (fun c_5 => ?_)
    · have t_5 : l2_x2.toInt ≥ 1000000 := toI_ge c_5 rfl (by decide : (1000000 : Int32).toInt = 1000000)
      refine lv_iconst (v := 0) hx hb dX6_sink_96 (by decide) ?_
      refine W.widen (k := 0) (n := 0) (by decide +kernel) (by decide +kernel) ?_
      exact W.zret (v := 0) hx hb hr rfl (fun t9_ ht hW => ⟨⟨(0 : Int32), (fQ_inside_x2, fQ_outside_x2, wl_x2, wb_x2, wG_x2), rfl, ⟨b_wl_x2, b_wb_x2, (show 0 ≤ (0 : Int32).toInt ∧ (0 : Int32).toInt ≤ 1 from by decide)⟩, by rw [ht]; exact hP, hD⟩, hS.F ht⟩) hS.2.2 dX6_sink_97
    · have t_5 : ¬ l2_x2.toInt ≥ 1000000 := toI_nge c_5 rfl (by decide : (1000000 : Int32).toInt = 1000000)
      refine lv_aload_n hx hb dX6_sink_8 rfl (lv_at hl 1 rfl) ?_
      refine lv_iload_n hx hb dX6_sink_9 rfl (lv_at hl 2 rfl) ?_
      have hFc := allFree hD hS hA
      refine va_calli (va_runV (As := [.int p1]) (rest := []) ⟨hx, hb, hml, hown, hts⟩ (m_X6_rowOf l dC dI hQ aQ kQ hw fQ_inside_x2 fQ_outside_x2 fQ_shut iQ_rows iQ_allRows iQ_columns nW lw kw wl_x2 wb_x2 wG_x2 p1 (b_iQ_rows) (b_iQ_allRows) (b_iQ_columns) (by first | with_reducible assumption | omega | assumption) b_wl_x2 b_wb_x2 (by first | with_reducible assumption | omega | (rw [iI_t (by omega) (by omega)]; omega) | decide | assumption) H.size) (cwV 1 hts gwsMX6_sink_0 rfl rfl rfl hd_yX6_rowOf_RX6 (by decide +kernel)) (fz_pre (va_recv hK hP (ci := 6) (q0 := 0) rfl rfl) hP hK hD) rfl rfl hl.1 rfl (lv_room (Nat.le_of_ble_eq_true rfl)) dX6_sink_10 (by decide +kernel)) hS (fun q _ h => hFc q h) hFc (fun r13 u t9_ H locs ht hvm hw9 hB9 hz1 hk1 hS => ?_)
      revert hw9
      refine fz_a2 ?_
      intro b_r13 f13_0
      have hP : va_P (dC, dI) vwCl (WQ hQ aQ kQ hw fQ_inside_x2 fQ_outside_x2 fQ_shut iQ_rows iQ_allRows iQ_columns ++ (WW nW hw lw kw wl_x2 wb_x2 wG_x2)) H := fz_P ht hB9.1
      have hD := fz_sd hP (hB9.2.weaken (fun _ q _ h => hFc q.1 h)) rfl
      refine lv_istore_n hx hb dX6_sink_13 rfl hl (by decide) rfl (fun ls (hl : lv_has ls _ ([(3, .int r13), (2, .int l2_x2), (0, .ref (hQ 0)), (1, .int p1)])) => ?_)
      refine lv_iload_n hx hb dX6_sink_14 rfl (lv_at hl 0 rfl) ?_
      refine lv_iconst (v := (-1)) hx hb dX6_sink_15 (by decide) ?_
      refine lv_icmp_ne (tgt := 21) hx hb dX6_sink_16 (by decide) (fun c_16 => ?_) (fun c_16 => ?_)
      · have t_16 : r13.toInt ≠ (-1) := toI_ne c_16 rfl (by decide : ((-1) : Int32).toInt = (-1))
        refine lv_aload_n hx hb dX6_sink_21 rfl (lv_at hl 2 rfl) ?_
        refine lv_iload_n hx hb dX6_sink_22 rfl (lv_at hl 0 rfl) ?_
        refine lv_iconst (v := (-1)) hx hb dX6_sink_23 (by decide) ?_
        refine lv_iload_n hx hb dX6_sink_24 rfl (lv_at hl 1 rfl) ?_
        refine lv_bipush (v := 40) hx hb dX6_sink_25 (by decide) ?_
        refine W.cut (pc := 35) (fun H locs ls stk => ∃ (k0_j14 : Int32), (0 ≤ k0_j14.toInt ∧ k0_j14.toInt ≤ 1) ∧  stk = [.int k0_j14, .int (-1), .int r13, .ref (hQ 0)] ∧ va_P (dC, dI) vwCl (WQ hQ aQ kQ hw fQ_inside_x2 fQ_outside_x2 fQ_shut iQ_rows iQ_allRows iQ_columns ++ (WW nW hw lw kw wl_x2 wb_x2 wG_x2)) H ∧ va_D A (WQ hQ aQ kQ hw fQ_inside_x2 fQ_outside_x2 fQ_shut iQ_rows iQ_allRows iQ_columns ++ (WW nW hw lw kw wl_x2 wb_x2 wG_x2)) ∧ va_S A s.heap H locs ∧ lv_has ls 6 [(3, .int r13), (2, .int l2_x2), (0, .ref (hQ 0)), (1, .int p1)]) (fun join14 => ?_) ?_
        · refine lv_icmp_ge (tgt := 34) hx hb dX6_sink_27 (by decide) (fun c_27 => ?_) (fun c_27 => ?_)
          · have t_27 : l2_x2.toInt ≥ 40 := toI_ge c_27 rfl (by decide : (40 : Int32).toInt = 40)
            refine lv_iconst (v := 0) hx hb dX6_sink_34 (by decide) ?_
            have hl : lv_has _ _ ([(3, .int r13), (2, .int l2_x2), (0, .ref (hQ 0)), (1, .int p1)]) := lv_sub hl [0, 1, 2, 3] rfl
            exact join14 _ _ _ _ ⟨0, (show 0 ≤ (0 : Int32).toInt ∧ (0 : Int32).toInt ≤ 1 from by decide), rfl, hP, hD, hS, hl⟩
          · have t_27 : ¬ l2_x2.toInt ≥ 40 := toI_nge c_27 rfl (by decide : (40 : Int32).toInt = 40)
            refine lv_iconst (v := 1) hx hb dX6_sink_30 (by decide) ?_
            refine lv_goto (tgt := 35) hx hb dX6_sink_31 (by decide) ?_
            have hl : lv_has _ _ ([(3, .int r13), (2, .int l2_x2), (0, .ref (hQ 0)), (1, .int p1)]) := lv_sub hl [0, 1, 2, 3] rfl
            exact join14 _ _ _ _ ⟨1, (show 0 ≤ (1 : Int32).toInt ∧ (1 : Int32).toInt ≤ 1 from by decide), rfl, hP, hD, hS, hl⟩
        · rintro H locs ls stk ⟨k0_j14, b_k0_j14, rfl, hP, hD, hS, hl⟩
          have hFc := allFree hD hS hA
          refine va_calli (va_runV (As := [.int r13, .int (-1), .int k0_j14]) (rest := []) ⟨hx, hb, hml, hown, hts⟩ (m_X6_columnOfSign l dC dI hQ aQ kQ hw fQ_inside_x2 fQ_outside_x2 fQ_shut iQ_rows iQ_allRows iQ_columns nW lw kw wl_x2 wb_x2 wG_x2 r13 (-1) k0_j14 (b_iQ_rows) (b_iQ_allRows) (b_iQ_columns) (by first | with_reducible assumption | omega | assumption) b_wl_x2 b_wb_x2 (by first | exact b_r13 | with_reducible assumption | exact ⟨by omega, by omega⟩ | assumption) (by first | with_reducible assumption | omega | (rw [iI_t (by omega) (by omega)]; omega) | decide | assumption) (FitR.of b_tb (by omega) (by omega) (by omega)) H.size) (cwV 3 hts gwsMX6_sink_1 rfl rfl rfl hd_yX6_columnOfSign_RX6 (by decide +kernel)) (fz_pre (va_recv hK hP (ci := 6) (q0 := 0) rfl rfl) hP hK hD) rfl rfl hl.1 rfl (lv_room (Nat.le_of_ble_eq_true rfl)) dX6_sink_35 (by decide +kernel)) hS (fun q _ h => hFc q h) hFc (fun r14 u t9_ H locs ht hvm hw9 hB9 hz1 hk1 hS => ?_)
          revert hw9
          refine fz_a2 ?_
          intro b_r14 f14_0
          have hP : va_P (dC, dI) vwCl (WQ hQ aQ kQ hw fQ_inside_x2 fQ_outside_x2 fQ_shut iQ_rows iQ_allRows iQ_columns ++ (WW nW hw lw kw wl_x2 wb_x2 wG_x2)) H := fz_P ht hB9.1
          have hD := fz_sd hP (hB9.2.weaken (fun _ q _ h => hFc q.1 h)) rfl
          refine lv_istore hx hb dX6_sink_38 hl (by decide) rfl (fun ls (hl : lv_has ls _ ([(4, .int r14), (3, .int r13), (2, .int l2_x2), (0, .ref (hQ 0)), (1, .int p1)])) => ?_)
          refine lv_iload hx hb dX6_sink_40 (lv_at hl 0 rfl) ?_
          refine lv_iconst (v := (-1)) hx hb dX6_sink_42 (by decide) ?_
          refine lv_icmp_ne (tgt := 50) hx hb dX6_sink_43 (by decide) (fun c_43 => ?_) (fun c_43 => ?_)
          · have t_43 : r14.toInt ≠ (-1) := toI_ne c_43 rfl (by decide : ((-1) : Int32).toInt = (-1))
            refine lv_aload_n hx hb dX6_sink_50 rfl (lv_at hl 3 rfl) ?_
            refine lv_iload hx hb dX6_sink_51 (lv_at hl 0 rfl) ?_
            have hFc := allFree hD hS hA
            refine va_calli (va_runV (As := [.int r14]) (rest := []) ⟨hx, hb, hml, hown, hts⟩ (m_X6_tightest l dC dI hQ aQ kQ hw fQ_inside_x2 fQ_outside_x2 fQ_shut iQ_rows iQ_allRows iQ_columns nW lw kw wl_x2 wb_x2 wG_x2 r14 (b_iQ_rows) (b_iQ_allRows) (b_iQ_columns) (by first | with_reducible assumption | omega | assumption) b_wl_x2 b_wb_x2 (by first | exact b_r14 | with_reducible assumption | exact ⟨by omega, by omega⟩ | assumption) (by first | with_reducible assumption | omega | (rw [iI_t (by omega) (by omega)]; omega) | decide | assumption) (by first | with_reducible assumption | omega | (rw [iI_t (by omega) (by omega)]; omega) | decide | assumption) H.size) (cwV 1 hts gwsMX6_sink_2 rfl rfl rfl hd_yX6_tightest_RX6 (by decide +kernel)) (fz_pre (va_recv hK hP (ci := 6) (q0 := 0) rfl rfl) hP hK hD) rfl rfl hl.1 rfl (lv_room (Nat.le_of_ble_eq_true rfl)) dX6_sink_53 (by decide +kernel)) hS (fun q _ h => hFc q h) hFc (fun r15 u t9_ H locs ht hvm hw9 hB9 hz1 hk1 hS => ?_)
            revert u hw9 hB9
            refine fz_p3 ?_
            intro wl_15 wb_15 wG_15 hw9 hB9
            try dsimp only at hw9 hB9
            revert hw9
            refine fz_a4 ?_
            intro b_wl_15 b_wb_15 b_r15 f15_0
            have hP : va_P (dC, dI) vwCl (WQ hQ aQ kQ hw fQ_inside_x2 fQ_outside_x2 fQ_shut iQ_rows iQ_allRows iQ_columns ++ (WW nW hw lw kw wl_15 wb_15 wG_15)) H := fz_P ht hB9.1
            have hD := fz_sd hP (hB9.2.weaken (fun _ q _ h => hFc q.1 h)) rfl
            refine lv_istore hx hb dX6_sink_56 hl (by decide) rfl (fun ls (hl : lv_has ls _ ([(5, .int r15), (4, .int r14), (3, .int r13), (2, .int l2_x2), (0, .ref (hQ 0)), (1, .int p1)])) => ?_)
            refine lv_iload hx hb dX6_sink_58 (lv_at hl 0 rfl) ?_
            refine lv_iconst (v := (-1)) hx hb dX6_sink_60 (by decide) ?_
            refine lv_icmp_ne (tgt := 82) hx hb dX6_sink_61 (by decide) (fun c_61 => ?_) (fun c_61 => ?_)
            · have t_61 : r15.toInt ≠ (-1) := toI_ne c_61 rfl (by decide : ((-1) : Int32).toInt = (-1))
              refine lv_aload_n hx hb dX6_sink_82 rfl (lv_at hl 4 rfl) ?_
              refine lv_iload hx hb dX6_sink_83 (lv_at hl 0 rfl) ?_
              refine lv_iload hx hb dX6_sink_85 (lv_at hl 1 rfl) ?_
              have hFc := allFree hD hS hA
              refine va_callv (va_runV (As := [.int r15, .int r14]) (rest := []) ⟨hx, hb, hml, hown, hts⟩ (m_X6_exchange l dC dI hQ aQ kQ hw fQ_inside_x2 fQ_outside_x2 fQ_shut iQ_rows iQ_allRows iQ_columns nW lw kw wl_15 wb_15 wG_15 r15 r14 (b_iQ_rows) (b_iQ_allRows) (b_iQ_columns) (by first | with_reducible assumption | omega | assumption) b_wl_15 b_wb_15 (by first | exact b_r15 | with_reducible assumption | exact ⟨by omega, by omega⟩ | assumption) (by first | exact b_r14 | with_reducible assumption | exact ⟨by omega, by omega⟩ | assumption) (by first | with_reducible assumption | omega | (rw [iI_t (by omega) (by omega)]; omega) | decide | assumption) (FitR.of b_tb (by omega) (by omega) (by omega)) (by first | with_reducible assumption | omega | (rw [iI_t (by omega) (by omega)]; omega) | decide | assumption) H.size) (cwV 2 hts gwsMX6_sink_3 rfl rfl rfl hd_yX6_exchange_RX6 (by decide +kernel)) (fz_pre (va_recv hK hP (ci := 6) (q0 := 0) rfl rfl) hP hK hD) rfl rfl hl.1 rfl (lv_room (Nat.le_of_ble_eq_true rfl)) dX6_sink_87 (by decide +kernel)) hS (fun q _ h => hFc q h) hFc (fun u t9_ H locs ht hvm hw9 hB9 hz1 hk1 hS => ?_)
              revert u hw9 hB9
              refine fz_p5 ?_
              intro fQ_inside_16 fQ_outside_16 wl_16 wb_16 wG_16 hw9 hB9
              try dsimp only at hw9 hB9
              revert hw9
              refine fz_a2 ?_
              intro b_wl_16 b_wb_16
              have hP : va_P (dC, dI) vwCl (WQ hQ aQ kQ hw fQ_inside_16 fQ_outside_16 fQ_shut iQ_rows iQ_allRows iQ_columns ++ (WW nW hw lw kw wl_16 wb_16 wG_16)) H := fz_P ht hB9.1
              have hD := fz_sd hP (hB9.2.weaken (fun _ q _ h => hFc q.1 h)) rfl
              refine lv_iinc (v := (iI (l2_x2.toInt + 1))) hx hb dX6_sink_90 hl (k := 3) rfl (iI_add2 (iI_of _) (by decide : (1 : Int32) = iI 1)) (by decide) rfl (fun ls (hl : lv_has ls _ ([(2, .int (iI (l2_x2.toInt + 1))), (5, .int r15), (4, .int r14), (3, .int r13), (0, .ref (hQ 0)), (1, .int p1)])) => ?_)
              refine lv_goto (tgt := 2) hx hb dX6_sink_93 (by decide) ?_
              have hl : lv_has _ _ ([(2, .int (iI (l2_x2.toInt + 1))), (0, .ref (hQ 0)), (1, .int p1)]) := lv_sub hl [0, 4, 5] rfl
              exact ihx2 fQ_inside_16 fQ_outside_16 wl_16 wb_16 wG_16 (iI (l2_x2.toInt + 1)) _ _ _ b_wl_16 b_wb_16 (iI_rng (Int.le_trans (by decide) (Int.add_le_add (b_l2_x2.1) (Int.le_refl _))) (by omega) (by decide) (by decide)) (by have e9 : ((iI (l2_x2.toInt + 1))).toInt = (l2_x2.toInt + 1) := (iI_t (Int.le_trans (by decide) (Int.add_le_add (b_l2_x2.1) (Int.le_refl _))) (Int.le_trans (Int.add_le_add (b_l2_x2.2) (Int.le_refl _)) (by decide))); omega) hP hD hS hl
            · have t_61 : r15.toInt = (-1) := toI_nne c_61 rfl (by decide : ((-1) : Int32).toInt = (-1))
              refine lv_aload_n hx hb dX6_sink_64 rfl (lv_at hl 4 rfl) ?_
              refine lv_iload_n hx hb dX6_sink_65 rfl (lv_at hl 2 rfl) ?_
              refine lv_iconst (v := 0) hx hb dX6_sink_66 (by decide) ?_
              have hFc := allFree hD hS hA
              refine va_callr (va_runV (As := [.int r13, .int 0]) (rest := []) ⟨hx, hb, hml, hown, hts⟩ (m_X6_cellAt l dC dI hQ aQ kQ hw fQ_inside_x2 fQ_outside_x2 fQ_shut iQ_rows iQ_allRows iQ_columns nW lw kw wl_15 wb_15 wG_15 r13 0 (b_iQ_rows) (b_iQ_allRows) (b_iQ_columns) (by first | with_reducible assumption | omega | assumption) b_wl_15 b_wb_15 (by first | exact b_r13 | with_reducible assumption | exact ⟨by omega, by omega⟩ | assumption) (show 0 ≤ (0 : Int32).toInt ∧ (0 : Int32).toInt ≤ 40 from by decide) (by first | with_reducible assumption | omega | (rw [iI_t (by omega) (by omega)]; omega) | decide | assumption) (cell_ix0 b_tb (by omega) (by omega) (by omega)) H.size) (cwV 2 hts gwsMX6_sink_4 rfl rfl rfl hd_yX6_cellAt_RX6 (by decide +kernel)) (fz_pre (va_recv hK hP (ci := 6) (q0 := 0) rfl rfl) hP hK hD) rfl rfl hl.1 rfl (lv_room (Nat.le_of_ble_eq_true rfl)) dX6_sink_67 (by decide +kernel)) hS (fun q _ h => hFc q h) hFc (fun kR_17 ra17 t9_ H locs ht hvm hw9 hB9 hz1 hk1 hS => ?_)
              revert hB9
              refine fz_a2 ?_
              intro hra hB9
              subst hra
              have f17_0 := hw9
              try dsimp only at f17_0
              have hP : va_P (dC, dI) vwCl (WQ hQ aQ kQ hw fQ_inside_x2 fQ_outside_x2 fQ_shut iQ_rows iQ_allRows iQ_columns ++ (WW nW hw lw kw wl_15 wb_15 wG_15)) H := fz_P ht hB9.1
              have hD := fz_sd hP (hB9.2.weaken (fun _ q _ h => hFc q.1 h)) rfl
              refine va_get (D := (dC, dI)) (ci := 8) (v := .int (wl_15 kR_17)) (C := RX8) (T := TX8) (N := 3) hx hb hts iwsMX6_sink_in8 hown hK hP (5 + (kR_17)) (apR rfl (WW_o (by omega))) rfl 1 (by decide) (hts _ hm_m_X6_sink_0) (fun _ h9 => h9) rfl dX6_sink_70 ?_
              have br70 := b_wl_15 kR_17
              refine W.cut (pc := 81) (fun H locs ls stk => ∃ (k0_j15 : Int32), (0 ≤ k0_j15.toInt ∧ k0_j15.toInt ≤ 1) ∧  stk = [.int k0_j15] ∧ va_P (dC, dI) vwCl (WQ hQ aQ kQ hw fQ_inside_x2 fQ_outside_x2 fQ_shut iQ_rows iQ_allRows iQ_columns ++ (WW nW hw lw kw wl_15 wb_15 wG_15)) H ∧ va_D A (WQ hQ aQ kQ hw fQ_inside_x2 fQ_outside_x2 fQ_shut iQ_rows iQ_allRows iQ_columns ++ (WW nW hw lw kw wl_15 wb_15 wG_15)) ∧ va_S A s.heap H locs ∧ lv_has ls 6 [(5, .int r15), (4, .int r14), (3, .int r13), (2, .int l2_x2), (0, .ref (hQ 0)), (1, .int p1)]) (fun join15 => ?_) ?_
              · refine lv_if_ne (tgt := 80) hx hb dX6_sink_73 (by decide) (fun c_73 => ?_) (fun c_73 => ?_)
                · have t_73 : (wl_15 kR_17).toInt ≠ 0 := toI_ne c_73 rfl (by decide : (0 : Int32).toInt = 0)
                  refine lv_iconst (v := 0) hx hb dX6_sink_80 (by decide) ?_
                  have hl : lv_has _ _ ([(5, .int r15), (4, .int r14), (3, .int r13), (2, .int l2_x2), (0, .ref (hQ 0)), (1, .int p1)]) := lv_sub hl [0, 1, 2, 3, 4, 5] rfl
                  exact join15 _ _ _ _ ⟨0, (show 0 ≤ (0 : Int32).toInt ∧ (0 : Int32).toInt ≤ 1 from by decide), rfl, hP, hD, hS, hl⟩
                · have t_73 : (wl_15 kR_17).toInt = 0 := toI_nne c_73 rfl (by decide : (0 : Int32).toInt = 0)
                  refine lv_iconst (v := 1) hx hb dX6_sink_76 (by decide) ?_
                  refine lv_goto (tgt := 81) hx hb dX6_sink_77 (by decide) ?_
                  have hl : lv_has _ _ ([(5, .int r15), (4, .int r14), (3, .int r13), (2, .int l2_x2), (0, .ref (hQ 0)), (1, .int p1)]) := lv_sub hl [0, 1, 2, 3, 4, 5] rfl
                  exact join15 _ _ _ _ ⟨1, (show 0 ≤ (1 : Int32).toInt ∧ (1 : Int32).toInt ≤ 1 from by decide), rfl, hP, hD, hS, hl⟩
              · rintro H locs ls stk ⟨k0_j15, b_k0_j15, rfl, hP, hD, hS, hl⟩
                refine W.widen (k := 0) (n := 0) (by decide +kernel) (by decide +kernel) ?_
                exact W.zret (v := k0_j15) hx hb hr (by rcases z01 (x := k0_j15) (b_k0_j15) with h9 | h9 <;> rw [h9] <;> rfl) (fun t9_ ht hW => ⟨⟨k0_j15, (fQ_inside_x2, fQ_outside_x2, wl_15, wb_15, wG_15), rfl, ⟨b_wl_15, b_wb_15, (b_k0_j15)⟩, by rw [ht]; exact hP, hD⟩, hS.F ht⟩) hS.2.2 dX6_sink_81
          · have t_43 : r14.toInt = (-1) := toI_nne c_43 rfl (by decide : ((-1) : Int32).toInt = (-1))
            refine lv_iconst (v := (-1)) hx hb dX6_sink_46 (by decide) ?_
            refine lv_goto (tgt := 56) hx hb dX6_sink_47 (by decide) ?_
            refine lv_istore hx hb dX6_sink_56 hl (by decide) rfl (fun ls (hl : lv_has ls _ ([(5, .int (-1)), (4, .int r14), (3, .int r13), (2, .int l2_x2), (0, .ref (hQ 0)), (1, .int p1)])) => ?_)
            refine lv_iload hx hb dX6_sink_58 (lv_at hl 0 rfl) ?_
            refine lv_iconst (v := (-1)) hx hb dX6_sink_60 (by decide) ?_
            refine lv_icmp_ne (tgt := 82) hx hb dX6_sink_61 (by decide) (fun c9 => absurd c9 (by decide)) (fun _ => ?_)
            refine lv_aload_n hx hb dX6_sink_64 rfl (lv_at hl 4 rfl) ?_
            refine lv_iload_n hx hb dX6_sink_65 rfl (lv_at hl 2 rfl) ?_
            refine lv_iconst (v := 0) hx hb dX6_sink_66 (by decide) ?_
            have hFc := allFree hD hS hA
            refine va_callr (va_runV (As := [.int r13, .int 0]) (rest := []) ⟨hx, hb, hml, hown, hts⟩ (m_X6_cellAt l dC dI hQ aQ kQ hw fQ_inside_x2 fQ_outside_x2 fQ_shut iQ_rows iQ_allRows iQ_columns nW lw kw wl_x2 wb_x2 wG_x2 r13 0 (b_iQ_rows) (b_iQ_allRows) (b_iQ_columns) (by first | with_reducible assumption | omega | assumption) b_wl_x2 b_wb_x2 (by first | exact b_r13 | with_reducible assumption | exact ⟨by omega, by omega⟩ | assumption) (show 0 ≤ (0 : Int32).toInt ∧ (0 : Int32).toInt ≤ 40 from by decide) (by first | with_reducible assumption | omega | (rw [iI_t (by omega) (by omega)]; omega) | decide | assumption) (cell_ix0 b_tb (by omega) (by omega) (by omega)) H.size) (cwV 2 hts gwsMX6_sink_4 rfl rfl rfl hd_yX6_cellAt_RX6 (by decide +kernel)) (fz_pre (va_recv hK hP (ci := 6) (q0 := 0) rfl rfl) hP hK hD) rfl rfl hl.1 rfl (lv_room (Nat.le_of_ble_eq_true rfl)) dX6_sink_67 (by decide +kernel)) hS (fun q _ h => hFc q h) hFc (fun kR_18 ra18 t9_ H locs ht hvm hw9 hB9 hz1 hk1 hS => ?_)
            revert hB9
            refine fz_a2 ?_
            intro hra hB9
            subst hra
            have f18_0 := hw9
            try dsimp only at f18_0
            have hP : va_P (dC, dI) vwCl (WQ hQ aQ kQ hw fQ_inside_x2 fQ_outside_x2 fQ_shut iQ_rows iQ_allRows iQ_columns ++ (WW nW hw lw kw wl_x2 wb_x2 wG_x2)) H := fz_P ht hB9.1
            have hD := fz_sd hP (hB9.2.weaken (fun _ q _ h => hFc q.1 h)) rfl
            refine va_get (D := (dC, dI)) (ci := 8) (v := .int (wl_x2 kR_18)) (C := RX8) (T := TX8) (N := 3) hx hb hts iwsMX6_sink_in8 hown hK hP (5 + (kR_18)) (apR rfl (WW_o (by omega))) rfl 1 (by decide) (hts _ hm_m_X6_sink_0) (fun _ h9 => h9) rfl dX6_sink_70 ?_
            have br70 := b_wl_x2 kR_18
            refine W.cut (pc := 81) (fun H locs ls stk => ∃ (k0_j16 : Int32), (0 ≤ k0_j16.toInt ∧ k0_j16.toInt ≤ 1) ∧  stk = [.int k0_j16] ∧ va_P (dC, dI) vwCl (WQ hQ aQ kQ hw fQ_inside_x2 fQ_outside_x2 fQ_shut iQ_rows iQ_allRows iQ_columns ++ (WW nW hw lw kw wl_x2 wb_x2 wG_x2)) H ∧ va_D A (WQ hQ aQ kQ hw fQ_inside_x2 fQ_outside_x2 fQ_shut iQ_rows iQ_allRows iQ_columns ++ (WW nW hw lw kw wl_x2 wb_x2 wG_x2)) ∧ va_S A s.heap H locs ∧ lv_has ls 6 [(5, .int (-1)), (4, .int r14), (3, .int r13), (2, .int l2_x2), (0, .ref (hQ 0)), (1, .int p1)]) (fun join16 => ?_) ?_
            · refine lv_if_ne (tgt := 80) hx hb dX6_sink_73 (by decide) (fun c_73 => ?_) (fun c_73 => ?_)
              · have t_73 : (wl_x2 kR_18).toInt ≠ 0 := toI_ne c_73 rfl (by decide : (0 : Int32).toInt = 0)
                refine lv_iconst (v := 0) hx hb dX6_sink_80 (by decide) ?_
                have hl : lv_has _ _ ([(5, .int (-1)), (4, .int r14), (3, .int r13), (2, .int l2_x2), (0, .ref (hQ 0)), (1, .int p1)]) := lv_sub hl [0, 1, 2, 3, 4, 5] rfl
                exact join16 _ _ _ _ ⟨0, (show 0 ≤ (0 : Int32).toInt ∧ (0 : Int32).toInt ≤ 1 from by decide), rfl, hP, hD, hS, hl⟩
              · have t_73 : (wl_x2 kR_18).toInt = 0 := toI_nne c_73 rfl (by decide : (0 : Int32).toInt = 0)
                refine lv_iconst (v := 1) hx hb dX6_sink_76 (by decide) ?_
                refine lv_goto (tgt := 81) hx hb dX6_sink_77 (by decide) ?_
                have hl : lv_has _ _ ([(5, .int (-1)), (4, .int r14), (3, .int r13), (2, .int l2_x2), (0, .ref (hQ 0)), (1, .int p1)]) := lv_sub hl [0, 1, 2, 3, 4, 5] rfl
                exact join16 _ _ _ _ ⟨1, (show 0 ≤ (1 : Int32).toInt ∧ (1 : Int32).toInt ≤ 1 from by decide), rfl, hP, hD, hS, hl⟩
            · rintro H locs ls stk ⟨k0_j16, b_k0_j16, rfl, hP, hD, hS, hl⟩
              refine W.widen (k := 0) (n := 0) (by decide +kernel) (by decide +kernel) ?_
              exact W.zret (v := k0_j16) hx hb hr (by rcases z01 (x := k0_j16) (b_k0_j16) with h9 | h9 <;> rw [h9] <;> rfl) (fun t9_ ht hW => ⟨⟨k0_j16, (fQ_inside_x2, fQ_outside_x2, wl_x2, wb_x2, wG_x2), rfl, ⟨b_wl_x2, b_wb_x2, (b_k0_j16)⟩, by rw [ht]; exact hP, hD⟩, hS.F ht⟩) hS.2.2 dX6_sink_81
      · have t_16 : r13.toInt = (-1) := toI_nne c_16 rfl (by decide : ((-1) : Int32).toInt = (-1))
        refine lv_iconst (v := 1) hx hb dX6_sink_19 (by decide) ?_
        refine W.widen (k := 0) (n := 0) (by decide +kernel) (by decide +kernel) ?_
        exact W.zret (v := 1) hx hb hr rfl (fun t9_ ht hW => ⟨⟨(1 : Int32), (fQ_inside_x2, fQ_outside_x2, wl_x2, wb_x2, wG_x2), rfl, ⟨b_wl_x2, b_wb_x2, (show 0 ≤ (1 : Int32).toInt ∧ (1 : Int32).toInt ≤ 1 from by decide)⟩, by rw [ht]; exact hP, hD⟩, hS.F ht⟩) hS.2.2 dX6_sink_20
theorem dX6_keepSunk_0 : decode cX6_keepSunk 0 = .ok (.aload_n 0, 1) := dk_42 (by decide +kernel)
theorem dX6_keepSunk_1 : decode cX6_keepSunk 1 = .ok (.iload_n 1, 1) := dk_27 (by decide +kernel)
theorem dX6_keepSunk_2 : decode cX6_keepSunk 2 = .ok (.invokevirtual 107, 3) := dk_182 (by decide +kernel)
theorem dX6_keepSunk_5 : decode cX6_keepSunk 5 = .ok (.istore_n 2, 1) := dk_61 (by decide +kernel)
theorem dX6_keepSunk_6 : decode cX6_keepSunk 6 = .ok (.iload_n 2, 1) := dk_28 (by decide +kernel)
theorem dX6_keepSunk_7 : decode cX6_keepSunk 7 = .ok (.iconst (-1), 1) := dk_2 (by decide +kernel)
theorem dX6_keepSunk_8 : decode cX6_keepSunk 8 = .ok (.if_icmp .eq 11, 3) := dk_159 (by decide +kernel)
theorem dX6_keepSunk_11 : decode cX6_keepSunk 11 = .ok (.aload_n 0, 1) := dk_42 (by decide +kernel)
theorem dX6_keepSunk_12 : decode cX6_keepSunk 12 = .ok (.iload_n 2, 1) := dk_28 (by decide +kernel)
theorem dX6_keepSunk_13 : decode cX6_keepSunk 13 = .ok (.invokevirtual 103, 3) := dk_182 (by decide +kernel)
theorem dX6_keepSunk_16 : decode cX6_keepSunk 16 = .ok (.goto 8, 3) := dk_167 (by decide +kernel)
theorem dX6_keepSunk_19 : decode cX6_keepSunk 19 = .ok (.aload_n 0, 1) := dk_42 (by decide +kernel)
theorem dX6_keepSunk_20 : decode cX6_keepSunk 20 = .ok (.iload_n 1, 1) := dk_27 (by decide +kernel)
theorem dX6_keepSunk_21 : decode cX6_keepSunk 21 = .ok (.invokevirtual 110, 3) := dk_182 (by decide +kernel)
theorem dX6_keepSunk_24 : decode cX6_keepSunk 24 = .ok (.return_, 1) := dk_177 (by decide +kernel)
def wsMX6_keepSunk : List Cond := .code yX6_keepSunk cX6_keepSunk 3 none :: ([] ++ (wsV RX6 107 RX6 yX6_rowOf wsMX6_rowOf) ++ (wsV RX6 110 RX6 yX6_shutOutside wsMX6_shutOutside) ++ (wsV RX6 103 RX6 yX6_shutWith wsMX6_shutWith))
theorem gwsMX6_keepSunk_0 : GoodIn wsMX6_keepSunk (wsV RX6 107 RX6 yX6_rowOf wsMX6_rowOf) := goodIn_sub (fun _ h => List.mem_cons_of_mem _ (List.mem_append_left _ (List.mem_append_left _ (List.mem_append_right _ h)))) (gdV (by decide +kernel) gdwsMX6_rowOf)
theorem gwsMX6_keepSunk_1 : GoodIn wsMX6_keepSunk (wsV RX6 110 RX6 yX6_shutOutside wsMX6_shutOutside) := goodIn_sub (fun _ h => List.mem_cons_of_mem _ (List.mem_append_left _ (List.mem_append_right _ h))) (gdV (by decide +kernel) gdwsMX6_shutOutside)
theorem gwsMX6_keepSunk_2 : GoodIn wsMX6_keepSunk (wsV RX6 103 RX6 yX6_shutWith wsMX6_shutWith) := goodIn_sub (fun _ h => List.mem_cons_of_mem _ (List.mem_append_right _ h)) (gdV (by decide +kernel) gdwsMX6_shutWith)
theorem gdwsMX6_keepSunk : wsMX6_keepSunk.all goodWord = true := gdC rfl (gdA (gdA (gdA (by decide +kernel : ([] : List Cond).all goodWord = true) (gdV (by decide +kernel) gdwsMX6_rowOf)) (gdV (by decide +kernel) gdwsMX6_shutOutside)) (gdV (by decide +kernel) gdwsMX6_shutWith))
set_option maxHeartbeats 4000000 in
set_option maxRecDepth 100000 in
/-- it stays so -/
theorem m_X6_keepSunk (l : Launch) (dC : Nat → ClassId) (dI : Nat → Nat → Nat) (hQ : Nat → Nat) (aQ : Nat → Nat) (kQ : Nat → ClassId) (hw : Nat → Nat) (fQ_inside : Nat → Int32) (fQ_outside : Nat → Int32) (fQ_shut : Nat → Int32) (iQ_rows : Int32) (iQ_allRows : Int32) (iQ_columns : Int32) (nW : Nat) (lw : Nat → Nat) (kw : ClassId) (wl : Nat → Int32) (wb : Nat → Int32) (wG : Nat → Nat → Int64) (p1 : Int32) (b_iQ_rows : 0 ≤ iQ_rows.toInt ∧ iQ_rows.toInt ≤ 40) (b_iQ_allRows : 0 ≤ iQ_allRows.toInt ∧ iQ_allRows.toInt ≤ 40) (b_iQ_columns : 0 ≤ iQ_columns.toInt ∧ iQ_columns.toInt ≤ 40) (b_tb : TbO iQ_rows iQ_allRows iQ_columns) (b_wl : ∀ q : Nat, 0 ≤ (wl q).toInt ∧ (wl q).toInt ≤ 14) (b_wb : ∀ q : Nat, 0 ≤ (wb q).toInt ∧ (wb q).toInt ≤ 1) (hnW : 406 ≤ nW) (sz : Nat) : Met l yX6_keepSunk wsMX6_keepSunk ({ frames := 2, cells := 0, slots := 0, locals := 44 }) (va_Pc [.ref (hQ 0), .int p1] (fun U => U.heap.size = sz ∧ va_P (dC, dI) vwCl (WQ hQ aQ kQ hw fQ_inside fQ_outside fQ_shut iQ_rows iQ_allRows iQ_columns ++ (WW nW hw lw kw wl wb wG)) U.heap ∧ va_K (dC, dI) vwCl (tQ kQ ++ (tW kw)) U ∧ va_D (fun _ => True) (WQ hQ aQ kQ hw fQ_inside fQ_outside fQ_shut iQ_rows iQ_allRows iQ_columns ++ (WW nW hw lw kw wl wb wG)))) (va_Qv (fun (u : Nat → Int32) => True) (fun (u : Nat → Int32) t => va_P (dC, dI) vwCl (WQ hQ aQ kQ hw fQ_inside fQ_outside u iQ_rows iQ_allRows iQ_columns ++ (WW nW hw lw kw wl wb wG)) t.heap ∧ va_D (va_A (WQ hQ aQ kQ hw fQ_inside fQ_outside fQ_shut iQ_rows iQ_allRows iQ_columns ++ (WW nW hw lw kw wl wb wG)) sz) (WQ hQ aQ kQ hw fQ_inside fQ_outside u iQ_rows iQ_allRows iQ_columns ++ (WW nW hw lw kw wl wb wG))) (va_A (WQ hQ aQ kQ hw fQ_inside fQ_outside fQ_shut iQ_rows iQ_allRows iQ_columns ++ (WW nW hw lw kw wl wb wG)) sz)) 0 0 (va_A (WQ hQ aQ kQ hw fQ_inside fQ_outside fQ_shut iQ_rows iQ_allRows iQ_columns ++ (WW nW hw lw kw wl wb wG)) sz) := by
  refine Met.ofW (cc := cX6_keepSunk) (maxL := 3) (ret := none) (by decide) rfl ?_
  intro p e s m args below meth c s₁ B hml hv
  obtain ⟨rfl, hsz, hP, hK, hD0⟩ := hv
  have hx := B.exec
  have hb := B.bytes
  have hr := B.returns
  have hts := atoms_spec (ws := wsMX6_keepSunk) B.pre
  have hown : s.vm.findClass RX6 = some m.cls := findClass_of_methodNamed B.named
  have hlocks := B.notSynchronized
  subst hsz
  have hD := hD0.self (sz := s.heap.size)
  generalize hAe : va_A (WQ hQ aQ kQ hw fQ_inside fQ_outside fQ_shut iQ_rows iQ_allRows iQ_columns ++ (WW nW hw lw kw wl wb wG)) s.heap.size = A at hD ⊢
  have hA : ∀ q : Nat, s.heap.size ≤ q → A q := fun q h => by rw [← hAe]; exact Or.inr h
  have hS : va_S A s.heap s.heap [] := va_S.rf
  have hl := lv_entry ([.ref (hQ 0), .int p1]) (n := 3) (Nat.le_of_ble_eq_true rfl)
  rw [lg_entry_eq]
  generalize (lg_sl ([.ref (hQ 0), .int p1]) ++ List.replicate (3 - (lg_sl ([.ref (hQ 0), .int p1])).length) Slot.unset).toArray = ls at hl ⊢
  have hl : lv_has ls 3 [(0, .ref (hQ 0)), (1, .int p1)] := hl
  have hTb := b_tb.1
  refine lv_aload_n hx hb dX6_keepSunk_0 rfl (lv_at hl 0 rfl) ?_
  refine lv_iload_n hx hb dX6_keepSunk_1 rfl (lv_at hl 1 rfl) ?_
  have hFc := allFree hD hS hA
  refine va_calli (va_runV (As := [.int p1]) (rest := []) ⟨hx, hb, hml, hown, hts⟩ (m_X6_rowOf l dC dI hQ aQ kQ hw fQ_inside fQ_outside fQ_shut iQ_rows iQ_allRows iQ_columns nW lw kw wl wb wG p1 (b_iQ_rows) (b_iQ_allRows) (b_iQ_columns) (by first | with_reducible assumption | omega | assumption) b_wl b_wb (by first | with_reducible assumption | omega | (rw [iI_t (by omega) (by omega)]; omega) | decide | assumption) s.heap.size) (cwV 1 hts gwsMX6_keepSunk_0 rfl rfl rfl hd_yX6_rowOf_RX6 (by decide +kernel)) (fz_pre (va_recv hK hP (ci := 6) (q0 := 0) rfl rfl) hP hK hD) rfl rfl hl.1 rfl (lv_room (Nat.le_of_ble_eq_true rfl)) dX6_keepSunk_2 (by decide +kernel)) hS (fun q _ h => hFc q h) hFc (fun r1 u t9_ H locs ht hvm hw9 hB9 hz1 hk1 hS => ?_)
  revert hw9
  refine fz_a2 ?_
  intro b_r1 f1_0
  have hP : va_P (dC, dI) vwCl (WQ hQ aQ kQ hw fQ_inside fQ_outside fQ_shut iQ_rows iQ_allRows iQ_columns ++ (WW nW hw lw kw wl wb wG)) H := fz_P ht hB9.1
  have hD := fz_sd hP (hB9.2.weaken (fun _ q _ h => hFc q.1 h)) rfl
  refine lv_istore_n hx hb dX6_keepSunk_5 rfl hl (by decide) rfl (fun ls (hl : lv_has ls _ ([(2, .int r1), (0, .ref (hQ 0)), (1, .int p1)])) => ?_)
  refine lv_iload_n hx hb dX6_keepSunk_6 rfl (lv_at hl 0 rfl) ?_
  refine lv_iconst (v := (-1)) hx hb dX6_keepSunk_7 (by decide) ?_
  refine W.cut (pc := 24) (fun H locs ls stk => ∃ (fQ_shut_j2 : Nat → Int32),  stk = [] ∧ va_P (dC, dI) vwCl (WQ hQ aQ kQ hw fQ_inside fQ_outside fQ_shut_j2 iQ_rows iQ_allRows iQ_columns ++ (WW nW hw lw kw wl wb wG)) H ∧ va_D A (WQ hQ aQ kQ hw fQ_inside fQ_outside fQ_shut_j2 iQ_rows iQ_allRows iQ_columns ++ (WW nW hw lw kw wl wb wG)) ∧ va_S A s.heap H locs ∧ lv_has ls 3 [(2, .int r1), (0, .ref (hQ 0)), (1, .int p1)]) (fun join2 => ?_) ?_
  · refine lv_icmp_eq (tgt := 19) hx hb dX6_keepSunk_8 (by decide) (fun c_8 => ?_) (fun c_8 => ?_)
    · have t_8 : r1.toInt = (-1) := toI_eq c_8 rfl (by decide : ((-1) : Int32).toInt = (-1))
      refine lv_aload_n hx hb dX6_keepSunk_19 rfl (lv_at hl 1 rfl) ?_
      refine lv_iload_n hx hb dX6_keepSunk_20 rfl (lv_at hl 2 rfl) ?_
      have hFc := allFree hD hS hA
      refine va_callv (va_runV (As := [.int p1]) (rest := []) ⟨hx, hb, hml, hown, hts⟩ (m_X6_shutOutside l dC dI hQ aQ kQ hw fQ_inside fQ_outside fQ_shut iQ_rows iQ_allRows iQ_columns nW lw kw wl wb wG p1 (b_iQ_rows) (b_iQ_allRows) (b_iQ_columns) (by first | with_reducible assumption | omega | assumption) b_wl b_wb (by first | with_reducible assumption | omega | (rw [iI_t (by omega) (by omega)]; omega) | decide | assumption) H.size) (cwV 1 hts gwsMX6_keepSunk_1 rfl rfl rfl hd_yX6_shutOutside_RX6 (by decide +kernel)) (fz_pre (va_recv hK hP (ci := 6) (q0 := 0) rfl rfl) hP hK hD) rfl rfl hl.1 rfl (lv_room (Nat.le_of_ble_eq_true rfl)) dX6_keepSunk_21 (by decide +kernel)) hS (fun q _ h => hFc q h) hFc (fun fQ_shut_4 t9_ H locs ht hvm hw9 hB9 hz1 hk1 hS => ?_)
      clear hw9
      have hP : va_P (dC, dI) vwCl (WQ hQ aQ kQ hw fQ_inside fQ_outside fQ_shut_4 iQ_rows iQ_allRows iQ_columns ++ (WW nW hw lw kw wl wb wG)) H := fz_P ht hB9.1
      have hD := fz_sd hP (hB9.2.weaken (fun _ q _ h => hFc q.1 h)) rfl
      have hl : lv_has _ _ ([(2, .int r1), (0, .ref (hQ 0)), (1, .int p1)]) := lv_sub hl [0, 1, 2] rfl
      exact join2 _ _ _ _ ⟨fQ_shut_4, rfl, hP, hD, hS, hl⟩
    · have t_8 : ¬ r1.toInt = (-1) := toI_neq c_8 rfl (by decide : ((-1) : Int32).toInt = (-1))
      refine lv_aload_n hx hb dX6_keepSunk_11 rfl (lv_at hl 1 rfl) ?_
      refine lv_iload_n hx hb dX6_keepSunk_12 rfl (lv_at hl 0 rfl) ?_
      have hFc := allFree hD hS hA
      refine va_callv (va_runV (As := [.int r1]) (rest := []) ⟨hx, hb, hml, hown, hts⟩ (m_X6_shutWith l dC dI hQ aQ kQ hw fQ_inside fQ_outside fQ_shut iQ_rows iQ_allRows iQ_columns nW lw kw wl wb wG r1 (b_iQ_rows) (b_iQ_allRows) (b_iQ_columns) (by first | with_reducible assumption | omega | assumption) b_wl b_wb (by first | exact b_r1 | with_reducible assumption | exact ⟨by omega, by omega⟩ | assumption) (by first | with_reducible assumption | omega | (rw [iI_t (by omega) (by omega)]; omega) | decide | assumption) (FitR.of b_tb (by omega) (by omega) (by omega)) H.size) (cwV 1 hts gwsMX6_keepSunk_2 rfl rfl rfl hd_yX6_shutWith_RX6 (by decide +kernel)) (fz_pre (va_recv hK hP (ci := 6) (q0 := 0) rfl rfl) hP hK hD) rfl rfl hl.1 rfl (lv_room (Nat.le_of_ble_eq_true rfl)) dX6_keepSunk_13 (by decide +kernel)) hS (fun q _ h => hFc q h) hFc (fun fQ_shut_5 t9_ H locs ht hvm hw9 hB9 hz1 hk1 hS => ?_)
      clear hw9
      have hP : va_P (dC, dI) vwCl (WQ hQ aQ kQ hw fQ_inside fQ_outside fQ_shut_5 iQ_rows iQ_allRows iQ_columns ++ (WW nW hw lw kw wl wb wG)) H := fz_P ht hB9.1
      have hD := fz_sd hP (hB9.2.weaken (fun _ q _ h => hFc q.1 h)) rfl
      refine lv_goto (tgt := 24) hx hb dX6_keepSunk_16 (by decide) ?_
      have hl : lv_has _ _ ([(2, .int r1), (0, .ref (hQ 0)), (1, .int p1)]) := lv_sub hl [0, 1, 2] rfl
      exact join2 _ _ _ _ ⟨fQ_shut_5, rfl, hP, hD, hS, hl⟩
  · rintro H locs ls stk ⟨fQ_shut_j2, rfl, hP, hD, hS, hl⟩
    refine W.widen (k := 0) (n := 0) (by decide +kernel) (by decide +kernel) ?_
    exact W.vret hx hb hr (fun t9_ ht hW => ⟨⟨fQ_shut_j2, rfl, trivial, by rw [ht]; exact hP, hD⟩, hS.F ht⟩) hS.2.2 dX6_keepSunk_24
theorem dX6_drop_0 : decode cX6_drop 0 = .ok (.aload_n 0, 1) := dk_42 (by decide +kernel)
theorem dX6_drop_1 : decode cX6_drop 1 = .ok (.iload_n 1, 1) := dk_27 (by decide +kernel)
theorem dX6_drop_2 : decode cX6_drop 2 = .ok (.invokevirtual 107, 3) := dk_182 (by decide +kernel)
theorem dX6_drop_5 : decode cX6_drop 5 = .ok (.istore_n 2, 1) := dk_61 (by decide +kernel)
theorem dX6_drop_6 : decode cX6_drop 6 = .ok (.iload_n 2, 1) := dk_28 (by decide +kernel)
theorem dX6_drop_7 : decode cX6_drop 7 = .ok (.iconst (-1), 1) := dk_2 (by decide +kernel)
theorem dX6_drop_8 : decode cX6_drop 8 = .ok (.if_icmp .ne 7, 3) := dk_160 (by decide +kernel)
theorem dX6_drop_11 : decode cX6_drop 11 = .ok (.iconst (-1), 1) := dk_2 (by decide +kernel)
theorem dX6_drop_12 : decode cX6_drop 12 = .ok (.goto 8, 3) := dk_167 (by decide +kernel)
theorem dX6_drop_15 : decode cX6_drop 15 = .ok (.aload_n 0, 1) := dk_42 (by decide +kernel)
theorem dX6_drop_16 : decode cX6_drop 16 = .ok (.iload_n 2, 1) := dk_28 (by decide +kernel)
theorem dX6_drop_17 : decode cX6_drop 17 = .ok (.invokevirtual 68, 3) := dk_182 (by decide +kernel)
theorem dX6_drop_20 : decode cX6_drop 20 = .ok (.istore_n 3, 1) := dk_62 (by decide +kernel)
theorem dX6_drop_21 : decode cX6_drop 21 = .ok (.iload_n 3, 1) := dk_29 (by decide +kernel)
theorem dX6_drop_22 : decode cX6_drop 22 = .ok (.iconst (-1), 1) := dk_2 (by decide +kernel)
theorem dX6_drop_23 : decode cX6_drop 23 = .ok (.if_icmp .eq 9, 3) := dk_159 (by decide +kernel)
theorem dX6_drop_26 : decode cX6_drop 26 = .ok (.aload_n 0, 1) := dk_42 (by decide +kernel)
theorem dX6_drop_27 : decode cX6_drop 27 = .ok (.iload_n 2, 1) := dk_28 (by decide +kernel)
theorem dX6_drop_28 : decode cX6_drop 28 = .ok (.iload_n 3, 1) := dk_29 (by decide +kernel)
theorem dX6_drop_29 : decode cX6_drop 29 = .ok (.invokevirtual 79, 3) := dk_182 (by decide +kernel)
theorem dX6_drop_32 : decode cX6_drop 32 = .ok (.aload_n 0, 1) := dk_42 (by decide +kernel)
theorem dX6_drop_33 : decode cX6_drop 33 = .ok (.iload_n 1, 1) := dk_27 (by decide +kernel)
theorem dX6_drop_34 : decode cX6_drop 34 = .ok (.invokevirtual 110, 3) := dk_182 (by decide +kernel)
theorem dX6_drop_37 : decode cX6_drop 37 = .ok (.return_, 1) := dk_177 (by decide +kernel)
def wsMX6_drop : List Cond := .code yX6_drop cX6_drop 4 none :: ([] ++ (wsV RX6 107 RX6 yX6_rowOf wsMX6_rowOf) ++ (wsV RX6 68 RX6 yX6_columnWith wsMX6_columnWith) ++ (wsV RX6 79 RX6 yX6_exchange wsMX6_exchange) ++ (wsV RX6 110 RX6 yX6_shutOutside wsMX6_shutOutside))
theorem gwsMX6_drop_0 : GoodIn wsMX6_drop (wsV RX6 107 RX6 yX6_rowOf wsMX6_rowOf) := goodIn_sub (fun _ h => List.mem_cons_of_mem _ (List.mem_append_left _ (List.mem_append_left _ (List.mem_append_left _ (List.mem_append_right _ h))))) (gdV (by decide +kernel) gdwsMX6_rowOf)
theorem gwsMX6_drop_1 : GoodIn wsMX6_drop (wsV RX6 68 RX6 yX6_columnWith wsMX6_columnWith) := goodIn_sub (fun _ h => List.mem_cons_of_mem _ (List.mem_append_left _ (List.mem_append_left _ (List.mem_append_right _ h)))) (gdV (by decide +kernel) gdwsMX6_columnWith)
theorem gwsMX6_drop_2 : GoodIn wsMX6_drop (wsV RX6 79 RX6 yX6_exchange wsMX6_exchange) := goodIn_sub (fun _ h => List.mem_cons_of_mem _ (List.mem_append_left _ (List.mem_append_right _ h))) (gdV (by decide +kernel) gdwsMX6_exchange)
theorem gwsMX6_drop_3 : GoodIn wsMX6_drop (wsV RX6 110 RX6 yX6_shutOutside wsMX6_shutOutside) := goodIn_sub (fun _ h => List.mem_cons_of_mem _ (List.mem_append_right _ h)) (gdV (by decide +kernel) gdwsMX6_shutOutside)
theorem gdwsMX6_drop : wsMX6_drop.all goodWord = true := gdC rfl (gdA (gdA (gdA (gdA (by decide +kernel : ([] : List Cond).all goodWord = true) (gdV (by decide +kernel) gdwsMX6_rowOf)) (gdV (by decide +kernel) gdwsMX6_columnWith)) (gdV (by decide +kernel) gdwsMX6_exchange)) (gdV (by decide +kernel) gdwsMX6_shutOutside))
set_option maxHeartbeats 4000000 in
set_option maxRecDepth 100000 in
/-- it stays nought -/
theorem m_X6_drop (l : Launch) (dC : Nat → ClassId) (dI : Nat → Nat → Nat) (hQ : Nat → Nat) (aQ : Nat → Nat) (kQ : Nat → ClassId) (hw : Nat → Nat) (fQ_inside : Nat → Int32) (fQ_outside : Nat → Int32) (fQ_shut : Nat → Int32) (iQ_rows : Int32) (iQ_allRows : Int32) (iQ_columns : Int32) (nW : Nat) (lw : Nat → Nat) (kw : ClassId) (wl : Nat → Int32) (wb : Nat → Int32) (wG : Nat → Nat → Int64) (p1 : Int32) (b_iQ_rows : 0 ≤ iQ_rows.toInt ∧ iQ_rows.toInt ≤ 40) (b_iQ_allRows : 0 ≤ iQ_allRows.toInt ∧ iQ_allRows.toInt ≤ 40) (b_iQ_columns : 0 ≤ iQ_columns.toInt ∧ iQ_columns.toInt ≤ 40) (b_tb : TbO iQ_rows iQ_allRows iQ_columns) (b_wl : ∀ q : Nat, 0 ≤ (wl q).toInt ∧ (wl q).toInt ≤ 14) (b_wb : ∀ q : Nat, 0 ≤ (wb q).toInt ∧ (wb q).toInt ≤ 1) (hnW : 406 ≤ nW) (sz : Nat) : Met l yX6_drop wsMX6_drop ({ frames := 5, cells := 0, slots := 0, locals := 131 }) (va_Pc [.ref (hQ 0), .int p1] (fun U => U.heap.size = sz ∧ va_P (dC, dI) vwCl (WQ hQ aQ kQ hw fQ_inside fQ_outside fQ_shut iQ_rows iQ_allRows iQ_columns ++ (WW nW hw lw kw wl wb wG)) U.heap ∧ va_K (dC, dI) vwCl (tQ kQ ++ (tW kw)) U ∧ va_D (fun _ => True) (WQ hQ aQ kQ hw fQ_inside fQ_outside fQ_shut iQ_rows iQ_allRows iQ_columns ++ (WW nW hw lw kw wl wb wG)))) (va_Qv (fun (u : (Nat → Int32) × (Nat → Int32) × (Nat → Int32) × (Nat → Int32) × (Nat → Int32) × (Nat → Nat → Int64)) => (∀ q : Nat, 0 ≤ ((u.2.2.2.1) q).toInt ∧ ((u.2.2.2.1) q).toInt ≤ 14) ∧ (∀ q : Nat, 0 ≤ ((u.2.2.2.2.1) q).toInt ∧ ((u.2.2.2.2.1) q).toInt ≤ 1)) (fun (u : (Nat → Int32) × (Nat → Int32) × (Nat → Int32) × (Nat → Int32) × (Nat → Int32) × (Nat → Nat → Int64)) t => va_P (dC, dI) vwCl (WQ hQ aQ kQ hw (u.1) (u.2.1) (u.2.2.1) iQ_rows iQ_allRows iQ_columns ++ (WW nW hw lw kw (u.2.2.2.1) (u.2.2.2.2.1) (u.2.2.2.2.2))) t.heap ∧ va_D (va_A (WQ hQ aQ kQ hw fQ_inside fQ_outside fQ_shut iQ_rows iQ_allRows iQ_columns ++ (WW nW hw lw kw wl wb wG)) sz) (WQ hQ aQ kQ hw (u.1) (u.2.1) (u.2.2.1) iQ_rows iQ_allRows iQ_columns ++ (WW nW hw lw kw (u.2.2.2.1) (u.2.2.2.2.1) (u.2.2.2.2.2)))) (va_A (WQ hQ aQ kQ hw fQ_inside fQ_outside fQ_shut iQ_rows iQ_allRows iQ_columns ++ (WW nW hw lw kw wl wb wG)) sz)) 0 0 (va_A (WQ hQ aQ kQ hw fQ_inside fQ_outside fQ_shut iQ_rows iQ_allRows iQ_columns ++ (WW nW hw lw kw wl wb wG)) sz) := by
  refine Met.ofW (cc := cX6_drop) (maxL := 4) (ret := none) (by decide) rfl ?_
  intro p e s m args below meth c s₁ B hml hv
  obtain ⟨rfl, hsz, hP, hK, hD0⟩ := hv
  have hx := B.exec
  have hb := B.bytes
  have hr := B.returns
  have hts := atoms_spec (ws := wsMX6_drop) B.pre
  have hown : s.vm.findClass RX6 = some m.cls := findClass_of_methodNamed B.named
  have hlocks := B.notSynchronized
  subst hsz
  have hD := hD0.self (sz := s.heap.size)
  generalize hAe : va_A (WQ hQ aQ kQ hw fQ_inside fQ_outside fQ_shut iQ_rows iQ_allRows iQ_columns ++ (WW nW hw lw kw wl wb wG)) s.heap.size = A at hD ⊢
  have hA : ∀ q : Nat, s.heap.size ≤ q → A q := fun q h => by rw [← hAe]; exact Or.inr h
  have hS : va_S A s.heap s.heap [] := va_S.rf
  have hl := lv_entry ([.ref (hQ 0), .int p1]) (n := 4) (Nat.le_of_ble_eq_true rfl)
  rw [lg_entry_eq]
  generalize (lg_sl ([.ref (hQ 0), .int p1]) ++ List.replicate (4 - (lg_sl ([.ref (hQ 0), .int p1])).length) Slot.unset).toArray = ls at hl ⊢
  have hl : lv_has ls 4 [(0, .ref (hQ 0)), (1, .int p1)] := hl
  have hTb := b_tb.1
  refine lv_aload_n hx hb dX6_drop_0 rfl (lv_at hl 0 rfl) ?_
  refine lv_iload_n hx hb dX6_drop_1 rfl (lv_at hl 1 rfl) ?_
  have hFc := allFree hD hS hA
  refine va_calli (va_runV (As := [.int p1]) (rest := []) ⟨hx, hb, hml, hown, hts⟩ (m_X6_rowOf l dC dI hQ aQ kQ hw fQ_inside fQ_outside fQ_shut iQ_rows iQ_allRows iQ_columns nW lw kw wl wb wG p1 (b_iQ_rows) (b_iQ_allRows) (b_iQ_columns) (by first | with_reducible assumption | omega | assumption) b_wl b_wb (by first | with_reducible assumption | omega | (rw [iI_t (by omega) (by omega)]; omega) | decide | assumption) s.heap.size) (cwV 1 hts gwsMX6_drop_0 rfl rfl rfl hd_yX6_rowOf_RX6 (by decide +kernel)) (fz_pre (va_recv hK hP (ci := 6) (q0 := 0) rfl rfl) hP hK hD) rfl rfl hl.1 rfl (lv_room (Nat.le_of_ble_eq_true rfl)) dX6_drop_2 (by decide +kernel)) hS (fun q _ h => hFc q h) hFc (fun r1 u t9_ H locs ht hvm hw9 hB9 hz1 hk1 hS => ?_)
  revert hw9
  refine fz_a2 ?_
  intro b_r1 f1_0
  have hP : va_P (dC, dI) vwCl (WQ hQ aQ kQ hw fQ_inside fQ_outside fQ_shut iQ_rows iQ_allRows iQ_columns ++ (WW nW hw lw kw wl wb wG)) H := fz_P ht hB9.1
  have hD := fz_sd hP (hB9.2.weaken (fun _ q _ h => hFc q.1 h)) rfl
  refine lv_istore_n hx hb dX6_drop_5 rfl hl (by decide) rfl (fun ls (hl : lv_has ls _ ([(2, .int r1), (0, .ref (hQ 0)), (1, .int p1)])) => ?_)
  refine lv_iload_n hx hb dX6_drop_6 rfl (lv_at hl 0 rfl) ?_
  refine lv_iconst (v := (-1)) hx hb dX6_drop_7 (by decide) ?_
  refine lv_icmp_ne (tgt := 15) hx hb dX6_drop_8 (by decide) (fun c_8 => ?_) (fun c_8 => ?_)
  · have t_8 : r1.toInt ≠ (-1) := toI_ne c_8 rfl (by decide : ((-1) : Int32).toInt = (-1))
    refine lv_aload_n hx hb dX6_drop_15 rfl (lv_at hl 1 rfl) ?_
    refine lv_iload_n hx hb dX6_drop_16 rfl (lv_at hl 0 rfl) ?_
    have hFc := allFree hD hS hA
    refine va_calli (va_runV (As := [.int r1]) (rest := []) ⟨hx, hb, hml, hown, hts⟩ (m_X6_columnWith l dC dI hQ aQ kQ hw fQ_inside fQ_outside fQ_shut iQ_rows iQ_allRows iQ_columns nW lw kw wl wb wG r1 (b_iQ_rows) (b_iQ_allRows) (b_iQ_columns) (by first | with_reducible assumption | omega | assumption) b_wl b_wb (by first | exact b_r1 | with_reducible assumption | exact ⟨by omega, by omega⟩ | assumption) (by first | with_reducible assumption | omega | (rw [iI_t (by omega) (by omega)]; omega) | decide | assumption) (FitR.of b_tb (by omega) (by omega) (by omega)) H.size) (cwV 1 hts gwsMX6_drop_1 rfl rfl rfl hd_yX6_columnWith_RX6 (by decide +kernel)) (fz_pre (va_recv hK hP (ci := 6) (q0 := 0) rfl rfl) hP hK hD) rfl rfl hl.1 rfl (lv_room (Nat.le_of_ble_eq_true rfl)) dX6_drop_17 (by decide +kernel)) hS (fun q _ h => hFc q h) hFc (fun r2 u t9_ H locs ht hvm hw9 hB9 hz1 hk1 hS => ?_)
    revert hw9
    refine fz_a2 ?_
    intro b_r2 f2_0
    have hP : va_P (dC, dI) vwCl (WQ hQ aQ kQ hw fQ_inside fQ_outside fQ_shut iQ_rows iQ_allRows iQ_columns ++ (WW nW hw lw kw wl wb wG)) H := fz_P ht hB9.1
    have hD := fz_sd hP (hB9.2.weaken (fun _ q _ h => hFc q.1 h)) rfl
    refine lv_istore_n hx hb dX6_drop_20 rfl hl (by decide) rfl (fun ls (hl : lv_has ls _ ([(3, .int r2), (2, .int r1), (0, .ref (hQ 0)), (1, .int p1)])) => ?_)
    refine lv_iload_n hx hb dX6_drop_21 rfl (lv_at hl 0 rfl) ?_
    refine lv_iconst (v := (-1)) hx hb dX6_drop_22 (by decide) ?_
    refine W.cut (pc := 32) (fun H locs ls stk => ∃ (fQ_inside_j2 : Nat → Int32) (fQ_outside_j2 : Nat → Int32) (wl_j2 : Nat → Int32) (wb_j2 : Nat → Int32) (wG_j2 : Nat → Nat → Int64), (∀ q : Nat, 0 ≤ (wl_j2 q).toInt ∧ (wl_j2 q).toInt ≤ 14) ∧ (∀ q : Nat, 0 ≤ (wb_j2 q).toInt ∧ (wb_j2 q).toInt ≤ 1) ∧  stk = [] ∧ va_P (dC, dI) vwCl (WQ hQ aQ kQ hw fQ_inside_j2 fQ_outside_j2 fQ_shut iQ_rows iQ_allRows iQ_columns ++ (WW nW hw lw kw wl_j2 wb_j2 wG_j2)) H ∧ va_D A (WQ hQ aQ kQ hw fQ_inside_j2 fQ_outside_j2 fQ_shut iQ_rows iQ_allRows iQ_columns ++ (WW nW hw lw kw wl_j2 wb_j2 wG_j2)) ∧ va_S A s.heap H locs ∧ lv_has ls 4 [(3, .int r2), (2, .int r1), (0, .ref (hQ 0)), (1, .int p1)]) (fun join2 => ?_) ?_
    · refine lv_icmp_eq (tgt := 32) hx hb dX6_drop_23 (by decide) (fun c_23 => ?_) (fun c_23 => ?_)
      · have t_23 : r2.toInt = (-1) := toI_eq c_23 rfl (by decide : ((-1) : Int32).toInt = (-1))
        have hl : lv_has _ _ ([(3, .int r2), (2, .int r1), (0, .ref (hQ 0)), (1, .int p1)]) := lv_sub hl [0, 1, 2, 3] rfl
        exact join2 _ _ _ _ ⟨fQ_inside, fQ_outside, wl, wb, wG, b_wl, b_wb, rfl, hP, hD, hS, hl⟩
      · have t_23 : ¬ r2.toInt = (-1) := toI_neq c_23 rfl (by decide : ((-1) : Int32).toInt = (-1))
        refine lv_aload_n hx hb dX6_drop_26 rfl (lv_at hl 2 rfl) ?_
        refine lv_iload_n hx hb dX6_drop_27 rfl (lv_at hl 1 rfl) ?_
        refine lv_iload_n hx hb dX6_drop_28 rfl (lv_at hl 0 rfl) ?_
        have hFc := allFree hD hS hA
        refine va_callv (va_runV (As := [.int r1, .int r2]) (rest := []) ⟨hx, hb, hml, hown, hts⟩ (m_X6_exchange l dC dI hQ aQ kQ hw fQ_inside fQ_outside fQ_shut iQ_rows iQ_allRows iQ_columns nW lw kw wl wb wG r1 r2 (b_iQ_rows) (b_iQ_allRows) (b_iQ_columns) (by first | with_reducible assumption | omega | assumption) b_wl b_wb (by first | exact b_r1 | with_reducible assumption | exact ⟨by omega, by omega⟩ | assumption) (by first | exact b_r2 | with_reducible assumption | exact ⟨by omega, by omega⟩ | assumption) (by first | with_reducible assumption | omega | (rw [iI_t (by omega) (by omega)]; omega) | decide | assumption) (FitR.of b_tb (by omega) (by omega) (by omega)) (by first | with_reducible assumption | omega | (rw [iI_t (by omega) (by omega)]; omega) | decide | assumption) H.size) (cwV 2 hts gwsMX6_drop_2 rfl rfl rfl hd_yX6_exchange_RX6 (by decide +kernel)) (fz_pre (va_recv hK hP (ci := 6) (q0 := 0) rfl rfl) hP hK hD) rfl rfl hl.1 rfl (lv_room (Nat.le_of_ble_eq_true rfl)) dX6_drop_29 (by decide +kernel)) hS (fun q _ h => hFc q h) hFc (fun u t9_ H locs ht hvm hw9 hB9 hz1 hk1 hS => ?_)
        revert u hw9 hB9
        refine fz_p5 ?_
        intro fQ_inside_4 fQ_outside_4 wl_4 wb_4 wG_4 hw9 hB9
        try dsimp only at hw9 hB9
        revert hw9
        refine fz_a2 ?_
        intro b_wl_4 b_wb_4
        have hP : va_P (dC, dI) vwCl (WQ hQ aQ kQ hw fQ_inside_4 fQ_outside_4 fQ_shut iQ_rows iQ_allRows iQ_columns ++ (WW nW hw lw kw wl_4 wb_4 wG_4)) H := fz_P ht hB9.1
        have hD := fz_sd hP (hB9.2.weaken (fun _ q _ h => hFc q.1 h)) rfl
        have hl : lv_has _ _ ([(3, .int r2), (2, .int r1), (0, .ref (hQ 0)), (1, .int p1)]) := lv_sub hl [0, 1, 2, 3] rfl
        exact join2 _ _ _ _ ⟨fQ_inside_4, fQ_outside_4, wl_4, wb_4, wG_4, b_wl_4, b_wb_4, rfl, hP, hD, hS, hl⟩
    · intro H locs ls stk
      refine fz_e5 ?_
      intro fQ_inside_j2 fQ_outside_j2 wl_j2 wb_j2 wG_j2
      refine fz_a7 ?_
      intro b_wl_j2 b_wb_j2 hst9_2 hP hD hS hl
      subst hst9_2
      refine lv_aload_n hx hb dX6_drop_32 rfl (lv_at hl 2 rfl) ?_
      refine lv_iload_n hx hb dX6_drop_33 rfl (lv_at hl 3 rfl) ?_
      have hFc := allFree hD hS hA
      refine va_callv (va_runV (As := [.int p1]) (rest := []) ⟨hx, hb, hml, hown, hts⟩ (m_X6_shutOutside l dC dI hQ aQ kQ hw fQ_inside_j2 fQ_outside_j2 fQ_shut iQ_rows iQ_allRows iQ_columns nW lw kw wl_j2 wb_j2 wG_j2 p1 (b_iQ_rows) (b_iQ_allRows) (b_iQ_columns) (by first | with_reducible assumption | omega | assumption) b_wl_j2 b_wb_j2 (by first | with_reducible assumption | omega | (rw [iI_t (by omega) (by omega)]; omega) | decide | assumption) H.size) (cwV 1 hts gwsMX6_drop_3 rfl rfl rfl hd_yX6_shutOutside_RX6 (by decide +kernel)) (fz_pre (va_recv hK hP (ci := 6) (q0 := 0) rfl rfl) hP hK hD) rfl rfl hl.1 rfl (lv_room (Nat.le_of_ble_eq_true rfl)) dX6_drop_34 (by decide +kernel)) hS (fun q _ h => hFc q h) hFc (fun fQ_shut_5 t9_ H locs ht hvm hw9 hB9 hz1 hk1 hS => ?_)
      clear hw9
      have hP : va_P (dC, dI) vwCl (WQ hQ aQ kQ hw fQ_inside_j2 fQ_outside_j2 fQ_shut_5 iQ_rows iQ_allRows iQ_columns ++ (WW nW hw lw kw wl_j2 wb_j2 wG_j2)) H := fz_P ht hB9.1
      have hD := fz_sd hP (hB9.2.weaken (fun _ q _ h => hFc q.1 h)) rfl
      refine W.widen (k := 0) (n := 0) (by decide +kernel) (by decide +kernel) ?_
      exact W.vret hx hb hr (fun t9_ ht hW => ⟨⟨(fQ_inside_j2, fQ_outside_j2, fQ_shut_5, wl_j2, wb_j2, wG_j2), rfl, ⟨b_wl_j2, b_wb_j2⟩, by rw [ht]; exact hP, hD⟩, hS.F ht⟩) hS.2.2 dX6_drop_37
  · have t_8 : r1.toInt = (-1) := toI_nne c_8 rfl (by decide : ((-1) : Int32).toInt = (-1))
    refine lv_iconst (v := (-1)) hx hb dX6_drop_11 (by decide) ?_
    refine lv_goto (tgt := 20) hx hb dX6_drop_12 (by decide) ?_
    refine lv_istore_n hx hb dX6_drop_20 rfl hl (by decide) rfl (fun ls (hl : lv_has ls _ ([(3, .int (-1)), (2, .int r1), (0, .ref (hQ 0)), (1, .int p1)])) => ?_)
    refine lv_iload_n hx hb dX6_drop_21 rfl (lv_at hl 0 rfl) ?_
    refine lv_iconst (v := (-1)) hx hb dX6_drop_22 (by decide) ?_
    refine lv_icmp_eq (tgt := 32) hx hb dX6_drop_23 (by decide) (fun _ => ?_) (fun c9 => absurd (by decide) c9)
    refine lv_aload_n hx hb dX6_drop_32 rfl (lv_at hl 2 rfl) ?_
    refine lv_iload_n hx hb dX6_drop_33 rfl (lv_at hl 3 rfl) ?_
    have hFc := allFree hD hS hA
    refine va_callv (va_runV (As := [.int p1]) (rest := []) ⟨hx, hb, hml, hown, hts⟩ (m_X6_shutOutside l dC dI hQ aQ kQ hw fQ_inside fQ_outside fQ_shut iQ_rows iQ_allRows iQ_columns nW lw kw wl wb wG p1 (b_iQ_rows) (b_iQ_allRows) (b_iQ_columns) (by first | with_reducible assumption | omega | assumption) b_wl b_wb (by first | with_reducible assumption | omega | (rw [iI_t (by omega) (by omega)]; omega) | decide | assumption) H.size) (cwV 1 hts gwsMX6_drop_3 rfl rfl rfl hd_yX6_shutOutside_RX6 (by decide +kernel)) (fz_pre (va_recv hK hP (ci := 6) (q0 := 0) rfl rfl) hP hK hD) rfl rfl hl.1 rfl (lv_room (Nat.le_of_ble_eq_true rfl)) dX6_drop_34 (by decide +kernel)) hS (fun q _ h => hFc q h) hFc (fun fQ_shut_6 t9_ H locs ht hvm hw9 hB9 hz1 hk1 hS => ?_)
    clear hw9
    have hP : va_P (dC, dI) vwCl (WQ hQ aQ kQ hw fQ_inside fQ_outside fQ_shut_6 iQ_rows iQ_allRows iQ_columns ++ (WW nW hw lw kw wl wb wG)) H := fz_P ht hB9.1
    have hD := fz_sd hP (hB9.2.weaken (fun _ q _ h => hFc q.1 h)) rfl
    refine W.widen (k := 0) (n := 0) (by decide +kernel) (by decide +kernel) ?_
    exact W.vret hx hb hr (fun t9_ ht hW => ⟨⟨(fQ_inside, fQ_outside, fQ_shut_6, wl, wb, wG), rfl, ⟨b_wl, b_wb⟩, by rw [ht]; exact hP, hD⟩, hS.F ht⟩) hS.2.2 dX6_drop_37
theorem dX6_isInside_0 : decode cX6_isInside 0 = .ok (.aload_n 0, 1) := dk_42 (by decide +kernel)
theorem dX6_isInside_1 : decode cX6_isInside 1 = .ok (.iload_n 1, 1) := dk_27 (by decide +kernel)
theorem dX6_isInside_2 : decode cX6_isInside 2 = .ok (.invokevirtual 107, 3) := dk_182 (by decide +kernel)
theorem dX6_isInside_5 : decode cX6_isInside 5 = .ok (.iconst (-1), 1) := dk_2 (by decide +kernel)
theorem dX6_isInside_6 : decode cX6_isInside 6 = .ok (.if_icmp .eq 7, 3) := dk_159 (by decide +kernel)
theorem dX6_isInside_9 : decode cX6_isInside 9 = .ok (.iconst 1, 1) := dk_4 (by decide +kernel)
theorem dX6_isInside_10 : decode cX6_isInside 10 = .ok (.goto 4, 3) := dk_167 (by decide +kernel)
theorem dX6_isInside_13 : decode cX6_isInside 13 = .ok (.iconst 0, 1) := dk_3 (by decide +kernel)
theorem dX6_isInside_14 : decode cX6_isInside 14 = .ok (.ireturn, 1) := dk_172 (by decide +kernel)
def wsMX6_isInside : List Cond := .code yX6_isInside cX6_isInside 2 (some .boolean) :: ([] ++ (wsV RX6 107 RX6 yX6_rowOf wsMX6_rowOf))
theorem gwsMX6_isInside_0 : GoodIn wsMX6_isInside (wsV RX6 107 RX6 yX6_rowOf wsMX6_rowOf) := goodIn_sub (fun _ h => List.mem_cons_of_mem _ (List.mem_append_right _ h)) (gdV (by decide +kernel) gdwsMX6_rowOf)
theorem gdwsMX6_isInside : wsMX6_isInside.all goodWord = true := gdC rfl (gdA (by decide +kernel : ([] : List Cond).all goodWord = true) (gdV (by decide +kernel) gdwsMX6_rowOf))
set_option maxHeartbeats 4000000 in
set_option maxRecDepth 100000 in
/-- is it inside -/
theorem m_X6_isInside (l : Launch) (dC : Nat → ClassId) (dI : Nat → Nat → Nat) (hQ : Nat → Nat) (aQ : Nat → Nat) (kQ : Nat → ClassId) (hw : Nat → Nat) (fQ_inside : Nat → Int32) (fQ_outside : Nat → Int32) (fQ_shut : Nat → Int32) (iQ_rows : Int32) (iQ_allRows : Int32) (iQ_columns : Int32) (nW : Nat) (lw : Nat → Nat) (kw : ClassId) (wl : Nat → Int32) (wb : Nat → Int32) (wG : Nat → Nat → Int64) (p1 : Int32) (b_iQ_rows : 0 ≤ iQ_rows.toInt ∧ iQ_rows.toInt ≤ 40) (b_iQ_allRows : 0 ≤ iQ_allRows.toInt ∧ iQ_allRows.toInt ≤ 40) (b_iQ_columns : 0 ≤ iQ_columns.toInt ∧ iQ_columns.toInt ≤ 40) (b_tb : TbO iQ_rows iQ_allRows iQ_columns) (b_wl : ∀ q : Nat, 0 ≤ (wl q).toInt ∧ (wl q).toInt ≤ 14) (b_wb : ∀ q : Nat, 0 ≤ (wb q).toInt ∧ (wb q).toInt ≤ 1) (hnW : 406 ≤ nW) (sz : Nat) : Met l yX6_isInside wsMX6_isInside ({ frames := 1, cells := 0, slots := 0, locals := 22 }) (va_Pc [.ref (hQ 0), .int p1] (fun U => U.heap.size = sz ∧ va_P (dC, dI) vwCl (WQ hQ aQ kQ hw fQ_inside fQ_outside fQ_shut iQ_rows iQ_allRows iQ_columns ++ (WW nW hw lw kw wl wb wG)) U.heap ∧ va_K (dC, dI) vwCl (tQ kQ ++ (tW kw)) U ∧ va_D (fun _ => True) (WQ hQ aQ kQ hw fQ_inside fQ_outside fQ_shut iQ_rows iQ_allRows iQ_columns ++ (WW nW hw lw kw wl wb wG)))) (va_Qi (fun (r : Int32) (u : Unit) => (0 ≤ r.toInt ∧ r.toInt ≤ 1)) (fun (u : Unit) t => va_P (dC, dI) vwCl (WQ hQ aQ kQ hw fQ_inside fQ_outside fQ_shut iQ_rows iQ_allRows iQ_columns ++ (WW nW hw lw kw wl wb wG)) t.heap ∧ va_D (va_A (WQ hQ aQ kQ hw fQ_inside fQ_outside fQ_shut iQ_rows iQ_allRows iQ_columns ++ (WW nW hw lw kw wl wb wG)) sz) (WQ hQ aQ kQ hw fQ_inside fQ_outside fQ_shut iQ_rows iQ_allRows iQ_columns ++ (WW nW hw lw kw wl wb wG))) (va_A (WQ hQ aQ kQ hw fQ_inside fQ_outside fQ_shut iQ_rows iQ_allRows iQ_columns ++ (WW nW hw lw kw wl wb wG)) sz)) 0 0 (va_A (WQ hQ aQ kQ hw fQ_inside fQ_outside fQ_shut iQ_rows iQ_allRows iQ_columns ++ (WW nW hw lw kw wl wb wG)) sz) := by
  refine Met.ofW (cc := cX6_isInside) (maxL := 2) (ret := (some .boolean)) (by decide) rfl ?_
  intro p e s m args below meth c s₁ B hml hv
  obtain ⟨rfl, hsz, hP, hK, hD0⟩ := hv
  have hx := B.exec
  have hb := B.bytes
  have hr := B.returns
  have hts := atoms_spec (ws := wsMX6_isInside) B.pre
  have hown : s.vm.findClass RX6 = some m.cls := findClass_of_methodNamed B.named
  have hlocks := B.notSynchronized
  subst hsz
  have hD := hD0.self (sz := s.heap.size)
  generalize hAe : va_A (WQ hQ aQ kQ hw fQ_inside fQ_outside fQ_shut iQ_rows iQ_allRows iQ_columns ++ (WW nW hw lw kw wl wb wG)) s.heap.size = A at hD ⊢
  have hA : ∀ q : Nat, s.heap.size ≤ q → A q := fun q h => by rw [← hAe]; exact Or.inr h
  have hS : va_S A s.heap s.heap [] := va_S.rf
  have hl := lv_entry ([.ref (hQ 0), .int p1]) (n := 2) (Nat.le_of_ble_eq_true rfl)
  rw [lg_entry_eq]
  generalize (lg_sl ([.ref (hQ 0), .int p1]) ++ List.replicate (2 - (lg_sl ([.ref (hQ 0), .int p1])).length) Slot.unset).toArray = ls at hl ⊢
  have hl : lv_has ls 2 [(0, .ref (hQ 0)), (1, .int p1)] := hl
  have hTb := b_tb.1
  refine lv_aload_n hx hb dX6_isInside_0 rfl (lv_at hl 0 rfl) ?_
  refine lv_iload_n hx hb dX6_isInside_1 rfl (lv_at hl 1 rfl) ?_
  have hFc := allFree hD hS hA
  refine va_calli (va_runV (As := [.int p1]) (rest := []) ⟨hx, hb, hml, hown, hts⟩ (m_X6_rowOf l dC dI hQ aQ kQ hw fQ_inside fQ_outside fQ_shut iQ_rows iQ_allRows iQ_columns nW lw kw wl wb wG p1 (b_iQ_rows) (b_iQ_allRows) (b_iQ_columns) (by first | with_reducible assumption | omega | assumption) b_wl b_wb (by first | with_reducible assumption | omega | (rw [iI_t (by omega) (by omega)]; omega) | decide | assumption) s.heap.size) (cwV 1 hts gwsMX6_isInside_0 rfl rfl rfl hd_yX6_rowOf_RX6 (by decide +kernel)) (fz_pre (va_recv hK hP (ci := 6) (q0 := 0) rfl rfl) hP hK hD) rfl rfl hl.1 rfl (lv_room (Nat.le_of_ble_eq_true rfl)) dX6_isInside_2 (by decide +kernel)) hS (fun q _ h => hFc q h) hFc (fun r1 u t9_ H locs ht hvm hw9 hB9 hz1 hk1 hS => ?_)
  revert hw9
  refine fz_a2 ?_
  intro b_r1 f1_0
  have hP : va_P (dC, dI) vwCl (WQ hQ aQ kQ hw fQ_inside fQ_outside fQ_shut iQ_rows iQ_allRows iQ_columns ++ (WW nW hw lw kw wl wb wG)) H := fz_P ht hB9.1
  have hD := fz_sd hP (hB9.2.weaken (fun _ q _ h => hFc q.1 h)) rfl
  refine lv_iconst (v := (-1)) hx hb dX6_isInside_5 (by decide) ?_
  refine W.cut (pc := 14) (fun H locs ls stk => ∃ (k0_j2 : Int32), (0 ≤ k0_j2.toInt ∧ k0_j2.toInt ≤ 1) ∧  stk = [.int k0_j2] ∧ va_P (dC, dI) vwCl (WQ hQ aQ kQ hw fQ_inside fQ_outside fQ_shut iQ_rows iQ_allRows iQ_columns ++ (WW nW hw lw kw wl wb wG)) H ∧ va_D A (WQ hQ aQ kQ hw fQ_inside fQ_outside fQ_shut iQ_rows iQ_allRows iQ_columns ++ (WW nW hw lw kw wl wb wG)) ∧ va_S A s.heap H locs ∧ lv_has ls 2 [(0, .ref (hQ 0)), (1, .int p1)]) (fun join2 => ?_) ?_
  · refine lv_icmp_eq (tgt := 13) hx hb dX6_isInside_6 (by decide) (fun c_6 => ?_) (fun c_6 => ?_)
    · have t_6 : r1.toInt = (-1) := toI_eq c_6 rfl (by decide : ((-1) : Int32).toInt = (-1))
      refine lv_iconst (v := 0) hx hb dX6_isInside_13 (by decide) ?_
      have hl : lv_has _ _ ([(0, .ref (hQ 0)), (1, .int p1)]) := lv_sub hl [0, 1] rfl
      exact join2 _ _ _ _ ⟨0, (show 0 ≤ (0 : Int32).toInt ∧ (0 : Int32).toInt ≤ 1 from by decide), rfl, hP, hD, hS, hl⟩
    · have t_6 : ¬ r1.toInt = (-1) := toI_neq c_6 rfl (by decide : ((-1) : Int32).toInt = (-1))
      refine lv_iconst (v := 1) hx hb dX6_isInside_9 (by decide) ?_
      refine lv_goto (tgt := 14) hx hb dX6_isInside_10 (by decide) ?_
      have hl : lv_has _ _ ([(0, .ref (hQ 0)), (1, .int p1)]) := lv_sub hl [0, 1] rfl
      exact join2 _ _ _ _ ⟨1, (show 0 ≤ (1 : Int32).toInt ∧ (1 : Int32).toInt ≤ 1 from by decide), rfl, hP, hD, hS, hl⟩
  · rintro H locs ls stk ⟨k0_j2, b_k0_j2, rfl, hP, hD, hS, hl⟩
    refine W.widen (k := 0) (n := 0) (by decide +kernel) (by decide +kernel) ?_
    exact W.zret (v := k0_j2) hx hb hr (by rcases z01 (x := k0_j2) (b_k0_j2) with h9 | h9 <;> rw [h9] <;> rfl) (fun t9_ ht hW => ⟨⟨k0_j2, (), rfl, (b_k0_j2), by rw [ht]; exact hP, hD⟩, hS.F ht⟩) hS.2.2 dX6_isInside_14
end
section
theorem dX6_begin_0 : decode cX6_begin 0 = .ok (.aload_n 0, 1) := dk_42 (by decide +kernel)
theorem dX6_begin_1 : decode cX6_begin 1 = .ok (.iload_n 3, 1) := dk_29 (by decide +kernel)
theorem dX6_begin_2 : decode cX6_begin 2 = .ok (.bipush 40, 2) := dk_16 (by decide +kernel)
theorem dX6_begin_4 : decode cX6_begin 4 = .ok (.invokestatic 48, 3) := dk_184 (by decide +kernel)
theorem dX6_begin_7 : decode cX6_begin 7 = .ok (.putfield 54, 3) := dk_181 (by decide +kernel)
theorem dX6_begin_10 : decode cX6_begin 10 = .ok (.aload_n 0, 1) := dk_42 (by decide +kernel)
theorem dX6_begin_11 : decode cX6_begin 11 = .ok (.iload_n 1, 1) := dk_27 (by decide +kernel)
theorem dX6_begin_12 : decode cX6_begin 12 = .ok (.iload_n 2, 1) := dk_28 (by decide +kernel)
theorem dX6_begin_13 : decode cX6_begin 13 = .ok (.iadd, 1) := dk_96 (by decide +kernel)
theorem dX6_begin_14 : decode cX6_begin 14 = .ok (.bipush 40, 2) := dk_16 (by decide +kernel)
theorem dX6_begin_16 : decode cX6_begin 16 = .ok (.sipush 400, 3) := dk_17 (by decide +kernel)
theorem dX6_begin_19 : decode cX6_begin 19 = .ok (.aload_n 0, 1) := dk_42 (by decide +kernel)
theorem dX6_begin_20 : decode cX6_begin 20 = .ok (.getfield 54, 3) := dk_180 (by decide +kernel)
theorem dX6_begin_23 : decode cX6_begin 23 = .ok (.iconst 1, 1) := dk_4 (by decide +kernel)
theorem dX6_begin_24 : decode cX6_begin 24 = .ok (.iadd, 1) := dk_96 (by decide +kernel)
theorem dX6_begin_25 : decode cX6_begin 25 = .ok (.idiv, 1) := dk_108 (by decide +kernel)
theorem dX6_begin_26 : decode cX6_begin 26 = .ok (.invokestatic 48, 3) := dk_184 (by decide +kernel)
theorem dX6_begin_29 : decode cX6_begin 29 = .ok (.invokestatic 48, 3) := dk_184 (by decide +kernel)
theorem dX6_begin_32 : decode cX6_begin 32 = .ok (.putfield 58, 3) := dk_181 (by decide +kernel)
theorem dX6_begin_35 : decode cX6_begin 35 = .ok (.aload_n 0, 1) := dk_42 (by decide +kernel)
theorem dX6_begin_36 : decode cX6_begin 36 = .ok (.iload_n 1, 1) := dk_27 (by decide +kernel)
theorem dX6_begin_37 : decode cX6_begin 37 = .ok (.aload_n 0, 1) := dk_42 (by decide +kernel)
theorem dX6_begin_38 : decode cX6_begin 38 = .ok (.getfield 58, 3) := dk_180 (by decide +kernel)
theorem dX6_begin_41 : decode cX6_begin 41 = .ok (.invokestatic 48, 3) := dk_184 (by decide +kernel)
theorem dX6_begin_44 : decode cX6_begin 44 = .ok (.putfield 61, 3) := dk_181 (by decide +kernel)
theorem dX6_begin_47 : decode cX6_begin 47 = .ok (.aload_n 0, 1) := dk_42 (by decide +kernel)
theorem dX6_begin_48 : decode cX6_begin 48 = .ok (.getfield 29, 3) := dk_180 (by decide +kernel)
theorem dX6_begin_51 : decode cX6_begin 51 = .ok (.lconst 1, 1) := dk_10 (by decide +kernel)
theorem dX6_begin_52 : decode cX6_begin 52 = .ok (.invokevirtual 64, 3) := dk_182 (by decide +kernel)
theorem dX6_begin_55 : decode cX6_begin 55 = .ok (.iconst 0, 1) := dk_3 (by decide +kernel)
theorem dX6_begin_56 : decode cX6_begin 56 = .ok (.istore 4, 2) := dk_54 (by decide +kernel)
theorem dX6_begin_58 : decode cX6_begin 58 = .ok (.iload 4, 2) := dk_21 (by decide +kernel)
theorem dX6_begin_60 : decode cX6_begin 60 = .ok (.aload_n 0, 1) := dk_42 (by decide +kernel)
theorem dX6_begin_61 : decode cX6_begin 61 = .ok (.getfield 58, 3) := dk_180 (by decide +kernel)
theorem dX6_begin_64 : decode cX6_begin 64 = .ok (.aload_n 0, 1) := dk_42 (by decide +kernel)
theorem dX6_begin_65 : decode cX6_begin 65 = .ok (.getfield 54, 3) := dk_180 (by decide +kernel)
theorem dX6_begin_68 : decode cX6_begin 68 = .ok (.iconst 1, 1) := dk_4 (by decide +kernel)
theorem dX6_begin_69 : decode cX6_begin 69 = .ok (.iadd, 1) := dk_96 (by decide +kernel)
theorem dX6_begin_70 : decode cX6_begin 70 = .ok (.imul, 1) := dk_104 (by decide +kernel)
theorem dX6_begin_71 : decode cX6_begin 71 = .ok (.if_icmp .ge 20, 3) := dk_162 (by decide +kernel)
theorem dX6_begin_74 : decode cX6_begin 74 = .ok (.aload_n 0, 1) := dk_42 (by decide +kernel)
theorem dX6_begin_75 : decode cX6_begin 75 = .ok (.getfield 13, 3) := dk_180 (by decide +kernel)
theorem dX6_begin_78 : decode cX6_begin 78 = .ok (.iload 4, 2) := dk_21 (by decide +kernel)
theorem dX6_begin_80 : decode cX6_begin 80 = .ok (.aaload, 1) := dk_50 (by decide +kernel)
theorem dX6_begin_81 : decode cX6_begin 81 = .ok (.lconst 0, 1) := dk_9 (by decide +kernel)
theorem dX6_begin_82 : decode cX6_begin 82 = .ok (.invokevirtual 64, 3) := dk_182 (by decide +kernel)
theorem dX6_begin_85 : decode cX6_begin 85 = .ok (.iinc 4 1, 3) := dk_132 (by decide +kernel)
theorem dX6_begin_88 : decode cX6_begin 88 = .ok (.goto (-30), 3) := dk_167 (by decide +kernel)
theorem dX6_begin_91 : decode cX6_begin 91 = .ok (.iconst 1, 1) := dk_4 (by decide +kernel)
theorem dX6_begin_92 : decode cX6_begin 92 = .ok (.istore 4, 2) := dk_54 (by decide +kernel)
theorem dX6_begin_94 : decode cX6_begin 94 = .ok (.iload 4, 2) := dk_21 (by decide +kernel)
theorem dX6_begin_96 : decode cX6_begin 96 = .ok (.aload_n 0, 1) := dk_42 (by decide +kernel)
theorem dX6_begin_97 : decode cX6_begin 97 = .ok (.getfield 54, 3) := dk_180 (by decide +kernel)
theorem dX6_begin_100 : decode cX6_begin 100 = .ok (.if_icmp .gt 28, 3) := dk_163 (by decide +kernel)
theorem dX6_begin_103 : decode cX6_begin 103 = .ok (.aload_n 0, 1) := dk_42 (by decide +kernel)
theorem dX6_begin_104 : decode cX6_begin 104 = .ok (.getfield 21, 3) := dk_180 (by decide +kernel)
theorem dX6_begin_107 : decode cX6_begin 107 = .ok (.iload 4, 2) := dk_21 (by decide +kernel)
theorem dX6_begin_109 : decode cX6_begin 109 = .ok (.iload 4, 2) := dk_21 (by decide +kernel)
theorem dX6_begin_111 : decode cX6_begin 111 = .ok (.iconst 1, 1) := dk_4 (by decide +kernel)
theorem dX6_begin_112 : decode cX6_begin 112 = .ok (.isub, 1) := dk_100 (by decide +kernel)
theorem dX6_begin_113 : decode cX6_begin 113 = .ok (.iastore, 1) := dk_79 (by decide +kernel)
theorem dX6_begin_114 : decode cX6_begin 114 = .ok (.aload_n 0, 1) := dk_42 (by decide +kernel)
theorem dX6_begin_115 : decode cX6_begin 115 = .ok (.getfield 24, 3) := dk_180 (by decide +kernel)
theorem dX6_begin_118 : decode cX6_begin 118 = .ok (.iload 4, 2) := dk_21 (by decide +kernel)
theorem dX6_begin_120 : decode cX6_begin 120 = .ok (.iconst 0, 1) := dk_3 (by decide +kernel)
theorem dX6_begin_121 : decode cX6_begin 121 = .ok (.bastore, 1) := dk_84 (by decide +kernel)
theorem dX6_begin_122 : decode cX6_begin 122 = .ok (.iinc 4 1, 3) := dk_132 (by decide +kernel)
theorem dX6_begin_125 : decode cX6_begin 125 = .ok (.goto (-31), 3) := dk_167 (by decide +kernel)
theorem dX6_begin_128 : decode cX6_begin 128 = .ok (.iconst 0, 1) := dk_3 (by decide +kernel)
theorem dX6_begin_129 : decode cX6_begin 129 = .ok (.istore 4, 2) := dk_54 (by decide +kernel)
theorem dX6_begin_131 : decode cX6_begin 131 = .ok (.iload 4, 2) := dk_21 (by decide +kernel)
theorem dX6_begin_133 : decode cX6_begin 133 = .ok (.aload_n 0, 1) := dk_42 (by decide +kernel)
theorem dX6_begin_134 : decode cX6_begin 134 = .ok (.getfield 61, 3) := dk_180 (by decide +kernel)
theorem dX6_begin_137 : decode cX6_begin 137 = .ok (.if_icmp .ge 23, 3) := dk_162 (by decide +kernel)
theorem dX6_begin_140 : decode cX6_begin 140 = .ok (.aload_n 0, 1) := dk_42 (by decide +kernel)
theorem dX6_begin_141 : decode cX6_begin 141 = .ok (.getfield 17, 3) := dk_180 (by decide +kernel)
theorem dX6_begin_144 : decode cX6_begin 144 = .ok (.iload 4, 2) := dk_21 (by decide +kernel)
theorem dX6_begin_146 : decode cX6_begin 146 = .ok (.aload_n 0, 1) := dk_42 (by decide +kernel)
theorem dX6_begin_147 : decode cX6_begin 147 = .ok (.getfield 54, 3) := dk_180 (by decide +kernel)
theorem dX6_begin_150 : decode cX6_begin 150 = .ok (.iload 4, 2) := dk_21 (by decide +kernel)
theorem dX6_begin_152 : decode cX6_begin 152 = .ok (.iadd, 1) := dk_96 (by decide +kernel)
theorem dX6_begin_153 : decode cX6_begin 153 = .ok (.iastore, 1) := dk_79 (by decide +kernel)
theorem dX6_begin_154 : decode cX6_begin 154 = .ok (.iinc 4 1, 3) := dk_132 (by decide +kernel)
theorem dX6_begin_157 : decode cX6_begin 157 = .ok (.goto (-26), 3) := dk_167 (by decide +kernel)
theorem dX6_begin_160 : decode cX6_begin 160 = .ok (.return_, 1) := dk_177 (by decide +kernel)
def wsMX6_begin : List Cond := .code yX6_begin cX6_begin 5 none :: ([.methodLink RX6 48 Lib.Math.min.name, .static Lib.Math.min.name, .initialized "java/lang/Math", .code Lib.Math.min.name Lib.Math.min.code 2 (some .int), .fieldLink RX6 54 "OptimaWorks$Tableau" "columns" "I", .fieldLink RX6 58 "OptimaWorks$Tableau" "allRows" "I", .fieldLink RX6 61 "OptimaWorks$Tableau" "rows" "I", .fieldLink RX6 29 "OptimaWorks$Tableau" "under" "LOptimaWorks$Whole;", .fieldLink RX6 13 "OptimaWorks$Tableau" "cell" "[LOptimaWorks$Whole;", .fieldLink RX6 21 "OptimaWorks$Tableau" "outside" "[I", .fieldLink RX6 24 "OptimaWorks$Tableau" "shut" "[Z", .fieldLink RX6 17 "OptimaWorks$Tableau" "inside" "[I"] ++ wsX60 ++ (wsV RX6 64 RX8 yX8_setLong wsMX8_setLong))
theorem iwsMX6_begin_in6 : ∀ w ∈ wsX60, w ∈ wsMX6_begin := fun _ h => List.mem_cons_of_mem _ (List.mem_append_left _ (List.mem_append_right _ h))
theorem gwsMX6_begin_0 : GoodIn wsMX6_begin (wsV RX6 64 RX8 yX8_setLong wsMX8_setLong) := goodIn_sub (fun _ h => List.mem_cons_of_mem _ (List.mem_append_right _ h)) (gdV (by decide +kernel) gdwsMX8_setLong)
theorem gdwsMX6_begin : wsMX6_begin.all goodWord = true := gdC rfl (gdA (gdA (by decide +kernel : ([.methodLink RX6 48 Lib.Math.min.name, .static Lib.Math.min.name, .initialized "java/lang/Math", .code Lib.Math.min.name Lib.Math.min.code 2 (some .int), .fieldLink RX6 54 "OptimaWorks$Tableau" "columns" "I", .fieldLink RX6 58 "OptimaWorks$Tableau" "allRows" "I", .fieldLink RX6 61 "OptimaWorks$Tableau" "rows" "I", .fieldLink RX6 29 "OptimaWorks$Tableau" "under" "LOptimaWorks$Whole;", .fieldLink RX6 13 "OptimaWorks$Tableau" "cell" "[LOptimaWorks$Whole;", .fieldLink RX6 21 "OptimaWorks$Tableau" "outside" "[I", .fieldLink RX6 24 "OptimaWorks$Tableau" "shut" "[Z", .fieldLink RX6 17 "OptimaWorks$Tableau" "inside" "[I"] : List Cond).all goodWord = true) gdwsX60) (gdV (by decide +kernel) gdwsMX8_setLong))
theorem hm_m_X6_begin_0 : (.methodLink RX6 48 Lib.Math.min.name : Cond) ∈ wsMX6_begin := by decide +kernel
theorem hm_m_X6_begin_1 : (.static Lib.Math.min.name : Cond) ∈ wsMX6_begin := by decide +kernel
theorem hm_m_X6_begin_2 : (.initialized "java/lang/Math" : Cond) ∈ wsMX6_begin := by decide +kernel
theorem hm_m_X6_begin_3 : (.code Lib.Math.min.name Lib.Math.min.code 2 (some .int) : Cond) ∈ wsMX6_begin := by decide +kernel
theorem hm_m_X6_begin_4 : (.fieldLink RX6 54 "OptimaWorks$Tableau" "columns" "I" : Cond) ∈ wsMX6_begin := by decide +kernel
theorem hm_m_X6_begin_5 : (.fieldLink RX6 58 "OptimaWorks$Tableau" "allRows" "I" : Cond) ∈ wsMX6_begin := by decide +kernel
theorem hm_m_X6_begin_6 : (.fieldLink RX6 61 "OptimaWorks$Tableau" "rows" "I" : Cond) ∈ wsMX6_begin := by decide +kernel
set_option maxHeartbeats 4000000 in
set_option maxRecDepth 100000 in
/-- laid anew -/
theorem m_X6_begin (l : Launch) (dC : Nat → ClassId) (dI : Nat → Nat → Nat) (hQ : Nat → Nat) (aQ : Nat → Nat) (kQ : Nat → ClassId) (hw : Nat → Nat) (fQ_inside : Nat → Int32) (fQ_outside : Nat → Int32) (fQ_shut : Nat → Int32) (iQ_rows : Int32) (iQ_allRows : Int32) (iQ_columns : Int32) (nW : Nat) (lw : Nat → Nat) (kw : ClassId) (wl : Nat → Int32) (wb : Nat → Int32) (wG : Nat → Nat → Int64) (p1 : Int32) (p2 : Int32) (p3 : Int32) (b_iQ_rows : 0 ≤ iQ_rows.toInt ∧ iQ_rows.toInt ≤ 40) (b_iQ_allRows : 0 ≤ iQ_allRows.toInt ∧ iQ_allRows.toInt ≤ 40) (b_iQ_columns : 0 ≤ iQ_columns.toInt ∧ iQ_columns.toInt ≤ 40) (b_tb : TbO iQ_rows iQ_allRows iQ_columns) (b_wl : ∀ q : Nat, 0 ≤ (wl q).toInt ∧ (wl q).toInt ≤ 14) (b_wb : ∀ q : Nat, 0 ≤ (wb q).toInt ∧ (wb q).toInt ≤ 1) (b_p1 : 0 ≤ p1.toInt ∧ p1.toInt ≤ 40) (b_p2 : 0 ≤ p2.toInt ∧ p2.toInt ≤ 40) (b_p3 : 0 ≤ p3.toInt ∧ p3.toInt ≤ 40) (hnW : 406 ≤ nW) (h40 : p1.toInt + p2.toInt ≤ 40) (h400 : (p1.toInt + p2.toInt) * (p3.toInt + 1) ≤ 400) (sz : Nat) : Met l yX6_begin wsMX6_begin ({ frames := 1, cells := 0, slots := 0, locals := 25 }) (va_Pc [.ref (hQ 0), .int p1, .int p2, .int p3] (fun U => U.heap.size = sz ∧ va_P (dC, dI) vwCl (WQ hQ aQ kQ hw fQ_inside fQ_outside fQ_shut iQ_rows iQ_allRows iQ_columns ++ (WW nW hw lw kw wl wb wG)) U.heap ∧ va_K (dC, dI) vwCl (tQ kQ ++ (tW kw)) U ∧ va_D (fun _ => True) (WQ hQ aQ kQ hw fQ_inside fQ_outside fQ_shut iQ_rows iQ_allRows iQ_columns ++ (WW nW hw lw kw wl wb wG)))) (va_Qv (fun (u : (Nat → Int32) × (Nat → Int32) × (Nat → Int32) × (Int32) × (Int32) × (Int32) × (Nat → Int32) × (Nat → Int32) × (Nat → Nat → Int64)) => (0 ≤ (u.2.2.2.1).toInt ∧ (u.2.2.2.1).toInt ≤ 40) ∧ (0 ≤ (u.2.2.2.2.1).toInt ∧ (u.2.2.2.2.1).toInt ≤ 40) ∧ (0 ≤ (u.2.2.2.2.2.1).toInt ∧ (u.2.2.2.2.2.1).toInt ≤ 40) ∧ (∀ q : Nat, 0 ≤ ((u.2.2.2.2.2.2.1) q).toInt ∧ ((u.2.2.2.2.2.2.1) q).toInt ≤ 14) ∧ (∀ q : Nat, 0 ≤ ((u.2.2.2.2.2.2.2.1) q).toInt ∧ ((u.2.2.2.2.2.2.2.1) q).toInt ≤ 1) ∧ (TbO (u.2.2.2.1) (u.2.2.2.2.1) (u.2.2.2.2.2.1)) ∧ ((u.2.2.2.1).toInt = p1.toInt) ∧ ((u.2.2.2.2.1).toInt = p1.toInt + p2.toInt) ∧ ((u.2.2.2.2.2.1).toInt = p3.toInt)) (fun (u : (Nat → Int32) × (Nat → Int32) × (Nat → Int32) × (Int32) × (Int32) × (Int32) × (Nat → Int32) × (Nat → Int32) × (Nat → Nat → Int64)) t => va_P (dC, dI) vwCl (WQ hQ aQ kQ hw (u.1) (u.2.1) (u.2.2.1) (u.2.2.2.1) (u.2.2.2.2.1) (u.2.2.2.2.2.1) ++ (WW nW hw lw kw (u.2.2.2.2.2.2.1) (u.2.2.2.2.2.2.2.1) (u.2.2.2.2.2.2.2.2))) t.heap ∧ va_D (va_A (WQ hQ aQ kQ hw fQ_inside fQ_outside fQ_shut iQ_rows iQ_allRows iQ_columns ++ (WW nW hw lw kw wl wb wG)) sz) (WQ hQ aQ kQ hw (u.1) (u.2.1) (u.2.2.1) (u.2.2.2.1) (u.2.2.2.2.1) (u.2.2.2.2.2.1) ++ (WW nW hw lw kw (u.2.2.2.2.2.2.1) (u.2.2.2.2.2.2.2.1) (u.2.2.2.2.2.2.2.2)))) (va_A (WQ hQ aQ kQ hw fQ_inside fQ_outside fQ_shut iQ_rows iQ_allRows iQ_columns ++ (WW nW hw lw kw wl wb wG)) sz)) 0 0 (va_A (WQ hQ aQ kQ hw fQ_inside fQ_outside fQ_shut iQ_rows iQ_allRows iQ_columns ++ (WW nW hw lw kw wl wb wG)) sz) := by
  refine Met.ofW (cc := cX6_begin) (maxL := 5) (ret := none) (by decide) rfl ?_
  intro p e s m args below meth c s₁ B hml hv
  obtain ⟨rfl, hsz, hP, hK, hD0⟩ := hv
  have hx := B.exec
  have hb := B.bytes
  have hr := B.returns
  have hts := atoms_spec (ws := wsMX6_begin) B.pre
  have hown : s.vm.findClass RX6 = some m.cls := findClass_of_methodNamed B.named
  have hlocks := B.notSynchronized
  subst hsz
  have hD := hD0.self (sz := s.heap.size)
  generalize hAe : va_A (WQ hQ aQ kQ hw fQ_inside fQ_outside fQ_shut iQ_rows iQ_allRows iQ_columns ++ (WW nW hw lw kw wl wb wG)) s.heap.size = A at hD ⊢
  have hA : ∀ q : Nat, s.heap.size ≤ q → A q := fun q h => by rw [← hAe]; exact Or.inr h
  have hS : va_S A s.heap s.heap [] := va_S.rf
  have hl := lv_entry ([.ref (hQ 0), .int p1, .int p2, .int p3]) (n := 5) (Nat.le_of_ble_eq_true rfl)
  rw [lg_entry_eq]
  generalize (lg_sl ([.ref (hQ 0), .int p1, .int p2, .int p3]) ++ List.replicate (5 - (lg_sl ([.ref (hQ 0), .int p1, .int p2, .int p3])).length) Slot.unset).toArray = ls at hl ⊢
  have hl : lv_has ls 5 [(0, .ref (hQ 0)), (1, .int p1), (2, .int p2), (3, .int p3)] := hl
  have hTb := b_tb.1
  refine lv_aload_n hx hb dX6_begin_0 rfl (lv_at hl 0 rfl) ?_
  refine lv_iload_n hx hb dX6_begin_1 rfl (lv_at hl 3 rfl) ?_
  refine lv_bipush (v := 40) hx hb dX6_begin_2 (by decide) ?_
  refine va_mmin hx hb (by rw [hml]; exact hl.1.symm) hown (hts _ hm_m_X6_begin_0) (hts _ hm_m_X6_begin_1) (hts _ hm_m_X6_begin_2) (hts _ hm_m_X6_begin_3) (by decide +kernel) (Nat.le_of_ble_eq_true rfl) (by decide +kernel) (by decide +kernel) dX6_begin_4 ?_
  refine lv_topi (fun v1 hv1 => ?_)
  have b_v1 : (v1.toInt ≤ p3.toInt ∧ v1.toInt ≤ 40) ∧ (v1.toInt = p3.toInt ∨ v1.toInt = 40) := by rw [hv1]; exact min_t rfl (by decide : (40 : Int32).toInt = 40)
  clear hv1
  refine va_put (D := (dC, dI)) (ci := 6) (v := .int v1) (ty := .int) (C := RX6) (T := TX6) (N := 13) hx hb hts iwsMX6_begin_in6 tyX6 tyX6_ok nmX6 hown hK hP hD hS 0 rfl rfl 7 (by decide) (hts _ hm_m_X6_begin_4) (fun _ h9 => h9) rfl (by decide +kernel) rfl rfl (Nat.le_of_ble_eq_true rfl) dX6_begin_7 (fun H locs hP hD hS => ?_)
  have hP : va_P (dC, dI) vwCl (WQ hQ aQ kQ hw fQ_inside fQ_outside fQ_shut iQ_rows iQ_allRows v1 ++ (WW nW hw lw kw wl wb wG)) H := hP
  have hD := fz_sd hP (hD) rfl
  refine lv_aload_n hx hb dX6_begin_10 rfl (lv_at hl 0 rfl) ?_
  refine lv_iload_n hx hb dX6_begin_11 rfl (lv_at hl 1 rfl) ?_
  refine lv_iload_n hx hb dX6_begin_12 rfl (lv_at hl 2 rfl) ?_
  refine lv_iadd hx hb dX6_begin_13 ?_
  refine lv_topi (fun y2 hy2 => ?_)
  obtain rfl : (iI (p1.toInt + p2.toInt)) = y2 := (hy2.trans (iI_add2 (iI_of _) (iI_of _))).symm
  refine lv_bipush (v := 40) hx hb dX6_begin_14 (by decide) ?_
  refine lv_sipush (v := 400) hx hb dX6_begin_16 (by decide) ?_
  refine lv_aload_n hx hb dX6_begin_19 rfl (lv_at hl 0 rfl) ?_
  refine va_get (D := (dC, dI)) (ci := 6) (v := .int v1) (C := RX6) (T := TX6) (N := 13) hx hb hts iwsMX6_begin_in6 hown hK hP 0 rfl rfl 7 (by decide) (hts _ hm_m_X6_begin_4) (fun _ h9 => h9) rfl dX6_begin_20 ?_
  refine lv_iconst (v := 1) hx hb dX6_begin_23 (by decide) ?_
  refine lv_iadd hx hb dX6_begin_24 ?_
  refine lv_topi (fun y3 hy3 => ?_)
  obtain rfl : (iI (v1.toInt + 1)) = y3 := (hy3.trans (iI_add2 (iI_of _) (by decide : (1 : Int32) = iI 1))).symm
  refine lv_idiv hx hb dX6_begin_25 (nz_i (x := (iI (v1.toInt + 1))) (iI_t (by omega) (by omega)) (by omega)) ?_
  refine lv_topi (fun v4 hv4 => ?_)
  have b_v4 : (p1.toInt + p2.toInt) ≤ v4.toInt := by rw [hv4]; exact idiv_ge (by decide : (400 : Int32).toInt = 400) (iI_t (by omega) (by omega)) (by omega) (by omega) (by first | assumption | (rw [show ((iI (v1.toInt + 1)).toInt) = p3.toInt + 1 by rw [iI_t (by omega) (by omega)]; omega]; assumption) | (rw [show v1.toInt = p3.toInt by omega]; assumption))
  clear hv4
  refine va_mmin hx hb (by rw [hml]; exact hl.1.symm) hown (hts _ hm_m_X6_begin_0) (hts _ hm_m_X6_begin_1) (hts _ hm_m_X6_begin_2) (hts _ hm_m_X6_begin_3) (by decide +kernel) (Nat.le_of_ble_eq_true rfl) (by decide +kernel) (by decide +kernel) dX6_begin_26 ?_
  refine lv_topi (fun v5 hv5 => ?_)
  have b_v5 : (v5.toInt ≤ 40 ∧ v5.toInt ≤ v4.toInt) ∧ (v5.toInt = 40 ∨ v5.toInt = v4.toInt) := by rw [hv5]; exact min_t (by decide : (40 : Int32).toInt = 40) rfl
  clear hv5
  refine va_mmin hx hb (by rw [hml]; exact hl.1.symm) hown (hts _ hm_m_X6_begin_0) (hts _ hm_m_X6_begin_1) (hts _ hm_m_X6_begin_2) (hts _ hm_m_X6_begin_3) (by decide +kernel) (Nat.le_of_ble_eq_true rfl) (by decide +kernel) (by decide +kernel) dX6_begin_29 ?_
  refine lv_topi (fun v6 hv6 => ?_)
  have b_v6 : (v6.toInt ≤ (p1.toInt + p2.toInt) ∧ v6.toInt ≤ v5.toInt) ∧ (v6.toInt = (p1.toInt + p2.toInt) ∨ v6.toInt = v5.toInt) := by rw [hv6]; exact min_t (iI_t (Int.le_trans (by decide) (Int.add_le_add (b_p1.1) (b_p2.1))) (Int.le_trans (Int.add_le_add (b_p1.2) (b_p2.2)) (by decide))) rfl
  clear hv6
  refine va_put (D := (dC, dI)) (ci := 6) (v := .int v6) (ty := .int) (C := RX6) (T := TX6) (N := 13) hx hb hts iwsMX6_begin_in6 tyX6 tyX6_ok nmX6 hown hK hP hD hS 0 rfl rfl 6 (by decide) (hts _ hm_m_X6_begin_5) (fun _ h9 => h9) rfl (by decide +kernel) rfl rfl (Nat.le_of_ble_eq_true rfl) dX6_begin_32 (fun H locs hP hD hS => ?_)
  have hP : va_P (dC, dI) vwCl (WQ hQ aQ kQ hw fQ_inside fQ_outside fQ_shut iQ_rows v6 v1 ++ (WW nW hw lw kw wl wb wG)) H := hP
  have hD := fz_sd hP (hD) rfl
  refine lv_aload_n hx hb dX6_begin_35 rfl (lv_at hl 0 rfl) ?_
  refine lv_iload_n hx hb dX6_begin_36 rfl (lv_at hl 1 rfl) ?_
  refine lv_aload_n hx hb dX6_begin_37 rfl (lv_at hl 0 rfl) ?_
  refine va_get (D := (dC, dI)) (ci := 6) (v := .int v6) (C := RX6) (T := TX6) (N := 13) hx hb hts iwsMX6_begin_in6 hown hK hP 0 rfl rfl 6 (by decide) (hts _ hm_m_X6_begin_5) (fun _ h9 => h9) rfl dX6_begin_38 ?_
  refine va_mmin hx hb (by rw [hml]; exact hl.1.symm) hown (hts _ hm_m_X6_begin_0) (hts _ hm_m_X6_begin_1) (hts _ hm_m_X6_begin_2) (hts _ hm_m_X6_begin_3) (by decide +kernel) (Nat.le_of_ble_eq_true rfl) (by decide +kernel) (by decide +kernel) dX6_begin_41 ?_
  refine lv_topi (fun v7 hv7 => ?_)
  have b_v7 : (v7.toInt ≤ p1.toInt ∧ v7.toInt ≤ v6.toInt) ∧ (v7.toInt = p1.toInt ∨ v7.toInt = v6.toInt) := by rw [hv7]; exact min_t rfl rfl
  clear hv7
  refine va_put (D := (dC, dI)) (ci := 6) (v := .int v7) (ty := .int) (C := RX6) (T := TX6) (N := 13) hx hb hts iwsMX6_begin_in6 tyX6 tyX6_ok nmX6 hown hK hP hD hS 0 rfl rfl 5 (by decide) (hts _ hm_m_X6_begin_6) (fun _ h9 => h9) rfl (by decide +kernel) rfl rfl (Nat.le_of_ble_eq_true rfl) dX6_begin_44 (fun H locs hP hD hS => ?_)
  have hP : va_P (dC, dI) vwCl (WQ hQ aQ kQ hw fQ_inside fQ_outside fQ_shut v7 v6 v1 ++ (WW nW hw lw kw wl wb wG)) H := hP
  have hD := fz_sd hP (hD) rfl
  have htb : TbO v7 v6 v1 := TbO.of (N := p1.toInt + p2.toInt) (C := p3.toInt) (by omega) (by omega) h400 (by omega) (by omega) (by omega)
  obtain ⟨hT1, hT2, hT3⟩ := id htb
  refine lv_aload_n hx hb dX6_begin_47 rfl (lv_at hl 0 rfl) ?_
  refine va_get (D := (dC, dI)) (ci := 6) (v := .ref (hw 400)) (C := RX6) (T := TX6) (N := 13) hx hb hts iwsMX6_begin_in6 hown hK hP 0 rfl rfl 4 (by decide) (hts (.fieldLink RX6 29 "OptimaWorks$Tableau" "under" "LOptimaWorks$Whole;") (by decide +kernel)) (fun _ h9 => h9) rfl dX6_begin_48 ?_
  refine lv_lconst (v := 1) hx hb dX6_begin_51 (by decide) ?_
  have p9 := cj_2_1 (WQ hQ aQ kQ hw fQ_inside fQ_outside fQ_shut v7 v6 v1) (WW nW hw lw kw wl wb wG)
  have hPc := hP.mem (fun q h => p9.mem_iff.mpr (List.mem_append_left _ h))
  have hDc := (hD.perm p9).left
  have hKc : va_K (dC, dI) vwCl (tW kw) _ := hK.sub [4] rfl
  have hFc := freeG p9 hD hS hA
  refine va_callv (va_runV (As := [.long 1]) (rest := []) ⟨hx, hb, hml, hown, hts⟩ (m_X8_setLong l dC dI nW hw lw kw wl wb wG 400 1 b_wl b_wb (by first | with_reducible assumption | omega | (rw [iI_t (by omega) (by omega)]; omega) | decide | assumption) H.size) (cwV 1 hts gwsMX6_begin_0 rfl rfl rfl hd_yX8_setLong_RX8 (by decide +kernel)) (fz_pre (va_recv hK hP (ci := 8) (q0 := 5 + (400)) rfl (apR rfl (WW_o (by omega)))) hPc hKc hDc) rfl rfl hl.1 rfl (lv_room (Nat.le_of_ble_eq_true rfl)) dX6_begin_52 (by decide +kernel)) hS (fun q _ h => hFc q h) hFc (fun u t9_ H locs ht hvm hw9 hB9 hz1 hk1 hS => ?_)
  revert u hw9 hB9
  refine fz_p3 ?_
  intro wl_8 wb_8 wG_8 hw9 hB9
  try dsimp only at hw9 hB9
  revert hw9
  refine fz_a2 ?_
  intro b_wl_8 b_wb_8
  have p8 := cj_2_1 (WQ hQ aQ kQ hw fQ_inside fQ_outside fQ_shut v7 v6 v1) (WW nW hw lw kw wl_8 wb_8 wG_8)
  obtain ⟨hP, hD⟩ := frameG p9 p8 hP hD hk1 hFc (fz_P ht hB9.1) hB9.2
  refine lv_iconst (v := 0) hx hb dX6_begin_55 (by decide) ?_
  refine lv_istore hx hb dX6_begin_56 hl (by decide) rfl (fun ls (hl : lv_has ls _ ([(4, .int 0), (0, .ref (hQ 0)), (1, .int p1), (2, .int p2), (3, .int p3)])) => ?_)
  have hl : lv_has _ _ ([(4, .int 0), (0, .ref (hQ 0)), (1, .int p1), (2, .int p2), (3, .int p3)]) := lv_sub hl [0, 1, 2, 3, 4] rfl
  refine (fun (loop : ∀ (n9 : Nat) (wl_x58 : Nat → Int32) (wb_x58 : Nat → Int32) (wG_x58 : Nat → Nat → Int64) (l4_x58 : Int32) (H : Heap) (locs : List Loc) (ls : Array Slot), (∀ q : Nat, 0 ≤ (wl_x58 q).toInt ∧ (wl_x58 q).toInt ≤ 14) → (∀ q : Nat, 0 ≤ (wb_x58 q).toInt ∧ (wb_x58 q).toInt ≤ 1) → (0 ≤ l4_x58.toInt ∧ l4_x58.toInt ≤ 400) → (400 - l4_x58.toInt < ((n9 : Nat) : Int)) → va_P (dC, dI) vwCl (WQ hQ aQ kQ hw fQ_inside fQ_outside fQ_shut v7 v6 v1 ++ (WW nW hw lw kw wl_x58 wb_x58 wG_x58)) H → va_D A (WQ hQ aQ kQ hw fQ_inside fQ_outside fQ_shut v7 v6 v1 ++ (WW nW hw lw kw wl_x58 wb_x58 wG_x58)) → va_S A s.heap H locs → lv_has ls 5 [(4, .int l4_x58), (0, .ref (hQ 0)), (1, .int p1), (2, .int p2), (3, .int p3)] → W p l e _ s m _ below meth c H locs 0 0 _ (F0 m 58 ls [])) => loop (401) wl_8 wb_8 wG_8 0 _ _ _ b_wl_8 b_wb_8 (show 0 ≤ (0 : Int32).toInt ∧ (0 : Int32).toInt ≤ 400 from by decide) ((by have e9 : (0 : Int32).toInt = 0 := (by decide : (0 : Int32).toInt = 0); omega)) hP hD hS hl) ?_
  intro n9
  induction n9 with
  | zero => intro wl_x58 wb_x58 wG_x58 l4_x58 H locs ls b_wl_x58 b_wb_x58 b_l4_x58 hf9; exact False.elim (by omega)
  | succ n9 ihx58 =>
    intro wl_x58 wb_x58 wG_x58 l4_x58 H locs ls b_wl_x58 b_wb_x58 b_l4_x58 hfx58 hP hD hS hl
    refine lv_iload hx hb dX6_begin_58 (lv_at hl 0 rfl) ?_
    refine lv_aload_n hx hb dX6_begin_60 rfl (lv_at hl 1 rfl) ?_
    refine va_get (D := (dC, dI)) (ci := 6) (v := .int v6) (C := RX6) (T := TX6) (N := 13) hx hb hts iwsMX6_begin_in6 hown hK hP 0 rfl rfl 6 (by decide) (hts _ hm_m_X6_begin_5) (fun _ h9 => h9) rfl dX6_begin_61 ?_
    refine lv_aload_n hx hb dX6_begin_64 rfl (lv_at hl 1 rfl) ?_
    refine va_get (D := (dC, dI)) (ci := 6) (v := .int v1) (C := RX6) (T := TX6) (N := 13) hx hb hts iwsMX6_begin_in6 hown hK hP 0 rfl rfl 7 (by decide) (hts _ hm_m_X6_begin_4) (fun _ h9 => h9) rfl dX6_begin_65 ?_
    refine lv_iconst (v := 1) hx hb dX6_begin_68 (by decide) ?_
    refine lv_iadd hx hb dX6_begin_69 ?_
    refine lv_topi (fun y129 hy129 => ?_)
    obtain rfl : (iI (v1.toInt + 1)) = y129 := (hy129.trans (iI_add2 (iI_of _) (by decide : (1 : Int32) = iI 1))).symm
    refine lv_imul hx hb dX6_begin_70 ?_
    refine lv_topi (fun y130 hy130 => ?_)
    obtain rfl : (iI (v6.toInt * (v1.toInt + 1))) = y130 := (hy130.trans (iI_mul2 (iI_of _) rfl)).symm
    refine lv_icmp_ge (tgt := 91) hx hb dX6_begin_71 (by decide) (fun c_71 => ?_) (fun c_71 => ?_)
    · first | (have t_71 : l4_x58.toInt ≥ (v6.toInt * (v1.toInt + 1)) := toI_ge c_71 rfl (iI_t (by omega) (by omega))) | skip
      refine lv_iconst (v := 1) hx hb dX6_begin_91 (by decide) ?_
      refine lv_istore hx hb dX6_begin_92 hl (by decide) rfl (fun ls (hl : lv_has ls _ ([(4, .int 1), (0, .ref (hQ 0)), (1, .int p1), (2, .int p2), (3, .int p3)])) => ?_)
      have hl : lv_has _ _ ([(4, .int 1), (0, .ref (hQ 0)), (1, .int p1), (2, .int p2), (3, .int p3)]) := lv_sub hl [0, 1, 2, 3, 4] rfl
      refine (fun (loop : ∀ (n9 : Nat) (fQ_outside_x94 : Nat → Int32) (fQ_shut_x94 : Nat → Int32) (l4_x94 : Int32) (H : Heap) (locs : List Loc) (ls : Array Slot), (1 ≤ l4_x94.toInt ∧ l4_x94.toInt ≤ 41) → (41 - l4_x94.toInt < ((n9 : Nat) : Int)) → va_P (dC, dI) vwCl (WQ hQ aQ kQ hw fQ_inside fQ_outside_x94 fQ_shut_x94 v7 v6 v1 ++ (WW nW hw lw kw wl_x58 wb_x58 wG_x58)) H → va_D A (WQ hQ aQ kQ hw fQ_inside fQ_outside_x94 fQ_shut_x94 v7 v6 v1 ++ (WW nW hw lw kw wl_x58 wb_x58 wG_x58)) → va_S A s.heap H locs → lv_has ls 5 [(4, .int l4_x94), (0, .ref (hQ 0)), (1, .int p1), (2, .int p2), (3, .int p3)] → W p l e _ s m _ below meth c H locs 0 0 _ (F0 m 94 ls [])) => loop (41) fQ_outside fQ_shut 1 _ _ _ (show 1 ≤ (1 : Int32).toInt ∧ (1 : Int32).toInt ≤ 41 from by decide) ((by have e9 : (1 : Int32).toInt = 1 := (by decide : (1 : Int32).toInt = 1); omega)) hP hD hS hl) ?_
      intro n9
      induction n9 with
      | zero => intro fQ_outside_x94 fQ_shut_x94 l4_x94 H locs ls b_l4_x94 hf9; exact False.elim (by omega)
      | succ n9 ihx94 =>
        intro fQ_outside_x94 fQ_shut_x94 l4_x94 H locs ls b_l4_x94 hfx94 hP hD hS hl
        refine lv_iload hx hb dX6_begin_94 (lv_at hl 0 rfl) ?_
        refine lv_aload_n hx hb dX6_begin_96 rfl (lv_at hl 1 rfl) ?_
        refine va_get (D := (dC, dI)) (ci := 6) (v := .int v1) (C := RX6) (T := TX6) (N := 13) hx hb hts iwsMX6_begin_in6 hown hK hP 0 rfl rfl 7 (by decide) (hts _ hm_m_X6_begin_4) (fun _ h9 => h9) rfl dX6_begin_97 ?_
        refine lv_icmp_gt (tgt := 128) hx hb dX6_begin_100 (by decide) (fun c_100 => ?_) (fun c_100 => ?_)
        · have t_100 : l4_x94.toInt > v1.toInt := toI_gt c_100 rfl rfl
          refine lv_iconst (v := 0) hx hb dX6_begin_128 (by decide) ?_
          refine lv_istore hx hb dX6_begin_129 hl (by decide) rfl (fun ls (hl : lv_has ls _ ([(4, .int 0), (0, .ref (hQ 0)), (1, .int p1), (2, .int p2), (3, .int p3)])) => ?_)
          have hl : lv_has _ _ ([(4, .int 0), (0, .ref (hQ 0)), (1, .int p1), (2, .int p2), (3, .int p3)]) := lv_sub hl [0, 1, 2, 3, 4] rfl
          refine (fun (loop : ∀ (n9 : Nat) (fQ_inside_x131 : Nat → Int32) (l4_x131 : Int32) (H : Heap) (locs : List Loc) (ls : Array Slot), (0 ≤ l4_x131.toInt ∧ l4_x131.toInt ≤ 40) → (40 - l4_x131.toInt < ((n9 : Nat) : Int)) → va_P (dC, dI) vwCl (WQ hQ aQ kQ hw fQ_inside_x131 fQ_outside_x94 fQ_shut_x94 v7 v6 v1 ++ (WW nW hw lw kw wl_x58 wb_x58 wG_x58)) H → va_D A (WQ hQ aQ kQ hw fQ_inside_x131 fQ_outside_x94 fQ_shut_x94 v7 v6 v1 ++ (WW nW hw lw kw wl_x58 wb_x58 wG_x58)) → va_S A s.heap H locs → lv_has ls 5 [(4, .int l4_x131), (0, .ref (hQ 0)), (1, .int p1), (2, .int p2), (3, .int p3)] → W p l e _ s m _ below meth c H locs 0 0 _ (F0 m 131 ls [])) => loop (41) fQ_inside 0 _ _ _ (show 0 ≤ (0 : Int32).toInt ∧ (0 : Int32).toInt ≤ 40 from by decide) ((by have e9 : (0 : Int32).toInt = 0 := (by decide : (0 : Int32).toInt = 0); omega)) hP hD hS hl) ?_
          intro n9
          induction n9 with
          | zero => intro fQ_inside_x131 l4_x131 H locs ls b_l4_x131 hf9; exact False.elim (by omega)
          | succ n9 ihx131 =>
            intro fQ_inside_x131 l4_x131 H locs ls b_l4_x131 hfx131 hP hD hS hl
            refine lv_iload hx hb dX6_begin_131 (lv_at hl 0 rfl) ?_
            refine lv_aload_n hx hb dX6_begin_133 rfl (lv_at hl 1 rfl) ?_
            refine va_get (D := (dC, dI)) (ci := 6) (v := .int v7) (C := RX6) (T := TX6) (N := 13) hx hb hts iwsMX6_begin_in6 hown hK hP 0 rfl rfl 5 (by decide) (hts _ hm_m_X6_begin_6) (fun _ h9 => h9) rfl dX6_begin_134 ?_
            refine lv_icmp_ge (tgt := 160) hx hb dX6_begin_137 (by decide) (fun c_137 => ?_) (fun c_137 => ?_)
            · have t_137 : l4_x131.toInt ≥ v7.toInt := toI_ge c_137 rfl rfl
              refine W.widen (k := 0) (n := 0) (by decide +kernel) (by decide +kernel) ?_
              exact W.vret hx hb hr (fun t9_ ht hW => ⟨⟨(fQ_inside_x131, fQ_outside_x94, fQ_shut_x94, v7, v6, v1, wl_x58, wb_x58, wG_x58), rfl, ⟨(by (try dsimp only); exact (by first | exact b_v7 | with_reducible assumption | exact ⟨by omega, by omega⟩ | assumption)), (by (try dsimp only); exact (by first | exact b_v6 | with_reducible assumption | exact ⟨by omega, by omega⟩ | assumption)), (by (try dsimp only); exact (by first | exact b_v1 | with_reducible assumption | exact ⟨by omega, by omega⟩ | assumption)), b_wl_x58, b_wb_x58, (by (try dsimp only); exact (htb)), (by (try dsimp only); omega), (by (try dsimp only); omega), (by (try dsimp only); omega)⟩, by rw [ht]; exact hP, hD⟩, hS.F ht⟩) hS.2.2 dX6_begin_160
            · have t_137 : ¬ l4_x131.toInt ≥ v7.toInt := toI_nge c_137 rfl rfl
              refine lv_aload_n hx hb dX6_begin_140 rfl (lv_at hl 1 rfl) ?_
              refine va_get (D := (dC, dI)) (ci := 6) (v := .ref (aQ 1)) (C := RX6) (T := TX6) (N := 13) hx hb hts iwsMX6_begin_in6 hown hK hP 0 rfl rfl 1 (by decide) (hts (.fieldLink RX6 17 "OptimaWorks$Tableau" "inside" "[I") (by decide +kernel)) (fun _ h9 => h9) rfl dX6_begin_141 ?_
              refine lv_iload hx hb dX6_begin_144 (lv_at hl 0 rfl) ?_
              refine lv_aload_n hx hb dX6_begin_146 rfl (lv_at hl 1 rfl) ?_
              refine va_get (D := (dC, dI)) (ci := 6) (v := .int v1) (C := RX6) (T := TX6) (N := 13) hx hb hts iwsMX6_begin_in6 hown hK hP 0 rfl rfl 7 (by decide) (hts _ hm_m_X6_begin_4) (fun _ h9 => h9) rfl dX6_begin_147 ?_
              refine lv_iload hx hb dX6_begin_150 (lv_at hl 0 rfl) ?_
              refine lv_iadd hx hb dX6_begin_152 ?_
              refine lv_topi (fun y182 hy182 => ?_)
              obtain rfl : (iI (v1.toInt + l4_x131.toInt)) = y182 := (hy182.trans (iI_add2 (iI_of _) (iI_of _))).symm
              refine va_iast (cA := kQ 1) (n := 40) (f := fQ_inside_x131) hx hb hK hP hD hS 2 1 rfl rfl (vp_in_iff.mpr ⟨b_l4_x131.1, (by omega)⟩) dX6_begin_153 (fun H locs hP hD hS => ?_)
              obtain ⟨u183, hu183⟩ : ∃ f9, f9 = upd fQ_inside_x131 (l4_x131).toNatClampNeg (iI (v1.toInt + l4_x131.toInt)) := ⟨_, rfl⟩
              have hP : va_P (dC, dI) vwCl (WQ hQ aQ kQ hw u183 fQ_outside_x94 fQ_shut_x94 v7 v6 v1 ++ (WW nW hw lw kw wl_x58 wb_x58 wG_x58)) H := by rw [hu183]; exact hP
              have hD : va_D A (WQ hQ aQ kQ hw u183 fQ_outside_x94 fQ_shut_x94 v7 v6 v1 ++ (WW nW hw lw kw wl_x58 wb_x58 wG_x58)) := by rw [hu183]; exact hD
              clear hu183
              refine lv_iinc (v := (iI (l4_x131.toInt + 1))) hx hb dX6_begin_154 hl (k := 0) rfl (iI_add2 (iI_of _) (by decide : (1 : Int32) = iI 1)) (by decide) rfl (fun ls (hl : lv_has ls _ ([(4, .int (iI (l4_x131.toInt + 1))), (0, .ref (hQ 0)), (1, .int p1), (2, .int p2), (3, .int p3)])) => ?_)
              refine lv_goto (tgt := 131) hx hb dX6_begin_157 (by decide) ?_
              have hl : lv_has _ _ ([(4, .int (iI (l4_x131.toInt + 1))), (0, .ref (hQ 0)), (1, .int p1), (2, .int p2), (3, .int p3)]) := lv_sub hl [0, 1, 2, 3, 4] rfl
              exact ihx131 u183 (iI (l4_x131.toInt + 1)) _ _ _ (iI_rng (Int.le_trans (by decide) (Int.add_le_add (b_l4_x131.1) (Int.le_refl _))) (by omega) (by decide) (by decide)) (by have e9 : ((iI (l4_x131.toInt + 1))).toInt = (l4_x131.toInt + 1) := (iI_t (Int.le_trans (by decide) (Int.add_le_add (b_l4_x131.1) (Int.le_refl _))) (Int.le_trans (Int.add_le_add (b_l4_x131.2) (Int.le_refl _)) (by decide))); omega) hP hD hS hl
        · have t_100 : ¬ l4_x94.toInt > v1.toInt := toI_ngt c_100 rfl rfl
          refine lv_aload_n hx hb dX6_begin_103 rfl (lv_at hl 1 rfl) ?_
          refine va_get (D := (dC, dI)) (ci := 6) (v := .ref (aQ 2)) (C := RX6) (T := TX6) (N := 13) hx hb hts iwsMX6_begin_in6 hown hK hP 0 rfl rfl 2 (by decide) (hts (.fieldLink RX6 21 "OptimaWorks$Tableau" "outside" "[I") (by decide +kernel)) (fun _ h9 => h9) rfl dX6_begin_104 ?_
          refine lv_iload hx hb dX6_begin_107 (lv_at hl 0 rfl) ?_
          refine lv_iload hx hb dX6_begin_109 (lv_at hl 0 rfl) ?_
          refine lv_iconst (v := 1) hx hb dX6_begin_111 (by decide) ?_
          refine lv_isub hx hb dX6_begin_112 ?_
          refine lv_topi (fun y184 hy184 => ?_)
          obtain rfl : (iI (l4_x94.toInt - 1)) = y184 := (hy184.trans (iI_sub2 (iI_of _) (by decide : (1 : Int32) = iI 1))).symm
          refine va_iast (cA := kQ 2) (n := 41) (f := fQ_outside_x94) hx hb hK hP hD hS 3 2 rfl rfl (vp_in_iff.mpr ⟨(Int.le_trans (by decide) (b_l4_x94.1)), (by omega)⟩) dX6_begin_113 (fun H locs hP hD hS => ?_)
          obtain ⟨u185, hu185⟩ : ∃ f9, f9 = upd fQ_outside_x94 (l4_x94).toNatClampNeg (iI (l4_x94.toInt - 1)) := ⟨_, rfl⟩
          have hP : va_P (dC, dI) vwCl (WQ hQ aQ kQ hw fQ_inside u185 fQ_shut_x94 v7 v6 v1 ++ (WW nW hw lw kw wl_x58 wb_x58 wG_x58)) H := by rw [hu185]; exact hP
          have hD : va_D A (WQ hQ aQ kQ hw fQ_inside u185 fQ_shut_x94 v7 v6 v1 ++ (WW nW hw lw kw wl_x58 wb_x58 wG_x58)) := by rw [hu185]; exact hD
          clear hu185
          refine lv_aload_n hx hb dX6_begin_114 rfl (lv_at hl 1 rfl) ?_
          refine va_get (D := (dC, dI)) (ci := 6) (v := .ref (aQ 3)) (C := RX6) (T := TX6) (N := 13) hx hb hts iwsMX6_begin_in6 hown hK hP 0 rfl rfl 3 (by decide) (hts (.fieldLink RX6 24 "OptimaWorks$Tableau" "shut" "[Z") (by decide +kernel)) (fun _ h9 => h9) rfl dX6_begin_115 ?_
          refine lv_iload hx hb dX6_begin_118 (lv_at hl 0 rfl) ?_
          refine lv_iconst (v := 0) hx hb dX6_begin_120 (by decide) ?_
          refine va_zast (cA := kQ 3) (n := 41) (f := fQ_shut_x94) hx hb hK hP hD hS 4 3 rfl rfl (vp_in_iff.mpr ⟨(Int.le_trans (by decide) (b_l4_x94.1)), (by omega)⟩) dX6_begin_121 (fun H locs hP hD hS => ?_)
          obtain ⟨u186, hu186⟩ : ∃ f9, f9 = upd fQ_shut_x94 (l4_x94).toNatClampNeg (vp_nar FieldType.boolean (0 : Int32)) := ⟨_, rfl⟩
          have hP : va_P (dC, dI) vwCl (WQ hQ aQ kQ hw fQ_inside u185 u186 v7 v6 v1 ++ (WW nW hw lw kw wl_x58 wb_x58 wG_x58)) H := by rw [hu186]; exact hP
          have hD : va_D A (WQ hQ aQ kQ hw fQ_inside u185 u186 v7 v6 v1 ++ (WW nW hw lw kw wl_x58 wb_x58 wG_x58)) := by rw [hu186]; exact hD
          clear hu186
          refine lv_iinc (v := (iI (l4_x94.toInt + 1))) hx hb dX6_begin_122 hl (k := 0) rfl (iI_add2 (iI_of _) (by decide : (1 : Int32) = iI 1)) (by decide) rfl (fun ls (hl : lv_has ls _ ([(4, .int (iI (l4_x94.toInt + 1))), (0, .ref (hQ 0)), (1, .int p1), (2, .int p2), (3, .int p3)])) => ?_)
          refine lv_goto (tgt := 94) hx hb dX6_begin_125 (by decide) ?_
          have hl : lv_has _ _ ([(4, .int (iI (l4_x94.toInt + 1))), (0, .ref (hQ 0)), (1, .int p1), (2, .int p2), (3, .int p3)]) := lv_sub hl [0, 1, 2, 3, 4] rfl
          exact ihx94 u185 u186 (iI (l4_x94.toInt + 1)) _ _ _ (iI_rng (Int.le_trans (by decide) (Int.add_le_add (b_l4_x94.1) (Int.le_refl _))) (by omega) (by decide) (by decide)) (by have e9 : ((iI (l4_x94.toInt + 1))).toInt = (l4_x94.toInt + 1) := (iI_t (Int.le_trans (by decide) (Int.add_le_add (b_l4_x94.1) (Int.le_refl _))) (Int.le_trans (Int.add_le_add (b_l4_x94.2) (Int.le_refl _)) (by decide))); omega) hP hD hS hl
    · first | (have t_71 : ¬ l4_x58.toInt ≥ (v6.toInt * (v1.toInt + 1)) := toI_nge c_71 rfl (iI_t (by omega) (by omega))) | skip
      refine lv_aload_n hx hb dX6_begin_74 rfl (lv_at hl 1 rfl) ?_
      refine va_get (D := (dC, dI)) (ci := 6) (v := .ref (aQ 0)) (C := RX6) (T := TX6) (N := 13) hx hb hts iwsMX6_begin_in6 hown hK hP 0 rfl rfl 0 (by decide) (hts (.fieldLink RX6 13 "OptimaWorks$Tableau" "cell" "[LOptimaWorks$Whole;") (by decide +kernel)) (fun _ h9 => h9) rfl dX6_begin_75 ?_
      refine lv_iload hx hb dX6_begin_78 (lv_at hl 0 rfl) ?_
      refine va_aldq (cA := kQ 0) (n := 400) (f := fun q => some (hw q)) hx hb hK hP 1 0 rfl rfl (vp_in_iff.mpr ⟨b_l4_x58.1, (by omega)⟩) dX6_begin_80 ?_
      obtain ⟨k187, hk187, b_k187⟩ : ∃ k9 : Nat, k9 = (l4_x58).toNatClampNeg ∧ (k9 < 400 ∧ (k9 : Int) = l4_x58.toInt) := ⟨_, rfl, ald_0 (x := (l4_x58)) rfl (by omega) (by omega)⟩
      refine W.eq (g2 := F0 m 81 ls [.ref (hw k187)]) (by rw [hk187]; rfl) ?_
      clear hk187
      refine lv_lconst (v := 0) hx hb dX6_begin_81 (by decide) ?_
      have p9 := cj_2_1 (WQ hQ aQ kQ hw fQ_inside fQ_outside fQ_shut v7 v6 v1) (WW nW hw lw kw wl_x58 wb_x58 wG_x58)
      have hPc := hP.mem (fun q h => p9.mem_iff.mpr (List.mem_append_left _ h))
      have hDc := (hD.perm p9).left
      have hKc : va_K (dC, dI) vwCl (tW kw) _ := hK.sub [4] rfl
      have hFc := freeG p9 hD hS hA
      refine va_callv (va_runV (As := [.long 0]) (rest := []) ⟨hx, hb, hml, hown, hts⟩ (m_X8_setLong l dC dI nW hw lw kw wl_x58 wb_x58 wG_x58 k187 0 b_wl_x58 b_wb_x58 (by first | with_reducible assumption | omega | (rw [iI_t (by omega) (by omega)]; omega) | decide | assumption) H.size) (cwV 1 hts gwsMX6_begin_0 rfl rfl rfl hd_yX8_setLong_RX8 (by decide +kernel)) (fz_pre (va_recv hK hP (ci := 8) (q0 := 5 + (k187)) rfl (apR rfl (WW_o (by omega)))) hPc hKc hDc) rfl rfl hl.1 rfl (lv_room (Nat.le_of_ble_eq_true rfl)) dX6_begin_82 (by decide +kernel)) hS (fun q _ h => hFc q h) hFc (fun u t9_ H locs ht hvm hw9 hB9 hz1 hk1 hS => ?_)
      revert u hw9 hB9
      refine fz_p3 ?_
      intro wl_188 wb_188 wG_188 hw9 hB9
      try dsimp only at hw9 hB9
      revert hw9
      refine fz_a2 ?_
      intro b_wl_188 b_wb_188
      have p8 := cj_2_1 (WQ hQ aQ kQ hw fQ_inside fQ_outside fQ_shut v7 v6 v1) (WW nW hw lw kw wl_188 wb_188 wG_188)
      obtain ⟨hP, hD⟩ := frameG p9 p8 hP hD hk1 hFc (fz_P ht hB9.1) hB9.2
      refine lv_iinc (v := (iI (l4_x58.toInt + 1))) hx hb dX6_begin_85 hl (k := 0) rfl (iI_add2 (iI_of _) (by decide : (1 : Int32) = iI 1)) (by decide) rfl (fun ls (hl : lv_has ls _ ([(4, .int (iI (l4_x58.toInt + 1))), (0, .ref (hQ 0)), (1, .int p1), (2, .int p2), (3, .int p3)])) => ?_)
      refine lv_goto (tgt := 58) hx hb dX6_begin_88 (by decide) ?_
      have hl : lv_has _ _ ([(4, .int (iI (l4_x58.toInt + 1))), (0, .ref (hQ 0)), (1, .int p1), (2, .int p2), (3, .int p3)]) := lv_sub hl [0, 1, 2, 3, 4] rfl
      exact ihx58 wl_188 wb_188 wG_188 (iI (l4_x58.toInt + 1)) _ _ _ b_wl_188 b_wb_188 (iI_rng (Int.le_trans (by decide) (Int.add_le_add (b_l4_x58.1) (Int.le_refl _))) (by omega) (by decide) (by decide)) (by have e9 : ((iI (l4_x58.toInt + 1))).toInt = (l4_x58.toInt + 1) := (iI_t (Int.le_trans (by decide) (Int.add_le_add (b_l4_x58.1) (Int.le_refl _))) (Int.le_trans (Int.add_le_add (b_l4_x58.2) (Int.le_refl _)) (by decide))); omega) hP hD hS hl
end
section
/-! the solver's measures -/
theorem mul40 {X C : Int} (h0 : 0 ≤ X) (h1 : X ≤ 40) (h2 : 0 ≤ C) (h3 : C ≤ 8) : X * (C + 1) ≤ 400 := by
  have h : X * (C + 1) ≤ X * 9 := Int.mul_le_mul_of_nonneg_left (by omega) h0
  omega
theorem ix_small {i j c : Int} (h0 : 0 ≤ i) (h1 : i ≤ 39) (h2 : 0 ≤ c) (h3 : c ≤ 8) (h4 : 0 ≤ j) (h5 : j ≤ 40) : 0 ≤ i * (c + 1) + j ∧ i * (c + 1) + j < 400 := by
  have h : i * (c + 1) ≤ i * 9 := Int.mul_le_mul_of_nonneg_left (by omega) h0
  have h9 : 0 ≤ i * (c + 1) := Int.mul_nonneg h0 (by omega)
  omega
theorem idiv_mul {x y : Int32} {X Y : Int} (hx : x.toInt = X) (hy : y.toInt = Y) (h1 : 0 ≤ X) : 0 < Y → 0 ≤ (x / y).toInt ∧ (x / y).toInt * Y ≤ X := fun h2 => by
  obtain ⟨a, ha, rfl⟩ := nI_of (x := x) (nn_i hx h1)
  obtain ⟨b, hb, rfl⟩ := nI_of (x := y) (nn_i hy (by omega))
  rw [nI_toInt ha] at hx; rw [nI_toInt hb] at hy
  have h3 : a / b ≤ a := Nat.div_le_self a b
  have h4 : a / b * b ≤ a := Nat.div_mul_le_self a b
  rw [pk_div ha (by omega) hb]
  generalize a / b = d at h3 h4 ⊢
  rw [nI_toInt (by omega)]
  refine ⟨by omega, ?_⟩
  rw [← hy, ← hx]
  exact_mod_cast h4
theorem cnt_ix {i j w c : Int} (h : 0 < w → 0 ≤ c ∧ c * w ≤ 200000) (hi0 : 0 ≤ i) (hi : i < w) (hj0 : 0 ≤ j) (hj : j < c) : 0 ≤ i * c + j ∧ i * c + j ≤ 200000 := by
  obtain ⟨h1, h2⟩ := h (by omega)
  have h3 : 0 ≤ i * c := Int.mul_nonneg hi0 h1
  have h4 : (i + 1) * c ≤ w * c := Int.mul_le_mul_of_nonneg_right (by omega) h1
  rw [Int.add_mul, Int.one_mul, Int.mul_comm w c] at h4
  omega
theorem cnt_ix0 {i w c : Int} (h : 0 < w → 0 ≤ c ∧ c * w ≤ 200000) (hi0 : 0 ≤ i) (hi : i < w) : 0 ≤ i * c ∧ i * c ≤ 200000 := by
  obtain ⟨h1, h2⟩ := h (by omega)
  have h3 : 0 ≤ i * c := Int.mul_nonneg hi0 h1
  have h4 : (i + 1) * c ≤ w * c := Int.mul_le_mul_of_nonneg_right (by omega) h1
  rw [Int.add_mul, Int.one_mul, Int.mul_comm w c] at h4
  omega
end
section
theorem hd_yX5_differ_RX5 : yX5_differ.cls = RX5 ∧ yX5_differ.cls ≠ "java/lang/invoke/MethodHandle" ∧ yX5_differ.cls ≠ "java/lang/invoke/VarHandle" ∧ (parseMethodDescriptor yX5_differ.desc).map (fun d => d.parameters.length) = some 1 := by decide +kernel
theorem hd_yX5_allDiffer_RX5 : yX5_allDiffer.cls = RX5 ∧ yX5_allDiffer.cls ≠ "java/lang/invoke/MethodHandle" ∧ yX5_allDiffer.cls ≠ "java/lang/invoke/VarHandle" ∧ (parseMethodDescriptor yX5_allDiffer.desc).map (fun d => d.parameters.length) = some 0 := by decide +kernel
theorem hd_yX1_range_RX1 : yX1_range.cls = RX1 ∧ yX1_range.cls ≠ "java/lang/invoke/MethodHandle" ∧ yX1_range.cls ≠ "java/lang/invoke/VarHandle" ∧ (parseMethodDescriptor yX1_range.desc).map (fun d => d.parameters.length) = some 1 := by decide +kernel
def WO (hO : Nat → Nat) (aO : Nat → Nat) (kO : Nat → ClassId) (hM : Nat → Nat) (hQ : Nat → Nat) (hw : Nat → Nat) (iO_answered : Int32) (iO_searched : Int32) (iO_searchedRelaxed : Int32) (iO_counted : Int32) (fO_countedCase : Nat → Int32) (gO_goalNumber : Nat → Int64) (gO_goalScale : Nat → Int64) (fO_start : Nat → Int32) (fO_column : Nat → Int32) (fO_chosen : Nat → Int32) : va_W := [(hO 0, .inr (5, [.ref (hM 0), .ref (hQ 0), .int iO_answered, .int iO_searched, .int iO_searchedRelaxed, .int iO_counted, .ref (aO 0), .ref (aO 1), .ref (aO 2), .ref (aO 3), .ref (aO 4), .ref (aO 5), .ref (aO 6), .ref (aO 7), .ref (hw 417), .ref (aO 8), .ref (hw 426), .ref (hw 427), .ref (aO 9)])), (aO 0, .inl (kO 0, 64, .inl fO_countedCase)), (aO 1, .inl (kO 1, 24, .inr (.inl gO_goalNumber))), (aO 2, .inl (kO 2, 3, .inr (.inl gO_goalScale))), (aO 3, .inl (kO 3, 8, .inl fO_start)), (aO 4, .inl (kO 4, 8, .inl fO_column)), (aO 5, .inl (kO 5, 12, .inl fO_chosen)), (aO 6, .inl (kO 6, 8, .inr (.inr (.inr (.inr (fun q => some (hw (406 + q)))))))), (aO 7, .inl (kO 7, 3, .inr (.inr (.inr (.inr (fun q => some (hw (414 + q)))))))), (aO 8, .inl (kO 8, 8, .inr (.inr (.inr (.inr (fun q => some (hw (418 + q)))))))), (aO 9, .inl (kO 9, 4, .inr (.inr (.inr (.inr (fun q => some (hw (428 + q))))))))]
def tO (kO : Nat → ClassId) : List (ClassId × FieldType) := [(kO 0, .int), (kO 1, .long), (kO 2, .long), (kO 3, .int), (kO 4, .int), (kO 5, .int), (kO 6, .object "OptimaWorks$Whole"), (kO 7, .object "OptimaWorks$Whole"), (kO 8, .object "OptimaWorks$Whole"), (kO 9, .object "OptimaWorks$Whole")]
theorem dX10_divisor_0 : decode cX10_divisor 0 = .ok (.lload_n 0, 1) := dk_30 (by decide +kernel)
theorem dX10_divisor_1 : decode cX10_divisor 1 = .ok (.invokestatic 179, 3) := dk_184 (by decide +kernel)
theorem dX10_divisor_4 : decode cX10_divisor 4 = .ok (.lstore 4, 2) := dk_55 (by decide +kernel)
theorem dX10_divisor_6 : decode cX10_divisor 6 = .ok (.lload_n 2, 1) := dk_32 (by decide +kernel)
theorem dX10_divisor_7 : decode cX10_divisor 7 = .ok (.invokestatic 179, 3) := dk_184 (by decide +kernel)
theorem dX10_divisor_10 : decode cX10_divisor 10 = .ok (.lstore 6, 2) := dk_55 (by decide +kernel)
theorem dX10_divisor_12 : decode cX10_divisor 12 = .ok (.iconst 0, 1) := dk_3 (by decide +kernel)
theorem dX10_divisor_13 : decode cX10_divisor 13 = .ok (.istore 8, 2) := dk_54 (by decide +kernel)
theorem dX10_divisor_15 : decode cX10_divisor 15 = .ok (.iload 8, 2) := dk_21 (by decide +kernel)
theorem dX10_divisor_17 : decode cX10_divisor 17 = .ok (.sipush 200, 3) := dk_17 (by decide +kernel)
theorem dX10_divisor_20 : decode cX10_divisor 20 = .ok (.if_icmp .ge 31, 3) := dk_162 (by decide +kernel)
theorem dX10_divisor_23 : decode cX10_divisor 23 = .ok (.lload 6, 2) := dk_22 (by decide +kernel)
theorem dX10_divisor_25 : decode cX10_divisor 25 = .ok (.lconst 0, 1) := dk_9 (by decide +kernel)
theorem dX10_divisor_26 : decode cX10_divisor 26 = .ok (.lcmp, 1) := dk_148 (by decide +kernel)
theorem dX10_divisor_27 : decode cX10_divisor 27 = .ok (.ifCond .eq 24, 3) := dk_153 (by decide +kernel)
theorem dX10_divisor_30 : decode cX10_divisor 30 = .ok (.lload 4, 2) := dk_22 (by decide +kernel)
theorem dX10_divisor_32 : decode cX10_divisor 32 = .ok (.lload 6, 2) := dk_22 (by decide +kernel)
theorem dX10_divisor_34 : decode cX10_divisor 34 = .ok (.lrem, 1) := dk_113 (by decide +kernel)
theorem dX10_divisor_35 : decode cX10_divisor 35 = .ok (.lstore 9, 2) := dk_55 (by decide +kernel)
theorem dX10_divisor_37 : decode cX10_divisor 37 = .ok (.lload 6, 2) := dk_22 (by decide +kernel)
theorem dX10_divisor_39 : decode cX10_divisor 39 = .ok (.lstore 4, 2) := dk_55 (by decide +kernel)
theorem dX10_divisor_41 : decode cX10_divisor 41 = .ok (.lload 9, 2) := dk_22 (by decide +kernel)
theorem dX10_divisor_43 : decode cX10_divisor 43 = .ok (.lstore 6, 2) := dk_55 (by decide +kernel)
theorem dX10_divisor_45 : decode cX10_divisor 45 = .ok (.iinc 8 1, 3) := dk_132 (by decide +kernel)
theorem dX10_divisor_48 : decode cX10_divisor 48 = .ok (.goto (-33), 3) := dk_167 (by decide +kernel)
theorem dX10_divisor_51 : decode cX10_divisor 51 = .ok (.lload 4, 2) := dk_22 (by decide +kernel)
theorem dX10_divisor_53 : decode cX10_divisor 53 = .ok (.lconst 0, 1) := dk_9 (by decide +kernel)
theorem dX10_divisor_54 : decode cX10_divisor 54 = .ok (.lcmp, 1) := dk_148 (by decide +kernel)
theorem dX10_divisor_55 : decode cX10_divisor 55 = .ok (.ifCond .ne 7, 3) := dk_154 (by decide +kernel)
theorem dX10_divisor_58 : decode cX10_divisor 58 = .ok (.lconst 1, 1) := dk_10 (by decide +kernel)
theorem dX10_divisor_59 : decode cX10_divisor 59 = .ok (.goto 5, 3) := dk_167 (by decide +kernel)
theorem dX10_divisor_62 : decode cX10_divisor 62 = .ok (.lload 4, 2) := dk_22 (by decide +kernel)
theorem dX10_divisor_64 : decode cX10_divisor 64 = .ok (.lreturn, 1) := dk_173 (by decide +kernel)
def wsMX10_divisor : List Cond := .code yX10_divisor cX10_divisor 11 (some .long) :: ([.methodLink RX10 179 Lib.MathLoose.abs_long.x, .static Lib.MathLoose.abs_long.x, .initialized "java/lang/Math", .code Lib.MathLoose.abs_long.x Lib.MathLoose.abs_long.code 2 (some .long)])
theorem gdwsMX10_divisor : wsMX10_divisor.all goodWord = true := gdC rfl (by decide +kernel : ([.methodLink RX10 179 Lib.MathLoose.abs_long.x, .static Lib.MathLoose.abs_long.x, .initialized "java/lang/Math", .code Lib.MathLoose.abs_long.x Lib.MathLoose.abs_long.code 2 (some .long)] : List Cond).all goodWord = true)
theorem hm_m_X10_divisor_0 : (.methodLink RX10 179 Lib.MathLoose.abs_long.x : Cond) ∈ wsMX10_divisor := by decide +kernel
theorem hm_m_X10_divisor_1 : (.static Lib.MathLoose.abs_long.x : Cond) ∈ wsMX10_divisor := by decide +kernel
theorem hm_m_X10_divisor_2 : (.initialized "java/lang/Math" : Cond) ∈ wsMX10_divisor := by decide +kernel
theorem hm_m_X10_divisor_3 : (.code Lib.MathLoose.abs_long.x Lib.MathLoose.abs_long.code 2 (some .long) : Cond) ∈ wsMX10_divisor := by decide +kernel
set_option maxHeartbeats 4000000 in
set_option maxRecDepth 100000 in
/-- the common divisor -/
theorem m_X10_divisor (l : Launch) (dC : Nat → ClassId) (dI : Nat → Nat → Nat) (p1 : Int64) (p2 : Int64) (sz : Nat) : Met l yX10_divisor wsMX10_divisor ({ frames := 1, cells := 0, slots := 0, locals := 13 }) (va_Pc [.long p1, .long p2] (fun U => U.heap.size = sz ∧ va_P (dC, dI) vwCl [] U.heap ∧ va_K (dC, dI) vwCl [] U ∧ va_D (fun _ => True) [])) (va_Ql (fun (r : Int64) (u : Unit) => (r.toInt ≠ 0)) (fun (u : Unit) t => True) (va_A [] sz)) 0 0 (va_A [] sz) := by
  refine Met.ofW (cc := cX10_divisor) (maxL := 11) (ret := (some .long)) (by decide) rfl ?_
  intro p e s m args below meth c s₁ B hml hv
  obtain ⟨rfl, hsz, hP, hK, hD0⟩ := hv
  have hx := B.exec
  have hb := B.bytes
  have hr := B.returns
  have hts := atoms_spec (ws := wsMX10_divisor) B.pre
  have hown : s.vm.findClass RX10 = some m.cls := findClass_of_methodNamed B.named
  have hlocks := B.notSynchronized
  subst hsz
  have hD := hD0.self (sz := s.heap.size)
  generalize hAe : va_A [] s.heap.size = A at hD ⊢
  have hA : ∀ q : Nat, s.heap.size ≤ q → A q := fun q h => by rw [← hAe]; exact Or.inr h
  have hS : va_S A s.heap s.heap [] := va_S.rf
  have hl := lv_entry ([.long p1, .long p2]) (n := 11) (Nat.le_of_ble_eq_true rfl)
  rw [lg_entry_eq]
  generalize (lg_sl ([.long p1, .long p2]) ++ List.replicate (11 - (lg_sl ([.long p1, .long p2])).length) Slot.unset).toArray = ls at hl ⊢
  have hl : lv_has ls 11 [(0, .long p1), (2, .long p2)] := hl
  refine lv_lload_n hx hb dX10_divisor_0 rfl (lv_at hl 0 rfl) ?_
  refine va_mabs_long hx hb (by rw [hml]; exact hl.1.symm) hown (hts _ hm_m_X10_divisor_0) (hts _ hm_m_X10_divisor_1) (hts _ hm_m_X10_divisor_2) (hts _ hm_m_X10_divisor_3) (by decide +kernel) (Nat.le_of_ble_eq_true rfl) (by decide +kernel) (by decide +kernel) dX10_divisor_1 ?_
  refine lv_topl (fun v1 hv1 => ?_)
  clear hv1
  refine lv_lstore hx hb dX10_divisor_4 hl (by decide) rfl (fun ls (hl : lv_has ls _ ([(4, .long v1), (0, .long p1), (2, .long p2)])) => ?_)
  refine lv_lload_n hx hb dX10_divisor_6 rfl (lv_at hl 2 rfl) ?_
  refine va_mabs_long hx hb (by rw [hml]; exact hl.1.symm) hown (hts _ hm_m_X10_divisor_0) (hts _ hm_m_X10_divisor_1) (hts _ hm_m_X10_divisor_2) (hts _ hm_m_X10_divisor_3) (by decide +kernel) (Nat.le_of_ble_eq_true rfl) (by decide +kernel) (by decide +kernel) dX10_divisor_7 ?_
  refine lv_topl (fun v2 hv2 => ?_)
  clear hv2
  refine lv_lstore hx hb dX10_divisor_10 hl (by decide) rfl (fun ls (hl : lv_has ls _ ([(6, .long v2), (4, .long v1), (0, .long p1), (2, .long p2)])) => ?_)
  refine lv_iconst (v := 0) hx hb dX10_divisor_12 (by decide) ?_
  refine lv_istore hx hb dX10_divisor_13 hl (by decide) rfl (fun ls (hl : lv_has ls _ ([(8, .int 0), (6, .long v2), (4, .long v1), (0, .long p1), (2, .long p2)])) => ?_)
  have hl : lv_has _ _ ([(8, .int 0), (6, .long v2), (4, .long v1), (0, .long p1), (2, .long p2)]) := lv_sub hl [0, 1, 2, 3, 4] rfl
  refine (fun (loop : ∀ (n9 : Nat) (l8_x15 : Int32) (l6_x15 : Int64) (l4_x15 : Int64) (H : Heap) (locs : List Loc) (ls : Array Slot), (0 ≤ l8_x15.toInt ∧ l8_x15.toInt ≤ 200) → (200 - l8_x15.toInt < ((n9 : Nat) : Int)) → va_P (dC, dI) vwCl ([]) H → va_D A ([]) → va_S A s.heap H locs → lv_has ls 11 [(8, .int l8_x15), (6, .long l6_x15), (4, .long l4_x15), (0, .long p1), (2, .long p2)] → W p l e _ s m _ below meth c H locs 0 0 _ (F0 m 15 ls [])) => loop (201) 0 v2 v1 _ _ _ (show 0 ≤ (0 : Int32).toInt ∧ (0 : Int32).toInt ≤ 200 from by decide) ((by have e9 : (0 : Int32).toInt = 0 := (by decide : (0 : Int32).toInt = 0); omega)) hP hD hS hl) ?_
  intro n9
  induction n9 with
  | zero => intro l8_x15 l6_x15 l4_x15 H locs ls b_l8_x15 hf9; exact False.elim (by omega)
  | succ n9 ihx15 =>
    intro l8_x15 l6_x15 l4_x15 H locs ls b_l8_x15 hfx15 hP hD hS hl
    refine lv_iload hx hb dX10_divisor_15 (lv_at hl 0 rfl) ?_
    refine lv_sipush (v := 200) hx hb dX10_divisor_17 (by decide) ?_
    refine W.cut (pc := 51) (fun H locs ls stk =>  stk = [] ∧ va_P (dC, dI) vwCl ([]) H ∧ va_D A ([]) ∧ va_S A s.heap H locs ∧ lv_has ls 11 [(8, .int l8_x15), (6, .long l6_x15), (4, .long l4_x15), (0, .long p1), (2, .long p2)]) (fun join9 => ?_) ?_
    · refine lv_icmp_ge (tgt := 51) hx hb dX10_divisor_20 (by decide) (fun c_20 => ?_) (fun c_20 => ?_)
      · have t_20 : l8_x15.toInt ≥ 200 := toI_ge c_20 rfl (by decide : (200 : Int32).toInt = 200)
        have hl : lv_has _ _ ([(8, .int l8_x15), (6, .long l6_x15), (4, .long l4_x15), (0, .long p1), (2, .long p2)]) := lv_sub hl [0, 1, 2, 3, 4] rfl
        exact join9 _ _ _ _ ⟨rfl, hP, hD, hS, hl⟩
      · have t_20 : ¬ l8_x15.toInt ≥ 200 := toI_nge c_20 rfl (by decide : (200 : Int32).toInt = 200)
        refine lv_lload hx hb dX10_divisor_23 (lv_at hl 1 rfl) ?_
        refine lv_lconst (v := 0) hx hb dX10_divisor_25 (by decide) ?_
        refine W.lcmp hx hb dX10_divisor_26 ?_
        refine lv_if_eq (tgt := 51) hx hb dX10_divisor_27 (by decide) (fun c_27 => ?_) (fun c_27 => ?_)
        · have t_27 : l6_x15.toInt = 0 := toL_eq c_27 rfl (by decide : (0 : Int64).toInt = 0)
          have hl : lv_has _ _ ([(8, .int l8_x15), (6, .long l6_x15), (4, .long l4_x15), (0, .long p1), (2, .long p2)]) := lv_sub hl [0, 1, 2, 3, 4] rfl
          exact join9 _ _ _ _ ⟨rfl, hP, hD, hS, hl⟩
        · have t_27 : ¬ l6_x15.toInt = 0 := toL_neq c_27 rfl (by decide : (0 : Int64).toInt = 0)
          refine lv_lload hx hb dX10_divisor_30 (lv_at hl 2 rfl) ?_
          refine lv_lload hx hb dX10_divisor_32 (lv_at hl 1 rfl) ?_
          refine lv_lrem hx hb dX10_divisor_34 (nz_l (x := l6_x15) rfl (by omega)) ?_
          refine lv_topl (fun v8 hv8 => ?_)
          clear hv8
          refine lv_lstore hx hb dX10_divisor_35 hl (by decide) rfl (fun ls (hl : lv_has ls _ ([(9, .long v8), (8, .int l8_x15), (6, .long l6_x15), (4, .long l4_x15), (0, .long p1), (2, .long p2)])) => ?_)
          refine lv_lload hx hb dX10_divisor_37 (lv_at hl 2 rfl) ?_
          refine lv_lstore hx hb dX10_divisor_39 hl (by decide) rfl (fun ls (hl : lv_has ls _ ([(4, .long l6_x15), (9, .long v8), (8, .int l8_x15), (6, .long l6_x15), (0, .long p1), (2, .long p2)])) => ?_)
          refine lv_lload hx hb dX10_divisor_41 (lv_at hl 1 rfl) ?_
          refine lv_lstore hx hb dX10_divisor_43 hl (by decide) rfl (fun ls (hl : lv_has ls _ ([(6, .long v8), (4, .long l6_x15), (9, .long v8), (8, .int l8_x15), (0, .long p1), (2, .long p2)])) => ?_)
          refine lv_iinc (v := (iI (l8_x15.toInt + 1))) hx hb dX10_divisor_45 hl (k := 3) rfl (iI_add2 (iI_of _) (by decide : (1 : Int32) = iI 1)) (by decide) rfl (fun ls (hl : lv_has ls _ ([(8, .int (iI (l8_x15.toInt + 1))), (6, .long v8), (4, .long l6_x15), (9, .long v8), (0, .long p1), (2, .long p2)])) => ?_)
          refine lv_goto (tgt := 15) hx hb dX10_divisor_48 (by decide) ?_
          have hl : lv_has _ _ ([(8, .int (iI (l8_x15.toInt + 1))), (6, .long v8), (4, .long l6_x15), (0, .long p1), (2, .long p2)]) := lv_sub hl [0, 1, 2, 4, 5] rfl
          exact ihx15 (iI (l8_x15.toInt + 1)) v8 l6_x15 _ _ _ (iI_rng (Int.le_trans (by decide) (Int.add_le_add (b_l8_x15.1) (Int.le_refl _))) (by omega) (by decide) (by decide)) (by have e9 : ((iI (l8_x15.toInt + 1))).toInt = (l8_x15.toInt + 1) := (iI_t (Int.le_trans (by decide) (Int.add_le_add (b_l8_x15.1) (Int.le_refl _))) (Int.le_trans (Int.add_le_add (b_l8_x15.2) (Int.le_refl _)) (by decide))); omega) hP hD hS hl
    · rintro H locs ls stk ⟨rfl, hP, hD, hS, hl⟩
      refine lv_lload hx hb dX10_divisor_51 (lv_at hl 2 rfl) ?_
      refine lv_lconst (v := 0) hx hb dX10_divisor_53 (by decide) ?_
      refine W.lcmp hx hb dX10_divisor_54 ?_
      refine W.cut (pc := 64) (fun H locs ls stk => ∃ (k0_j10 : Int64), (k0_j10.toInt ≠ 0) ∧  stk = [.long k0_j10] ∧ va_P (dC, dI) vwCl ([]) H ∧ va_D A ([]) ∧ va_S A s.heap H locs ∧ lv_has ls 11 [(8, .int l8_x15), (6, .long l6_x15), (4, .long l4_x15), (0, .long p1), (2, .long p2)]) (fun join10 => ?_) ?_
      · refine lv_if_ne (tgt := 62) hx hb dX10_divisor_55 (by decide) (fun c_55 => ?_) (fun c_55 => ?_)
        · have t_55 : l4_x15.toInt ≠ 0 := toL_ne c_55 rfl (by decide : (0 : Int64).toInt = 0)
          refine lv_lload hx hb dX10_divisor_62 (lv_at hl 2 rfl) ?_
          have hl : lv_has _ _ ([(8, .int l8_x15), (6, .long l6_x15), (4, .long l4_x15), (0, .long p1), (2, .long p2)]) := lv_sub hl [0, 1, 2, 3, 4] rfl
          exact join10 _ _ _ _ ⟨l4_x15, (show l4_x15.toInt ≠ 0 from by first | omega | decide), rfl, hP, hD, hS, hl⟩
        · have t_55 : l4_x15.toInt = 0 := toL_nne c_55 rfl (by decide : (0 : Int64).toInt = 0)
          refine lv_lconst (v := 1) hx hb dX10_divisor_58 (by decide) ?_
          refine lv_goto (tgt := 64) hx hb dX10_divisor_59 (by decide) ?_
          have hl : lv_has _ _ ([(8, .int l8_x15), (6, .long l6_x15), (4, .long l4_x15), (0, .long p1), (2, .long p2)]) := lv_sub hl [0, 1, 2, 3, 4] rfl
          exact join10 _ _ _ _ ⟨1, (show (1 : Int64).toInt ≠ 0 from by first | omega | decide), rfl, hP, hD, hS, hl⟩
      · rintro H locs ls stk ⟨k0_j10, hnz, rfl, hP, hD, hS, hl⟩
        refine W.widen (k := 0) (n := 0) (by decide +kernel) (by decide +kernel) ?_
        exact W.lret (v := k0_j10) hx hb hr (fun t9_ ht hW => ⟨⟨k0_j10, (), rfl, (by (try dsimp only); exact (hnz)), trivial⟩, hS.F ht⟩) hS.2.2 dX10_divisor_64
theorem dX5_forget_0 : decode cX5_forget 0 = .ok (.aload_n 0, 1) := dk_42 (by decide +kernel)
theorem dX5_forget_1 : decode cX5_forget 1 = .ok (.iconst 0, 1) := dk_3 (by decide +kernel)
theorem dX5_forget_2 : decode cX5_forget 2 = .ok (.putfield 78, 3) := dk_181 (by decide +kernel)
theorem dX5_forget_5 : decode cX5_forget 5 = .ok (.aload_n 0, 1) := dk_42 (by decide +kernel)
theorem dX5_forget_6 : decode cX5_forget 6 = .ok (.iconst 0, 1) := dk_3 (by decide +kernel)
theorem dX5_forget_7 : decode cX5_forget 7 = .ok (.putfield 82, 3) := dk_181 (by decide +kernel)
theorem dX5_forget_10 : decode cX5_forget 10 = .ok (.aload_n 0, 1) := dk_42 (by decide +kernel)
theorem dX5_forget_11 : decode cX5_forget 11 = .ok (.iconst (-1), 1) := dk_2 (by decide +kernel)
theorem dX5_forget_12 : decode cX5_forget 12 = .ok (.putfield 18, 3) := dk_181 (by decide +kernel)
theorem dX5_forget_15 : decode cX5_forget 15 = .ok (.return_, 1) := dk_177 (by decide +kernel)
def wsMX5_forget : List Cond := .code yX5_forget cX5_forget 1 none :: ([.fieldLink RX5 78 "OptimaWorks$Solver" "answered" "Z", .fieldLink RX5 82 "OptimaWorks$Solver" "searched" "Z", .fieldLink RX5 18 "OptimaWorks$Solver" "counted" "I"] ++ wsX50)
theorem iwsMX5_forget_in5 : ∀ w ∈ wsX50, w ∈ wsMX5_forget := fun _ h => List.mem_cons_of_mem _ (List.mem_append_right _ h)
theorem gdwsMX5_forget : wsMX5_forget.all goodWord = true := gdC rfl (gdA (by decide +kernel : ([.fieldLink RX5 78 "OptimaWorks$Solver" "answered" "Z", .fieldLink RX5 82 "OptimaWorks$Solver" "searched" "Z", .fieldLink RX5 18 "OptimaWorks$Solver" "counted" "I"] : List Cond).all goodWord = true) gdwsX50)
set_option maxHeartbeats 4000000 in
set_option maxRecDepth 100000 in
/-- forgotten -/
theorem m_X5_forget (l : Launch) (dC : Nat → ClassId) (dI : Nat → Nat → Nat) (hO : Nat → Nat) (aO : Nat → Nat) (kO : Nat → ClassId) (hM : Nat → Nat) (hQ : Nat → Nat) (hw : Nat → Nat) (iO_answered : Int32) (iO_searched : Int32) (iO_searchedRelaxed : Int32) (iO_counted : Int32) (fO_countedCase : Nat → Int32) (gO_goalNumber : Nat → Int64) (gO_goalScale : Nat → Int64) (fO_start : Nat → Int32) (fO_column : Nat → Int32) (fO_chosen : Nat → Int32) (aM : Nat → Nat) (kM : Nat → ClassId) (iM_stands : Int32) (iM_variables : Int32) (iM_rows : Int32) (iM_goals : Int32) (iM_differents : Int32) (iM_cases : Int32) (fM_from : Nat → Int32) (fM_to : Nat → Int32) (fM_whole : Nat → Int32) (fM_ways : Nat → Int32) (iM_plainRows : Int32) (fM_plainRow : Nat → Int32) (fM_kept : Nat → Int32) (fM_goalOver : Nat → Int32) (fM_goalUnder : Nat → Int32) (fM_goalMax : Nat → Int32) (fM_different : Nat → Int32) (aQ : Nat → Nat) (kQ : Nat → ClassId) (fQ_inside : Nat → Int32) (fQ_outside : Nat → Int32) (fQ_shut : Nat → Int32) (iQ_rows : Int32) (iQ_allRows : Int32) (iQ_columns : Int32) (nW : Nat) (lw : Nat → Nat) (kw : ClassId) (wl : Nat → Int32) (wb : Nat → Int32) (wG : Nat → Nat → Int64) (b_iO_answered : 0 ≤ iO_answered.toInt ∧ iO_answered.toInt ≤ 1) (b_iO_searched : 0 ≤ iO_searched.toInt ∧ iO_searched.toInt ≤ 1) (b_iO_searchedRelaxed : 0 ≤ iO_searchedRelaxed.toInt ∧ iO_searchedRelaxed.toInt ≤ 1) (b_iO_counted : (-1) ≤ iO_counted.toInt ∧ iO_counted.toInt ≤ 64) (b_fO_countedCase : ∀ q : Nat, 0 ≤ (fO_countedCase q).toInt ∧ (fO_countedCase q).toInt ≤ 200000) (b_fO_column : ∀ q : Nat, (-1) ≤ (fO_column q).toInt ∧ (fO_column q).toInt ≤ 8) (b_fO_chosen : ∀ q : Nat, 0 ≤ (fO_chosen q).toInt ∧ (fO_chosen q).toInt ≤ 2) (b_iM_stands : 0 ≤ iM_stands.toInt ∧ iM_stands.toInt ≤ 1) (b_iM_variables : 0 ≤ iM_variables.toInt ∧ iM_variables.toInt ≤ 8) (b_iM_rows : 0 ≤ iM_rows.toInt ∧ iM_rows.toInt ≤ 12) (b_iM_goals : 0 ≤ iM_goals.toInt ∧ iM_goals.toInt ≤ 3) (b_iM_differents : 0 ≤ iM_differents.toInt ∧ iM_differents.toInt ≤ 8) (b_iM_cases : 0 ≤ iM_cases.toInt ∧ iM_cases.toInt ≤ 200000) (b_fM_ways : ∀ q : Nat, 0 ≤ (fM_ways q).toInt ∧ (fM_ways q).toInt ≤ 3) (b_iM_plainRows : 0 ≤ iM_plainRows.toInt ∧ iM_plainRows.toInt ≤ 12) (b_fM_plainRow : ∀ q : Nat, 0 ≤ (fM_plainRow q).toInt ∧ (fM_plainRow q).toInt ≤ 11) (b_pr : iM_plainRows.toInt ≤ iM_rows.toInt) (b_iQ_rows : 0 ≤ iQ_rows.toInt ∧ iQ_rows.toInt ≤ 40) (b_iQ_allRows : 0 ≤ iQ_allRows.toInt ∧ iQ_allRows.toInt ≤ 40) (b_iQ_columns : 0 ≤ iQ_columns.toInt ∧ iQ_columns.toInt ≤ 40) (b_tb : TbO iQ_rows iQ_allRows iQ_columns) (b_wl : ∀ q : Nat, 0 ≤ (wl q).toInt ∧ (wl q).toInt ≤ 14) (b_wb : ∀ q : Nat, 0 ≤ (wb q).toInt ∧ (wb q).toInt ≤ 1) (hnW : 432 ≤ nW) (sz : Nat) : Met l yX5_forget wsMX5_forget ({ frames := 0, cells := 0, slots := 0, locals := 0 }) (va_Pc [.ref (hO 0)] (fun U => U.heap.size = sz ∧ va_P (dC, dI) vwCl (WO hO aO kO hM hQ hw iO_answered iO_searched iO_searchedRelaxed iO_counted fO_countedCase gO_goalNumber gO_goalScale fO_start fO_column fO_chosen ++ (WM hM aM kM iM_stands iM_variables iM_rows iM_goals iM_differents iM_cases fM_from fM_to fM_whole fM_ways iM_plainRows fM_plainRow fM_kept fM_goalOver fM_goalUnder fM_goalMax fM_different ++ (WQ hQ aQ kQ hw fQ_inside fQ_outside fQ_shut iQ_rows iQ_allRows iQ_columns ++ (WW nW hw lw kw wl wb wG)))) U.heap ∧ va_K (dC, dI) vwCl (tO kO ++ (tM kM ++ (tQ kQ ++ (tW kw)))) U ∧ va_D (fun _ => True) (WO hO aO kO hM hQ hw iO_answered iO_searched iO_searchedRelaxed iO_counted fO_countedCase gO_goalNumber gO_goalScale fO_start fO_column fO_chosen ++ (WM hM aM kM iM_stands iM_variables iM_rows iM_goals iM_differents iM_cases fM_from fM_to fM_whole fM_ways iM_plainRows fM_plainRow fM_kept fM_goalOver fM_goalUnder fM_goalMax fM_different ++ (WQ hQ aQ kQ hw fQ_inside fQ_outside fQ_shut iQ_rows iQ_allRows iQ_columns ++ (WW nW hw lw kw wl wb wG)))))) (va_Qv (fun (u : (Int32) × (Int32) × (Int32)) => (0 ≤ (u.1).toInt ∧ (u.1).toInt ≤ 1) ∧ (0 ≤ (u.2.1).toInt ∧ (u.2.1).toInt ≤ 1) ∧ ((-1) ≤ (u.2.2).toInt ∧ (u.2.2).toInt ≤ 64)) (fun (u : (Int32) × (Int32) × (Int32)) t => va_P (dC, dI) vwCl (WO hO aO kO hM hQ hw (u.1) (u.2.1) iO_searchedRelaxed (u.2.2) fO_countedCase gO_goalNumber gO_goalScale fO_start fO_column fO_chosen ++ (WM hM aM kM iM_stands iM_variables iM_rows iM_goals iM_differents iM_cases fM_from fM_to fM_whole fM_ways iM_plainRows fM_plainRow fM_kept fM_goalOver fM_goalUnder fM_goalMax fM_different ++ (WQ hQ aQ kQ hw fQ_inside fQ_outside fQ_shut iQ_rows iQ_allRows iQ_columns ++ (WW nW hw lw kw wl wb wG)))) t.heap ∧ va_D (va_A (WO hO aO kO hM hQ hw iO_answered iO_searched iO_searchedRelaxed iO_counted fO_countedCase gO_goalNumber gO_goalScale fO_start fO_column fO_chosen ++ (WM hM aM kM iM_stands iM_variables iM_rows iM_goals iM_differents iM_cases fM_from fM_to fM_whole fM_ways iM_plainRows fM_plainRow fM_kept fM_goalOver fM_goalUnder fM_goalMax fM_different ++ (WQ hQ aQ kQ hw fQ_inside fQ_outside fQ_shut iQ_rows iQ_allRows iQ_columns ++ (WW nW hw lw kw wl wb wG)))) sz) (WO hO aO kO hM hQ hw (u.1) (u.2.1) iO_searchedRelaxed (u.2.2) fO_countedCase gO_goalNumber gO_goalScale fO_start fO_column fO_chosen ++ (WM hM aM kM iM_stands iM_variables iM_rows iM_goals iM_differents iM_cases fM_from fM_to fM_whole fM_ways iM_plainRows fM_plainRow fM_kept fM_goalOver fM_goalUnder fM_goalMax fM_different ++ (WQ hQ aQ kQ hw fQ_inside fQ_outside fQ_shut iQ_rows iQ_allRows iQ_columns ++ (WW nW hw lw kw wl wb wG))))) (va_A (WO hO aO kO hM hQ hw iO_answered iO_searched iO_searchedRelaxed iO_counted fO_countedCase gO_goalNumber gO_goalScale fO_start fO_column fO_chosen ++ (WM hM aM kM iM_stands iM_variables iM_rows iM_goals iM_differents iM_cases fM_from fM_to fM_whole fM_ways iM_plainRows fM_plainRow fM_kept fM_goalOver fM_goalUnder fM_goalMax fM_different ++ (WQ hQ aQ kQ hw fQ_inside fQ_outside fQ_shut iQ_rows iQ_allRows iQ_columns ++ (WW nW hw lw kw wl wb wG)))) sz)) 0 0 (va_A (WO hO aO kO hM hQ hw iO_answered iO_searched iO_searchedRelaxed iO_counted fO_countedCase gO_goalNumber gO_goalScale fO_start fO_column fO_chosen ++ (WM hM aM kM iM_stands iM_variables iM_rows iM_goals iM_differents iM_cases fM_from fM_to fM_whole fM_ways iM_plainRows fM_plainRow fM_kept fM_goalOver fM_goalUnder fM_goalMax fM_different ++ (WQ hQ aQ kQ hw fQ_inside fQ_outside fQ_shut iQ_rows iQ_allRows iQ_columns ++ (WW nW hw lw kw wl wb wG)))) sz) := by
  refine Met.ofW (cc := cX5_forget) (maxL := 1) (ret := none) (by decide) rfl ?_
  intro p e s m args below meth c s₁ B hml hv
  obtain ⟨rfl, hsz, hP, hK, hD0⟩ := hv
  have hx := B.exec
  have hb := B.bytes
  have hr := B.returns
  have hts := atoms_spec (ws := wsMX5_forget) B.pre
  have hown : s.vm.findClass RX5 = some m.cls := findClass_of_methodNamed B.named
  have hlocks := B.notSynchronized
  subst hsz
  have hD := hD0.self (sz := s.heap.size)
  generalize hAe : va_A (WO hO aO kO hM hQ hw iO_answered iO_searched iO_searchedRelaxed iO_counted fO_countedCase gO_goalNumber gO_goalScale fO_start fO_column fO_chosen ++ (WM hM aM kM iM_stands iM_variables iM_rows iM_goals iM_differents iM_cases fM_from fM_to fM_whole fM_ways iM_plainRows fM_plainRow fM_kept fM_goalOver fM_goalUnder fM_goalMax fM_different ++ (WQ hQ aQ kQ hw fQ_inside fQ_outside fQ_shut iQ_rows iQ_allRows iQ_columns ++ (WW nW hw lw kw wl wb wG)))) s.heap.size = A at hD ⊢
  have hA : ∀ q : Nat, s.heap.size ≤ q → A q := fun q h => by rw [← hAe]; exact Or.inr h
  have hS : va_S A s.heap s.heap [] := va_S.rf
  have hl := lv_entry ([.ref (hO 0)]) (n := 1) (Nat.le_of_ble_eq_true rfl)
  rw [lg_entry_eq]
  generalize (lg_sl ([.ref (hO 0)]) ++ List.replicate (1 - (lg_sl ([.ref (hO 0)])).length) Slot.unset).toArray = ls at hl ⊢
  have hl : lv_has ls 1 [(0, .ref (hO 0))] := hl
  refine lv_aload_n hx hb dX5_forget_0 rfl (lv_at hl 0 rfl) ?_
  refine lv_iconst (v := 0) hx hb dX5_forget_1 (by decide) ?_
  refine va_put (D := (dC, dI)) (ci := 5) (v := .int 0) (ty := .boolean) (C := RX5) (T := TX5) (N := 19) hx hb hts iwsMX5_forget_in5 tyX5 tyX5_ok nmX5 hown hK hP hD hS 0 rfl rfl 2 (by decide) (hts (.fieldLink RX5 78 "OptimaWorks$Solver" "answered" "Z") (by decide +kernel)) (fun _ h9 => h9) rfl (by decide +kernel) rfl rfl (Nat.le_of_ble_eq_true rfl) dX5_forget_2 (fun H locs hP hD hS => ?_)
  have hP : va_P (dC, dI) vwCl (WO hO aO kO hM hQ hw 0 iO_searched iO_searchedRelaxed iO_counted fO_countedCase gO_goalNumber gO_goalScale fO_start fO_column fO_chosen ++ (WM hM aM kM iM_stands iM_variables iM_rows iM_goals iM_differents iM_cases fM_from fM_to fM_whole fM_ways iM_plainRows fM_plainRow fM_kept fM_goalOver fM_goalUnder fM_goalMax fM_different ++ (WQ hQ aQ kQ hw fQ_inside fQ_outside fQ_shut iQ_rows iQ_allRows iQ_columns ++ (WW nW hw lw kw wl wb wG)))) H := hP
  have hD := fz_sd hP (hD) rfl
  refine lv_aload_n hx hb dX5_forget_5 rfl (lv_at hl 0 rfl) ?_
  refine lv_iconst (v := 0) hx hb dX5_forget_6 (by decide) ?_
  refine va_put (D := (dC, dI)) (ci := 5) (v := .int 0) (ty := .boolean) (C := RX5) (T := TX5) (N := 19) hx hb hts iwsMX5_forget_in5 tyX5 tyX5_ok nmX5 hown hK hP hD hS 0 rfl rfl 3 (by decide) (hts (.fieldLink RX5 82 "OptimaWorks$Solver" "searched" "Z") (by decide +kernel)) (fun _ h9 => h9) rfl (by decide +kernel) rfl rfl (Nat.le_of_ble_eq_true rfl) dX5_forget_7 (fun H locs hP hD hS => ?_)
  have hP : va_P (dC, dI) vwCl (WO hO aO kO hM hQ hw 0 0 iO_searchedRelaxed iO_counted fO_countedCase gO_goalNumber gO_goalScale fO_start fO_column fO_chosen ++ (WM hM aM kM iM_stands iM_variables iM_rows iM_goals iM_differents iM_cases fM_from fM_to fM_whole fM_ways iM_plainRows fM_plainRow fM_kept fM_goalOver fM_goalUnder fM_goalMax fM_different ++ (WQ hQ aQ kQ hw fQ_inside fQ_outside fQ_shut iQ_rows iQ_allRows iQ_columns ++ (WW nW hw lw kw wl wb wG)))) H := hP
  have hD := fz_sd hP (hD) rfl
  refine lv_aload_n hx hb dX5_forget_10 rfl (lv_at hl 0 rfl) ?_
  refine lv_iconst (v := (-1)) hx hb dX5_forget_11 (by decide) ?_
  refine va_put (D := (dC, dI)) (ci := 5) (v := .int (-1)) (ty := .int) (C := RX5) (T := TX5) (N := 19) hx hb hts iwsMX5_forget_in5 tyX5 tyX5_ok nmX5 hown hK hP hD hS 0 rfl rfl 5 (by decide) (hts (.fieldLink RX5 18 "OptimaWorks$Solver" "counted" "I") (by decide +kernel)) (fun _ h9 => h9) rfl (by decide +kernel) rfl rfl (Nat.le_of_ble_eq_true rfl) dX5_forget_12 (fun H locs hP hD hS => ?_)
  have hP : va_P (dC, dI) vwCl (WO hO aO kO hM hQ hw 0 0 iO_searchedRelaxed (-1) fO_countedCase gO_goalNumber gO_goalScale fO_start fO_column fO_chosen ++ (WM hM aM kM iM_stands iM_variables iM_rows iM_goals iM_differents iM_cases fM_from fM_to fM_whole fM_ways iM_plainRows fM_plainRow fM_kept fM_goalOver fM_goalUnder fM_goalMax fM_different ++ (WQ hQ aQ kQ hw fQ_inside fQ_outside fQ_shut iQ_rows iQ_allRows iQ_columns ++ (WW nW hw lw kw wl wb wG)))) H := hP
  have hD := fz_sd hP (hD) rfl
  refine W.widen (k := 0) (n := 0) (by decide +kernel) (by decide +kernel) ?_
  exact W.vret hx hb hr (fun t9_ ht hW => ⟨⟨(0, 0, (-1)), rfl, ⟨(by (try dsimp only); exact (show 0 ≤ (0 : Int32).toInt ∧ (0 : Int32).toInt ≤ 1 from by decide)), (by (try dsimp only); exact (show 0 ≤ (0 : Int32).toInt ∧ (0 : Int32).toInt ≤ 1 from by decide)), (by (try dsimp only); exact (show (-1) ≤ ((-1) : Int32).toInt ∧ ((-1) : Int32).toInt ≤ 64 from by decide))⟩, by rw [ht]; exact hP, hD⟩, hS.F ht⟩) hS.2.2 dX5_forget_15
theorem dX5_scaleOf_0 : decode cX5_scaleOf 0 = .ok (.aload_n 0, 1) := dk_42 (by decide +kernel)
theorem dX5_scaleOf_1 : decode cX5_scaleOf 1 = .ok (.getfield 32, 3) := dk_180 (by decide +kernel)
theorem dX5_scaleOf_4 : decode cX5_scaleOf 4 = .ok (.iload_n 1, 1) := dk_27 (by decide +kernel)
theorem dX5_scaleOf_5 : decode cX5_scaleOf 5 = .ok (.laload, 1) := dk_47 (by decide +kernel)
theorem dX5_scaleOf_6 : decode cX5_scaleOf 6 = .ok (.lreturn, 1) := dk_173 (by decide +kernel)
def wsMX5_scaleOf : List Cond := .code yX5_scaleOf cX5_scaleOf 2 (some .long) :: ([.fieldLink RX5 32 "OptimaWorks$Solver" "goalScale" "[J"] ++ wsX50)
theorem iwsMX5_scaleOf_in5 : ∀ w ∈ wsX50, w ∈ wsMX5_scaleOf := fun _ h => List.mem_cons_of_mem _ (List.mem_append_right _ h)
theorem gdwsMX5_scaleOf : wsMX5_scaleOf.all goodWord = true := gdC rfl (gdA (by decide +kernel : ([.fieldLink RX5 32 "OptimaWorks$Solver" "goalScale" "[J"] : List Cond).all goodWord = true) gdwsX50)
set_option maxHeartbeats 4000000 in
set_option maxRecDepth 100000 in
/-- a scale -/
theorem m_X5_scaleOf (l : Launch) (dC : Nat → ClassId) (dI : Nat → Nat → Nat) (hO : Nat → Nat) (aO : Nat → Nat) (kO : Nat → ClassId) (hM : Nat → Nat) (hQ : Nat → Nat) (hw : Nat → Nat) (iO_answered : Int32) (iO_searched : Int32) (iO_searchedRelaxed : Int32) (iO_counted : Int32) (fO_countedCase : Nat → Int32) (gO_goalNumber : Nat → Int64) (gO_goalScale : Nat → Int64) (fO_start : Nat → Int32) (fO_column : Nat → Int32) (fO_chosen : Nat → Int32) (aM : Nat → Nat) (kM : Nat → ClassId) (iM_stands : Int32) (iM_variables : Int32) (iM_rows : Int32) (iM_goals : Int32) (iM_differents : Int32) (iM_cases : Int32) (fM_from : Nat → Int32) (fM_to : Nat → Int32) (fM_whole : Nat → Int32) (fM_ways : Nat → Int32) (iM_plainRows : Int32) (fM_plainRow : Nat → Int32) (fM_kept : Nat → Int32) (fM_goalOver : Nat → Int32) (fM_goalUnder : Nat → Int32) (fM_goalMax : Nat → Int32) (fM_different : Nat → Int32) (aQ : Nat → Nat) (kQ : Nat → ClassId) (fQ_inside : Nat → Int32) (fQ_outside : Nat → Int32) (fQ_shut : Nat → Int32) (iQ_rows : Int32) (iQ_allRows : Int32) (iQ_columns : Int32) (nW : Nat) (lw : Nat → Nat) (kw : ClassId) (wl : Nat → Int32) (wb : Nat → Int32) (wG : Nat → Nat → Int64) (p1 : Int32) (b_iO_answered : 0 ≤ iO_answered.toInt ∧ iO_answered.toInt ≤ 1) (b_iO_searched : 0 ≤ iO_searched.toInt ∧ iO_searched.toInt ≤ 1) (b_iO_searchedRelaxed : 0 ≤ iO_searchedRelaxed.toInt ∧ iO_searchedRelaxed.toInt ≤ 1) (b_iO_counted : (-1) ≤ iO_counted.toInt ∧ iO_counted.toInt ≤ 64) (b_fO_countedCase : ∀ q : Nat, 0 ≤ (fO_countedCase q).toInt ∧ (fO_countedCase q).toInt ≤ 200000) (b_fO_column : ∀ q : Nat, (-1) ≤ (fO_column q).toInt ∧ (fO_column q).toInt ≤ 8) (b_fO_chosen : ∀ q : Nat, 0 ≤ (fO_chosen q).toInt ∧ (fO_chosen q).toInt ≤ 2) (b_iM_stands : 0 ≤ iM_stands.toInt ∧ iM_stands.toInt ≤ 1) (b_iM_variables : 0 ≤ iM_variables.toInt ∧ iM_variables.toInt ≤ 8) (b_iM_rows : 0 ≤ iM_rows.toInt ∧ iM_rows.toInt ≤ 12) (b_iM_goals : 0 ≤ iM_goals.toInt ∧ iM_goals.toInt ≤ 3) (b_iM_differents : 0 ≤ iM_differents.toInt ∧ iM_differents.toInt ≤ 8) (b_iM_cases : 0 ≤ iM_cases.toInt ∧ iM_cases.toInt ≤ 200000) (b_fM_ways : ∀ q : Nat, 0 ≤ (fM_ways q).toInt ∧ (fM_ways q).toInt ≤ 3) (b_iM_plainRows : 0 ≤ iM_plainRows.toInt ∧ iM_plainRows.toInt ≤ 12) (b_fM_plainRow : ∀ q : Nat, 0 ≤ (fM_plainRow q).toInt ∧ (fM_plainRow q).toInt ≤ 11) (b_pr : iM_plainRows.toInt ≤ iM_rows.toInt) (b_iQ_rows : 0 ≤ iQ_rows.toInt ∧ iQ_rows.toInt ≤ 40) (b_iQ_allRows : 0 ≤ iQ_allRows.toInt ∧ iQ_allRows.toInt ≤ 40) (b_iQ_columns : 0 ≤ iQ_columns.toInt ∧ iQ_columns.toInt ≤ 40) (b_tb : TbO iQ_rows iQ_allRows iQ_columns) (b_wl : ∀ q : Nat, 0 ≤ (wl q).toInt ∧ (wl q).toInt ≤ 14) (b_wb : ∀ q : Nat, 0 ≤ (wb q).toInt ∧ (wb q).toInt ≤ 1) (b_p1 : 0 ≤ p1.toInt ∧ p1.toInt ≤ 2) (hnW : 432 ≤ nW) (sz : Nat) : Met l yX5_scaleOf wsMX5_scaleOf ({ frames := 0, cells := 0, slots := 0, locals := 0 }) (va_Pc [.ref (hO 0), .int p1] (fun U => U.heap.size = sz ∧ va_P (dC, dI) vwCl (WO hO aO kO hM hQ hw iO_answered iO_searched iO_searchedRelaxed iO_counted fO_countedCase gO_goalNumber gO_goalScale fO_start fO_column fO_chosen ++ (WM hM aM kM iM_stands iM_variables iM_rows iM_goals iM_differents iM_cases fM_from fM_to fM_whole fM_ways iM_plainRows fM_plainRow fM_kept fM_goalOver fM_goalUnder fM_goalMax fM_different ++ (WQ hQ aQ kQ hw fQ_inside fQ_outside fQ_shut iQ_rows iQ_allRows iQ_columns ++ (WW nW hw lw kw wl wb wG)))) U.heap ∧ va_K (dC, dI) vwCl (tO kO ++ (tM kM ++ (tQ kQ ++ (tW kw)))) U ∧ va_D (fun _ => True) (WO hO aO kO hM hQ hw iO_answered iO_searched iO_searchedRelaxed iO_counted fO_countedCase gO_goalNumber gO_goalScale fO_start fO_column fO_chosen ++ (WM hM aM kM iM_stands iM_variables iM_rows iM_goals iM_differents iM_cases fM_from fM_to fM_whole fM_ways iM_plainRows fM_plainRow fM_kept fM_goalOver fM_goalUnder fM_goalMax fM_different ++ (WQ hQ aQ kQ hw fQ_inside fQ_outside fQ_shut iQ_rows iQ_allRows iQ_columns ++ (WW nW hw lw kw wl wb wG)))))) (va_Ql (fun (r : Int64) (u : Unit) => True) (fun (u : Unit) t => va_P (dC, dI) vwCl (WO hO aO kO hM hQ hw iO_answered iO_searched iO_searchedRelaxed iO_counted fO_countedCase gO_goalNumber gO_goalScale fO_start fO_column fO_chosen ++ (WM hM aM kM iM_stands iM_variables iM_rows iM_goals iM_differents iM_cases fM_from fM_to fM_whole fM_ways iM_plainRows fM_plainRow fM_kept fM_goalOver fM_goalUnder fM_goalMax fM_different ++ (WQ hQ aQ kQ hw fQ_inside fQ_outside fQ_shut iQ_rows iQ_allRows iQ_columns ++ (WW nW hw lw kw wl wb wG)))) t.heap ∧ va_D (va_A (WO hO aO kO hM hQ hw iO_answered iO_searched iO_searchedRelaxed iO_counted fO_countedCase gO_goalNumber gO_goalScale fO_start fO_column fO_chosen ++ (WM hM aM kM iM_stands iM_variables iM_rows iM_goals iM_differents iM_cases fM_from fM_to fM_whole fM_ways iM_plainRows fM_plainRow fM_kept fM_goalOver fM_goalUnder fM_goalMax fM_different ++ (WQ hQ aQ kQ hw fQ_inside fQ_outside fQ_shut iQ_rows iQ_allRows iQ_columns ++ (WW nW hw lw kw wl wb wG)))) sz) (WO hO aO kO hM hQ hw iO_answered iO_searched iO_searchedRelaxed iO_counted fO_countedCase gO_goalNumber gO_goalScale fO_start fO_column fO_chosen ++ (WM hM aM kM iM_stands iM_variables iM_rows iM_goals iM_differents iM_cases fM_from fM_to fM_whole fM_ways iM_plainRows fM_plainRow fM_kept fM_goalOver fM_goalUnder fM_goalMax fM_different ++ (WQ hQ aQ kQ hw fQ_inside fQ_outside fQ_shut iQ_rows iQ_allRows iQ_columns ++ (WW nW hw lw kw wl wb wG))))) (va_A (WO hO aO kO hM hQ hw iO_answered iO_searched iO_searchedRelaxed iO_counted fO_countedCase gO_goalNumber gO_goalScale fO_start fO_column fO_chosen ++ (WM hM aM kM iM_stands iM_variables iM_rows iM_goals iM_differents iM_cases fM_from fM_to fM_whole fM_ways iM_plainRows fM_plainRow fM_kept fM_goalOver fM_goalUnder fM_goalMax fM_different ++ (WQ hQ aQ kQ hw fQ_inside fQ_outside fQ_shut iQ_rows iQ_allRows iQ_columns ++ (WW nW hw lw kw wl wb wG)))) sz)) 0 0 (va_A (WO hO aO kO hM hQ hw iO_answered iO_searched iO_searchedRelaxed iO_counted fO_countedCase gO_goalNumber gO_goalScale fO_start fO_column fO_chosen ++ (WM hM aM kM iM_stands iM_variables iM_rows iM_goals iM_differents iM_cases fM_from fM_to fM_whole fM_ways iM_plainRows fM_plainRow fM_kept fM_goalOver fM_goalUnder fM_goalMax fM_different ++ (WQ hQ aQ kQ hw fQ_inside fQ_outside fQ_shut iQ_rows iQ_allRows iQ_columns ++ (WW nW hw lw kw wl wb wG)))) sz) := by
  refine Met.ofW (cc := cX5_scaleOf) (maxL := 2) (ret := (some .long)) (by decide) rfl ?_
  intro p e s m args below meth c s₁ B hml hv
  obtain ⟨rfl, hsz, hP, hK, hD0⟩ := hv
  have hx := B.exec
  have hb := B.bytes
  have hr := B.returns
  have hts := atoms_spec (ws := wsMX5_scaleOf) B.pre
  have hown : s.vm.findClass RX5 = some m.cls := findClass_of_methodNamed B.named
  have hlocks := B.notSynchronized
  subst hsz
  have hD := hD0.self (sz := s.heap.size)
  generalize hAe : va_A (WO hO aO kO hM hQ hw iO_answered iO_searched iO_searchedRelaxed iO_counted fO_countedCase gO_goalNumber gO_goalScale fO_start fO_column fO_chosen ++ (WM hM aM kM iM_stands iM_variables iM_rows iM_goals iM_differents iM_cases fM_from fM_to fM_whole fM_ways iM_plainRows fM_plainRow fM_kept fM_goalOver fM_goalUnder fM_goalMax fM_different ++ (WQ hQ aQ kQ hw fQ_inside fQ_outside fQ_shut iQ_rows iQ_allRows iQ_columns ++ (WW nW hw lw kw wl wb wG)))) s.heap.size = A at hD ⊢
  have hA : ∀ q : Nat, s.heap.size ≤ q → A q := fun q h => by rw [← hAe]; exact Or.inr h
  have hS : va_S A s.heap s.heap [] := va_S.rf
  have hl := lv_entry ([.ref (hO 0), .int p1]) (n := 2) (Nat.le_of_ble_eq_true rfl)
  rw [lg_entry_eq]
  generalize (lg_sl ([.ref (hO 0), .int p1]) ++ List.replicate (2 - (lg_sl ([.ref (hO 0), .int p1])).length) Slot.unset).toArray = ls at hl ⊢
  have hl : lv_has ls 2 [(0, .ref (hO 0)), (1, .int p1)] := hl
  refine lv_aload_n hx hb dX5_scaleOf_0 rfl (lv_at hl 0 rfl) ?_
  refine va_get (D := (dC, dI)) (ci := 5) (v := .ref (aO 2)) (C := RX5) (T := TX5) (N := 19) hx hb hts iwsMX5_scaleOf_in5 hown hK hP 0 rfl rfl 8 (by decide) (hts (.fieldLink RX5 32 "OptimaWorks$Solver" "goalScale" "[J") (by decide +kernel)) (fun _ h9 => h9) rfl dX5_scaleOf_1 ?_
  refine lv_iload_n hx hb dX5_scaleOf_4 rfl (lv_at hl 1 rfl) ?_
  refine va_lald (cA := kO 2) (n := 3) (f := gO_goalScale) hx hb hK hP 3 2 rfl rfl (vp_in_iff.mpr ⟨b_p1.1, (Int.lt_of_le_of_lt (b_p1.2) (by decide))⟩) dX5_scaleOf_5 ?_
  refine lv_topl (fun v1 hv1 => ?_)
  clear hv1
  refine W.widen (k := 0) (n := 0) (by decide +kernel) (by decide +kernel) ?_
  exact W.lret (v := v1) hx hb hr (fun t9_ ht hW => ⟨⟨v1, (), rfl, trivial, by rw [ht]; exact hP, hD⟩, hS.F ht⟩) hS.2.2 dX5_scaleOf_6
theorem dX5_scaledNumber_0 : decode cX5_scaledNumber 0 = .ok (.aload_n 0, 1) := dk_42 (by decide +kernel)
theorem dX5_scaledNumber_1 : decode cX5_scaledNumber 1 = .ok (.getfield 28, 3) := dk_180 (by decide +kernel)
theorem dX5_scaledNumber_4 : decode cX5_scaledNumber 4 = .ok (.iload_n 1, 1) := dk_27 (by decide +kernel)
theorem dX5_scaledNumber_5 : decode cX5_scaledNumber 5 = .ok (.bipush 8, 2) := dk_16 (by decide +kernel)
theorem dX5_scaledNumber_7 : decode cX5_scaledNumber 7 = .ok (.imul, 1) := dk_104 (by decide +kernel)
theorem dX5_scaledNumber_8 : decode cX5_scaledNumber 8 = .ok (.iload_n 2, 1) := dk_28 (by decide +kernel)
theorem dX5_scaledNumber_9 : decode cX5_scaledNumber 9 = .ok (.iadd, 1) := dk_96 (by decide +kernel)
theorem dX5_scaledNumber_10 : decode cX5_scaledNumber 10 = .ok (.laload, 1) := dk_47 (by decide +kernel)
theorem dX5_scaledNumber_11 : decode cX5_scaledNumber 11 = .ok (.lreturn, 1) := dk_173 (by decide +kernel)
def wsMX5_scaledNumber : List Cond := .code yX5_scaledNumber cX5_scaledNumber 3 (some .long) :: ([.fieldLink RX5 28 "OptimaWorks$Solver" "goalNumber" "[J"] ++ wsX50)
theorem iwsMX5_scaledNumber_in5 : ∀ w ∈ wsX50, w ∈ wsMX5_scaledNumber := fun _ h => List.mem_cons_of_mem _ (List.mem_append_right _ h)
theorem gdwsMX5_scaledNumber : wsMX5_scaledNumber.all goodWord = true := gdC rfl (gdA (by decide +kernel : ([.fieldLink RX5 28 "OptimaWorks$Solver" "goalNumber" "[J"] : List Cond).all goodWord = true) gdwsX50)
set_option maxHeartbeats 4000000 in
set_option maxRecDepth 100000 in
/-- a scaled number -/
theorem m_X5_scaledNumber (l : Launch) (dC : Nat → ClassId) (dI : Nat → Nat → Nat) (hO : Nat → Nat) (aO : Nat → Nat) (kO : Nat → ClassId) (hM : Nat → Nat) (hQ : Nat → Nat) (hw : Nat → Nat) (iO_answered : Int32) (iO_searched : Int32) (iO_searchedRelaxed : Int32) (iO_counted : Int32) (fO_countedCase : Nat → Int32) (gO_goalNumber : Nat → Int64) (gO_goalScale : Nat → Int64) (fO_start : Nat → Int32) (fO_column : Nat → Int32) (fO_chosen : Nat → Int32) (aM : Nat → Nat) (kM : Nat → ClassId) (iM_stands : Int32) (iM_variables : Int32) (iM_rows : Int32) (iM_goals : Int32) (iM_differents : Int32) (iM_cases : Int32) (fM_from : Nat → Int32) (fM_to : Nat → Int32) (fM_whole : Nat → Int32) (fM_ways : Nat → Int32) (iM_plainRows : Int32) (fM_plainRow : Nat → Int32) (fM_kept : Nat → Int32) (fM_goalOver : Nat → Int32) (fM_goalUnder : Nat → Int32) (fM_goalMax : Nat → Int32) (fM_different : Nat → Int32) (aQ : Nat → Nat) (kQ : Nat → ClassId) (fQ_inside : Nat → Int32) (fQ_outside : Nat → Int32) (fQ_shut : Nat → Int32) (iQ_rows : Int32) (iQ_allRows : Int32) (iQ_columns : Int32) (nW : Nat) (lw : Nat → Nat) (kw : ClassId) (wl : Nat → Int32) (wb : Nat → Int32) (wG : Nat → Nat → Int64) (p1 : Int32) (p2 : Int32) (b_iO_answered : 0 ≤ iO_answered.toInt ∧ iO_answered.toInt ≤ 1) (b_iO_searched : 0 ≤ iO_searched.toInt ∧ iO_searched.toInt ≤ 1) (b_iO_searchedRelaxed : 0 ≤ iO_searchedRelaxed.toInt ∧ iO_searchedRelaxed.toInt ≤ 1) (b_iO_counted : (-1) ≤ iO_counted.toInt ∧ iO_counted.toInt ≤ 64) (b_fO_countedCase : ∀ q : Nat, 0 ≤ (fO_countedCase q).toInt ∧ (fO_countedCase q).toInt ≤ 200000) (b_fO_column : ∀ q : Nat, (-1) ≤ (fO_column q).toInt ∧ (fO_column q).toInt ≤ 8) (b_fO_chosen : ∀ q : Nat, 0 ≤ (fO_chosen q).toInt ∧ (fO_chosen q).toInt ≤ 2) (b_iM_stands : 0 ≤ iM_stands.toInt ∧ iM_stands.toInt ≤ 1) (b_iM_variables : 0 ≤ iM_variables.toInt ∧ iM_variables.toInt ≤ 8) (b_iM_rows : 0 ≤ iM_rows.toInt ∧ iM_rows.toInt ≤ 12) (b_iM_goals : 0 ≤ iM_goals.toInt ∧ iM_goals.toInt ≤ 3) (b_iM_differents : 0 ≤ iM_differents.toInt ∧ iM_differents.toInt ≤ 8) (b_iM_cases : 0 ≤ iM_cases.toInt ∧ iM_cases.toInt ≤ 200000) (b_fM_ways : ∀ q : Nat, 0 ≤ (fM_ways q).toInt ∧ (fM_ways q).toInt ≤ 3) (b_iM_plainRows : 0 ≤ iM_plainRows.toInt ∧ iM_plainRows.toInt ≤ 12) (b_fM_plainRow : ∀ q : Nat, 0 ≤ (fM_plainRow q).toInt ∧ (fM_plainRow q).toInt ≤ 11) (b_pr : iM_plainRows.toInt ≤ iM_rows.toInt) (b_iQ_rows : 0 ≤ iQ_rows.toInt ∧ iQ_rows.toInt ≤ 40) (b_iQ_allRows : 0 ≤ iQ_allRows.toInt ∧ iQ_allRows.toInt ≤ 40) (b_iQ_columns : 0 ≤ iQ_columns.toInt ∧ iQ_columns.toInt ≤ 40) (b_tb : TbO iQ_rows iQ_allRows iQ_columns) (b_wl : ∀ q : Nat, 0 ≤ (wl q).toInt ∧ (wl q).toInt ≤ 14) (b_wb : ∀ q : Nat, 0 ≤ (wb q).toInt ∧ (wb q).toInt ≤ 1) (b_p1 : 0 ≤ p1.toInt ∧ p1.toInt ≤ 2) (b_p2 : 0 ≤ p2.toInt ∧ p2.toInt ≤ 7) (hnW : 432 ≤ nW) (sz : Nat) : Met l yX5_scaledNumber wsMX5_scaledNumber ({ frames := 0, cells := 0, slots := 0, locals := 0 }) (va_Pc [.ref (hO 0), .int p1, .int p2] (fun U => U.heap.size = sz ∧ va_P (dC, dI) vwCl (WO hO aO kO hM hQ hw iO_answered iO_searched iO_searchedRelaxed iO_counted fO_countedCase gO_goalNumber gO_goalScale fO_start fO_column fO_chosen ++ (WM hM aM kM iM_stands iM_variables iM_rows iM_goals iM_differents iM_cases fM_from fM_to fM_whole fM_ways iM_plainRows fM_plainRow fM_kept fM_goalOver fM_goalUnder fM_goalMax fM_different ++ (WQ hQ aQ kQ hw fQ_inside fQ_outside fQ_shut iQ_rows iQ_allRows iQ_columns ++ (WW nW hw lw kw wl wb wG)))) U.heap ∧ va_K (dC, dI) vwCl (tO kO ++ (tM kM ++ (tQ kQ ++ (tW kw)))) U ∧ va_D (fun _ => True) (WO hO aO kO hM hQ hw iO_answered iO_searched iO_searchedRelaxed iO_counted fO_countedCase gO_goalNumber gO_goalScale fO_start fO_column fO_chosen ++ (WM hM aM kM iM_stands iM_variables iM_rows iM_goals iM_differents iM_cases fM_from fM_to fM_whole fM_ways iM_plainRows fM_plainRow fM_kept fM_goalOver fM_goalUnder fM_goalMax fM_different ++ (WQ hQ aQ kQ hw fQ_inside fQ_outside fQ_shut iQ_rows iQ_allRows iQ_columns ++ (WW nW hw lw kw wl wb wG)))))) (va_Ql (fun (r : Int64) (u : Unit) => True) (fun (u : Unit) t => va_P (dC, dI) vwCl (WO hO aO kO hM hQ hw iO_answered iO_searched iO_searchedRelaxed iO_counted fO_countedCase gO_goalNumber gO_goalScale fO_start fO_column fO_chosen ++ (WM hM aM kM iM_stands iM_variables iM_rows iM_goals iM_differents iM_cases fM_from fM_to fM_whole fM_ways iM_plainRows fM_plainRow fM_kept fM_goalOver fM_goalUnder fM_goalMax fM_different ++ (WQ hQ aQ kQ hw fQ_inside fQ_outside fQ_shut iQ_rows iQ_allRows iQ_columns ++ (WW nW hw lw kw wl wb wG)))) t.heap ∧ va_D (va_A (WO hO aO kO hM hQ hw iO_answered iO_searched iO_searchedRelaxed iO_counted fO_countedCase gO_goalNumber gO_goalScale fO_start fO_column fO_chosen ++ (WM hM aM kM iM_stands iM_variables iM_rows iM_goals iM_differents iM_cases fM_from fM_to fM_whole fM_ways iM_plainRows fM_plainRow fM_kept fM_goalOver fM_goalUnder fM_goalMax fM_different ++ (WQ hQ aQ kQ hw fQ_inside fQ_outside fQ_shut iQ_rows iQ_allRows iQ_columns ++ (WW nW hw lw kw wl wb wG)))) sz) (WO hO aO kO hM hQ hw iO_answered iO_searched iO_searchedRelaxed iO_counted fO_countedCase gO_goalNumber gO_goalScale fO_start fO_column fO_chosen ++ (WM hM aM kM iM_stands iM_variables iM_rows iM_goals iM_differents iM_cases fM_from fM_to fM_whole fM_ways iM_plainRows fM_plainRow fM_kept fM_goalOver fM_goalUnder fM_goalMax fM_different ++ (WQ hQ aQ kQ hw fQ_inside fQ_outside fQ_shut iQ_rows iQ_allRows iQ_columns ++ (WW nW hw lw kw wl wb wG))))) (va_A (WO hO aO kO hM hQ hw iO_answered iO_searched iO_searchedRelaxed iO_counted fO_countedCase gO_goalNumber gO_goalScale fO_start fO_column fO_chosen ++ (WM hM aM kM iM_stands iM_variables iM_rows iM_goals iM_differents iM_cases fM_from fM_to fM_whole fM_ways iM_plainRows fM_plainRow fM_kept fM_goalOver fM_goalUnder fM_goalMax fM_different ++ (WQ hQ aQ kQ hw fQ_inside fQ_outside fQ_shut iQ_rows iQ_allRows iQ_columns ++ (WW nW hw lw kw wl wb wG)))) sz)) 0 0 (va_A (WO hO aO kO hM hQ hw iO_answered iO_searched iO_searchedRelaxed iO_counted fO_countedCase gO_goalNumber gO_goalScale fO_start fO_column fO_chosen ++ (WM hM aM kM iM_stands iM_variables iM_rows iM_goals iM_differents iM_cases fM_from fM_to fM_whole fM_ways iM_plainRows fM_plainRow fM_kept fM_goalOver fM_goalUnder fM_goalMax fM_different ++ (WQ hQ aQ kQ hw fQ_inside fQ_outside fQ_shut iQ_rows iQ_allRows iQ_columns ++ (WW nW hw lw kw wl wb wG)))) sz) := by
  refine Met.ofW (cc := cX5_scaledNumber) (maxL := 3) (ret := (some .long)) (by decide) rfl ?_
  intro p e s m args below meth c s₁ B hml hv
  obtain ⟨rfl, hsz, hP, hK, hD0⟩ := hv
  have hx := B.exec
  have hb := B.bytes
  have hr := B.returns
  have hts := atoms_spec (ws := wsMX5_scaledNumber) B.pre
  have hown : s.vm.findClass RX5 = some m.cls := findClass_of_methodNamed B.named
  have hlocks := B.notSynchronized
  subst hsz
  have hD := hD0.self (sz := s.heap.size)
  generalize hAe : va_A (WO hO aO kO hM hQ hw iO_answered iO_searched iO_searchedRelaxed iO_counted fO_countedCase gO_goalNumber gO_goalScale fO_start fO_column fO_chosen ++ (WM hM aM kM iM_stands iM_variables iM_rows iM_goals iM_differents iM_cases fM_from fM_to fM_whole fM_ways iM_plainRows fM_plainRow fM_kept fM_goalOver fM_goalUnder fM_goalMax fM_different ++ (WQ hQ aQ kQ hw fQ_inside fQ_outside fQ_shut iQ_rows iQ_allRows iQ_columns ++ (WW nW hw lw kw wl wb wG)))) s.heap.size = A at hD ⊢
  have hA : ∀ q : Nat, s.heap.size ≤ q → A q := fun q h => by rw [← hAe]; exact Or.inr h
  have hS : va_S A s.heap s.heap [] := va_S.rf
  have hl := lv_entry ([.ref (hO 0), .int p1, .int p2]) (n := 3) (Nat.le_of_ble_eq_true rfl)
  rw [lg_entry_eq]
  generalize (lg_sl ([.ref (hO 0), .int p1, .int p2]) ++ List.replicate (3 - (lg_sl ([.ref (hO 0), .int p1, .int p2])).length) Slot.unset).toArray = ls at hl ⊢
  have hl : lv_has ls 3 [(0, .ref (hO 0)), (1, .int p1), (2, .int p2)] := hl
  refine lv_aload_n hx hb dX5_scaledNumber_0 rfl (lv_at hl 0 rfl) ?_
  refine va_get (D := (dC, dI)) (ci := 5) (v := .ref (aO 1)) (C := RX5) (T := TX5) (N := 19) hx hb hts iwsMX5_scaledNumber_in5 hown hK hP 0 rfl rfl 7 (by decide) (hts (.fieldLink RX5 28 "OptimaWorks$Solver" "goalNumber" "[J") (by decide +kernel)) (fun _ h9 => h9) rfl dX5_scaledNumber_1 ?_
  refine lv_iload_n hx hb dX5_scaledNumber_4 rfl (lv_at hl 1 rfl) ?_
  refine lv_bipush (v := 8) hx hb dX5_scaledNumber_5 (by decide) ?_
  refine lv_imul hx hb dX5_scaledNumber_7 ?_
  refine lv_topi (fun y1 hy1 => ?_)
  obtain rfl : (iI (p1.toInt * 8)) = y1 := (hy1.trans (iI_mul2 (iI_of _) (by decide : (8 : Int32) = iI 8))).symm
  refine lv_iload_n hx hb dX5_scaledNumber_8 rfl (lv_at hl 2 rfl) ?_
  refine lv_iadd hx hb dX5_scaledNumber_9 ?_
  refine lv_topi (fun y2 hy2 => ?_)
  obtain rfl : (iI ((p1.toInt * 8) + p2.toInt)) = y2 := (hy2.trans (iI_add2 rfl (iI_of _))).symm
  refine va_lald (cA := kO 1) (n := 24) (f := gO_goalNumber) hx hb hK hP 2 1 rfl rfl (vp_iI (Int.le_trans (by decide) (Int.add_le_add (Int.mul_le_mul_of_nonneg_right (b_p1.1) (by decide)) (b_p2.1))) (Int.lt_of_le_of_lt (Int.add_le_add (Int.mul_le_mul_of_nonneg_right (b_p1.2) (by decide)) (b_p2.2)) (by decide)) (by decide)) dX5_scaledNumber_10 ?_
  refine lv_topl (fun v3 hv3 => ?_)
  clear hv3
  refine W.widen (k := 0) (n := 0) (by decide +kernel) (by decide +kernel) ?_
  exact W.lret (v := v3) hx hb hr (fun t9_ ht hW => ⟨⟨v3, (), rfl, trivial, by rw [ht]; exact hP, hD⟩, hS.F ht⟩) hS.2.2 dX5_scaledNumber_11
theorem dX5_scaleGoals_0 : decode cX5_scaleGoals 0 = .ok (.iconst 0, 1) := dk_3 (by decide +kernel)
theorem dX5_scaleGoals_1 : decode cX5_scaleGoals 1 = .ok (.istore_n 1, 1) := dk_60 (by decide +kernel)
theorem dX5_scaleGoals_2 : decode cX5_scaleGoals 2 = .ok (.iload_n 1, 1) := dk_27 (by decide +kernel)
theorem dX5_scaleGoals_3 : decode cX5_scaleGoals 3 = .ok (.aload_n 0, 1) := dk_42 (by decide +kernel)
theorem dX5_scaleGoals_4 : decode cX5_scaleGoals 4 = .ok (.getfield 74, 3) := dk_180 (by decide +kernel)
theorem dX5_scaleGoals_7 : decode cX5_scaleGoals 7 = .ok (.getfield 98, 3) := dk_180 (by decide +kernel)
theorem dX5_scaleGoals_10 : decode cX5_scaleGoals 10 = .ok (.if_icmp .ge 174, 3) := dk_162 (by decide +kernel)
theorem dX5_scaleGoals_13 : decode cX5_scaleGoals 13 = .ok (.lconst 1, 1) := dk_10 (by decide +kernel)
theorem dX5_scaleGoals_14 : decode cX5_scaleGoals 14 = .ok (.lstore_n 2, 1) := dk_65 (by decide +kernel)
theorem dX5_scaleGoals_15 : decode cX5_scaleGoals 15 = .ok (.iconst 1, 1) := dk_4 (by decide +kernel)
theorem dX5_scaleGoals_16 : decode cX5_scaleGoals 16 = .ok (.istore 4, 2) := dk_54 (by decide +kernel)
theorem dX5_scaleGoals_18 : decode cX5_scaleGoals 18 = .ok (.iload 4, 2) := dk_21 (by decide +kernel)
theorem dX5_scaleGoals_20 : decode cX5_scaleGoals 20 = .ok (.aload_n 0, 1) := dk_42 (by decide +kernel)
theorem dX5_scaleGoals_21 : decode cX5_scaleGoals 21 = .ok (.getfield 74, 3) := dk_180 (by decide +kernel)
theorem dX5_scaleGoals_24 : decode cX5_scaleGoals 24 = .ok (.getfield 112, 3) := dk_180 (by decide +kernel)
theorem dX5_scaleGoals_27 : decode cX5_scaleGoals 27 = .ok (.if_icmp .gt 40, 3) := dk_163 (by decide +kernel)
theorem dX5_scaleGoals_30 : decode cX5_scaleGoals 30 = .ok (.aload_n 0, 1) := dk_42 (by decide +kernel)
theorem dX5_scaleGoals_31 : decode cX5_scaleGoals 31 = .ok (.getfield 74, 3) := dk_180 (by decide +kernel)
theorem dX5_scaleGoals_34 : decode cX5_scaleGoals 34 = .ok (.getfield 115, 3) := dk_180 (by decide +kernel)
theorem dX5_scaleGoals_37 : decode cX5_scaleGoals 37 = .ok (.iload_n 1, 1) := dk_27 (by decide +kernel)
theorem dX5_scaleGoals_38 : decode cX5_scaleGoals 38 = .ok (.bipush 9, 2) := dk_16 (by decide +kernel)
theorem dX5_scaleGoals_40 : decode cX5_scaleGoals 40 = .ok (.imul, 1) := dk_104 (by decide +kernel)
theorem dX5_scaleGoals_41 : decode cX5_scaleGoals 41 = .ok (.iload 4, 2) := dk_21 (by decide +kernel)
theorem dX5_scaleGoals_43 : decode cX5_scaleGoals 43 = .ok (.iadd, 1) := dk_96 (by decide +kernel)
theorem dX5_scaleGoals_44 : decode cX5_scaleGoals 44 = .ok (.iaload, 1) := dk_46 (by decide +kernel)
theorem dX5_scaleGoals_45 : decode cX5_scaleGoals 45 = .ok (.istore 5, 2) := dk_54 (by decide +kernel)
theorem dX5_scaleGoals_47 : decode cX5_scaleGoals 47 = .ok (.lload_n 2, 1) := dk_32 (by decide +kernel)
theorem dX5_scaleGoals_48 : decode cX5_scaleGoals 48 = .ok (.iload 5, 2) := dk_21 (by decide +kernel)
theorem dX5_scaleGoals_50 : decode cX5_scaleGoals 50 = .ok (.i2l, 1) := dk_133 (by decide +kernel)
theorem dX5_scaleGoals_51 : decode cX5_scaleGoals 51 = .ok (.lload_n 2, 1) := dk_32 (by decide +kernel)
theorem dX5_scaleGoals_52 : decode cX5_scaleGoals 52 = .ok (.iload 5, 2) := dk_21 (by decide +kernel)
theorem dX5_scaleGoals_54 : decode cX5_scaleGoals 54 = .ok (.i2l, 1) := dk_133 (by decide +kernel)
theorem dX5_scaleGoals_55 : decode cX5_scaleGoals 55 = .ok (.invokestatic 118, 3) := dk_184 (by decide +kernel)
theorem dX5_scaleGoals_58 : decode cX5_scaleGoals 58 = .ok (.ldiv, 1) := dk_109 (by decide +kernel)
theorem dX5_scaleGoals_59 : decode cX5_scaleGoals 59 = .ok (.lmul, 1) := dk_105 (by decide +kernel)
theorem dX5_scaleGoals_60 : decode cX5_scaleGoals 60 = .ok (.lstore_n 2, 1) := dk_65 (by decide +kernel)
theorem dX5_scaleGoals_61 : decode cX5_scaleGoals 61 = .ok (.iinc 4 1, 3) := dk_132 (by decide +kernel)
theorem dX5_scaleGoals_64 : decode cX5_scaleGoals 64 = .ok (.goto (-46), 3) := dk_167 (by decide +kernel)
theorem dX5_scaleGoals_67 : decode cX5_scaleGoals 67 = .ok (.aload_n 0, 1) := dk_42 (by decide +kernel)
theorem dX5_scaleGoals_68 : decode cX5_scaleGoals 68 = .ok (.getfield 32, 3) := dk_180 (by decide +kernel)
theorem dX5_scaleGoals_71 : decode cX5_scaleGoals 71 = .ok (.iload_n 1, 1) := dk_27 (by decide +kernel)
theorem dX5_scaleGoals_72 : decode cX5_scaleGoals 72 = .ok (.lload_n 2, 1) := dk_32 (by decide +kernel)
theorem dX5_scaleGoals_73 : decode cX5_scaleGoals 73 = .ok (.lastore, 1) := dk_80 (by decide +kernel)
theorem dX5_scaleGoals_74 : decode cX5_scaleGoals 74 = .ok (.iconst 0, 1) := dk_3 (by decide +kernel)
theorem dX5_scaleGoals_75 : decode cX5_scaleGoals 75 = .ok (.istore 4, 2) := dk_54 (by decide +kernel)
theorem dX5_scaleGoals_77 : decode cX5_scaleGoals 77 = .ok (.iload 4, 2) := dk_21 (by decide +kernel)
theorem dX5_scaleGoals_79 : decode cX5_scaleGoals 79 = .ok (.aload_n 0, 1) := dk_42 (by decide +kernel)
theorem dX5_scaleGoals_80 : decode cX5_scaleGoals 80 = .ok (.getfield 74, 3) := dk_180 (by decide +kernel)
theorem dX5_scaleGoals_83 : decode cX5_scaleGoals 83 = .ok (.getfield 112, 3) := dk_180 (by decide +kernel)
theorem dX5_scaleGoals_86 : decode cX5_scaleGoals 86 = .ok (.if_icmp .ge 92, 3) := dk_162 (by decide +kernel)
theorem dX5_scaleGoals_89 : decode cX5_scaleGoals 89 = .ok (.iload_n 1, 1) := dk_27 (by decide +kernel)
theorem dX5_scaleGoals_90 : decode cX5_scaleGoals 90 = .ok (.bipush 9, 2) := dk_16 (by decide +kernel)
theorem dX5_scaleGoals_92 : decode cX5_scaleGoals 92 = .ok (.imul, 1) := dk_104 (by decide +kernel)
theorem dX5_scaleGoals_93 : decode cX5_scaleGoals 93 = .ok (.iload 4, 2) := dk_21 (by decide +kernel)
theorem dX5_scaleGoals_95 : decode cX5_scaleGoals 95 = .ok (.iadd, 1) := dk_96 (by decide +kernel)
theorem dX5_scaleGoals_96 : decode cX5_scaleGoals 96 = .ok (.iconst 1, 1) := dk_4 (by decide +kernel)
theorem dX5_scaleGoals_97 : decode cX5_scaleGoals 97 = .ok (.iadd, 1) := dk_96 (by decide +kernel)
theorem dX5_scaleGoals_98 : decode cX5_scaleGoals 98 = .ok (.istore 5, 2) := dk_54 (by decide +kernel)
theorem dX5_scaleGoals_100 : decode cX5_scaleGoals 100 = .ok (.aload_n 0, 1) := dk_42 (by decide +kernel)
theorem dX5_scaleGoals_101 : decode cX5_scaleGoals 101 = .ok (.getfield 74, 3) := dk_180 (by decide +kernel)
theorem dX5_scaleGoals_104 : decode cX5_scaleGoals 104 = .ok (.getfield 115, 3) := dk_180 (by decide +kernel)
theorem dX5_scaleGoals_107 : decode cX5_scaleGoals 107 = .ok (.iload 5, 2) := dk_21 (by decide +kernel)
theorem dX5_scaleGoals_109 : decode cX5_scaleGoals 109 = .ok (.iaload, 1) := dk_46 (by decide +kernel)
theorem dX5_scaleGoals_110 : decode cX5_scaleGoals 110 = .ok (.istore 6, 2) := dk_54 (by decide +kernel)
theorem dX5_scaleGoals_112 : decode cX5_scaleGoals 112 = .ok (.iload 6, 2) := dk_21 (by decide +kernel)
theorem dX5_scaleGoals_114 : decode cX5_scaleGoals 114 = .ok (.ifCond .ne 7, 3) := dk_154 (by decide +kernel)
theorem dX5_scaleGoals_117 : decode cX5_scaleGoals 117 = .ok (.lconst 0, 1) := dk_9 (by decide +kernel)
theorem dX5_scaleGoals_118 : decode cX5_scaleGoals 118 = .ok (.goto 20, 3) := dk_167 (by decide +kernel)
theorem dX5_scaleGoals_121 : decode cX5_scaleGoals 121 = .ok (.lload_n 2, 1) := dk_32 (by decide +kernel)
theorem dX5_scaleGoals_122 : decode cX5_scaleGoals 122 = .ok (.iload 6, 2) := dk_21 (by decide +kernel)
theorem dX5_scaleGoals_124 : decode cX5_scaleGoals 124 = .ok (.i2l, 1) := dk_133 (by decide +kernel)
theorem dX5_scaleGoals_125 : decode cX5_scaleGoals 125 = .ok (.ldiv, 1) := dk_109 (by decide +kernel)
theorem dX5_scaleGoals_126 : decode cX5_scaleGoals 126 = .ok (.aload_n 0, 1) := dk_42 (by decide +kernel)
theorem dX5_scaleGoals_127 : decode cX5_scaleGoals 127 = .ok (.getfield 74, 3) := dk_180 (by decide +kernel)
theorem dX5_scaleGoals_130 : decode cX5_scaleGoals 130 = .ok (.getfield 124, 3) := dk_180 (by decide +kernel)
theorem dX5_scaleGoals_133 : decode cX5_scaleGoals 133 = .ok (.iload 5, 2) := dk_21 (by decide +kernel)
theorem dX5_scaleGoals_135 : decode cX5_scaleGoals 135 = .ok (.iaload, 1) := dk_46 (by decide +kernel)
theorem dX5_scaleGoals_136 : decode cX5_scaleGoals 136 = .ok (.i2l, 1) := dk_133 (by decide +kernel)
theorem dX5_scaleGoals_137 : decode cX5_scaleGoals 137 = .ok (.lmul, 1) := dk_105 (by decide +kernel)
theorem dX5_scaleGoals_138 : decode cX5_scaleGoals 138 = .ok (.lstore 7, 2) := dk_55 (by decide +kernel)
theorem dX5_scaleGoals_140 : decode cX5_scaleGoals 140 = .ok (.aload_n 0, 1) := dk_42 (by decide +kernel)
theorem dX5_scaleGoals_141 : decode cX5_scaleGoals 141 = .ok (.getfield 28, 3) := dk_180 (by decide +kernel)
theorem dX5_scaleGoals_144 : decode cX5_scaleGoals 144 = .ok (.iload_n 1, 1) := dk_27 (by decide +kernel)
theorem dX5_scaleGoals_145 : decode cX5_scaleGoals 145 = .ok (.bipush 8, 2) := dk_16 (by decide +kernel)
theorem dX5_scaleGoals_147 : decode cX5_scaleGoals 147 = .ok (.imul, 1) := dk_104 (by decide +kernel)
theorem dX5_scaleGoals_148 : decode cX5_scaleGoals 148 = .ok (.iload 4, 2) := dk_21 (by decide +kernel)
theorem dX5_scaleGoals_150 : decode cX5_scaleGoals 150 = .ok (.iadd, 1) := dk_96 (by decide +kernel)
theorem dX5_scaleGoals_151 : decode cX5_scaleGoals 151 = .ok (.aload_n 0, 1) := dk_42 (by decide +kernel)
theorem dX5_scaleGoals_152 : decode cX5_scaleGoals 152 = .ok (.getfield 74, 3) := dk_180 (by decide +kernel)
theorem dX5_scaleGoals_155 : decode cX5_scaleGoals 155 = .ok (.getfield 127, 3) := dk_180 (by decide +kernel)
theorem dX5_scaleGoals_158 : decode cX5_scaleGoals 158 = .ok (.iload_n 1, 1) := dk_27 (by decide +kernel)
theorem dX5_scaleGoals_159 : decode cX5_scaleGoals 159 = .ok (.baload, 1) := dk_51 (by decide +kernel)
theorem dX5_scaleGoals_160 : decode cX5_scaleGoals 160 = .ok (.ifCond .eq 9, 3) := dk_153 (by decide +kernel)
theorem dX5_scaleGoals_163 : decode cX5_scaleGoals 163 = .ok (.lload 7, 2) := dk_22 (by decide +kernel)
theorem dX5_scaleGoals_165 : decode cX5_scaleGoals 165 = .ok (.lneg, 1) := dk_117 (by decide +kernel)
theorem dX5_scaleGoals_166 : decode cX5_scaleGoals 166 = .ok (.goto 5, 3) := dk_167 (by decide +kernel)
theorem dX5_scaleGoals_169 : decode cX5_scaleGoals 169 = .ok (.lload 7, 2) := dk_22 (by decide +kernel)
theorem dX5_scaleGoals_171 : decode cX5_scaleGoals 171 = .ok (.lastore, 1) := dk_80 (by decide +kernel)
theorem dX5_scaleGoals_172 : decode cX5_scaleGoals 172 = .ok (.iinc 4 1, 3) := dk_132 (by decide +kernel)
theorem dX5_scaleGoals_175 : decode cX5_scaleGoals 175 = .ok (.goto (-98), 3) := dk_167 (by decide +kernel)
theorem dX5_scaleGoals_178 : decode cX5_scaleGoals 178 = .ok (.iinc 1 1, 3) := dk_132 (by decide +kernel)
theorem dX5_scaleGoals_181 : decode cX5_scaleGoals 181 = .ok (.goto (-179), 3) := dk_167 (by decide +kernel)
theorem dX5_scaleGoals_184 : decode cX5_scaleGoals 184 = .ok (.return_, 1) := dk_177 (by decide +kernel)
def wsMX5_scaleGoals : List Cond := .code yX5_scaleGoals cX5_scaleGoals 9 none :: ([.fieldLink RX5 74 "OptimaWorks$Solver" "model" "LOptimaWorks$Model;", .fieldLink RX5 98 "OptimaWorks$Model" "goals" "I", .fieldLink RX5 112 "OptimaWorks$Model" "variables" "I", .fieldLink RX5 115 "OptimaWorks$Model" "goalUnder" "[I", .fieldLink RX5 32 "OptimaWorks$Solver" "goalScale" "[J", .fieldLink RX5 124 "OptimaWorks$Model" "goalOver" "[I", .fieldLink RX5 28 "OptimaWorks$Solver" "goalNumber" "[J", .fieldLink RX5 127 "OptimaWorks$Model" "goalMax" "[Z"] ++ wsX10 ++ wsX50 ++ (va_wsS RX5 118 yX10_divisor wsMX10_divisor))
theorem iwsMX5_scaleGoals_in1 : ∀ w ∈ wsX10, w ∈ wsMX5_scaleGoals := fun _ h => List.mem_cons_of_mem _ (List.mem_append_left _ (List.mem_append_left _ (List.mem_append_right _ h)))
theorem iwsMX5_scaleGoals_in5 : ∀ w ∈ wsX50, w ∈ wsMX5_scaleGoals := fun _ h => List.mem_cons_of_mem _ (List.mem_append_left _ (List.mem_append_right _ h))
theorem gwsMX5_scaleGoals_0 : GoodIn wsMX5_scaleGoals (va_wsS RX5 118 yX10_divisor wsMX10_divisor) := goodIn_sub (fun _ h => List.mem_cons_of_mem _ (List.mem_append_right _ h)) (gdS (by decide +kernel) gdwsMX10_divisor)
theorem gdwsMX5_scaleGoals : wsMX5_scaleGoals.all goodWord = true := gdC rfl (gdA (gdA (gdA (by decide +kernel : ([.fieldLink RX5 74 "OptimaWorks$Solver" "model" "LOptimaWorks$Model;", .fieldLink RX5 98 "OptimaWorks$Model" "goals" "I", .fieldLink RX5 112 "OptimaWorks$Model" "variables" "I", .fieldLink RX5 115 "OptimaWorks$Model" "goalUnder" "[I", .fieldLink RX5 32 "OptimaWorks$Solver" "goalScale" "[J", .fieldLink RX5 124 "OptimaWorks$Model" "goalOver" "[I", .fieldLink RX5 28 "OptimaWorks$Solver" "goalNumber" "[J", .fieldLink RX5 127 "OptimaWorks$Model" "goalMax" "[Z"] : List Cond).all goodWord = true) gdwsX10) gdwsX50) (gdS (by decide +kernel) gdwsMX10_divisor))
theorem hm_m_X5_scaleGoals_0 : (.fieldLink RX5 74 "OptimaWorks$Solver" "model" "LOptimaWorks$Model;" : Cond) ∈ wsMX5_scaleGoals := by decide +kernel
theorem hm_m_X5_scaleGoals_1 : (.fieldLink RX5 112 "OptimaWorks$Model" "variables" "I" : Cond) ∈ wsMX5_scaleGoals := by decide +kernel
theorem hm_m_X5_scaleGoals_2 : (.fieldLink RX5 115 "OptimaWorks$Model" "goalUnder" "[I" : Cond) ∈ wsMX5_scaleGoals := by decide +kernel
set_option maxHeartbeats 4000000 in
set_option maxRecDepth 100000 in
/-- goals made whole -/
theorem m_X5_scaleGoals (l : Launch) (dC : Nat → ClassId) (dI : Nat → Nat → Nat) (hO : Nat → Nat) (aO : Nat → Nat) (kO : Nat → ClassId) (hM : Nat → Nat) (hQ : Nat → Nat) (hw : Nat → Nat) (iO_answered : Int32) (iO_searched : Int32) (iO_searchedRelaxed : Int32) (iO_counted : Int32) (fO_countedCase : Nat → Int32) (gO_goalNumber : Nat → Int64) (gO_goalScale : Nat → Int64) (fO_start : Nat → Int32) (fO_column : Nat → Int32) (fO_chosen : Nat → Int32) (aM : Nat → Nat) (kM : Nat → ClassId) (iM_stands : Int32) (iM_variables : Int32) (iM_rows : Int32) (iM_goals : Int32) (iM_differents : Int32) (iM_cases : Int32) (fM_from : Nat → Int32) (fM_to : Nat → Int32) (fM_whole : Nat → Int32) (fM_ways : Nat → Int32) (iM_plainRows : Int32) (fM_plainRow : Nat → Int32) (fM_kept : Nat → Int32) (fM_goalOver : Nat → Int32) (fM_goalUnder : Nat → Int32) (fM_goalMax : Nat → Int32) (fM_different : Nat → Int32) (aQ : Nat → Nat) (kQ : Nat → ClassId) (fQ_inside : Nat → Int32) (fQ_outside : Nat → Int32) (fQ_shut : Nat → Int32) (iQ_rows : Int32) (iQ_allRows : Int32) (iQ_columns : Int32) (nW : Nat) (lw : Nat → Nat) (kw : ClassId) (wl : Nat → Int32) (wb : Nat → Int32) (wG : Nat → Nat → Int64) (b_iO_answered : 0 ≤ iO_answered.toInt ∧ iO_answered.toInt ≤ 1) (b_iO_searched : 0 ≤ iO_searched.toInt ∧ iO_searched.toInt ≤ 1) (b_iO_searchedRelaxed : 0 ≤ iO_searchedRelaxed.toInt ∧ iO_searchedRelaxed.toInt ≤ 1) (b_iO_counted : (-1) ≤ iO_counted.toInt ∧ iO_counted.toInt ≤ 64) (b_fO_countedCase : ∀ q : Nat, 0 ≤ (fO_countedCase q).toInt ∧ (fO_countedCase q).toInt ≤ 200000) (b_fO_column : ∀ q : Nat, (-1) ≤ (fO_column q).toInt ∧ (fO_column q).toInt ≤ 8) (b_fO_chosen : ∀ q : Nat, 0 ≤ (fO_chosen q).toInt ∧ (fO_chosen q).toInt ≤ 2) (b_iM_stands : 0 ≤ iM_stands.toInt ∧ iM_stands.toInt ≤ 1) (b_iM_variables : 0 ≤ iM_variables.toInt ∧ iM_variables.toInt ≤ 8) (b_iM_rows : 0 ≤ iM_rows.toInt ∧ iM_rows.toInt ≤ 12) (b_iM_goals : 0 ≤ iM_goals.toInt ∧ iM_goals.toInt ≤ 3) (b_iM_differents : 0 ≤ iM_differents.toInt ∧ iM_differents.toInt ≤ 8) (b_iM_cases : 0 ≤ iM_cases.toInt ∧ iM_cases.toInt ≤ 200000) (b_fM_ways : ∀ q : Nat, 0 ≤ (fM_ways q).toInt ∧ (fM_ways q).toInt ≤ 3) (b_iM_plainRows : 0 ≤ iM_plainRows.toInt ∧ iM_plainRows.toInt ≤ 12) (b_fM_plainRow : ∀ q : Nat, 0 ≤ (fM_plainRow q).toInt ∧ (fM_plainRow q).toInt ≤ 11) (b_pr : iM_plainRows.toInt ≤ iM_rows.toInt) (b_iQ_rows : 0 ≤ iQ_rows.toInt ∧ iQ_rows.toInt ≤ 40) (b_iQ_allRows : 0 ≤ iQ_allRows.toInt ∧ iQ_allRows.toInt ≤ 40) (b_iQ_columns : 0 ≤ iQ_columns.toInt ∧ iQ_columns.toInt ≤ 40) (b_tb : TbO iQ_rows iQ_allRows iQ_columns) (b_wl : ∀ q : Nat, 0 ≤ (wl q).toInt ∧ (wl q).toInt ≤ 14) (b_wb : ∀ q : Nat, 0 ≤ (wb q).toInt ∧ (wb q).toInt ≤ 1) (hnW : 432 ≤ nW) (sz : Nat) : Met l yX5_scaleGoals wsMX5_scaleGoals ({ frames := 2, cells := 0, slots := 0, locals := 43 }) (va_Pc [.ref (hO 0)] (fun U => U.heap.size = sz ∧ va_P (dC, dI) vwCl (WO hO aO kO hM hQ hw iO_answered iO_searched iO_searchedRelaxed iO_counted fO_countedCase gO_goalNumber gO_goalScale fO_start fO_column fO_chosen ++ (WM hM aM kM iM_stands iM_variables iM_rows iM_goals iM_differents iM_cases fM_from fM_to fM_whole fM_ways iM_plainRows fM_plainRow fM_kept fM_goalOver fM_goalUnder fM_goalMax fM_different ++ (WQ hQ aQ kQ hw fQ_inside fQ_outside fQ_shut iQ_rows iQ_allRows iQ_columns ++ (WW nW hw lw kw wl wb wG)))) U.heap ∧ va_K (dC, dI) vwCl (tO kO ++ (tM kM ++ (tQ kQ ++ (tW kw)))) U ∧ va_D (fun _ => True) (WO hO aO kO hM hQ hw iO_answered iO_searched iO_searchedRelaxed iO_counted fO_countedCase gO_goalNumber gO_goalScale fO_start fO_column fO_chosen ++ (WM hM aM kM iM_stands iM_variables iM_rows iM_goals iM_differents iM_cases fM_from fM_to fM_whole fM_ways iM_plainRows fM_plainRow fM_kept fM_goalOver fM_goalUnder fM_goalMax fM_different ++ (WQ hQ aQ kQ hw fQ_inside fQ_outside fQ_shut iQ_rows iQ_allRows iQ_columns ++ (WW nW hw lw kw wl wb wG)))))) (va_Qv (fun (u : (Nat → Int64) × (Nat → Int64)) => True) (fun (u : (Nat → Int64) × (Nat → Int64)) t => va_P (dC, dI) vwCl (WO hO aO kO hM hQ hw iO_answered iO_searched iO_searchedRelaxed iO_counted fO_countedCase (u.1) (u.2) fO_start fO_column fO_chosen ++ (WM hM aM kM iM_stands iM_variables iM_rows iM_goals iM_differents iM_cases fM_from fM_to fM_whole fM_ways iM_plainRows fM_plainRow fM_kept fM_goalOver fM_goalUnder fM_goalMax fM_different ++ (WQ hQ aQ kQ hw fQ_inside fQ_outside fQ_shut iQ_rows iQ_allRows iQ_columns ++ (WW nW hw lw kw wl wb wG)))) t.heap ∧ va_D (va_A (WO hO aO kO hM hQ hw iO_answered iO_searched iO_searchedRelaxed iO_counted fO_countedCase gO_goalNumber gO_goalScale fO_start fO_column fO_chosen ++ (WM hM aM kM iM_stands iM_variables iM_rows iM_goals iM_differents iM_cases fM_from fM_to fM_whole fM_ways iM_plainRows fM_plainRow fM_kept fM_goalOver fM_goalUnder fM_goalMax fM_different ++ (WQ hQ aQ kQ hw fQ_inside fQ_outside fQ_shut iQ_rows iQ_allRows iQ_columns ++ (WW nW hw lw kw wl wb wG)))) sz) (WO hO aO kO hM hQ hw iO_answered iO_searched iO_searchedRelaxed iO_counted fO_countedCase (u.1) (u.2) fO_start fO_column fO_chosen ++ (WM hM aM kM iM_stands iM_variables iM_rows iM_goals iM_differents iM_cases fM_from fM_to fM_whole fM_ways iM_plainRows fM_plainRow fM_kept fM_goalOver fM_goalUnder fM_goalMax fM_different ++ (WQ hQ aQ kQ hw fQ_inside fQ_outside fQ_shut iQ_rows iQ_allRows iQ_columns ++ (WW nW hw lw kw wl wb wG))))) (va_A (WO hO aO kO hM hQ hw iO_answered iO_searched iO_searchedRelaxed iO_counted fO_countedCase gO_goalNumber gO_goalScale fO_start fO_column fO_chosen ++ (WM hM aM kM iM_stands iM_variables iM_rows iM_goals iM_differents iM_cases fM_from fM_to fM_whole fM_ways iM_plainRows fM_plainRow fM_kept fM_goalOver fM_goalUnder fM_goalMax fM_different ++ (WQ hQ aQ kQ hw fQ_inside fQ_outside fQ_shut iQ_rows iQ_allRows iQ_columns ++ (WW nW hw lw kw wl wb wG)))) sz)) 0 0 (va_A (WO hO aO kO hM hQ hw iO_answered iO_searched iO_searchedRelaxed iO_counted fO_countedCase gO_goalNumber gO_goalScale fO_start fO_column fO_chosen ++ (WM hM aM kM iM_stands iM_variables iM_rows iM_goals iM_differents iM_cases fM_from fM_to fM_whole fM_ways iM_plainRows fM_plainRow fM_kept fM_goalOver fM_goalUnder fM_goalMax fM_different ++ (WQ hQ aQ kQ hw fQ_inside fQ_outside fQ_shut iQ_rows iQ_allRows iQ_columns ++ (WW nW hw lw kw wl wb wG)))) sz) := by
  refine Met.ofW (cc := cX5_scaleGoals) (maxL := 9) (ret := none) (by decide) rfl ?_
  intro p e s m args below meth c s₁ B hml hv
  obtain ⟨rfl, hsz, hP, hK, hD0⟩ := hv
  have hx := B.exec
  have hb := B.bytes
  have hr := B.returns
  have hts := atoms_spec (ws := wsMX5_scaleGoals) B.pre
  have hown : s.vm.findClass RX5 = some m.cls := findClass_of_methodNamed B.named
  have hlocks := B.notSynchronized
  subst hsz
  have hD := hD0.self (sz := s.heap.size)
  generalize hAe : va_A (WO hO aO kO hM hQ hw iO_answered iO_searched iO_searchedRelaxed iO_counted fO_countedCase gO_goalNumber gO_goalScale fO_start fO_column fO_chosen ++ (WM hM aM kM iM_stands iM_variables iM_rows iM_goals iM_differents iM_cases fM_from fM_to fM_whole fM_ways iM_plainRows fM_plainRow fM_kept fM_goalOver fM_goalUnder fM_goalMax fM_different ++ (WQ hQ aQ kQ hw fQ_inside fQ_outside fQ_shut iQ_rows iQ_allRows iQ_columns ++ (WW nW hw lw kw wl wb wG)))) s.heap.size = A at hD ⊢
  have hA : ∀ q : Nat, s.heap.size ≤ q → A q := fun q h => by rw [← hAe]; exact Or.inr h
  have hS : va_S A s.heap s.heap [] := va_S.rf
  have hl := lv_entry ([.ref (hO 0)]) (n := 9) (Nat.le_of_ble_eq_true rfl)
  rw [lg_entry_eq]
  generalize (lg_sl ([.ref (hO 0)]) ++ List.replicate (9 - (lg_sl ([.ref (hO 0)])).length) Slot.unset).toArray = ls at hl ⊢
  have hl : lv_has ls 9 [(0, .ref (hO 0))] := hl
  refine lv_iconst (v := 0) hx hb dX5_scaleGoals_0 (by decide) ?_
  refine lv_istore_n hx hb dX5_scaleGoals_1 rfl hl (by decide) rfl (fun ls (hl : lv_has ls _ ([(1, .int 0), (0, .ref (hO 0))])) => ?_)
  have hl : lv_has _ _ ([(1, .int 0), (0, .ref (hO 0))]) := lv_sub hl [0, 1] rfl
  refine (fun (loop : ∀ (n9 : Nat) (gO_goalNumber_x2 : Nat → Int64) (gO_goalScale_x2 : Nat → Int64) (l1_x2 : Int32) (H : Heap) (locs : List Loc) (ls : Array Slot), (0 ≤ l1_x2.toInt ∧ l1_x2.toInt ≤ 3) → (3 - l1_x2.toInt < ((n9 : Nat) : Int)) → va_P (dC, dI) vwCl (WO hO aO kO hM hQ hw iO_answered iO_searched iO_searchedRelaxed iO_counted fO_countedCase gO_goalNumber_x2 gO_goalScale_x2 fO_start fO_column fO_chosen ++ (WM hM aM kM iM_stands iM_variables iM_rows iM_goals iM_differents iM_cases fM_from fM_to fM_whole fM_ways iM_plainRows fM_plainRow fM_kept fM_goalOver fM_goalUnder fM_goalMax fM_different ++ (WQ hQ aQ kQ hw fQ_inside fQ_outside fQ_shut iQ_rows iQ_allRows iQ_columns ++ (WW nW hw lw kw wl wb wG)))) H → va_D A (WO hO aO kO hM hQ hw iO_answered iO_searched iO_searchedRelaxed iO_counted fO_countedCase gO_goalNumber_x2 gO_goalScale_x2 fO_start fO_column fO_chosen ++ (WM hM aM kM iM_stands iM_variables iM_rows iM_goals iM_differents iM_cases fM_from fM_to fM_whole fM_ways iM_plainRows fM_plainRow fM_kept fM_goalOver fM_goalUnder fM_goalMax fM_different ++ (WQ hQ aQ kQ hw fQ_inside fQ_outside fQ_shut iQ_rows iQ_allRows iQ_columns ++ (WW nW hw lw kw wl wb wG)))) → va_S A s.heap H locs → lv_has ls 9 [(1, .int l1_x2), (0, .ref (hO 0))] → W p l e _ s m _ below meth c H locs 0 0 _ (F0 m 2 ls [])) => loop (4) gO_goalNumber gO_goalScale 0 _ _ _ (show 0 ≤ (0 : Int32).toInt ∧ (0 : Int32).toInt ≤ 3 from by decide) ((by have e9 : (0 : Int32).toInt = 0 := (by decide : (0 : Int32).toInt = 0); omega)) hP hD hS hl) ?_
  intro n9
  induction n9 with
  | zero => intro gO_goalNumber_x2 gO_goalScale_x2 l1_x2 H locs ls b_l1_x2 hf9; exact False.elim (by omega)
  | succ n9 ihx2 =>
    intro gO_goalNumber_x2 gO_goalScale_x2 l1_x2 H locs ls b_l1_x2 hfx2 hP hD hS hl
    refine lv_iload_n hx hb dX5_scaleGoals_2 rfl (lv_at hl 0 rfl) ?_
    refine lv_aload_n hx hb dX5_scaleGoals_3 rfl (lv_at hl 1 rfl) ?_
    refine va_get (D := (dC, dI)) (ci := 5) (v := .ref (hM 0)) (C := RX5) (T := TX5) (N := 19) hx hb hts iwsMX5_scaleGoals_in5 hown hK hP 0 rfl rfl 0 (by decide) (hts _ hm_m_X5_scaleGoals_0) (fun _ h9 => h9) rfl dX5_scaleGoals_4 ?_
    refine va_get (D := (dC, dI)) (ci := 1) (v := .int iM_goals) (C := RX1) (T := TX1) (N := 17) hx hb hts iwsMX5_scaleGoals_in1 hown hK hP 11 rfl rfl 3 (by decide) (hts (.fieldLink RX5 98 "OptimaWorks$Model" "goals" "I") (by decide +kernel)) (fun _ h9 => h9) rfl dX5_scaleGoals_7 ?_
    refine lv_icmp_ge (tgt := 184) hx hb dX5_scaleGoals_10 (by decide) (fun c_10 => ?_) (fun c_10 => ?_)
    · have t_10 : l1_x2.toInt ≥ iM_goals.toInt := toI_ge c_10 rfl rfl
      refine W.widen (k := 0) (n := 0) (by decide +kernel) (by decide +kernel) ?_
      exact W.vret hx hb hr (fun t9_ ht hW => ⟨⟨(gO_goalNumber_x2, gO_goalScale_x2), rfl, trivial, by rw [ht]; exact hP, hD⟩, hS.F ht⟩) hS.2.2 dX5_scaleGoals_184
    · have t_10 : ¬ l1_x2.toInt ≥ iM_goals.toInt := toI_nge c_10 rfl rfl
      refine lv_lconst (v := 1) hx hb dX5_scaleGoals_13 (by decide) ?_
      refine lv_lstore_n hx hb dX5_scaleGoals_14 rfl hl (by decide) rfl (fun ls (hl : lv_has ls _ ([(2, .long 1), (1, .int l1_x2), (0, .ref (hO 0))])) => ?_)
      refine lv_iconst (v := 1) hx hb dX5_scaleGoals_15 (by decide) ?_
      refine lv_istore hx hb dX5_scaleGoals_16 hl (by decide) rfl (fun ls (hl : lv_has ls _ ([(4, .int 1), (2, .long 1), (1, .int l1_x2), (0, .ref (hO 0))])) => ?_)
      have hl : lv_has _ _ ([(4, .int 1), (2, .long 1), (1, .int l1_x2), (0, .ref (hO 0))]) := lv_sub hl [0, 1, 2, 3] rfl
      refine (fun (loop : ∀ (n9 : Nat) (l4_x18 : Int32) (l2_x18 : Int64) (H : Heap) (locs : List Loc) (ls : Array Slot), (1 ≤ l4_x18.toInt ∧ l4_x18.toInt ≤ 9) → (9 - l4_x18.toInt < ((n9 : Nat) : Int)) → va_P (dC, dI) vwCl (WO hO aO kO hM hQ hw iO_answered iO_searched iO_searchedRelaxed iO_counted fO_countedCase gO_goalNumber_x2 gO_goalScale_x2 fO_start fO_column fO_chosen ++ (WM hM aM kM iM_stands iM_variables iM_rows iM_goals iM_differents iM_cases fM_from fM_to fM_whole fM_ways iM_plainRows fM_plainRow fM_kept fM_goalOver fM_goalUnder fM_goalMax fM_different ++ (WQ hQ aQ kQ hw fQ_inside fQ_outside fQ_shut iQ_rows iQ_allRows iQ_columns ++ (WW nW hw lw kw wl wb wG)))) H → va_D A (WO hO aO kO hM hQ hw iO_answered iO_searched iO_searchedRelaxed iO_counted fO_countedCase gO_goalNumber_x2 gO_goalScale_x2 fO_start fO_column fO_chosen ++ (WM hM aM kM iM_stands iM_variables iM_rows iM_goals iM_differents iM_cases fM_from fM_to fM_whole fM_ways iM_plainRows fM_plainRow fM_kept fM_goalOver fM_goalUnder fM_goalMax fM_different ++ (WQ hQ aQ kQ hw fQ_inside fQ_outside fQ_shut iQ_rows iQ_allRows iQ_columns ++ (WW nW hw lw kw wl wb wG)))) → va_S A s.heap H locs → lv_has ls 9 [(4, .int l4_x18), (2, .long l2_x18), (1, .int l1_x2), (0, .ref (hO 0))] → W p l e _ s m _ below meth c H locs 0 0 _ (F0 m 18 ls [])) => loop (9) 1 1 _ _ _ (show 1 ≤ (1 : Int32).toInt ∧ (1 : Int32).toInt ≤ 9 from by decide) ((by have e9 : (1 : Int32).toInt = 1 := (by decide : (1 : Int32).toInt = 1); omega)) hP hD hS hl) ?_
      intro n9
      induction n9 with
      | zero => intro l4_x18 l2_x18 H locs ls b_l4_x18 hf9; exact False.elim (by omega)
      | succ n9 ihx18 =>
        intro l4_x18 l2_x18 H locs ls b_l4_x18 hfx18 hP hD hS hl
        refine lv_iload hx hb dX5_scaleGoals_18 (lv_at hl 0 rfl) ?_
        refine lv_aload_n hx hb dX5_scaleGoals_20 rfl (lv_at hl 3 rfl) ?_
        refine va_get (D := (dC, dI)) (ci := 5) (v := .ref (hM 0)) (C := RX5) (T := TX5) (N := 19) hx hb hts iwsMX5_scaleGoals_in5 hown hK hP 0 rfl rfl 0 (by decide) (hts _ hm_m_X5_scaleGoals_0) (fun _ h9 => h9) rfl dX5_scaleGoals_21 ?_
        refine va_get (D := (dC, dI)) (ci := 1) (v := .int iM_variables) (C := RX1) (T := TX1) (N := 17) hx hb hts iwsMX5_scaleGoals_in1 hown hK hP 11 rfl rfl 1 (by decide) (hts _ hm_m_X5_scaleGoals_1) (fun _ h9 => h9) rfl dX5_scaleGoals_24 ?_
        refine lv_icmp_gt (tgt := 67) hx hb dX5_scaleGoals_27 (by decide) (fun c_27 => ?_) (fun c_27 => ?_)
        · have t_27 : l4_x18.toInt > iM_variables.toInt := toI_gt c_27 rfl rfl
          refine lv_aload_n hx hb dX5_scaleGoals_67 rfl (lv_at hl 3 rfl) ?_
          refine va_get (D := (dC, dI)) (ci := 5) (v := .ref (aO 2)) (C := RX5) (T := TX5) (N := 19) hx hb hts iwsMX5_scaleGoals_in5 hown hK hP 0 rfl rfl 8 (by decide) (hts (.fieldLink RX5 32 "OptimaWorks$Solver" "goalScale" "[J") (by decide +kernel)) (fun _ h9 => h9) rfl dX5_scaleGoals_68 ?_
          refine lv_iload_n hx hb dX5_scaleGoals_71 rfl (lv_at hl 2 rfl) ?_
          refine lv_lload_n hx hb dX5_scaleGoals_72 rfl (lv_at hl 1 rfl) ?_
          refine va_last (cA := kO 2) (n := 3) (f := gO_goalScale_x2) hx hb hK hP hD hS 3 2 rfl rfl (vp_in_iff.mpr ⟨b_l1_x2.1, (by omega)⟩) dX5_scaleGoals_73 (fun H locs hP hD hS => ?_)
          obtain ⟨u2338, hu2338⟩ : ∃ f9, f9 = vp_updL gO_goalScale_x2 (l1_x2).toNatClampNeg l2_x18 := ⟨_, rfl⟩
          have hP : va_P (dC, dI) vwCl (WO hO aO kO hM hQ hw iO_answered iO_searched iO_searchedRelaxed iO_counted fO_countedCase gO_goalNumber_x2 u2338 fO_start fO_column fO_chosen ++ (WM hM aM kM iM_stands iM_variables iM_rows iM_goals iM_differents iM_cases fM_from fM_to fM_whole fM_ways iM_plainRows fM_plainRow fM_kept fM_goalOver fM_goalUnder fM_goalMax fM_different ++ (WQ hQ aQ kQ hw fQ_inside fQ_outside fQ_shut iQ_rows iQ_allRows iQ_columns ++ (WW nW hw lw kw wl wb wG)))) H := by rw [hu2338]; exact hP
          have hD : va_D A (WO hO aO kO hM hQ hw iO_answered iO_searched iO_searchedRelaxed iO_counted fO_countedCase gO_goalNumber_x2 u2338 fO_start fO_column fO_chosen ++ (WM hM aM kM iM_stands iM_variables iM_rows iM_goals iM_differents iM_cases fM_from fM_to fM_whole fM_ways iM_plainRows fM_plainRow fM_kept fM_goalOver fM_goalUnder fM_goalMax fM_different ++ (WQ hQ aQ kQ hw fQ_inside fQ_outside fQ_shut iQ_rows iQ_allRows iQ_columns ++ (WW nW hw lw kw wl wb wG)))) := by rw [hu2338]; exact hD
          clear hu2338
          refine lv_iconst (v := 0) hx hb dX5_scaleGoals_74 (by decide) ?_
          refine lv_istore hx hb dX5_scaleGoals_75 hl (by decide) rfl (fun ls (hl : lv_has ls _ ([(4, .int 0), (2, .long l2_x18), (1, .int l1_x2), (0, .ref (hO 0))])) => ?_)
          have hl : lv_has _ _ ([(4, .int 0), (2, .long l2_x18), (1, .int l1_x2), (0, .ref (hO 0))]) := lv_sub hl [0, 1, 2, 3] rfl
          refine (fun (loop : ∀ (n9 : Nat) (gO_goalNumber_x77 : Nat → Int64) (l4_x77 : Int32) (H : Heap) (locs : List Loc) (ls : Array Slot), (0 ≤ l4_x77.toInt ∧ l4_x77.toInt ≤ 8) → (8 - l4_x77.toInt < ((n9 : Nat) : Int)) → va_P (dC, dI) vwCl (WO hO aO kO hM hQ hw iO_answered iO_searched iO_searchedRelaxed iO_counted fO_countedCase gO_goalNumber_x77 u2338 fO_start fO_column fO_chosen ++ (WM hM aM kM iM_stands iM_variables iM_rows iM_goals iM_differents iM_cases fM_from fM_to fM_whole fM_ways iM_plainRows fM_plainRow fM_kept fM_goalOver fM_goalUnder fM_goalMax fM_different ++ (WQ hQ aQ kQ hw fQ_inside fQ_outside fQ_shut iQ_rows iQ_allRows iQ_columns ++ (WW nW hw lw kw wl wb wG)))) H → va_D A (WO hO aO kO hM hQ hw iO_answered iO_searched iO_searchedRelaxed iO_counted fO_countedCase gO_goalNumber_x77 u2338 fO_start fO_column fO_chosen ++ (WM hM aM kM iM_stands iM_variables iM_rows iM_goals iM_differents iM_cases fM_from fM_to fM_whole fM_ways iM_plainRows fM_plainRow fM_kept fM_goalOver fM_goalUnder fM_goalMax fM_different ++ (WQ hQ aQ kQ hw fQ_inside fQ_outside fQ_shut iQ_rows iQ_allRows iQ_columns ++ (WW nW hw lw kw wl wb wG)))) → va_S A s.heap H locs → lv_has ls 9 [(4, .int l4_x77), (2, .long l2_x18), (1, .int l1_x2), (0, .ref (hO 0))] → W p l e _ s m _ below meth c H locs 0 0 _ (F0 m 77 ls [])) => loop (9) gO_goalNumber_x2 0 _ _ _ (show 0 ≤ (0 : Int32).toInt ∧ (0 : Int32).toInt ≤ 8 from by decide) ((by have e9 : (0 : Int32).toInt = 0 := (by decide : (0 : Int32).toInt = 0); omega)) hP hD hS hl) ?_
          intro n9
          induction n9 with
          | zero => intro gO_goalNumber_x77 l4_x77 H locs ls b_l4_x77 hf9; exact False.elim (by omega)
          | succ n9 ihx77 =>
            intro gO_goalNumber_x77 l4_x77 H locs ls b_l4_x77 hfx77 hP hD hS hl
            refine lv_iload hx hb dX5_scaleGoals_77 (lv_at hl 0 rfl) ?_
            refine lv_aload_n hx hb dX5_scaleGoals_79 rfl (lv_at hl 3 rfl) ?_
            refine va_get (D := (dC, dI)) (ci := 5) (v := .ref (hM 0)) (C := RX5) (T := TX5) (N := 19) hx hb hts iwsMX5_scaleGoals_in5 hown hK hP 0 rfl rfl 0 (by decide) (hts _ hm_m_X5_scaleGoals_0) (fun _ h9 => h9) rfl dX5_scaleGoals_80 ?_
            refine va_get (D := (dC, dI)) (ci := 1) (v := .int iM_variables) (C := RX1) (T := TX1) (N := 17) hx hb hts iwsMX5_scaleGoals_in1 hown hK hP 11 rfl rfl 1 (by decide) (hts _ hm_m_X5_scaleGoals_1) (fun _ h9 => h9) rfl dX5_scaleGoals_83 ?_
            refine lv_icmp_ge (tgt := 178) hx hb dX5_scaleGoals_86 (by decide) (fun c_86 => ?_) (fun c_86 => ?_)
            · have t_86 : l4_x77.toInt ≥ iM_variables.toInt := toI_ge c_86 rfl rfl
              refine lv_iinc (v := (iI (l1_x2.toInt + 1))) hx hb dX5_scaleGoals_178 hl (k := 2) rfl (iI_add2 (iI_of _) (by decide : (1 : Int32) = iI 1)) (by decide) rfl (fun ls (hl : lv_has ls _ ([(1, .int (iI (l1_x2.toInt + 1))), (4, .int l4_x77), (2, .long l2_x18), (0, .ref (hO 0))])) => ?_)
              refine lv_goto (tgt := 2) hx hb dX5_scaleGoals_181 (by decide) ?_
              have hl : lv_has _ _ ([(1, .int (iI (l1_x2.toInt + 1))), (0, .ref (hO 0))]) := lv_sub hl [0, 3] rfl
              exact ihx2 gO_goalNumber_x77 u2338 (iI (l1_x2.toInt + 1)) _ _ _ (iI_rng (Int.le_trans (by decide) (Int.add_le_add (b_l1_x2.1) (Int.le_refl _))) (by omega) (by decide) (by decide)) (by have e9 : ((iI (l1_x2.toInt + 1))).toInt = (l1_x2.toInt + 1) := (iI_t (Int.le_trans (by decide) (Int.add_le_add (b_l1_x2.1) (Int.le_refl _))) (Int.le_trans (Int.add_le_add (b_l1_x2.2) (Int.le_refl _)) (by decide))); omega) hP hD hS hl
            · have t_86 : ¬ l4_x77.toInt ≥ iM_variables.toInt := toI_nge c_86 rfl rfl
              refine lv_iload_n hx hb dX5_scaleGoals_89 rfl (lv_at hl 2 rfl) ?_
              refine lv_bipush (v := 9) hx hb dX5_scaleGoals_90 (by decide) ?_
              refine lv_imul hx hb dX5_scaleGoals_92 ?_
              refine lv_topi (fun y2439 hy2439 => ?_)
              obtain rfl : (iI (l1_x2.toInt * 9)) = y2439 := (hy2439.trans (iI_mul2 (iI_of _) (by decide : (9 : Int32) = iI 9))).symm
              refine lv_iload hx hb dX5_scaleGoals_93 (lv_at hl 0 rfl) ?_
              refine lv_iadd hx hb dX5_scaleGoals_95 ?_
              refine lv_topi (fun y2440 hy2440 => ?_)
              obtain rfl : (iI ((l1_x2.toInt * 9) + l4_x77.toInt)) = y2440 := (hy2440.trans (iI_add2 rfl (iI_of _))).symm
              refine lv_iconst (v := 1) hx hb dX5_scaleGoals_96 (by decide) ?_
              refine lv_iadd hx hb dX5_scaleGoals_97 ?_
              refine lv_topi (fun y2441 hy2441 => ?_)
              obtain rfl : (iI (((l1_x2.toInt * 9) + l4_x77.toInt) + 1)) = y2441 := (hy2441.trans (iI_add2 rfl (by decide : (1 : Int32) = iI 1))).symm
              refine lv_istore hx hb dX5_scaleGoals_98 hl (by decide) rfl (fun ls (hl : lv_has ls _ ([(5, .int (iI (((l1_x2.toInt * 9) + l4_x77.toInt) + 1))), (4, .int l4_x77), (2, .long l2_x18), (1, .int l1_x2), (0, .ref (hO 0))])) => ?_)
              refine lv_aload_n hx hb dX5_scaleGoals_100 rfl (lv_at hl 4 rfl) ?_
              refine va_get (D := (dC, dI)) (ci := 5) (v := .ref (hM 0)) (C := RX5) (T := TX5) (N := 19) hx hb hts iwsMX5_scaleGoals_in5 hown hK hP 0 rfl rfl 0 (by decide) (hts _ hm_m_X5_scaleGoals_0) (fun _ h9 => h9) rfl dX5_scaleGoals_101 ?_
              refine va_get (D := (dC, dI)) (ci := 1) (v := .ref (aM 7)) (C := RX1) (T := TX1) (N := 17) hx hb hts iwsMX5_scaleGoals_in1 hown hK hP 11 rfl rfl 14 (by decide) (hts _ hm_m_X5_scaleGoals_2) (fun _ h9 => h9) rfl dX5_scaleGoals_104 ?_
              refine lv_iload hx hb dX5_scaleGoals_107 (lv_at hl 0 rfl) ?_
              refine va_iald (cA := kM 7) (n := 27) (f := fM_goalUnder) hx hb hK hP 19 17 rfl rfl (vp_iI (Int.le_trans (by decide) (Int.add_le_add (Int.add_le_add (Int.mul_le_mul_of_nonneg_right (b_l1_x2.1) (by decide)) (b_l4_x77.1)) (Int.le_refl _))) (by omega) (by decide)) dX5_scaleGoals_109 ?_
              refine lv_topi (fun v2442 hv2442 => ?_)
              clear hv2442
              refine lv_istore hx hb dX5_scaleGoals_110 hl (by decide) rfl (fun ls (hl : lv_has ls _ ([(6, .int v2442), (5, .int (iI (((l1_x2.toInt * 9) + l4_x77.toInt) + 1))), (4, .int l4_x77), (2, .long l2_x18), (1, .int l1_x2), (0, .ref (hO 0))])) => ?_)
              refine lv_iload hx hb dX5_scaleGoals_112 (lv_at hl 0 rfl) ?_
              refine W.cut (pc := 138) (fun H locs ls stk => ∃ (k0_j431 : Int64),  stk = [.long k0_j431] ∧ va_P (dC, dI) vwCl (WO hO aO kO hM hQ hw iO_answered iO_searched iO_searchedRelaxed iO_counted fO_countedCase gO_goalNumber_x77 u2338 fO_start fO_column fO_chosen ++ (WM hM aM kM iM_stands iM_variables iM_rows iM_goals iM_differents iM_cases fM_from fM_to fM_whole fM_ways iM_plainRows fM_plainRow fM_kept fM_goalOver fM_goalUnder fM_goalMax fM_different ++ (WQ hQ aQ kQ hw fQ_inside fQ_outside fQ_shut iQ_rows iQ_allRows iQ_columns ++ (WW nW hw lw kw wl wb wG)))) H ∧ va_D A (WO hO aO kO hM hQ hw iO_answered iO_searched iO_searchedRelaxed iO_counted fO_countedCase gO_goalNumber_x77 u2338 fO_start fO_column fO_chosen ++ (WM hM aM kM iM_stands iM_variables iM_rows iM_goals iM_differents iM_cases fM_from fM_to fM_whole fM_ways iM_plainRows fM_plainRow fM_kept fM_goalOver fM_goalUnder fM_goalMax fM_different ++ (WQ hQ aQ kQ hw fQ_inside fQ_outside fQ_shut iQ_rows iQ_allRows iQ_columns ++ (WW nW hw lw kw wl wb wG)))) ∧ va_S A s.heap H locs ∧ lv_has ls 9 [(6, .int v2442), (5, .int (iI (((l1_x2.toInt * 9) + l4_x77.toInt) + 1))), (4, .int l4_x77), (2, .long l2_x18), (1, .int l1_x2), (0, .ref (hO 0))]) (fun join431 => ?_) ?_
              · refine lv_if_ne (tgt := 121) hx hb dX5_scaleGoals_114 (by decide) (fun c_114 => ?_) (fun c_114 => ?_)
                · have t_114 : v2442.toInt ≠ 0 := toI_ne c_114 rfl (by decide : (0 : Int32).toInt = 0)
                  refine lv_lload_n hx hb dX5_scaleGoals_121 rfl (lv_at hl 3 rfl) ?_
                  refine lv_iload hx hb dX5_scaleGoals_122 (lv_at hl 0 rfl) ?_
                  refine lv_i2l hx hb dX5_scaleGoals_124 rfl ?_
                  refine lv_topl (fun v2448 hv2448 => ?_)
                  have b_v2448 : v2448.toInt = v2442.toInt := by rw [hv2448]; exact (i2l_t _).trans rfl
                  clear hv2448
                  refine lv_ldiv hx hb dX5_scaleGoals_125 (nz_l (x := v2448) rfl (by omega)) ?_
                  refine lv_topl (fun v2449 hv2449 => ?_)
                  clear hv2449
                  refine lv_aload_n hx hb dX5_scaleGoals_126 rfl (lv_at hl 5 rfl) ?_
                  refine va_get (D := (dC, dI)) (ci := 5) (v := .ref (hM 0)) (C := RX5) (T := TX5) (N := 19) hx hb hts iwsMX5_scaleGoals_in5 hown hK hP 0 rfl rfl 0 (by decide) (hts _ hm_m_X5_scaleGoals_0) (fun _ h9 => h9) rfl dX5_scaleGoals_127 ?_
                  refine va_get (D := (dC, dI)) (ci := 1) (v := .ref (aM 6)) (C := RX1) (T := TX1) (N := 17) hx hb hts iwsMX5_scaleGoals_in1 hown hK hP 11 rfl rfl 13 (by decide) (hts (.fieldLink RX5 124 "OptimaWorks$Model" "goalOver" "[I") (by decide +kernel)) (fun _ h9 => h9) rfl dX5_scaleGoals_130 ?_
                  refine lv_iload hx hb dX5_scaleGoals_133 (lv_at hl 1 rfl) ?_
                  refine va_iald (cA := kM 6) (n := 27) (f := fM_goalOver) hx hb hK hP 18 16 rfl rfl (vp_iI (Int.le_trans (by decide) (Int.add_le_add (Int.add_le_add (Int.mul_le_mul_of_nonneg_right (b_l1_x2.1) (by decide)) (b_l4_x77.1)) (Int.le_refl _))) (by omega) (by decide)) dX5_scaleGoals_135 ?_
                  refine lv_topi (fun v2450 hv2450 => ?_)
                  clear hv2450
                  refine lv_i2l hx hb dX5_scaleGoals_136 rfl ?_
                  refine lv_topl (fun v2451 hv2451 => ?_)
                  clear hv2451
                  refine lv_lmul hx hb dX5_scaleGoals_137 ?_
                  refine lv_topl (fun v2452 hv2452 => ?_)
                  clear hv2452
                  have hl : lv_has _ _ ([(6, .int v2442), (5, .int (iI (((l1_x2.toInt * 9) + l4_x77.toInt) + 1))), (4, .int l4_x77), (2, .long l2_x18), (1, .int l1_x2), (0, .ref (hO 0))]) := lv_sub hl [0, 1, 2, 3, 4, 5] rfl
                  exact join431 _ _ _ _ ⟨v2452, rfl, hP, hD, hS, hl⟩
                · have t_114 : v2442.toInt = 0 := toI_nne c_114 rfl (by decide : (0 : Int32).toInt = 0)
                  refine lv_lconst (v := 0) hx hb dX5_scaleGoals_117 (by decide) ?_
                  refine lv_goto (tgt := 138) hx hb dX5_scaleGoals_118 (by decide) ?_
                  have hl : lv_has _ _ ([(6, .int v2442), (5, .int (iI (((l1_x2.toInt * 9) + l4_x77.toInt) + 1))), (4, .int l4_x77), (2, .long l2_x18), (1, .int l1_x2), (0, .ref (hO 0))]) := lv_sub hl [0, 1, 2, 3, 4, 5] rfl
                  exact join431 _ _ _ _ ⟨0, rfl, hP, hD, hS, hl⟩
              · rintro H locs ls stk ⟨k0_j431, rfl, hP, hD, hS, hl⟩
                refine lv_lstore hx hb dX5_scaleGoals_138 hl (by decide) rfl (fun ls (hl : lv_has ls _ ([(7, .long k0_j431), (6, .int v2442), (5, .int (iI (((l1_x2.toInt * 9) + l4_x77.toInt) + 1))), (4, .int l4_x77), (2, .long l2_x18), (1, .int l1_x2), (0, .ref (hO 0))])) => ?_)
                refine lv_aload_n hx hb dX5_scaleGoals_140 rfl (lv_at hl 6 rfl) ?_
                refine va_get (D := (dC, dI)) (ci := 5) (v := .ref (aO 1)) (C := RX5) (T := TX5) (N := 19) hx hb hts iwsMX5_scaleGoals_in5 hown hK hP 0 rfl rfl 7 (by decide) (hts (.fieldLink RX5 28 "OptimaWorks$Solver" "goalNumber" "[J") (by decide +kernel)) (fun _ h9 => h9) rfl dX5_scaleGoals_141 ?_
                refine lv_iload_n hx hb dX5_scaleGoals_144 rfl (lv_at hl 5 rfl) ?_
                refine lv_bipush (v := 8) hx hb dX5_scaleGoals_145 (by decide) ?_
                refine lv_imul hx hb dX5_scaleGoals_147 ?_
                refine lv_topi (fun y2453 hy2453 => ?_)
                obtain rfl : (iI (l1_x2.toInt * 8)) = y2453 := (hy2453.trans (iI_mul2 (iI_of _) (by decide : (8 : Int32) = iI 8))).symm
                refine lv_iload hx hb dX5_scaleGoals_148 (lv_at hl 3 rfl) ?_
                refine lv_iadd hx hb dX5_scaleGoals_150 ?_
                refine lv_topi (fun y2454 hy2454 => ?_)
                obtain rfl : (iI ((l1_x2.toInt * 8) + l4_x77.toInt)) = y2454 := (hy2454.trans (iI_add2 rfl (iI_of _))).symm
                refine lv_aload_n hx hb dX5_scaleGoals_151 rfl (lv_at hl 6 rfl) ?_
                refine va_get (D := (dC, dI)) (ci := 5) (v := .ref (hM 0)) (C := RX5) (T := TX5) (N := 19) hx hb hts iwsMX5_scaleGoals_in5 hown hK hP 0 rfl rfl 0 (by decide) (hts _ hm_m_X5_scaleGoals_0) (fun _ h9 => h9) rfl dX5_scaleGoals_152 ?_
                refine va_get (D := (dC, dI)) (ci := 1) (v := .ref (aM 8)) (C := RX1) (T := TX1) (N := 17) hx hb hts iwsMX5_scaleGoals_in1 hown hK hP 11 rfl rfl 15 (by decide) (hts (.fieldLink RX5 127 "OptimaWorks$Model" "goalMax" "[Z") (by decide +kernel)) (fun _ h9 => h9) rfl dX5_scaleGoals_155 ?_
                refine lv_iload_n hx hb dX5_scaleGoals_158 rfl (lv_at hl 5 rfl) ?_
                refine va_zald (cA := kM 8) (n := 3) (f := fM_goalMax) hx hb hK hP 20 18 rfl rfl (vp_in_iff.mpr ⟨b_l1_x2.1, (by omega)⟩) dX5_scaleGoals_159 ?_
                refine lv_topi (fun v2455 hv2455 => ?_)
                clear hv2455
                refine W.cut (pc := 171) (fun H locs ls stk => ∃ (k0_j432 : Int64),  stk = [.long k0_j432, .int (iI ((l1_x2.toInt * 8) + l4_x77.toInt)), .ref (aO 1)] ∧ va_P (dC, dI) vwCl (WO hO aO kO hM hQ hw iO_answered iO_searched iO_searchedRelaxed iO_counted fO_countedCase gO_goalNumber_x77 u2338 fO_start fO_column fO_chosen ++ (WM hM aM kM iM_stands iM_variables iM_rows iM_goals iM_differents iM_cases fM_from fM_to fM_whole fM_ways iM_plainRows fM_plainRow fM_kept fM_goalOver fM_goalUnder fM_goalMax fM_different ++ (WQ hQ aQ kQ hw fQ_inside fQ_outside fQ_shut iQ_rows iQ_allRows iQ_columns ++ (WW nW hw lw kw wl wb wG)))) H ∧ va_D A (WO hO aO kO hM hQ hw iO_answered iO_searched iO_searchedRelaxed iO_counted fO_countedCase gO_goalNumber_x77 u2338 fO_start fO_column fO_chosen ++ (WM hM aM kM iM_stands iM_variables iM_rows iM_goals iM_differents iM_cases fM_from fM_to fM_whole fM_ways iM_plainRows fM_plainRow fM_kept fM_goalOver fM_goalUnder fM_goalMax fM_different ++ (WQ hQ aQ kQ hw fQ_inside fQ_outside fQ_shut iQ_rows iQ_allRows iQ_columns ++ (WW nW hw lw kw wl wb wG)))) ∧ va_S A s.heap H locs ∧ lv_has ls 9 [(7, .long k0_j431), (6, .int v2442), (5, .int (iI (((l1_x2.toInt * 9) + l4_x77.toInt) + 1))), (4, .int l4_x77), (2, .long l2_x18), (1, .int l1_x2), (0, .ref (hO 0))]) (fun join432 => ?_) ?_
                · refine lv_if_eq (tgt := 169) hx hb dX5_scaleGoals_160 (by decide) (fun c_160 => ?_) (fun c_160 => ?_)
                  · have t_160 : v2455.toInt = 0 := toI_eq c_160 rfl (by decide : (0 : Int32).toInt = 0)
                    refine lv_lload hx hb dX5_scaleGoals_169 (lv_at hl 0 rfl) ?_
                    have hl : lv_has _ _ ([(7, .long k0_j431), (6, .int v2442), (5, .int (iI (((l1_x2.toInt * 9) + l4_x77.toInt) + 1))), (4, .int l4_x77), (2, .long l2_x18), (1, .int l1_x2), (0, .ref (hO 0))]) := lv_sub hl [0, 1, 2, 3, 4, 5, 6] rfl
                    exact join432 _ _ _ _ ⟨k0_j431, rfl, hP, hD, hS, hl⟩
                  · have t_160 : ¬ v2455.toInt = 0 := toI_neq c_160 rfl (by decide : (0 : Int32).toInt = 0)
                    refine lv_lload hx hb dX5_scaleGoals_163 (lv_at hl 0 rfl) ?_
                    refine lv_lneg hx hb dX5_scaleGoals_165 ?_
                    refine lv_topl (fun v2457 hv2457 => ?_)
                    clear hv2457
                    refine lv_goto (tgt := 171) hx hb dX5_scaleGoals_166 (by decide) ?_
                    have hl : lv_has _ _ ([(7, .long k0_j431), (6, .int v2442), (5, .int (iI (((l1_x2.toInt * 9) + l4_x77.toInt) + 1))), (4, .int l4_x77), (2, .long l2_x18), (1, .int l1_x2), (0, .ref (hO 0))]) := lv_sub hl [0, 1, 2, 3, 4, 5, 6] rfl
                    exact join432 _ _ _ _ ⟨v2457, rfl, hP, hD, hS, hl⟩
                · rintro H locs ls stk ⟨k0_j432, rfl, hP, hD, hS, hl⟩
                  refine va_last (cA := kO 1) (n := 24) (f := gO_goalNumber_x77) hx hb hK hP hD hS 2 1 rfl rfl (vp_iI (Int.le_trans (by decide) (Int.add_le_add (Int.mul_le_mul_of_nonneg_right (b_l1_x2.1) (by decide)) (b_l4_x77.1))) (by omega) (by decide)) dX5_scaleGoals_171 (fun H locs hP hD hS => ?_)
                  obtain ⟨u2458, hu2458⟩ : ∃ f9, f9 = vp_updL gO_goalNumber_x77 ((iI ((l1_x2.toInt * 8) + l4_x77.toInt))).toNatClampNeg k0_j432 := ⟨_, rfl⟩
                  have hP : va_P (dC, dI) vwCl (WO hO aO kO hM hQ hw iO_answered iO_searched iO_searchedRelaxed iO_counted fO_countedCase u2458 u2338 fO_start fO_column fO_chosen ++ (WM hM aM kM iM_stands iM_variables iM_rows iM_goals iM_differents iM_cases fM_from fM_to fM_whole fM_ways iM_plainRows fM_plainRow fM_kept fM_goalOver fM_goalUnder fM_goalMax fM_different ++ (WQ hQ aQ kQ hw fQ_inside fQ_outside fQ_shut iQ_rows iQ_allRows iQ_columns ++ (WW nW hw lw kw wl wb wG)))) H := by rw [hu2458]; exact hP
                  have hD : va_D A (WO hO aO kO hM hQ hw iO_answered iO_searched iO_searchedRelaxed iO_counted fO_countedCase u2458 u2338 fO_start fO_column fO_chosen ++ (WM hM aM kM iM_stands iM_variables iM_rows iM_goals iM_differents iM_cases fM_from fM_to fM_whole fM_ways iM_plainRows fM_plainRow fM_kept fM_goalOver fM_goalUnder fM_goalMax fM_different ++ (WQ hQ aQ kQ hw fQ_inside fQ_outside fQ_shut iQ_rows iQ_allRows iQ_columns ++ (WW nW hw lw kw wl wb wG)))) := by rw [hu2458]; exact hD
                  clear hu2458
                  refine lv_iinc (v := (iI (l4_x77.toInt + 1))) hx hb dX5_scaleGoals_172 hl (k := 3) rfl (iI_add2 (iI_of _) (by decide : (1 : Int32) = iI 1)) (by decide) rfl (fun ls (hl : lv_has ls _ ([(4, .int (iI (l4_x77.toInt + 1))), (7, .long k0_j431), (6, .int v2442), (5, .int (iI (((l1_x2.toInt * 9) + l4_x77.toInt) + 1))), (2, .long l2_x18), (1, .int l1_x2), (0, .ref (hO 0))])) => ?_)
                  refine lv_goto (tgt := 77) hx hb dX5_scaleGoals_175 (by decide) ?_
                  have hl : lv_has _ _ ([(4, .int (iI (l4_x77.toInt + 1))), (2, .long l2_x18), (1, .int l1_x2), (0, .ref (hO 0))]) := lv_sub hl [0, 4, 5, 6] rfl
                  exact ihx77 u2458 (iI (l4_x77.toInt + 1)) _ _ _ (iI_rng (Int.le_trans (by decide) (Int.add_le_add (b_l4_x77.1) (Int.le_refl _))) (by omega) (by decide) (by decide)) (by have e9 : ((iI (l4_x77.toInt + 1))).toInt = (l4_x77.toInt + 1) := (iI_t (Int.le_trans (by decide) (Int.add_le_add (b_l4_x77.1) (Int.le_refl _))) (Int.le_trans (Int.add_le_add (b_l4_x77.2) (Int.le_refl _)) (by decide))); omega) hP hD hS hl
        · have t_27 : ¬ l4_x18.toInt > iM_variables.toInt := toI_ngt c_27 rfl rfl
          refine lv_aload_n hx hb dX5_scaleGoals_30 rfl (lv_at hl 3 rfl) ?_
          refine va_get (D := (dC, dI)) (ci := 5) (v := .ref (hM 0)) (C := RX5) (T := TX5) (N := 19) hx hb hts iwsMX5_scaleGoals_in5 hown hK hP 0 rfl rfl 0 (by decide) (hts _ hm_m_X5_scaleGoals_0) (fun _ h9 => h9) rfl dX5_scaleGoals_31 ?_
          refine va_get (D := (dC, dI)) (ci := 1) (v := .ref (aM 7)) (C := RX1) (T := TX1) (N := 17) hx hb hts iwsMX5_scaleGoals_in1 hown hK hP 11 rfl rfl 14 (by decide) (hts _ hm_m_X5_scaleGoals_2) (fun _ h9 => h9) rfl dX5_scaleGoals_34 ?_
          refine lv_iload_n hx hb dX5_scaleGoals_37 rfl (lv_at hl 2 rfl) ?_
          refine lv_bipush (v := 9) hx hb dX5_scaleGoals_38 (by decide) ?_
          refine lv_imul hx hb dX5_scaleGoals_40 ?_
          refine lv_topi (fun y2459 hy2459 => ?_)
          obtain rfl : (iI (l1_x2.toInt * 9)) = y2459 := (hy2459.trans (iI_mul2 (iI_of _) (by decide : (9 : Int32) = iI 9))).symm
          refine lv_iload hx hb dX5_scaleGoals_41 (lv_at hl 0 rfl) ?_
          refine lv_iadd hx hb dX5_scaleGoals_43 ?_
          refine lv_topi (fun y2460 hy2460 => ?_)
          obtain rfl : (iI ((l1_x2.toInt * 9) + l4_x18.toInt)) = y2460 := (hy2460.trans (iI_add2 rfl (iI_of _))).symm
          refine va_iald (cA := kM 7) (n := 27) (f := fM_goalUnder) hx hb hK hP 19 17 rfl rfl (vp_iI (Int.le_trans (by decide) (Int.add_le_add (Int.mul_le_mul_of_nonneg_right (b_l1_x2.1) (by decide)) (b_l4_x18.1))) (by omega) (by decide)) dX5_scaleGoals_44 ?_
          refine lv_topi (fun v2461 hv2461 => ?_)
          clear hv2461
          refine lv_istore hx hb dX5_scaleGoals_45 hl (by decide) rfl (fun ls (hl : lv_has ls _ ([(5, .int v2461), (4, .int l4_x18), (2, .long l2_x18), (1, .int l1_x2), (0, .ref (hO 0))])) => ?_)
          refine lv_lload_n hx hb dX5_scaleGoals_47 rfl (lv_at hl 2 rfl) ?_
          refine lv_iload hx hb dX5_scaleGoals_48 (lv_at hl 0 rfl) ?_
          refine lv_i2l hx hb dX5_scaleGoals_50 rfl ?_
          refine lv_topl (fun v2462 hv2462 => ?_)
          have b_v2462 : v2462.toInt = v2461.toInt := by rw [hv2462]; exact (i2l_t _).trans rfl
          clear hv2462
          refine lv_lload_n hx hb dX5_scaleGoals_51 rfl (lv_at hl 2 rfl) ?_
          refine lv_iload hx hb dX5_scaleGoals_52 (lv_at hl 0 rfl) ?_
          refine lv_i2l hx hb dX5_scaleGoals_54 rfl ?_
          refine lv_topl (fun v2463 hv2463 => ?_)
          have b_v2463 : v2463.toInt = v2461.toInt := by rw [hv2463]; exact (i2l_t _).trans rfl
          clear hv2463
          have hFc := noneFree hS hA
          refine va_calll (va_runS (As := [.long l2_x18, .long v2463]) (rest := [.long v2462, .long l2_x18]) ⟨hx, hb, hml, hown, hts⟩ (m_X10_divisor l dC dI l2_x18 v2463 H.size) (va_cwS 2 hts gwsMX5_scaleGoals_0 rfl rfl rfl (by decide +kernel) ⟨by decide +kernel, by decide +kernel⟩) ⟨fun a U g mk q => by obtain ⟨q0, q1, qP, qK, qD⟩ := q; exact ⟨q0, q1, qP, va_K.moved (u := U) (U := U.calling g mk a) (Vm.Alike.refl U.vm) qK, qD⟩, fun U hU9 hW => ⟨rfl, by rw [hU9], by rw [hU9]; exact nilP, va_K.moved hW.alike (hK.sub (tys' := []) [] rfl), nilD⟩⟩ rfl rfl hl.1 rfl (lv_room (Nat.le_of_ble_eq_true rfl)) dX5_scaleGoals_55 (by decide +kernel)) hS (fun q _ h => hFc q h) hFc (fun r2464 u t9_ H1 locs ht hvm hw9 hB9 hz1 hk1 hS => ?_)
          have f2464_0 := hw9
          try dsimp only at f2464_0
          clear hB9
          have hP := keepAll hP hk1
          generalize H1 = H at hP hS ⊢
          have hP : va_P (dC, dI) vwCl (WO hO aO kO hM hQ hw iO_answered iO_searched iO_searchedRelaxed iO_counted fO_countedCase gO_goalNumber_x2 gO_goalScale_x2 fO_start fO_column fO_chosen ++ (WM hM aM kM iM_stands iM_variables iM_rows iM_goals iM_differents iM_cases fM_from fM_to fM_whole fM_ways iM_plainRows fM_plainRow fM_kept fM_goalOver fM_goalUnder fM_goalMax fM_different ++ (WQ hQ aQ kQ hw fQ_inside fQ_outside fQ_shut iQ_rows iQ_allRows iQ_columns ++ (WW nW hw lw kw wl wb wG)))) H := hP
          have hD := fz_sd hP (hD) rfl
          have hdv := f2464_0
          refine lv_ldiv hx hb dX5_scaleGoals_58 (nz_l (x := r2464) rfl (by omega)) ?_
          refine lv_topl (fun v2465 hv2465 => ?_)
          clear hv2465
          refine lv_lmul hx hb dX5_scaleGoals_59 ?_
          refine lv_topl (fun v2466 hv2466 => ?_)
          clear hv2466
          refine lv_lstore_n hx hb dX5_scaleGoals_60 rfl hl (by decide) rfl (fun ls (hl : lv_has ls _ ([(2, .long v2466), (5, .int v2461), (4, .int l4_x18), (1, .int l1_x2), (0, .ref (hO 0))])) => ?_)
          refine lv_iinc (v := (iI (l4_x18.toInt + 1))) hx hb dX5_scaleGoals_61 hl (k := 2) rfl (iI_add2 (iI_of _) (by decide : (1 : Int32) = iI 1)) (by decide) rfl (fun ls (hl : lv_has ls _ ([(4, .int (iI (l4_x18.toInt + 1))), (2, .long v2466), (5, .int v2461), (1, .int l1_x2), (0, .ref (hO 0))])) => ?_)
          refine lv_goto (tgt := 18) hx hb dX5_scaleGoals_64 (by decide) ?_
          have hl : lv_has _ _ ([(4, .int (iI (l4_x18.toInt + 1))), (2, .long v2466), (1, .int l1_x2), (0, .ref (hO 0))]) := lv_sub hl [0, 1, 3, 4] rfl
          exact ihx18 (iI (l4_x18.toInt + 1)) v2466 _ _ _ (iI_rng (Int.le_trans (by decide) (Int.add_le_add (b_l4_x18.1) (Int.le_refl _))) (by omega) (by decide) (by decide)) (by have e9 : ((iI (l4_x18.toInt + 1))).toInt = (l4_x18.toInt + 1) := (iI_t (Int.le_trans (by decide) (Int.add_le_add (b_l4_x18.1) (Int.le_refl _))) (Int.le_trans (Int.add_le_add (b_l4_x18.2) (Int.le_refl _)) (by decide))); omega) hP hD hS hl
theorem dX5_differ_0 : decode cX5_differ 0 = .ok (.iconst 0, 1) := dk_3 (by decide +kernel)
theorem dX5_differ_1 : decode cX5_differ 1 = .ok (.istore_n 2, 1) := dk_61 (by decide +kernel)
theorem dX5_differ_2 : decode cX5_differ 2 = .ok (.iload_n 2, 1) := dk_28 (by decide +kernel)
theorem dX5_differ_3 : decode cX5_differ 3 = .ok (.aload_n 0, 1) := dk_42 (by decide +kernel)
theorem dX5_differ_4 : decode cX5_differ 4 = .ok (.getfield 74, 3) := dk_180 (by decide +kernel)
theorem dX5_differ_7 : decode cX5_differ 7 = .ok (.getfield 112, 3) := dk_180 (by decide +kernel)
theorem dX5_differ_10 : decode cX5_differ 10 = .ok (.if_icmp .ge 51, 3) := dk_162 (by decide +kernel)
theorem dX5_differ_13 : decode cX5_differ 13 = .ok (.iconst 0, 1) := dk_3 (by decide +kernel)
theorem dX5_differ_14 : decode cX5_differ 14 = .ok (.istore_n 3, 1) := dk_62 (by decide +kernel)
theorem dX5_differ_15 : decode cX5_differ 15 = .ok (.iload_n 3, 1) := dk_29 (by decide +kernel)
theorem dX5_differ_16 : decode cX5_differ 16 = .ok (.iload_n 2, 1) := dk_28 (by decide +kernel)
theorem dX5_differ_17 : decode cX5_differ 17 = .ok (.if_icmp .ge 38, 3) := dk_162 (by decide +kernel)
theorem dX5_differ_20 : decode cX5_differ 20 = .ok (.iload_n 1, 1) := dk_27 (by decide +kernel)
theorem dX5_differ_21 : decode cX5_differ 21 = .ok (.iload_n 2, 1) := dk_28 (by decide +kernel)
theorem dX5_differ_22 : decode cX5_differ 22 = .ok (.ishr, 1) := dk_122 (by decide +kernel)
theorem dX5_differ_23 : decode cX5_differ 23 = .ok (.iload_n 1, 1) := dk_27 (by decide +kernel)
theorem dX5_differ_24 : decode cX5_differ 24 = .ok (.iload_n 3, 1) := dk_29 (by decide +kernel)
theorem dX5_differ_25 : decode cX5_differ 25 = .ok (.ishr, 1) := dk_122 (by decide +kernel)
theorem dX5_differ_26 : decode cX5_differ 26 = .ok (.iand, 1) := dk_126 (by decide +kernel)
theorem dX5_differ_27 : decode cX5_differ 27 = .ok (.iconst 1, 1) := dk_4 (by decide +kernel)
theorem dX5_differ_28 : decode cX5_differ 28 = .ok (.iand, 1) := dk_126 (by decide +kernel)
theorem dX5_differ_29 : decode cX5_differ 29 = .ok (.ifCond .eq 20, 3) := dk_153 (by decide +kernel)
theorem dX5_differ_32 : decode cX5_differ 32 = .ok (.aload_n 0, 1) := dk_42 (by decide +kernel)
theorem dX5_differ_33 : decode cX5_differ 33 = .ok (.getfield 35, 3) := dk_180 (by decide +kernel)
theorem dX5_differ_36 : decode cX5_differ 36 = .ok (.iload_n 2, 1) := dk_28 (by decide +kernel)
theorem dX5_differ_37 : decode cX5_differ 37 = .ok (.iaload, 1) := dk_46 (by decide +kernel)
theorem dX5_differ_38 : decode cX5_differ 38 = .ok (.aload_n 0, 1) := dk_42 (by decide +kernel)
theorem dX5_differ_39 : decode cX5_differ 39 = .ok (.getfield 35, 3) := dk_180 (by decide +kernel)
theorem dX5_differ_42 : decode cX5_differ 42 = .ok (.iload_n 3, 1) := dk_29 (by decide +kernel)
theorem dX5_differ_43 : decode cX5_differ 43 = .ok (.iaload, 1) := dk_46 (by decide +kernel)
theorem dX5_differ_44 : decode cX5_differ 44 = .ok (.if_icmp .ne 5, 3) := dk_160 (by decide +kernel)
theorem dX5_differ_47 : decode cX5_differ 47 = .ok (.iconst 0, 1) := dk_3 (by decide +kernel)
theorem dX5_differ_48 : decode cX5_differ 48 = .ok (.ireturn, 1) := dk_172 (by decide +kernel)
theorem dX5_differ_49 : decode cX5_differ 49 = .ok (.iinc 3 1, 3) := dk_132 (by decide +kernel)
theorem dX5_differ_52 : decode cX5_differ 52 = .ok (.goto (-37), 3) := dk_167 (by decide +kernel)
theorem dX5_differ_55 : decode cX5_differ 55 = .ok (.iinc 2 1, 3) := dk_132 (by decide +kernel)
theorem dX5_differ_58 : decode cX5_differ 58 = .ok (.goto (-56), 3) := dk_167 (by decide +kernel)
theorem dX5_differ_61 : decode cX5_differ 61 = .ok (.iconst 1, 1) := dk_4 (by decide +kernel)
theorem dX5_differ_62 : decode cX5_differ 62 = .ok (.ireturn, 1) := dk_172 (by decide +kernel)
def wsMX5_differ : List Cond := .code yX5_differ cX5_differ 4 (some .boolean) :: ([.fieldLink RX5 74 "OptimaWorks$Solver" "model" "LOptimaWorks$Model;", .fieldLink RX5 112 "OptimaWorks$Model" "variables" "I", .fieldLink RX5 35 "OptimaWorks$Solver" "start" "[I"] ++ wsX10 ++ wsX50)
theorem iwsMX5_differ_in1 : ∀ w ∈ wsX10, w ∈ wsMX5_differ := fun _ h => List.mem_cons_of_mem _ (List.mem_append_left _ (List.mem_append_right _ h))
theorem iwsMX5_differ_in5 : ∀ w ∈ wsX50, w ∈ wsMX5_differ := fun _ h => List.mem_cons_of_mem _ (List.mem_append_right _ h)
theorem gdwsMX5_differ : wsMX5_differ.all goodWord = true := gdC rfl (gdA (gdA (by decide +kernel : ([.fieldLink RX5 74 "OptimaWorks$Solver" "model" "LOptimaWorks$Model;", .fieldLink RX5 112 "OptimaWorks$Model" "variables" "I", .fieldLink RX5 35 "OptimaWorks$Solver" "start" "[I"] : List Cond).all goodWord = true) gdwsX10) gdwsX50)
theorem hm_m_X5_differ_0 : (.fieldLink RX5 35 "OptimaWorks$Solver" "start" "[I" : Cond) ∈ wsMX5_differ := by decide +kernel
set_option maxHeartbeats 4000000 in
set_option maxRecDepth 100000 in
/-- do they differ -/
theorem m_X5_differ (l : Launch) (dC : Nat → ClassId) (dI : Nat → Nat → Nat) (hO : Nat → Nat) (aO : Nat → Nat) (kO : Nat → ClassId) (hM : Nat → Nat) (hQ : Nat → Nat) (hw : Nat → Nat) (iO_answered : Int32) (iO_searched : Int32) (iO_searchedRelaxed : Int32) (iO_counted : Int32) (fO_countedCase : Nat → Int32) (gO_goalNumber : Nat → Int64) (gO_goalScale : Nat → Int64) (fO_start : Nat → Int32) (fO_column : Nat → Int32) (fO_chosen : Nat → Int32) (aM : Nat → Nat) (kM : Nat → ClassId) (iM_stands : Int32) (iM_variables : Int32) (iM_rows : Int32) (iM_goals : Int32) (iM_differents : Int32) (iM_cases : Int32) (fM_from : Nat → Int32) (fM_to : Nat → Int32) (fM_whole : Nat → Int32) (fM_ways : Nat → Int32) (iM_plainRows : Int32) (fM_plainRow : Nat → Int32) (fM_kept : Nat → Int32) (fM_goalOver : Nat → Int32) (fM_goalUnder : Nat → Int32) (fM_goalMax : Nat → Int32) (fM_different : Nat → Int32) (aQ : Nat → Nat) (kQ : Nat → ClassId) (fQ_inside : Nat → Int32) (fQ_outside : Nat → Int32) (fQ_shut : Nat → Int32) (iQ_rows : Int32) (iQ_allRows : Int32) (iQ_columns : Int32) (nW : Nat) (lw : Nat → Nat) (kw : ClassId) (wl : Nat → Int32) (wb : Nat → Int32) (wG : Nat → Nat → Int64) (p1 : Int32) (b_iO_answered : 0 ≤ iO_answered.toInt ∧ iO_answered.toInt ≤ 1) (b_iO_searched : 0 ≤ iO_searched.toInt ∧ iO_searched.toInt ≤ 1) (b_iO_searchedRelaxed : 0 ≤ iO_searchedRelaxed.toInt ∧ iO_searchedRelaxed.toInt ≤ 1) (b_iO_counted : (-1) ≤ iO_counted.toInt ∧ iO_counted.toInt ≤ 64) (b_fO_countedCase : ∀ q : Nat, 0 ≤ (fO_countedCase q).toInt ∧ (fO_countedCase q).toInt ≤ 200000) (b_fO_column : ∀ q : Nat, (-1) ≤ (fO_column q).toInt ∧ (fO_column q).toInt ≤ 8) (b_fO_chosen : ∀ q : Nat, 0 ≤ (fO_chosen q).toInt ∧ (fO_chosen q).toInt ≤ 2) (b_iM_stands : 0 ≤ iM_stands.toInt ∧ iM_stands.toInt ≤ 1) (b_iM_variables : 0 ≤ iM_variables.toInt ∧ iM_variables.toInt ≤ 8) (b_iM_rows : 0 ≤ iM_rows.toInt ∧ iM_rows.toInt ≤ 12) (b_iM_goals : 0 ≤ iM_goals.toInt ∧ iM_goals.toInt ≤ 3) (b_iM_differents : 0 ≤ iM_differents.toInt ∧ iM_differents.toInt ≤ 8) (b_iM_cases : 0 ≤ iM_cases.toInt ∧ iM_cases.toInt ≤ 200000) (b_fM_ways : ∀ q : Nat, 0 ≤ (fM_ways q).toInt ∧ (fM_ways q).toInt ≤ 3) (b_iM_plainRows : 0 ≤ iM_plainRows.toInt ∧ iM_plainRows.toInt ≤ 12) (b_fM_plainRow : ∀ q : Nat, 0 ≤ (fM_plainRow q).toInt ∧ (fM_plainRow q).toInt ≤ 11) (b_pr : iM_plainRows.toInt ≤ iM_rows.toInt) (b_iQ_rows : 0 ≤ iQ_rows.toInt ∧ iQ_rows.toInt ≤ 40) (b_iQ_allRows : 0 ≤ iQ_allRows.toInt ∧ iQ_allRows.toInt ≤ 40) (b_iQ_columns : 0 ≤ iQ_columns.toInt ∧ iQ_columns.toInt ≤ 40) (b_tb : TbO iQ_rows iQ_allRows iQ_columns) (b_wl : ∀ q : Nat, 0 ≤ (wl q).toInt ∧ (wl q).toInt ≤ 14) (b_wb : ∀ q : Nat, 0 ≤ (wb q).toInt ∧ (wb q).toInt ≤ 1) (hnW : 432 ≤ nW) (sz : Nat) : Met l yX5_differ wsMX5_differ ({ frames := 0, cells := 0, slots := 0, locals := 0 }) (va_Pc [.ref (hO 0), .int p1] (fun U => U.heap.size = sz ∧ va_P (dC, dI) vwCl (WO hO aO kO hM hQ hw iO_answered iO_searched iO_searchedRelaxed iO_counted fO_countedCase gO_goalNumber gO_goalScale fO_start fO_column fO_chosen ++ (WM hM aM kM iM_stands iM_variables iM_rows iM_goals iM_differents iM_cases fM_from fM_to fM_whole fM_ways iM_plainRows fM_plainRow fM_kept fM_goalOver fM_goalUnder fM_goalMax fM_different ++ (WQ hQ aQ kQ hw fQ_inside fQ_outside fQ_shut iQ_rows iQ_allRows iQ_columns ++ (WW nW hw lw kw wl wb wG)))) U.heap ∧ va_K (dC, dI) vwCl (tO kO ++ (tM kM ++ (tQ kQ ++ (tW kw)))) U ∧ va_D (fun _ => True) (WO hO aO kO hM hQ hw iO_answered iO_searched iO_searchedRelaxed iO_counted fO_countedCase gO_goalNumber gO_goalScale fO_start fO_column fO_chosen ++ (WM hM aM kM iM_stands iM_variables iM_rows iM_goals iM_differents iM_cases fM_from fM_to fM_whole fM_ways iM_plainRows fM_plainRow fM_kept fM_goalOver fM_goalUnder fM_goalMax fM_different ++ (WQ hQ aQ kQ hw fQ_inside fQ_outside fQ_shut iQ_rows iQ_allRows iQ_columns ++ (WW nW hw lw kw wl wb wG)))))) (va_Qi (fun (r : Int32) (u : Unit) => (0 ≤ r.toInt ∧ r.toInt ≤ 1)) (fun (u : Unit) t => va_P (dC, dI) vwCl (WO hO aO kO hM hQ hw iO_answered iO_searched iO_searchedRelaxed iO_counted fO_countedCase gO_goalNumber gO_goalScale fO_start fO_column fO_chosen ++ (WM hM aM kM iM_stands iM_variables iM_rows iM_goals iM_differents iM_cases fM_from fM_to fM_whole fM_ways iM_plainRows fM_plainRow fM_kept fM_goalOver fM_goalUnder fM_goalMax fM_different ++ (WQ hQ aQ kQ hw fQ_inside fQ_outside fQ_shut iQ_rows iQ_allRows iQ_columns ++ (WW nW hw lw kw wl wb wG)))) t.heap ∧ va_D (va_A (WO hO aO kO hM hQ hw iO_answered iO_searched iO_searchedRelaxed iO_counted fO_countedCase gO_goalNumber gO_goalScale fO_start fO_column fO_chosen ++ (WM hM aM kM iM_stands iM_variables iM_rows iM_goals iM_differents iM_cases fM_from fM_to fM_whole fM_ways iM_plainRows fM_plainRow fM_kept fM_goalOver fM_goalUnder fM_goalMax fM_different ++ (WQ hQ aQ kQ hw fQ_inside fQ_outside fQ_shut iQ_rows iQ_allRows iQ_columns ++ (WW nW hw lw kw wl wb wG)))) sz) (WO hO aO kO hM hQ hw iO_answered iO_searched iO_searchedRelaxed iO_counted fO_countedCase gO_goalNumber gO_goalScale fO_start fO_column fO_chosen ++ (WM hM aM kM iM_stands iM_variables iM_rows iM_goals iM_differents iM_cases fM_from fM_to fM_whole fM_ways iM_plainRows fM_plainRow fM_kept fM_goalOver fM_goalUnder fM_goalMax fM_different ++ (WQ hQ aQ kQ hw fQ_inside fQ_outside fQ_shut iQ_rows iQ_allRows iQ_columns ++ (WW nW hw lw kw wl wb wG))))) (va_A (WO hO aO kO hM hQ hw iO_answered iO_searched iO_searchedRelaxed iO_counted fO_countedCase gO_goalNumber gO_goalScale fO_start fO_column fO_chosen ++ (WM hM aM kM iM_stands iM_variables iM_rows iM_goals iM_differents iM_cases fM_from fM_to fM_whole fM_ways iM_plainRows fM_plainRow fM_kept fM_goalOver fM_goalUnder fM_goalMax fM_different ++ (WQ hQ aQ kQ hw fQ_inside fQ_outside fQ_shut iQ_rows iQ_allRows iQ_columns ++ (WW nW hw lw kw wl wb wG)))) sz)) 0 0 (va_A (WO hO aO kO hM hQ hw iO_answered iO_searched iO_searchedRelaxed iO_counted fO_countedCase gO_goalNumber gO_goalScale fO_start fO_column fO_chosen ++ (WM hM aM kM iM_stands iM_variables iM_rows iM_goals iM_differents iM_cases fM_from fM_to fM_whole fM_ways iM_plainRows fM_plainRow fM_kept fM_goalOver fM_goalUnder fM_goalMax fM_different ++ (WQ hQ aQ kQ hw fQ_inside fQ_outside fQ_shut iQ_rows iQ_allRows iQ_columns ++ (WW nW hw lw kw wl wb wG)))) sz) := by
  refine Met.ofW (cc := cX5_differ) (maxL := 4) (ret := (some .boolean)) (by decide) rfl ?_
  intro p e s m args below meth c s₁ B hml hv
  obtain ⟨rfl, hsz, hP, hK, hD0⟩ := hv
  have hx := B.exec
  have hb := B.bytes
  have hr := B.returns
  have hts := atoms_spec (ws := wsMX5_differ) B.pre
  have hown : s.vm.findClass RX5 = some m.cls := findClass_of_methodNamed B.named
  have hlocks := B.notSynchronized
  subst hsz
  have hD := hD0.self (sz := s.heap.size)
  generalize hAe : va_A (WO hO aO kO hM hQ hw iO_answered iO_searched iO_searchedRelaxed iO_counted fO_countedCase gO_goalNumber gO_goalScale fO_start fO_column fO_chosen ++ (WM hM aM kM iM_stands iM_variables iM_rows iM_goals iM_differents iM_cases fM_from fM_to fM_whole fM_ways iM_plainRows fM_plainRow fM_kept fM_goalOver fM_goalUnder fM_goalMax fM_different ++ (WQ hQ aQ kQ hw fQ_inside fQ_outside fQ_shut iQ_rows iQ_allRows iQ_columns ++ (WW nW hw lw kw wl wb wG)))) s.heap.size = A at hD ⊢
  have hA : ∀ q : Nat, s.heap.size ≤ q → A q := fun q h => by rw [← hAe]; exact Or.inr h
  have hS : va_S A s.heap s.heap [] := va_S.rf
  have hl := lv_entry ([.ref (hO 0), .int p1]) (n := 4) (Nat.le_of_ble_eq_true rfl)
  rw [lg_entry_eq]
  generalize (lg_sl ([.ref (hO 0), .int p1]) ++ List.replicate (4 - (lg_sl ([.ref (hO 0), .int p1])).length) Slot.unset).toArray = ls at hl ⊢
  have hl : lv_has ls 4 [(0, .ref (hO 0)), (1, .int p1)] := hl
  refine lv_iconst (v := 0) hx hb dX5_differ_0 (by decide) ?_
  refine lv_istore_n hx hb dX5_differ_1 rfl hl (by decide) rfl (fun ls (hl : lv_has ls _ ([(2, .int 0), (0, .ref (hO 0)), (1, .int p1)])) => ?_)
  have hl : lv_has _ _ ([(2, .int 0), (0, .ref (hO 0)), (1, .int p1)]) := lv_sub hl [0, 1, 2] rfl
  refine (fun (loop : ∀ (n9 : Nat) (l2_x2 : Int32) (H : Heap) (locs : List Loc) (ls : Array Slot), (0 ≤ l2_x2.toInt ∧ l2_x2.toInt ≤ 8) → (8 - l2_x2.toInt < ((n9 : Nat) : Int)) → va_P (dC, dI) vwCl (WO hO aO kO hM hQ hw iO_answered iO_searched iO_searchedRelaxed iO_counted fO_countedCase gO_goalNumber gO_goalScale fO_start fO_column fO_chosen ++ (WM hM aM kM iM_stands iM_variables iM_rows iM_goals iM_differents iM_cases fM_from fM_to fM_whole fM_ways iM_plainRows fM_plainRow fM_kept fM_goalOver fM_goalUnder fM_goalMax fM_different ++ (WQ hQ aQ kQ hw fQ_inside fQ_outside fQ_shut iQ_rows iQ_allRows iQ_columns ++ (WW nW hw lw kw wl wb wG)))) H → va_D A (WO hO aO kO hM hQ hw iO_answered iO_searched iO_searchedRelaxed iO_counted fO_countedCase gO_goalNumber gO_goalScale fO_start fO_column fO_chosen ++ (WM hM aM kM iM_stands iM_variables iM_rows iM_goals iM_differents iM_cases fM_from fM_to fM_whole fM_ways iM_plainRows fM_plainRow fM_kept fM_goalOver fM_goalUnder fM_goalMax fM_different ++ (WQ hQ aQ kQ hw fQ_inside fQ_outside fQ_shut iQ_rows iQ_allRows iQ_columns ++ (WW nW hw lw kw wl wb wG)))) → va_S A s.heap H locs → lv_has ls 4 [(2, .int l2_x2), (0, .ref (hO 0)), (1, .int p1)] → W p l e _ s m _ below meth c H locs 0 0 _ (F0 m 2 ls [])) => loop (9) 0 _ _ _ (show 0 ≤ (0 : Int32).toInt ∧ (0 : Int32).toInt ≤ 8 from by decide) ((by have e9 : (0 : Int32).toInt = 0 := (by decide : (0 : Int32).toInt = 0); omega)) hP hD hS hl) ?_
  intro n9
  induction n9 with
  | zero => intro l2_x2 H locs ls b_l2_x2 hf9; exact False.elim (by omega)
  | succ n9 ihx2 =>
    intro l2_x2 H locs ls b_l2_x2 hfx2 hP hD hS hl
    refine lv_iload_n hx hb dX5_differ_2 rfl (lv_at hl 0 rfl) ?_
    refine lv_aload_n hx hb dX5_differ_3 rfl (lv_at hl 1 rfl) ?_
    refine va_get (D := (dC, dI)) (ci := 5) (v := .ref (hM 0)) (C := RX5) (T := TX5) (N := 19) hx hb hts iwsMX5_differ_in5 hown hK hP 0 rfl rfl 0 (by decide) (hts (.fieldLink RX5 74 "OptimaWorks$Solver" "model" "LOptimaWorks$Model;") (by decide +kernel)) (fun _ h9 => h9) rfl dX5_differ_4 ?_
    refine va_get (D := (dC, dI)) (ci := 1) (v := .int iM_variables) (C := RX1) (T := TX1) (N := 17) hx hb hts iwsMX5_differ_in1 hown hK hP 11 rfl rfl 1 (by decide) (hts (.fieldLink RX5 112 "OptimaWorks$Model" "variables" "I") (by decide +kernel)) (fun _ h9 => h9) rfl dX5_differ_7 ?_
    refine lv_icmp_ge (tgt := 61) hx hb dX5_differ_10 (by decide) (fun c_10 => ?_) (fun c_10 => ?_)
    · have t_10 : l2_x2.toInt ≥ iM_variables.toInt := toI_ge c_10 rfl rfl
      refine lv_iconst (v := 1) hx hb dX5_differ_61 (by decide) ?_
      refine W.widen (k := 0) (n := 0) (by decide +kernel) (by decide +kernel) ?_
      exact W.zret (v := 1) hx hb hr rfl (fun t9_ ht hW => ⟨⟨(1 : Int32), (), rfl, (show 0 ≤ (1 : Int32).toInt ∧ (1 : Int32).toInt ≤ 1 from by decide), by rw [ht]; exact hP, hD⟩, hS.F ht⟩) hS.2.2 dX5_differ_62
    · have t_10 : ¬ l2_x2.toInt ≥ iM_variables.toInt := toI_nge c_10 rfl rfl
      refine lv_iconst (v := 0) hx hb dX5_differ_13 (by decide) ?_
      refine lv_istore_n hx hb dX5_differ_14 rfl hl (by decide) rfl (fun ls (hl : lv_has ls _ ([(3, .int 0), (2, .int l2_x2), (0, .ref (hO 0)), (1, .int p1)])) => ?_)
      have hl : lv_has _ _ ([(3, .int 0), (2, .int l2_x2), (0, .ref (hO 0)), (1, .int p1)]) := lv_sub hl [0, 1, 2, 3] rfl
      refine (fun (loop : ∀ (n9 : Nat) (l3_x15 : Int32) (H : Heap) (locs : List Loc) (ls : Array Slot), (0 ≤ l3_x15.toInt ∧ l3_x15.toInt ≤ 8) → (8 - l3_x15.toInt < ((n9 : Nat) : Int)) → va_P (dC, dI) vwCl (WO hO aO kO hM hQ hw iO_answered iO_searched iO_searchedRelaxed iO_counted fO_countedCase gO_goalNumber gO_goalScale fO_start fO_column fO_chosen ++ (WM hM aM kM iM_stands iM_variables iM_rows iM_goals iM_differents iM_cases fM_from fM_to fM_whole fM_ways iM_plainRows fM_plainRow fM_kept fM_goalOver fM_goalUnder fM_goalMax fM_different ++ (WQ hQ aQ kQ hw fQ_inside fQ_outside fQ_shut iQ_rows iQ_allRows iQ_columns ++ (WW nW hw lw kw wl wb wG)))) H → va_D A (WO hO aO kO hM hQ hw iO_answered iO_searched iO_searchedRelaxed iO_counted fO_countedCase gO_goalNumber gO_goalScale fO_start fO_column fO_chosen ++ (WM hM aM kM iM_stands iM_variables iM_rows iM_goals iM_differents iM_cases fM_from fM_to fM_whole fM_ways iM_plainRows fM_plainRow fM_kept fM_goalOver fM_goalUnder fM_goalMax fM_different ++ (WQ hQ aQ kQ hw fQ_inside fQ_outside fQ_shut iQ_rows iQ_allRows iQ_columns ++ (WW nW hw lw kw wl wb wG)))) → va_S A s.heap H locs → lv_has ls 4 [(3, .int l3_x15), (2, .int l2_x2), (0, .ref (hO 0)), (1, .int p1)] → W p l e _ s m _ below meth c H locs 0 0 _ (F0 m 15 ls [])) => loop (9) 0 _ _ _ (show 0 ≤ (0 : Int32).toInt ∧ (0 : Int32).toInt ≤ 8 from by decide) ((by have e9 : (0 : Int32).toInt = 0 := (by decide : (0 : Int32).toInt = 0); omega)) hP hD hS hl) ?_
      intro n9
      induction n9 with
      | zero => intro l3_x15 H locs ls b_l3_x15 hf9; exact False.elim (by omega)
      | succ n9 ihx15 =>
        intro l3_x15 H locs ls b_l3_x15 hfx15 hP hD hS hl
        refine lv_iload_n hx hb dX5_differ_15 rfl (lv_at hl 0 rfl) ?_
        refine lv_iload_n hx hb dX5_differ_16 rfl (lv_at hl 1 rfl) ?_
        refine lv_icmp_ge (tgt := 55) hx hb dX5_differ_17 (by decide) (fun c_17 => ?_) (fun c_17 => ?_)
        · have t_17 : l3_x15.toInt ≥ l2_x2.toInt := toI_ge c_17 rfl rfl
          refine lv_iinc (v := (iI (l2_x2.toInt + 1))) hx hb dX5_differ_55 hl (k := 1) rfl (iI_add2 (iI_of _) (by decide : (1 : Int32) = iI 1)) (by decide) rfl (fun ls (hl : lv_has ls _ ([(2, .int (iI (l2_x2.toInt + 1))), (3, .int l3_x15), (0, .ref (hO 0)), (1, .int p1)])) => ?_)
          refine lv_goto (tgt := 2) hx hb dX5_differ_58 (by decide) ?_
          have hl : lv_has _ _ ([(2, .int (iI (l2_x2.toInt + 1))), (0, .ref (hO 0)), (1, .int p1)]) := lv_sub hl [0, 2, 3] rfl
          exact ihx2 (iI (l2_x2.toInt + 1)) _ _ _ (iI_rng (Int.le_trans (by decide) (Int.add_le_add (b_l2_x2.1) (Int.le_refl _))) (by omega) (by decide) (by decide)) (by have e9 : ((iI (l2_x2.toInt + 1))).toInt = (l2_x2.toInt + 1) := (iI_t (Int.le_trans (by decide) (Int.add_le_add (b_l2_x2.1) (Int.le_refl _))) (Int.le_trans (Int.add_le_add (b_l2_x2.2) (Int.le_refl _)) (by decide))); omega) hP hD hS hl
        · have t_17 : ¬ l3_x15.toInt ≥ l2_x2.toInt := toI_nge c_17 rfl rfl
          refine lv_iload_n hx hb dX5_differ_20 rfl (lv_at hl 3 rfl) ?_
          refine lv_iload_n hx hb dX5_differ_21 rfl (lv_at hl 1 rfl) ?_
          refine lv_ishr hx hb dX5_differ_22 ?_
          refine lv_topi (fun v31 hv31 => ?_)
          clear hv31
          refine lv_iload_n hx hb dX5_differ_23 rfl (lv_at hl 3 rfl) ?_
          refine lv_iload_n hx hb dX5_differ_24 rfl (lv_at hl 0 rfl) ?_
          refine lv_ishr hx hb dX5_differ_25 ?_
          refine lv_topi (fun v32 hv32 => ?_)
          clear hv32
          refine lv_iand hx hb dX5_differ_26 ?_
          refine lv_topi (fun v33 hv33 => ?_)
          clear hv33
          refine lv_iconst (v := 1) hx hb dX5_differ_27 (by decide) ?_
          refine lv_iand hx hb dX5_differ_28 ?_
          refine lv_topi (fun v34 hv34 => ?_)
          have b_v34 : 0 ≤ v34.toInt ∧ v34.toInt ≤ 1 := by rw [hv34]; exact and_rng _ (by decide) (by decide)
          clear hv34
          refine lv_if_eq (tgt := 49) hx hb dX5_differ_29 (by decide) (fun c_29 => ?_) (fun c_29 => ?_)
          · have t_29 : v34.toInt = 0 := toI_eq c_29 rfl (by decide : (0 : Int32).toInt = 0)
            refine lv_iinc (v := (iI (l3_x15.toInt + 1))) hx hb dX5_differ_49 hl (k := 0) rfl (iI_add2 (iI_of _) (by decide : (1 : Int32) = iI 1)) (by decide) rfl (fun ls (hl : lv_has ls _ ([(3, .int (iI (l3_x15.toInt + 1))), (2, .int l2_x2), (0, .ref (hO 0)), (1, .int p1)])) => ?_)
            refine lv_goto (tgt := 15) hx hb dX5_differ_52 (by decide) ?_
            have hl : lv_has _ _ ([(3, .int (iI (l3_x15.toInt + 1))), (2, .int l2_x2), (0, .ref (hO 0)), (1, .int p1)]) := lv_sub hl [0, 1, 2, 3] rfl
            exact ihx15 (iI (l3_x15.toInt + 1)) _ _ _ (iI_rng (Int.le_trans (by decide) (Int.add_le_add (b_l3_x15.1) (Int.le_refl _))) (by omega) (by decide) (by decide)) (by have e9 : ((iI (l3_x15.toInt + 1))).toInt = (l3_x15.toInt + 1) := (iI_t (Int.le_trans (by decide) (Int.add_le_add (b_l3_x15.1) (Int.le_refl _))) (Int.le_trans (Int.add_le_add (b_l3_x15.2) (Int.le_refl _)) (by decide))); omega) hP hD hS hl
          · have t_29 : ¬ v34.toInt = 0 := toI_neq c_29 rfl (by decide : (0 : Int32).toInt = 0)
            refine lv_aload_n hx hb dX5_differ_32 rfl (lv_at hl 2 rfl) ?_
            refine va_get (D := (dC, dI)) (ci := 5) (v := .ref (aO 3)) (C := RX5) (T := TX5) (N := 19) hx hb hts iwsMX5_differ_in5 hown hK hP 0 rfl rfl 9 (by decide) (hts _ hm_m_X5_differ_0) (fun _ h9 => h9) rfl dX5_differ_33 ?_
            refine lv_iload_n hx hb dX5_differ_36 rfl (lv_at hl 1 rfl) ?_
            refine va_iald (cA := kO 3) (n := 8) (f := fO_start) hx hb hK hP 4 3 rfl rfl (vp_in_iff.mpr ⟨b_l2_x2.1, (by omega)⟩) dX5_differ_37 ?_
            refine lv_topi (fun v35 hv35 => ?_)
            clear hv35
            refine lv_aload_n hx hb dX5_differ_38 rfl (lv_at hl 2 rfl) ?_
            refine va_get (D := (dC, dI)) (ci := 5) (v := .ref (aO 3)) (C := RX5) (T := TX5) (N := 19) hx hb hts iwsMX5_differ_in5 hown hK hP 0 rfl rfl 9 (by decide) (hts _ hm_m_X5_differ_0) (fun _ h9 => h9) rfl dX5_differ_39 ?_
            refine lv_iload_n hx hb dX5_differ_42 rfl (lv_at hl 0 rfl) ?_
            refine va_iald (cA := kO 3) (n := 8) (f := fO_start) hx hb hK hP 4 3 rfl rfl (vp_in_iff.mpr ⟨b_l3_x15.1, (Int.lt_of_lt_of_le (Int.not_le.mp t_17) (Int.le_trans b_l2_x2.2 (by decide)))⟩) dX5_differ_43 ?_
            refine lv_topi (fun v36 hv36 => ?_)
            clear hv36
            refine lv_icmp_ne (tgt := 49) hx hb dX5_differ_44 (by decide) (fun c_44 => ?_) (fun c_44 => ?_)
            · have t_44 : v35.toInt ≠ v36.toInt := toI_ne c_44 rfl rfl
              refine lv_iinc (v := (iI (l3_x15.toInt + 1))) hx hb dX5_differ_49 hl (k := 0) rfl (iI_add2 (iI_of _) (by decide : (1 : Int32) = iI 1)) (by decide) rfl (fun ls (hl : lv_has ls _ ([(3, .int (iI (l3_x15.toInt + 1))), (2, .int l2_x2), (0, .ref (hO 0)), (1, .int p1)])) => ?_)
              refine lv_goto (tgt := 15) hx hb dX5_differ_52 (by decide) ?_
              have hl : lv_has _ _ ([(3, .int (iI (l3_x15.toInt + 1))), (2, .int l2_x2), (0, .ref (hO 0)), (1, .int p1)]) := lv_sub hl [0, 1, 2, 3] rfl
              exact ihx15 (iI (l3_x15.toInt + 1)) _ _ _ (iI_rng (Int.le_trans (by decide) (Int.add_le_add (b_l3_x15.1) (Int.le_refl _))) (by omega) (by decide) (by decide)) (by have e9 : ((iI (l3_x15.toInt + 1))).toInt = (l3_x15.toInt + 1) := (iI_t (Int.le_trans (by decide) (Int.add_le_add (b_l3_x15.1) (Int.le_refl _))) (Int.le_trans (Int.add_le_add (b_l3_x15.2) (Int.le_refl _)) (by decide))); omega) hP hD hS hl
            · have t_44 : v35.toInt = v36.toInt := toI_nne c_44 rfl rfl
              refine lv_iconst (v := 0) hx hb dX5_differ_47 (by decide) ?_
              refine W.widen (k := 0) (n := 0) (by decide +kernel) (by decide +kernel) ?_
              exact W.zret (v := 0) hx hb hr rfl (fun t9_ ht hW => ⟨⟨(0 : Int32), (), rfl, (show 0 ≤ (0 : Int32).toInt ∧ (0 : Int32).toInt ≤ 1 from by decide), by rw [ht]; exact hP, hD⟩, hS.F ht⟩) hS.2.2 dX5_differ_48
theorem dX5_allDiffer_0 : decode cX5_allDiffer 0 = .ok (.iconst 0, 1) := dk_3 (by decide +kernel)
theorem dX5_allDiffer_1 : decode cX5_allDiffer 1 = .ok (.istore_n 1, 1) := dk_60 (by decide +kernel)
theorem dX5_allDiffer_2 : decode cX5_allDiffer 2 = .ok (.iload_n 1, 1) := dk_27 (by decide +kernel)
theorem dX5_allDiffer_3 : decode cX5_allDiffer 3 = .ok (.aload_n 0, 1) := dk_42 (by decide +kernel)
theorem dX5_allDiffer_4 : decode cX5_allDiffer 4 = .ok (.getfield 74, 3) := dk_180 (by decide +kernel)
theorem dX5_allDiffer_7 : decode cX5_allDiffer 7 = .ok (.getfield 157, 3) := dk_180 (by decide +kernel)
theorem dX5_allDiffer_10 : decode cX5_allDiffer 10 = .ok (.if_icmp .ge 27, 3) := dk_162 (by decide +kernel)
theorem dX5_allDiffer_13 : decode cX5_allDiffer 13 = .ok (.aload_n 0, 1) := dk_42 (by decide +kernel)
theorem dX5_allDiffer_14 : decode cX5_allDiffer 14 = .ok (.aload_n 0, 1) := dk_42 (by decide +kernel)
theorem dX5_allDiffer_15 : decode cX5_allDiffer 15 = .ok (.getfield 74, 3) := dk_180 (by decide +kernel)
theorem dX5_allDiffer_18 : decode cX5_allDiffer 18 = .ok (.getfield 160, 3) := dk_180 (by decide +kernel)
theorem dX5_allDiffer_21 : decode cX5_allDiffer 21 = .ok (.iload_n 1, 1) := dk_27 (by decide +kernel)
theorem dX5_allDiffer_22 : decode cX5_allDiffer 22 = .ok (.iaload, 1) := dk_46 (by decide +kernel)
theorem dX5_allDiffer_23 : decode cX5_allDiffer 23 = .ok (.invokevirtual 163, 3) := dk_182 (by decide +kernel)
theorem dX5_allDiffer_26 : decode cX5_allDiffer 26 = .ok (.ifCond .ne 5, 3) := dk_154 (by decide +kernel)
theorem dX5_allDiffer_29 : decode cX5_allDiffer 29 = .ok (.iconst 0, 1) := dk_3 (by decide +kernel)
theorem dX5_allDiffer_30 : decode cX5_allDiffer 30 = .ok (.ireturn, 1) := dk_172 (by decide +kernel)
theorem dX5_allDiffer_31 : decode cX5_allDiffer 31 = .ok (.iinc 1 1, 3) := dk_132 (by decide +kernel)
theorem dX5_allDiffer_34 : decode cX5_allDiffer 34 = .ok (.goto (-32), 3) := dk_167 (by decide +kernel)
theorem dX5_allDiffer_37 : decode cX5_allDiffer 37 = .ok (.iconst 1, 1) := dk_4 (by decide +kernel)
theorem dX5_allDiffer_38 : decode cX5_allDiffer 38 = .ok (.ireturn, 1) := dk_172 (by decide +kernel)
def wsMX5_allDiffer : List Cond := .code yX5_allDiffer cX5_allDiffer 2 (some .boolean) :: ([.fieldLink RX5 74 "OptimaWorks$Solver" "model" "LOptimaWorks$Model;", .fieldLink RX5 157 "OptimaWorks$Model" "differents" "I", .fieldLink RX5 160 "OptimaWorks$Model" "different" "[I"] ++ wsX10 ++ wsX50 ++ (wsV RX5 163 RX5 yX5_differ wsMX5_differ))
theorem iwsMX5_allDiffer_in1 : ∀ w ∈ wsX10, w ∈ wsMX5_allDiffer := fun _ h => List.mem_cons_of_mem _ (List.mem_append_left _ (List.mem_append_left _ (List.mem_append_right _ h)))
theorem iwsMX5_allDiffer_in5 : ∀ w ∈ wsX50, w ∈ wsMX5_allDiffer := fun _ h => List.mem_cons_of_mem _ (List.mem_append_left _ (List.mem_append_right _ h))
theorem gwsMX5_allDiffer_0 : GoodIn wsMX5_allDiffer (wsV RX5 163 RX5 yX5_differ wsMX5_differ) := goodIn_sub (fun _ h => List.mem_cons_of_mem _ (List.mem_append_right _ h)) (gdV (by decide +kernel) gdwsMX5_differ)
theorem gdwsMX5_allDiffer : wsMX5_allDiffer.all goodWord = true := gdC rfl (gdA (gdA (gdA (by decide +kernel : ([.fieldLink RX5 74 "OptimaWorks$Solver" "model" "LOptimaWorks$Model;", .fieldLink RX5 157 "OptimaWorks$Model" "differents" "I", .fieldLink RX5 160 "OptimaWorks$Model" "different" "[I"] : List Cond).all goodWord = true) gdwsX10) gdwsX50) (gdV (by decide +kernel) gdwsMX5_differ))
theorem hm_m_X5_allDiffer_0 : (.fieldLink RX5 74 "OptimaWorks$Solver" "model" "LOptimaWorks$Model;" : Cond) ∈ wsMX5_allDiffer := by decide +kernel
set_option maxHeartbeats 4000000 in
set_option maxRecDepth 100000 in
/-- do all differ -/
theorem m_X5_allDiffer (l : Launch) (dC : Nat → ClassId) (dI : Nat → Nat → Nat) (hO : Nat → Nat) (aO : Nat → Nat) (kO : Nat → ClassId) (hM : Nat → Nat) (hQ : Nat → Nat) (hw : Nat → Nat) (iO_answered : Int32) (iO_searched : Int32) (iO_searchedRelaxed : Int32) (iO_counted : Int32) (fO_countedCase : Nat → Int32) (gO_goalNumber : Nat → Int64) (gO_goalScale : Nat → Int64) (fO_start : Nat → Int32) (fO_column : Nat → Int32) (fO_chosen : Nat → Int32) (aM : Nat → Nat) (kM : Nat → ClassId) (iM_stands : Int32) (iM_variables : Int32) (iM_rows : Int32) (iM_goals : Int32) (iM_differents : Int32) (iM_cases : Int32) (fM_from : Nat → Int32) (fM_to : Nat → Int32) (fM_whole : Nat → Int32) (fM_ways : Nat → Int32) (iM_plainRows : Int32) (fM_plainRow : Nat → Int32) (fM_kept : Nat → Int32) (fM_goalOver : Nat → Int32) (fM_goalUnder : Nat → Int32) (fM_goalMax : Nat → Int32) (fM_different : Nat → Int32) (aQ : Nat → Nat) (kQ : Nat → ClassId) (fQ_inside : Nat → Int32) (fQ_outside : Nat → Int32) (fQ_shut : Nat → Int32) (iQ_rows : Int32) (iQ_allRows : Int32) (iQ_columns : Int32) (nW : Nat) (lw : Nat → Nat) (kw : ClassId) (wl : Nat → Int32) (wb : Nat → Int32) (wG : Nat → Nat → Int64) (b_iO_answered : 0 ≤ iO_answered.toInt ∧ iO_answered.toInt ≤ 1) (b_iO_searched : 0 ≤ iO_searched.toInt ∧ iO_searched.toInt ≤ 1) (b_iO_searchedRelaxed : 0 ≤ iO_searchedRelaxed.toInt ∧ iO_searchedRelaxed.toInt ≤ 1) (b_iO_counted : (-1) ≤ iO_counted.toInt ∧ iO_counted.toInt ≤ 64) (b_fO_countedCase : ∀ q : Nat, 0 ≤ (fO_countedCase q).toInt ∧ (fO_countedCase q).toInt ≤ 200000) (b_fO_column : ∀ q : Nat, (-1) ≤ (fO_column q).toInt ∧ (fO_column q).toInt ≤ 8) (b_fO_chosen : ∀ q : Nat, 0 ≤ (fO_chosen q).toInt ∧ (fO_chosen q).toInt ≤ 2) (b_iM_stands : 0 ≤ iM_stands.toInt ∧ iM_stands.toInt ≤ 1) (b_iM_variables : 0 ≤ iM_variables.toInt ∧ iM_variables.toInt ≤ 8) (b_iM_rows : 0 ≤ iM_rows.toInt ∧ iM_rows.toInt ≤ 12) (b_iM_goals : 0 ≤ iM_goals.toInt ∧ iM_goals.toInt ≤ 3) (b_iM_differents : 0 ≤ iM_differents.toInt ∧ iM_differents.toInt ≤ 8) (b_iM_cases : 0 ≤ iM_cases.toInt ∧ iM_cases.toInt ≤ 200000) (b_fM_ways : ∀ q : Nat, 0 ≤ (fM_ways q).toInt ∧ (fM_ways q).toInt ≤ 3) (b_iM_plainRows : 0 ≤ iM_plainRows.toInt ∧ iM_plainRows.toInt ≤ 12) (b_fM_plainRow : ∀ q : Nat, 0 ≤ (fM_plainRow q).toInt ∧ (fM_plainRow q).toInt ≤ 11) (b_pr : iM_plainRows.toInt ≤ iM_rows.toInt) (b_iQ_rows : 0 ≤ iQ_rows.toInt ∧ iQ_rows.toInt ≤ 40) (b_iQ_allRows : 0 ≤ iQ_allRows.toInt ∧ iQ_allRows.toInt ≤ 40) (b_iQ_columns : 0 ≤ iQ_columns.toInt ∧ iQ_columns.toInt ≤ 40) (b_tb : TbO iQ_rows iQ_allRows iQ_columns) (b_wl : ∀ q : Nat, 0 ≤ (wl q).toInt ∧ (wl q).toInt ≤ 14) (b_wb : ∀ q : Nat, 0 ≤ (wb q).toInt ∧ (wb q).toInt ≤ 1) (hnW : 432 ≤ nW) (sz : Nat) : Met l yX5_allDiffer wsMX5_allDiffer ({ frames := 1, cells := 0, slots := 0, locals := 23 }) (va_Pc [.ref (hO 0)] (fun U => U.heap.size = sz ∧ va_P (dC, dI) vwCl (WO hO aO kO hM hQ hw iO_answered iO_searched iO_searchedRelaxed iO_counted fO_countedCase gO_goalNumber gO_goalScale fO_start fO_column fO_chosen ++ (WM hM aM kM iM_stands iM_variables iM_rows iM_goals iM_differents iM_cases fM_from fM_to fM_whole fM_ways iM_plainRows fM_plainRow fM_kept fM_goalOver fM_goalUnder fM_goalMax fM_different ++ (WQ hQ aQ kQ hw fQ_inside fQ_outside fQ_shut iQ_rows iQ_allRows iQ_columns ++ (WW nW hw lw kw wl wb wG)))) U.heap ∧ va_K (dC, dI) vwCl (tO kO ++ (tM kM ++ (tQ kQ ++ (tW kw)))) U ∧ va_D (fun _ => True) (WO hO aO kO hM hQ hw iO_answered iO_searched iO_searchedRelaxed iO_counted fO_countedCase gO_goalNumber gO_goalScale fO_start fO_column fO_chosen ++ (WM hM aM kM iM_stands iM_variables iM_rows iM_goals iM_differents iM_cases fM_from fM_to fM_whole fM_ways iM_plainRows fM_plainRow fM_kept fM_goalOver fM_goalUnder fM_goalMax fM_different ++ (WQ hQ aQ kQ hw fQ_inside fQ_outside fQ_shut iQ_rows iQ_allRows iQ_columns ++ (WW nW hw lw kw wl wb wG)))))) (va_Qi (fun (r : Int32) (u : Unit) => (0 ≤ r.toInt ∧ r.toInt ≤ 1)) (fun (u : Unit) t => va_P (dC, dI) vwCl (WO hO aO kO hM hQ hw iO_answered iO_searched iO_searchedRelaxed iO_counted fO_countedCase gO_goalNumber gO_goalScale fO_start fO_column fO_chosen ++ (WM hM aM kM iM_stands iM_variables iM_rows iM_goals iM_differents iM_cases fM_from fM_to fM_whole fM_ways iM_plainRows fM_plainRow fM_kept fM_goalOver fM_goalUnder fM_goalMax fM_different ++ (WQ hQ aQ kQ hw fQ_inside fQ_outside fQ_shut iQ_rows iQ_allRows iQ_columns ++ (WW nW hw lw kw wl wb wG)))) t.heap ∧ va_D (va_A (WO hO aO kO hM hQ hw iO_answered iO_searched iO_searchedRelaxed iO_counted fO_countedCase gO_goalNumber gO_goalScale fO_start fO_column fO_chosen ++ (WM hM aM kM iM_stands iM_variables iM_rows iM_goals iM_differents iM_cases fM_from fM_to fM_whole fM_ways iM_plainRows fM_plainRow fM_kept fM_goalOver fM_goalUnder fM_goalMax fM_different ++ (WQ hQ aQ kQ hw fQ_inside fQ_outside fQ_shut iQ_rows iQ_allRows iQ_columns ++ (WW nW hw lw kw wl wb wG)))) sz) (WO hO aO kO hM hQ hw iO_answered iO_searched iO_searchedRelaxed iO_counted fO_countedCase gO_goalNumber gO_goalScale fO_start fO_column fO_chosen ++ (WM hM aM kM iM_stands iM_variables iM_rows iM_goals iM_differents iM_cases fM_from fM_to fM_whole fM_ways iM_plainRows fM_plainRow fM_kept fM_goalOver fM_goalUnder fM_goalMax fM_different ++ (WQ hQ aQ kQ hw fQ_inside fQ_outside fQ_shut iQ_rows iQ_allRows iQ_columns ++ (WW nW hw lw kw wl wb wG))))) (va_A (WO hO aO kO hM hQ hw iO_answered iO_searched iO_searchedRelaxed iO_counted fO_countedCase gO_goalNumber gO_goalScale fO_start fO_column fO_chosen ++ (WM hM aM kM iM_stands iM_variables iM_rows iM_goals iM_differents iM_cases fM_from fM_to fM_whole fM_ways iM_plainRows fM_plainRow fM_kept fM_goalOver fM_goalUnder fM_goalMax fM_different ++ (WQ hQ aQ kQ hw fQ_inside fQ_outside fQ_shut iQ_rows iQ_allRows iQ_columns ++ (WW nW hw lw kw wl wb wG)))) sz)) 0 0 (va_A (WO hO aO kO hM hQ hw iO_answered iO_searched iO_searchedRelaxed iO_counted fO_countedCase gO_goalNumber gO_goalScale fO_start fO_column fO_chosen ++ (WM hM aM kM iM_stands iM_variables iM_rows iM_goals iM_differents iM_cases fM_from fM_to fM_whole fM_ways iM_plainRows fM_plainRow fM_kept fM_goalOver fM_goalUnder fM_goalMax fM_different ++ (WQ hQ aQ kQ hw fQ_inside fQ_outside fQ_shut iQ_rows iQ_allRows iQ_columns ++ (WW nW hw lw kw wl wb wG)))) sz) := by
  refine Met.ofW (cc := cX5_allDiffer) (maxL := 2) (ret := (some .boolean)) (by decide) rfl ?_
  intro p e s m args below meth c s₁ B hml hv
  obtain ⟨rfl, hsz, hP, hK, hD0⟩ := hv
  have hx := B.exec
  have hb := B.bytes
  have hr := B.returns
  have hts := atoms_spec (ws := wsMX5_allDiffer) B.pre
  have hown : s.vm.findClass RX5 = some m.cls := findClass_of_methodNamed B.named
  have hlocks := B.notSynchronized
  subst hsz
  have hD := hD0.self (sz := s.heap.size)
  generalize hAe : va_A (WO hO aO kO hM hQ hw iO_answered iO_searched iO_searchedRelaxed iO_counted fO_countedCase gO_goalNumber gO_goalScale fO_start fO_column fO_chosen ++ (WM hM aM kM iM_stands iM_variables iM_rows iM_goals iM_differents iM_cases fM_from fM_to fM_whole fM_ways iM_plainRows fM_plainRow fM_kept fM_goalOver fM_goalUnder fM_goalMax fM_different ++ (WQ hQ aQ kQ hw fQ_inside fQ_outside fQ_shut iQ_rows iQ_allRows iQ_columns ++ (WW nW hw lw kw wl wb wG)))) s.heap.size = A at hD ⊢
  have hA : ∀ q : Nat, s.heap.size ≤ q → A q := fun q h => by rw [← hAe]; exact Or.inr h
  have hS : va_S A s.heap s.heap [] := va_S.rf
  have hl := lv_entry ([.ref (hO 0)]) (n := 2) (Nat.le_of_ble_eq_true rfl)
  rw [lg_entry_eq]
  generalize (lg_sl ([.ref (hO 0)]) ++ List.replicate (2 - (lg_sl ([.ref (hO 0)])).length) Slot.unset).toArray = ls at hl ⊢
  have hl : lv_has ls 2 [(0, .ref (hO 0))] := hl
  refine lv_iconst (v := 0) hx hb dX5_allDiffer_0 (by decide) ?_
  refine lv_istore_n hx hb dX5_allDiffer_1 rfl hl (by decide) rfl (fun ls (hl : lv_has ls _ ([(1, .int 0), (0, .ref (hO 0))])) => ?_)
  have hl : lv_has _ _ ([(1, .int 0), (0, .ref (hO 0))]) := lv_sub hl [0, 1] rfl
  refine (fun (loop : ∀ (n9 : Nat) (l1_x2 : Int32) (H : Heap) (locs : List Loc) (ls : Array Slot), (0 ≤ l1_x2.toInt ∧ l1_x2.toInt ≤ 8) → (8 - l1_x2.toInt < ((n9 : Nat) : Int)) → va_P (dC, dI) vwCl (WO hO aO kO hM hQ hw iO_answered iO_searched iO_searchedRelaxed iO_counted fO_countedCase gO_goalNumber gO_goalScale fO_start fO_column fO_chosen ++ (WM hM aM kM iM_stands iM_variables iM_rows iM_goals iM_differents iM_cases fM_from fM_to fM_whole fM_ways iM_plainRows fM_plainRow fM_kept fM_goalOver fM_goalUnder fM_goalMax fM_different ++ (WQ hQ aQ kQ hw fQ_inside fQ_outside fQ_shut iQ_rows iQ_allRows iQ_columns ++ (WW nW hw lw kw wl wb wG)))) H → va_D A (WO hO aO kO hM hQ hw iO_answered iO_searched iO_searchedRelaxed iO_counted fO_countedCase gO_goalNumber gO_goalScale fO_start fO_column fO_chosen ++ (WM hM aM kM iM_stands iM_variables iM_rows iM_goals iM_differents iM_cases fM_from fM_to fM_whole fM_ways iM_plainRows fM_plainRow fM_kept fM_goalOver fM_goalUnder fM_goalMax fM_different ++ (WQ hQ aQ kQ hw fQ_inside fQ_outside fQ_shut iQ_rows iQ_allRows iQ_columns ++ (WW nW hw lw kw wl wb wG)))) → va_S A s.heap H locs → lv_has ls 2 [(1, .int l1_x2), (0, .ref (hO 0))] → W p l e _ s m _ below meth c H locs 0 0 _ (F0 m 2 ls [])) => loop (9) 0 _ _ _ (show 0 ≤ (0 : Int32).toInt ∧ (0 : Int32).toInt ≤ 8 from by decide) ((by have e9 : (0 : Int32).toInt = 0 := (by decide : (0 : Int32).toInt = 0); omega)) hP hD hS hl) ?_
  intro n9
  induction n9 with
  | zero => intro l1_x2 H locs ls b_l1_x2 hf9; exact False.elim (by omega)
  | succ n9 ihx2 =>
    intro l1_x2 H locs ls b_l1_x2 hfx2 hP hD hS hl
    refine lv_iload_n hx hb dX5_allDiffer_2 rfl (lv_at hl 0 rfl) ?_
    refine lv_aload_n hx hb dX5_allDiffer_3 rfl (lv_at hl 1 rfl) ?_
    refine va_get (D := (dC, dI)) (ci := 5) (v := .ref (hM 0)) (C := RX5) (T := TX5) (N := 19) hx hb hts iwsMX5_allDiffer_in5 hown hK hP 0 rfl rfl 0 (by decide) (hts _ hm_m_X5_allDiffer_0) (fun _ h9 => h9) rfl dX5_allDiffer_4 ?_
    refine va_get (D := (dC, dI)) (ci := 1) (v := .int iM_differents) (C := RX1) (T := TX1) (N := 17) hx hb hts iwsMX5_allDiffer_in1 hown hK hP 11 rfl rfl 4 (by decide) (hts (.fieldLink RX5 157 "OptimaWorks$Model" "differents" "I") (by decide +kernel)) (fun _ h9 => h9) rfl dX5_allDiffer_7 ?_
    refine lv_icmp_ge (tgt := 37) hx hb dX5_allDiffer_10 (by decide) (fun c_10 => ?_) (fun c_10 => ?_)
    · have t_10 : l1_x2.toInt ≥ iM_differents.toInt := toI_ge c_10 rfl rfl
      refine lv_iconst (v := 1) hx hb dX5_allDiffer_37 (by decide) ?_
      refine W.widen (k := 0) (n := 0) (by decide +kernel) (by decide +kernel) ?_
      exact W.zret (v := 1) hx hb hr rfl (fun t9_ ht hW => ⟨⟨(1 : Int32), (), rfl, (show 0 ≤ (1 : Int32).toInt ∧ (1 : Int32).toInt ≤ 1 from by decide), by rw [ht]; exact hP, hD⟩, hS.F ht⟩) hS.2.2 dX5_allDiffer_38
    · have t_10 : ¬ l1_x2.toInt ≥ iM_differents.toInt := toI_nge c_10 rfl rfl
      refine lv_aload_n hx hb dX5_allDiffer_13 rfl (lv_at hl 1 rfl) ?_
      refine lv_aload_n hx hb dX5_allDiffer_14 rfl (lv_at hl 1 rfl) ?_
      refine va_get (D := (dC, dI)) (ci := 5) (v := .ref (hM 0)) (C := RX5) (T := TX5) (N := 19) hx hb hts iwsMX5_allDiffer_in5 hown hK hP 0 rfl rfl 0 (by decide) (hts _ hm_m_X5_allDiffer_0) (fun _ h9 => h9) rfl dX5_allDiffer_15 ?_
      refine va_get (D := (dC, dI)) (ci := 1) (v := .ref (aM 9)) (C := RX1) (T := TX1) (N := 17) hx hb hts iwsMX5_allDiffer_in1 hown hK hP 11 rfl rfl 16 (by decide) (hts (.fieldLink RX5 160 "OptimaWorks$Model" "different" "[I") (by decide +kernel)) (fun _ h9 => h9) rfl dX5_allDiffer_18 ?_
      refine lv_iload_n hx hb dX5_allDiffer_21 rfl (lv_at hl 0 rfl) ?_
      refine va_iald (cA := kM 9) (n := 8) (f := fM_different) hx hb hK hP 21 19 rfl rfl (vp_in_iff.mpr ⟨b_l1_x2.1, (Int.lt_of_lt_of_le (Int.not_le.mp t_10) (Int.le_trans b_iM_differents.2 (by decide)))⟩) dX5_allDiffer_22 ?_
      refine lv_topi (fun v5 hv5 => ?_)
      clear hv5
      have hFc := allFree hD hS hA
      refine va_calli (va_runV (As := [.int v5]) (rest := []) ⟨hx, hb, hml, hown, hts⟩ (m_X5_differ l dC dI hO aO kO hM hQ hw iO_answered iO_searched iO_searchedRelaxed iO_counted fO_countedCase gO_goalNumber gO_goalScale fO_start fO_column fO_chosen aM kM iM_stands iM_variables iM_rows iM_goals iM_differents iM_cases fM_from fM_to fM_whole fM_ways iM_plainRows fM_plainRow fM_kept fM_goalOver fM_goalUnder fM_goalMax fM_different aQ kQ fQ_inside fQ_outside fQ_shut iQ_rows iQ_allRows iQ_columns nW lw kw wl wb wG v5 (b_iO_answered) (b_iO_searched) (b_iO_searchedRelaxed) (b_iO_counted) b_fO_countedCase b_fO_column b_fO_chosen (b_iM_stands) (b_iM_variables) (b_iM_rows) (b_iM_goals) (b_iM_differents) (b_iM_cases) b_fM_ways (b_iM_plainRows) b_fM_plainRow (by first | with_reducible assumption | omega | assumption) (b_iQ_rows) (b_iQ_allRows) (b_iQ_columns) (by first | with_reducible assumption | omega | assumption) b_wl b_wb (by omega) H.size) (cwV 1 hts gwsMX5_allDiffer_0 rfl rfl rfl hd_yX5_differ_RX5 (by decide +kernel)) (fz_pre (va_recv hK hP (ci := 5) (q0 := 0) rfl rfl) hP hK hD) rfl rfl hl.1 rfl (lv_room (Nat.le_of_ble_eq_true rfl)) dX5_allDiffer_23 (by decide +kernel)) hS (fun q _ h => hFc q h) hFc (fun r6 u t9_ H locs ht hvm hw9 hB9 hz1 hk1 hS => ?_)
      have b_r6 := hw9
      try dsimp only at b_r6
      have hP : va_P (dC, dI) vwCl (WO hO aO kO hM hQ hw iO_answered iO_searched iO_searchedRelaxed iO_counted fO_countedCase gO_goalNumber gO_goalScale fO_start fO_column fO_chosen ++ (WM hM aM kM iM_stands iM_variables iM_rows iM_goals iM_differents iM_cases fM_from fM_to fM_whole fM_ways iM_plainRows fM_plainRow fM_kept fM_goalOver fM_goalUnder fM_goalMax fM_different ++ (WQ hQ aQ kQ hw fQ_inside fQ_outside fQ_shut iQ_rows iQ_allRows iQ_columns ++ (WW nW hw lw kw wl wb wG)))) H := fz_P ht hB9.1
      have hD := fz_sd hP (hB9.2.weaken (fun _ q _ h => hFc q.1 h)) rfl
      refine lv_if_ne (tgt := 31) hx hb dX5_allDiffer_26 (by decide) (fun c_26 => ?_) (fun c_26 => ?_)
      · have t_26 : r6.toInt ≠ 0 := toI_ne c_26 rfl (by decide : (0 : Int32).toInt = 0)
        refine lv_iinc (v := (iI (l1_x2.toInt + 1))) hx hb dX5_allDiffer_31 hl (k := 0) rfl (iI_add2 (iI_of _) (by decide : (1 : Int32) = iI 1)) (by decide) rfl (fun ls (hl : lv_has ls _ ([(1, .int (iI (l1_x2.toInt + 1))), (0, .ref (hO 0))])) => ?_)
        refine lv_goto (tgt := 2) hx hb dX5_allDiffer_34 (by decide) ?_
        have hl : lv_has _ _ ([(1, .int (iI (l1_x2.toInt + 1))), (0, .ref (hO 0))]) := lv_sub hl [0, 1] rfl
        exact ihx2 (iI (l1_x2.toInt + 1)) _ _ _ (iI_rng (Int.le_trans (by decide) (Int.add_le_add (b_l1_x2.1) (Int.le_refl _))) (by omega) (by decide) (by decide)) (by have e9 : ((iI (l1_x2.toInt + 1))).toInt = (l1_x2.toInt + 1) := (iI_t (Int.le_trans (by decide) (Int.add_le_add (b_l1_x2.1) (Int.le_refl _))) (Int.le_trans (Int.add_le_add (b_l1_x2.2) (Int.le_refl _)) (by decide))); omega) hP hD hS hl
      · have t_26 : r6.toInt = 0 := toI_nne c_26 rfl (by decide : (0 : Int32).toInt = 0)
        refine lv_iconst (v := 0) hx hb dX5_allDiffer_29 (by decide) ?_
        refine W.widen (k := 0) (n := 0) (by decide +kernel) (by decide +kernel) ?_
        exact W.zret (v := 0) hx hb hr rfl (fun t9_ ht hW => ⟨⟨(0 : Int32), (), rfl, (show 0 ≤ (0 : Int32).toInt ∧ (0 : Int32).toInt ≤ 1 from by decide), by rw [ht]; exact hP, hD⟩, hS.F ht⟩) hS.2.2 dX5_allDiffer_30
theorem dX5_choose_0 : decode cX5_choose 0 = .ok (.iload_n 1, 1) := dk_27 (by decide +kernel)
theorem dX5_choose_1 : decode cX5_choose 1 = .ok (.istore_n 2, 1) := dk_61 (by decide +kernel)
theorem dX5_choose_2 : decode cX5_choose 2 = .ok (.aload_n 0, 1) := dk_42 (by decide +kernel)
theorem dX5_choose_3 : decode cX5_choose 3 = .ok (.getfield 74, 3) := dk_180 (by decide +kernel)
theorem dX5_choose_6 : decode cX5_choose 6 = .ok (.getfield 131, 3) := dk_180 (by decide +kernel)
theorem dX5_choose_9 : decode cX5_choose 9 = .ok (.iconst 1, 1) := dk_4 (by decide +kernel)
theorem dX5_choose_10 : decode cX5_choose 10 = .ok (.isub, 1) := dk_100 (by decide +kernel)
theorem dX5_choose_11 : decode cX5_choose 11 = .ok (.istore_n 3, 1) := dk_62 (by decide +kernel)
theorem dX5_choose_12 : decode cX5_choose 12 = .ok (.iload_n 3, 1) := dk_29 (by decide +kernel)
theorem dX5_choose_13 : decode cX5_choose 13 = .ok (.ifCond .lt 39, 3) := dk_155 (by decide +kernel)
theorem dX5_choose_16 : decode cX5_choose 16 = .ok (.iconst 1, 1) := dk_4 (by decide +kernel)
theorem dX5_choose_17 : decode cX5_choose 17 = .ok (.aload_n 0, 1) := dk_42 (by decide +kernel)
theorem dX5_choose_18 : decode cX5_choose 18 = .ok (.getfield 74, 3) := dk_180 (by decide +kernel)
theorem dX5_choose_21 : decode cX5_choose 21 = .ok (.getfield 134, 3) := dk_180 (by decide +kernel)
theorem dX5_choose_24 : decode cX5_choose 24 = .ok (.iload_n 3, 1) := dk_29 (by decide +kernel)
theorem dX5_choose_25 : decode cX5_choose 25 = .ok (.iaload, 1) := dk_46 (by decide +kernel)
theorem dX5_choose_26 : decode cX5_choose 26 = .ok (.invokestatic 137, 3) := dk_184 (by decide +kernel)
theorem dX5_choose_29 : decode cX5_choose 29 = .ok (.istore 4, 2) := dk_54 (by decide +kernel)
theorem dX5_choose_31 : decode cX5_choose 31 = .ok (.aload_n 0, 1) := dk_42 (by decide +kernel)
theorem dX5_choose_32 : decode cX5_choose 32 = .ok (.getfield 41, 3) := dk_180 (by decide +kernel)
theorem dX5_choose_35 : decode cX5_choose 35 = .ok (.iload_n 3, 1) := dk_29 (by decide +kernel)
theorem dX5_choose_36 : decode cX5_choose 36 = .ok (.iload_n 2, 1) := dk_28 (by decide +kernel)
theorem dX5_choose_37 : decode cX5_choose 37 = .ok (.iload 4, 2) := dk_21 (by decide +kernel)
theorem dX5_choose_39 : decode cX5_choose 39 = .ok (.irem, 1) := dk_112 (by decide +kernel)
theorem dX5_choose_40 : decode cX5_choose 40 = .ok (.iastore, 1) := dk_79 (by decide +kernel)
theorem dX5_choose_41 : decode cX5_choose 41 = .ok (.iload_n 2, 1) := dk_28 (by decide +kernel)
theorem dX5_choose_42 : decode cX5_choose 42 = .ok (.iload 4, 2) := dk_21 (by decide +kernel)
theorem dX5_choose_44 : decode cX5_choose 44 = .ok (.idiv, 1) := dk_108 (by decide +kernel)
theorem dX5_choose_45 : decode cX5_choose 45 = .ok (.istore_n 2, 1) := dk_61 (by decide +kernel)
theorem dX5_choose_46 : decode cX5_choose 46 = .ok (.iinc 3 (-1), 3) := dk_132 (by decide +kernel)
theorem dX5_choose_49 : decode cX5_choose 49 = .ok (.goto (-37), 3) := dk_167 (by decide +kernel)
theorem dX5_choose_52 : decode cX5_choose 52 = .ok (.aload_n 0, 1) := dk_42 (by decide +kernel)
theorem dX5_choose_53 : decode cX5_choose 53 = .ok (.getfield 74, 3) := dk_180 (by decide +kernel)
theorem dX5_choose_56 : decode cX5_choose 56 = .ok (.getfield 112, 3) := dk_180 (by decide +kernel)
theorem dX5_choose_59 : decode cX5_choose 59 = .ok (.iconst 1, 1) := dk_4 (by decide +kernel)
theorem dX5_choose_60 : decode cX5_choose 60 = .ok (.isub, 1) := dk_100 (by decide +kernel)
theorem dX5_choose_61 : decode cX5_choose 61 = .ok (.istore_n 3, 1) := dk_62 (by decide +kernel)
theorem dX5_choose_62 : decode cX5_choose 62 = .ok (.iload_n 3, 1) := dk_29 (by decide +kernel)
theorem dX5_choose_63 : decode cX5_choose 63 = .ok (.ifCond .lt 78, 3) := dk_155 (by decide +kernel)
theorem dX5_choose_66 : decode cX5_choose 66 = .ok (.aload_n 0, 1) := dk_42 (by decide +kernel)
theorem dX5_choose_67 : decode cX5_choose 67 = .ok (.getfield 74, 3) := dk_180 (by decide +kernel)
theorem dX5_choose_70 : decode cX5_choose 70 = .ok (.getfield 143, 3) := dk_180 (by decide +kernel)
theorem dX5_choose_73 : decode cX5_choose 73 = .ok (.iload_n 3, 1) := dk_29 (by decide +kernel)
theorem dX5_choose_74 : decode cX5_choose 74 = .ok (.baload, 1) := dk_51 (by decide +kernel)
theorem dX5_choose_75 : decode cX5_choose 75 = .ok (.ifCond .eq 45, 3) := dk_153 (by decide +kernel)
theorem dX5_choose_78 : decode cX5_choose 78 = .ok (.iconst 1, 1) := dk_4 (by decide +kernel)
theorem dX5_choose_79 : decode cX5_choose 79 = .ok (.aload_n 0, 1) := dk_42 (by decide +kernel)
theorem dX5_choose_80 : decode cX5_choose 80 = .ok (.getfield 74, 3) := dk_180 (by decide +kernel)
theorem dX5_choose_83 : decode cX5_choose 83 = .ok (.iload_n 3, 1) := dk_29 (by decide +kernel)
theorem dX5_choose_84 : decode cX5_choose 84 = .ok (.invokevirtual 146, 3) := dk_182 (by decide +kernel)
theorem dX5_choose_87 : decode cX5_choose 87 = .ok (.invokestatic 137, 3) := dk_184 (by decide +kernel)
theorem dX5_choose_90 : decode cX5_choose 90 = .ok (.istore 4, 2) := dk_54 (by decide +kernel)
theorem dX5_choose_92 : decode cX5_choose 92 = .ok (.aload_n 0, 1) := dk_42 (by decide +kernel)
theorem dX5_choose_93 : decode cX5_choose 93 = .ok (.getfield 35, 3) := dk_180 (by decide +kernel)
theorem dX5_choose_96 : decode cX5_choose 96 = .ok (.iload_n 3, 1) := dk_29 (by decide +kernel)
theorem dX5_choose_97 : decode cX5_choose 97 = .ok (.aload_n 0, 1) := dk_42 (by decide +kernel)
theorem dX5_choose_98 : decode cX5_choose 98 = .ok (.getfield 74, 3) := dk_180 (by decide +kernel)
theorem dX5_choose_101 : decode cX5_choose 101 = .ok (.getfield 150, 3) := dk_180 (by decide +kernel)
theorem dX5_choose_104 : decode cX5_choose 104 = .ok (.iload_n 3, 1) := dk_29 (by decide +kernel)
theorem dX5_choose_105 : decode cX5_choose 105 = .ok (.iaload, 1) := dk_46 (by decide +kernel)
theorem dX5_choose_106 : decode cX5_choose 106 = .ok (.iload_n 2, 1) := dk_28 (by decide +kernel)
theorem dX5_choose_107 : decode cX5_choose 107 = .ok (.iload 4, 2) := dk_21 (by decide +kernel)
theorem dX5_choose_109 : decode cX5_choose 109 = .ok (.irem, 1) := dk_112 (by decide +kernel)
theorem dX5_choose_110 : decode cX5_choose 110 = .ok (.iadd, 1) := dk_96 (by decide +kernel)
theorem dX5_choose_111 : decode cX5_choose 111 = .ok (.iastore, 1) := dk_79 (by decide +kernel)
theorem dX5_choose_112 : decode cX5_choose 112 = .ok (.iload_n 2, 1) := dk_28 (by decide +kernel)
theorem dX5_choose_113 : decode cX5_choose 113 = .ok (.iload 4, 2) := dk_21 (by decide +kernel)
theorem dX5_choose_115 : decode cX5_choose 115 = .ok (.idiv, 1) := dk_108 (by decide +kernel)
theorem dX5_choose_116 : decode cX5_choose 116 = .ok (.istore_n 2, 1) := dk_61 (by decide +kernel)
theorem dX5_choose_117 : decode cX5_choose 117 = .ok (.goto 18, 3) := dk_167 (by decide +kernel)
theorem dX5_choose_120 : decode cX5_choose 120 = .ok (.aload_n 0, 1) := dk_42 (by decide +kernel)
theorem dX5_choose_121 : decode cX5_choose 121 = .ok (.getfield 35, 3) := dk_180 (by decide +kernel)
theorem dX5_choose_124 : decode cX5_choose 124 = .ok (.iload_n 3, 1) := dk_29 (by decide +kernel)
theorem dX5_choose_125 : decode cX5_choose 125 = .ok (.aload_n 0, 1) := dk_42 (by decide +kernel)
theorem dX5_choose_126 : decode cX5_choose 126 = .ok (.getfield 74, 3) := dk_180 (by decide +kernel)
theorem dX5_choose_129 : decode cX5_choose 129 = .ok (.getfield 150, 3) := dk_180 (by decide +kernel)
theorem dX5_choose_132 : decode cX5_choose 132 = .ok (.iload_n 3, 1) := dk_29 (by decide +kernel)
theorem dX5_choose_133 : decode cX5_choose 133 = .ok (.iaload, 1) := dk_46 (by decide +kernel)
theorem dX5_choose_134 : decode cX5_choose 134 = .ok (.iastore, 1) := dk_79 (by decide +kernel)
theorem dX5_choose_135 : decode cX5_choose 135 = .ok (.iinc 3 (-1), 3) := dk_132 (by decide +kernel)
theorem dX5_choose_138 : decode cX5_choose 138 = .ok (.goto (-76), 3) := dk_167 (by decide +kernel)
theorem dX5_choose_141 : decode cX5_choose 141 = .ok (.aload_n 0, 1) := dk_42 (by decide +kernel)
theorem dX5_choose_142 : decode cX5_choose 142 = .ok (.invokevirtual 153, 3) := dk_182 (by decide +kernel)
theorem dX5_choose_145 : decode cX5_choose 145 = .ok (.ireturn, 1) := dk_172 (by decide +kernel)
def wsMX5_choose : List Cond := .code yX5_choose cX5_choose 5 (some .boolean) :: ([.fieldLink RX5 74 "OptimaWorks$Solver" "model" "LOptimaWorks$Model;", .fieldLink RX5 131 "OptimaWorks$Model" "rows" "I", .fieldLink RX5 134 "OptimaWorks$Model" "ways" "[I", .methodLink RX5 137 Lib.Math.max.name, .static Lib.Math.max.name, .initialized "java/lang/Math", .code Lib.Math.max.name Lib.Math.max.code 2 (some .int), .fieldLink RX5 41 "OptimaWorks$Solver" "chosen" "[I", .fieldLink RX5 112 "OptimaWorks$Model" "variables" "I", .fieldLink RX5 143 "OptimaWorks$Model" "whole" "[Z", .fieldLink RX5 35 "OptimaWorks$Solver" "start" "[I", .fieldLink RX5 150 "OptimaWorks$Model" "from" "[I"] ++ wsX10 ++ wsX50 ++ (wsV RX5 146 RX1 yX1_range wsMX1_range) ++ (wsV RX5 153 RX5 yX5_allDiffer wsMX5_allDiffer))
theorem iwsMX5_choose_in1 : ∀ w ∈ wsX10, w ∈ wsMX5_choose := fun _ h => List.mem_cons_of_mem _ (List.mem_append_left _ (List.mem_append_left _ (List.mem_append_left _ (List.mem_append_right _ h))))
theorem iwsMX5_choose_in5 : ∀ w ∈ wsX50, w ∈ wsMX5_choose := fun _ h => List.mem_cons_of_mem _ (List.mem_append_left _ (List.mem_append_left _ (List.mem_append_right _ h)))
theorem gwsMX5_choose_0 : GoodIn wsMX5_choose (wsV RX5 146 RX1 yX1_range wsMX1_range) := goodIn_sub (fun _ h => List.mem_cons_of_mem _ (List.mem_append_left _ (List.mem_append_right _ h))) (gdV (by decide +kernel) gdwsMX1_range)
theorem gwsMX5_choose_1 : GoodIn wsMX5_choose (wsV RX5 153 RX5 yX5_allDiffer wsMX5_allDiffer) := goodIn_sub (fun _ h => List.mem_cons_of_mem _ (List.mem_append_right _ h)) (gdV (by decide +kernel) gdwsMX5_allDiffer)
theorem gdwsMX5_choose : wsMX5_choose.all goodWord = true := gdC rfl (gdA (gdA (gdA (gdA (by decide +kernel : ([.fieldLink RX5 74 "OptimaWorks$Solver" "model" "LOptimaWorks$Model;", .fieldLink RX5 131 "OptimaWorks$Model" "rows" "I", .fieldLink RX5 134 "OptimaWorks$Model" "ways" "[I", .methodLink RX5 137 Lib.Math.max.name, .static Lib.Math.max.name, .initialized "java/lang/Math", .code Lib.Math.max.name Lib.Math.max.code 2 (some .int), .fieldLink RX5 41 "OptimaWorks$Solver" "chosen" "[I", .fieldLink RX5 112 "OptimaWorks$Model" "variables" "I", .fieldLink RX5 143 "OptimaWorks$Model" "whole" "[Z", .fieldLink RX5 35 "OptimaWorks$Solver" "start" "[I", .fieldLink RX5 150 "OptimaWorks$Model" "from" "[I"] : List Cond).all goodWord = true) gdwsX10) gdwsX50) (gdV (by decide +kernel) gdwsMX1_range)) (gdV (by decide +kernel) gdwsMX5_allDiffer))
theorem hm_m_X5_choose_0 : (.fieldLink RX5 74 "OptimaWorks$Solver" "model" "LOptimaWorks$Model;" : Cond) ∈ wsMX5_choose := by decide +kernel
theorem hm_m_X5_choose_1 : (.fieldLink RX5 35 "OptimaWorks$Solver" "start" "[I" : Cond) ∈ wsMX5_choose := by decide +kernel
theorem hm_m_X5_choose_2 : (.fieldLink RX5 150 "OptimaWorks$Model" "from" "[I" : Cond) ∈ wsMX5_choose := by decide +kernel
theorem hm_m_X5_choose_3 : (.methodLink RX5 137 Lib.Math.max.name : Cond) ∈ wsMX5_choose := by decide +kernel
theorem hm_m_X5_choose_4 : (.static Lib.Math.max.name : Cond) ∈ wsMX5_choose := by decide +kernel
theorem hm_m_X5_choose_5 : (.initialized "java/lang/Math" : Cond) ∈ wsMX5_choose := by decide +kernel
theorem hm_m_X5_choose_6 : (.code Lib.Math.max.name Lib.Math.max.code 2 (some .int) : Cond) ∈ wsMX5_choose := by decide +kernel
set_option maxHeartbeats 4000000 in
set_option maxRecDepth 100000 in
/-- a case -/
theorem m_X5_choose (l : Launch) (dC : Nat → ClassId) (dI : Nat → Nat → Nat) (hO : Nat → Nat) (aO : Nat → Nat) (kO : Nat → ClassId) (hM : Nat → Nat) (hQ : Nat → Nat) (hw : Nat → Nat) (iO_answered : Int32) (iO_searched : Int32) (iO_searchedRelaxed : Int32) (iO_counted : Int32) (fO_countedCase : Nat → Int32) (gO_goalNumber : Nat → Int64) (gO_goalScale : Nat → Int64) (fO_start : Nat → Int32) (fO_column : Nat → Int32) (fO_chosen : Nat → Int32) (aM : Nat → Nat) (kM : Nat → ClassId) (iM_stands : Int32) (iM_variables : Int32) (iM_rows : Int32) (iM_goals : Int32) (iM_differents : Int32) (iM_cases : Int32) (fM_from : Nat → Int32) (fM_to : Nat → Int32) (fM_whole : Nat → Int32) (fM_ways : Nat → Int32) (iM_plainRows : Int32) (fM_plainRow : Nat → Int32) (fM_kept : Nat → Int32) (fM_goalOver : Nat → Int32) (fM_goalUnder : Nat → Int32) (fM_goalMax : Nat → Int32) (fM_different : Nat → Int32) (aQ : Nat → Nat) (kQ : Nat → ClassId) (fQ_inside : Nat → Int32) (fQ_outside : Nat → Int32) (fQ_shut : Nat → Int32) (iQ_rows : Int32) (iQ_allRows : Int32) (iQ_columns : Int32) (nW : Nat) (lw : Nat → Nat) (kw : ClassId) (wl : Nat → Int32) (wb : Nat → Int32) (wG : Nat → Nat → Int64) (p1 : Int32) (b_iO_answered : 0 ≤ iO_answered.toInt ∧ iO_answered.toInt ≤ 1) (b_iO_searched : 0 ≤ iO_searched.toInt ∧ iO_searched.toInt ≤ 1) (b_iO_searchedRelaxed : 0 ≤ iO_searchedRelaxed.toInt ∧ iO_searchedRelaxed.toInt ≤ 1) (b_iO_counted : (-1) ≤ iO_counted.toInt ∧ iO_counted.toInt ≤ 64) (b_fO_countedCase : ∀ q : Nat, 0 ≤ (fO_countedCase q).toInt ∧ (fO_countedCase q).toInt ≤ 200000) (b_fO_column : ∀ q : Nat, (-1) ≤ (fO_column q).toInt ∧ (fO_column q).toInt ≤ 8) (b_fO_chosen : ∀ q : Nat, 0 ≤ (fO_chosen q).toInt ∧ (fO_chosen q).toInt ≤ 2) (b_iM_stands : 0 ≤ iM_stands.toInt ∧ iM_stands.toInt ≤ 1) (b_iM_variables : 0 ≤ iM_variables.toInt ∧ iM_variables.toInt ≤ 8) (b_iM_rows : 0 ≤ iM_rows.toInt ∧ iM_rows.toInt ≤ 12) (b_iM_goals : 0 ≤ iM_goals.toInt ∧ iM_goals.toInt ≤ 3) (b_iM_differents : 0 ≤ iM_differents.toInt ∧ iM_differents.toInt ≤ 8) (b_iM_cases : 0 ≤ iM_cases.toInt ∧ iM_cases.toInt ≤ 200000) (b_fM_ways : ∀ q : Nat, 0 ≤ (fM_ways q).toInt ∧ (fM_ways q).toInt ≤ 3) (b_iM_plainRows : 0 ≤ iM_plainRows.toInt ∧ iM_plainRows.toInt ≤ 12) (b_fM_plainRow : ∀ q : Nat, 0 ≤ (fM_plainRow q).toInt ∧ (fM_plainRow q).toInt ≤ 11) (b_pr : iM_plainRows.toInt ≤ iM_rows.toInt) (b_iQ_rows : 0 ≤ iQ_rows.toInt ∧ iQ_rows.toInt ≤ 40) (b_iQ_allRows : 0 ≤ iQ_allRows.toInt ∧ iQ_allRows.toInt ≤ 40) (b_iQ_columns : 0 ≤ iQ_columns.toInt ∧ iQ_columns.toInt ≤ 40) (b_tb : TbO iQ_rows iQ_allRows iQ_columns) (b_wl : ∀ q : Nat, 0 ≤ (wl q).toInt ∧ (wl q).toInt ≤ 14) (b_wb : ∀ q : Nat, 0 ≤ (wb q).toInt ∧ (wb q).toInt ≤ 1) (b_p1 : 0 ≤ p1.toInt ∧ p1.toInt ≤ 200000) (hnW : 432 ≤ nW) (sz : Nat) : Met l yX5_choose wsMX5_choose ({ frames := 2, cells := 0, slots := 0, locals := 44 }) (va_Pc [.ref (hO 0), .int p1] (fun U => U.heap.size = sz ∧ va_P (dC, dI) vwCl (WO hO aO kO hM hQ hw iO_answered iO_searched iO_searchedRelaxed iO_counted fO_countedCase gO_goalNumber gO_goalScale fO_start fO_column fO_chosen ++ (WM hM aM kM iM_stands iM_variables iM_rows iM_goals iM_differents iM_cases fM_from fM_to fM_whole fM_ways iM_plainRows fM_plainRow fM_kept fM_goalOver fM_goalUnder fM_goalMax fM_different ++ (WQ hQ aQ kQ hw fQ_inside fQ_outside fQ_shut iQ_rows iQ_allRows iQ_columns ++ (WW nW hw lw kw wl wb wG)))) U.heap ∧ va_K (dC, dI) vwCl (tO kO ++ (tM kM ++ (tQ kQ ++ (tW kw)))) U ∧ va_D (fun _ => True) (WO hO aO kO hM hQ hw iO_answered iO_searched iO_searchedRelaxed iO_counted fO_countedCase gO_goalNumber gO_goalScale fO_start fO_column fO_chosen ++ (WM hM aM kM iM_stands iM_variables iM_rows iM_goals iM_differents iM_cases fM_from fM_to fM_whole fM_ways iM_plainRows fM_plainRow fM_kept fM_goalOver fM_goalUnder fM_goalMax fM_different ++ (WQ hQ aQ kQ hw fQ_inside fQ_outside fQ_shut iQ_rows iQ_allRows iQ_columns ++ (WW nW hw lw kw wl wb wG)))))) (va_Qi (fun (r : Int32) (u : (Nat → Int32) × (Nat → Int32)) => (∀ q : Nat, 0 ≤ ((u.2) q).toInt ∧ ((u.2) q).toInt ≤ 2) ∧ (0 ≤ r.toInt ∧ r.toInt ≤ 1)) (fun (u : (Nat → Int32) × (Nat → Int32)) t => va_P (dC, dI) vwCl (WO hO aO kO hM hQ hw iO_answered iO_searched iO_searchedRelaxed iO_counted fO_countedCase gO_goalNumber gO_goalScale (u.1) fO_column (u.2) ++ (WM hM aM kM iM_stands iM_variables iM_rows iM_goals iM_differents iM_cases fM_from fM_to fM_whole fM_ways iM_plainRows fM_plainRow fM_kept fM_goalOver fM_goalUnder fM_goalMax fM_different ++ (WQ hQ aQ kQ hw fQ_inside fQ_outside fQ_shut iQ_rows iQ_allRows iQ_columns ++ (WW nW hw lw kw wl wb wG)))) t.heap ∧ va_D (va_A (WO hO aO kO hM hQ hw iO_answered iO_searched iO_searchedRelaxed iO_counted fO_countedCase gO_goalNumber gO_goalScale fO_start fO_column fO_chosen ++ (WM hM aM kM iM_stands iM_variables iM_rows iM_goals iM_differents iM_cases fM_from fM_to fM_whole fM_ways iM_plainRows fM_plainRow fM_kept fM_goalOver fM_goalUnder fM_goalMax fM_different ++ (WQ hQ aQ kQ hw fQ_inside fQ_outside fQ_shut iQ_rows iQ_allRows iQ_columns ++ (WW nW hw lw kw wl wb wG)))) sz) (WO hO aO kO hM hQ hw iO_answered iO_searched iO_searchedRelaxed iO_counted fO_countedCase gO_goalNumber gO_goalScale (u.1) fO_column (u.2) ++ (WM hM aM kM iM_stands iM_variables iM_rows iM_goals iM_differents iM_cases fM_from fM_to fM_whole fM_ways iM_plainRows fM_plainRow fM_kept fM_goalOver fM_goalUnder fM_goalMax fM_different ++ (WQ hQ aQ kQ hw fQ_inside fQ_outside fQ_shut iQ_rows iQ_allRows iQ_columns ++ (WW nW hw lw kw wl wb wG))))) (va_A (WO hO aO kO hM hQ hw iO_answered iO_searched iO_searchedRelaxed iO_counted fO_countedCase gO_goalNumber gO_goalScale fO_start fO_column fO_chosen ++ (WM hM aM kM iM_stands iM_variables iM_rows iM_goals iM_differents iM_cases fM_from fM_to fM_whole fM_ways iM_plainRows fM_plainRow fM_kept fM_goalOver fM_goalUnder fM_goalMax fM_different ++ (WQ hQ aQ kQ hw fQ_inside fQ_outside fQ_shut iQ_rows iQ_allRows iQ_columns ++ (WW nW hw lw kw wl wb wG)))) sz)) 0 0 (va_A (WO hO aO kO hM hQ hw iO_answered iO_searched iO_searchedRelaxed iO_counted fO_countedCase gO_goalNumber gO_goalScale fO_start fO_column fO_chosen ++ (WM hM aM kM iM_stands iM_variables iM_rows iM_goals iM_differents iM_cases fM_from fM_to fM_whole fM_ways iM_plainRows fM_plainRow fM_kept fM_goalOver fM_goalUnder fM_goalMax fM_different ++ (WQ hQ aQ kQ hw fQ_inside fQ_outside fQ_shut iQ_rows iQ_allRows iQ_columns ++ (WW nW hw lw kw wl wb wG)))) sz) := by
  refine Met.ofW (cc := cX5_choose) (maxL := 5) (ret := (some .boolean)) (by decide) rfl ?_
  intro p e s m args below meth c s₁ B hml hv
  obtain ⟨rfl, hsz, hP, hK, hD0⟩ := hv
  have hx := B.exec
  have hb := B.bytes
  have hr := B.returns
  have hts := atoms_spec (ws := wsMX5_choose) B.pre
  have hown : s.vm.findClass RX5 = some m.cls := findClass_of_methodNamed B.named
  have hlocks := B.notSynchronized
  subst hsz
  have hD := hD0.self (sz := s.heap.size)
  generalize hAe : va_A (WO hO aO kO hM hQ hw iO_answered iO_searched iO_searchedRelaxed iO_counted fO_countedCase gO_goalNumber gO_goalScale fO_start fO_column fO_chosen ++ (WM hM aM kM iM_stands iM_variables iM_rows iM_goals iM_differents iM_cases fM_from fM_to fM_whole fM_ways iM_plainRows fM_plainRow fM_kept fM_goalOver fM_goalUnder fM_goalMax fM_different ++ (WQ hQ aQ kQ hw fQ_inside fQ_outside fQ_shut iQ_rows iQ_allRows iQ_columns ++ (WW nW hw lw kw wl wb wG)))) s.heap.size = A at hD ⊢
  have hA : ∀ q : Nat, s.heap.size ≤ q → A q := fun q h => by rw [← hAe]; exact Or.inr h
  have hS : va_S A s.heap s.heap [] := va_S.rf
  have hl := lv_entry ([.ref (hO 0), .int p1]) (n := 5) (Nat.le_of_ble_eq_true rfl)
  rw [lg_entry_eq]
  generalize (lg_sl ([.ref (hO 0), .int p1]) ++ List.replicate (5 - (lg_sl ([.ref (hO 0), .int p1])).length) Slot.unset).toArray = ls at hl ⊢
  have hl : lv_has ls 5 [(0, .ref (hO 0)), (1, .int p1)] := hl
  refine lv_iload_n hx hb dX5_choose_0 rfl (lv_at hl 1 rfl) ?_
  refine lv_istore_n hx hb dX5_choose_1 rfl hl (by decide) rfl (fun ls (hl : lv_has ls _ ([(2, .int p1), (0, .ref (hO 0)), (1, .int p1)])) => ?_)
  refine lv_aload_n hx hb dX5_choose_2 rfl (lv_at hl 1 rfl) ?_
  refine va_get (D := (dC, dI)) (ci := 5) (v := .ref (hM 0)) (C := RX5) (T := TX5) (N := 19) hx hb hts iwsMX5_choose_in5 hown hK hP 0 rfl rfl 0 (by decide) (hts _ hm_m_X5_choose_0) (fun _ h9 => h9) rfl dX5_choose_3 ?_
  refine va_get (D := (dC, dI)) (ci := 1) (v := .int iM_rows) (C := RX1) (T := TX1) (N := 17) hx hb hts iwsMX5_choose_in1 hown hK hP 11 rfl rfl 2 (by decide) (hts (.fieldLink RX5 131 "OptimaWorks$Model" "rows" "I") (by decide +kernel)) (fun _ h9 => h9) rfl dX5_choose_6 ?_
  refine lv_iconst (v := 1) hx hb dX5_choose_9 (by decide) ?_
  refine lv_isub hx hb dX5_choose_10 ?_
  refine lv_topi (fun y1 hy1 => ?_)
  obtain rfl : (iI (iM_rows.toInt - 1)) = y1 := (hy1.trans (iI_sub2 (iI_of _) (by decide : (1 : Int32) = iI 1))).symm
  refine lv_istore_n hx hb dX5_choose_11 rfl hl (by decide) rfl (fun ls (hl : lv_has ls _ ([(3, .int (iI (iM_rows.toInt - 1))), (2, .int p1), (0, .ref (hO 0)), (1, .int p1)])) => ?_)
  have hl : lv_has _ _ ([(3, .int (iI (iM_rows.toInt - 1))), (2, .int p1), (0, .ref (hO 0)), (1, .int p1)]) := lv_sub hl [0, 1, 2, 3] rfl
  refine (fun (loop : ∀ (n9 : Nat) (fO_chosen_x12 : Nat → Int32) (l3_x12 : Int32) (l2_x12 : Int32) (H : Heap) (locs : List Loc) (ls : Array Slot), (∀ q : Nat, 0 ≤ (fO_chosen_x12 q).toInt ∧ (fO_chosen_x12 q).toInt ≤ 2) → ((-1) ≤ l3_x12.toInt ∧ l3_x12.toInt ≤ 11) → (0 ≤ l2_x12.toInt ∧ l2_x12.toInt ≤ 200000) → (l3_x12.toInt - (-1) < ((n9 : Nat) : Int)) → va_P (dC, dI) vwCl (WO hO aO kO hM hQ hw iO_answered iO_searched iO_searchedRelaxed iO_counted fO_countedCase gO_goalNumber gO_goalScale fO_start fO_column fO_chosen_x12 ++ (WM hM aM kM iM_stands iM_variables iM_rows iM_goals iM_differents iM_cases fM_from fM_to fM_whole fM_ways iM_plainRows fM_plainRow fM_kept fM_goalOver fM_goalUnder fM_goalMax fM_different ++ (WQ hQ aQ kQ hw fQ_inside fQ_outside fQ_shut iQ_rows iQ_allRows iQ_columns ++ (WW nW hw lw kw wl wb wG)))) H → va_D A (WO hO aO kO hM hQ hw iO_answered iO_searched iO_searchedRelaxed iO_counted fO_countedCase gO_goalNumber gO_goalScale fO_start fO_column fO_chosen_x12 ++ (WM hM aM kM iM_stands iM_variables iM_rows iM_goals iM_differents iM_cases fM_from fM_to fM_whole fM_ways iM_plainRows fM_plainRow fM_kept fM_goalOver fM_goalUnder fM_goalMax fM_different ++ (WQ hQ aQ kQ hw fQ_inside fQ_outside fQ_shut iQ_rows iQ_allRows iQ_columns ++ (WW nW hw lw kw wl wb wG)))) → va_S A s.heap H locs → lv_has ls 5 [(3, .int l3_x12), (2, .int l2_x12), (0, .ref (hO 0)), (1, .int p1)] → W p l e _ s m _ below meth c H locs 0 0 _ (F0 m 12 ls [])) => loop (13) fO_chosen (iI (iM_rows.toInt - 1)) p1 _ _ _ b_fO_chosen (iI_rng (Int.le_trans (by decide) (Int.sub_le_sub (b_iM_rows.1) (Int.le_refl _))) (Int.le_trans (Int.sub_le_sub (b_iM_rows.2) (Int.le_refl _)) (by decide)) (by decide) (by decide)) (b_p1) ((by have e9 : ((iI (iM_rows.toInt - 1))).toInt = (iM_rows.toInt - 1) := (iI_t (Int.le_trans (by decide) (Int.sub_le_sub (b_iM_rows.1) (Int.le_refl _))) (Int.le_trans (Int.sub_le_sub (b_iM_rows.2) (Int.le_refl _)) (by decide))); omega)) hP hD hS hl) ?_
  intro n9
  induction n9 with
  | zero => intro fO_chosen_x12 l3_x12 l2_x12 H locs ls b_fO_chosen_x12 b_l3_x12 b_l2_x12 hf9; exact False.elim (by omega)
  | succ n9 ihx12 =>
    intro fO_chosen_x12 l3_x12 l2_x12 H locs ls b_fO_chosen_x12 b_l3_x12 b_l2_x12 hfx12 hP hD hS hl
    refine lv_iload_n hx hb dX5_choose_12 rfl (lv_at hl 0 rfl) ?_
    refine lv_if_lt (tgt := 52) hx hb dX5_choose_13 (by decide) (fun c_13 => ?_) (fun c_13 => ?_)
    · have t_13 : l3_x12.toInt < 0 := toI_lt c_13 rfl (by decide : (0 : Int32).toInt = 0)
      refine lv_aload_n hx hb dX5_choose_52 rfl (lv_at hl 2 rfl) ?_
      refine va_get (D := (dC, dI)) (ci := 5) (v := .ref (hM 0)) (C := RX5) (T := TX5) (N := 19) hx hb hts iwsMX5_choose_in5 hown hK hP 0 rfl rfl 0 (by decide) (hts _ hm_m_X5_choose_0) (fun _ h9 => h9) rfl dX5_choose_53 ?_
      refine va_get (D := (dC, dI)) (ci := 1) (v := .int iM_variables) (C := RX1) (T := TX1) (N := 17) hx hb hts iwsMX5_choose_in1 hown hK hP 11 rfl rfl 1 (by decide) (hts (.fieldLink RX5 112 "OptimaWorks$Model" "variables" "I") (by decide +kernel)) (fun _ h9 => h9) rfl dX5_choose_56 ?_
      refine lv_iconst (v := 1) hx hb dX5_choose_59 (by decide) ?_
      refine lv_isub hx hb dX5_choose_60 ?_
      refine lv_topi (fun y263 hy263 => ?_)
      obtain rfl : (iI (iM_variables.toInt - 1)) = y263 := (hy263.trans (iI_sub2 (iI_of _) (by decide : (1 : Int32) = iI 1))).symm
      refine lv_istore_n hx hb dX5_choose_61 rfl hl (by decide) rfl (fun ls (hl : lv_has ls _ ([(3, .int (iI (iM_variables.toInt - 1))), (2, .int l2_x12), (0, .ref (hO 0)), (1, .int p1)])) => ?_)
      have hl : lv_has _ _ ([(3, .int (iI (iM_variables.toInt - 1))), (2, .int l2_x12), (0, .ref (hO 0)), (1, .int p1)]) := lv_sub hl [0, 1, 2, 3] rfl
      refine (fun (loop : ∀ (n9 : Nat) (fO_start_x62 : Nat → Int32) (l3_x62 : Int32) (l2_x62 : Int32) (H : Heap) (locs : List Loc) (ls : Array Slot), ((-1) ≤ l3_x62.toInt ∧ l3_x62.toInt ≤ 7) → (0 ≤ l2_x62.toInt ∧ l2_x62.toInt ≤ 200000) → (l3_x62.toInt - (-1) < ((n9 : Nat) : Int)) → va_P (dC, dI) vwCl (WO hO aO kO hM hQ hw iO_answered iO_searched iO_searchedRelaxed iO_counted fO_countedCase gO_goalNumber gO_goalScale fO_start_x62 fO_column fO_chosen_x12 ++ (WM hM aM kM iM_stands iM_variables iM_rows iM_goals iM_differents iM_cases fM_from fM_to fM_whole fM_ways iM_plainRows fM_plainRow fM_kept fM_goalOver fM_goalUnder fM_goalMax fM_different ++ (WQ hQ aQ kQ hw fQ_inside fQ_outside fQ_shut iQ_rows iQ_allRows iQ_columns ++ (WW nW hw lw kw wl wb wG)))) H → va_D A (WO hO aO kO hM hQ hw iO_answered iO_searched iO_searchedRelaxed iO_counted fO_countedCase gO_goalNumber gO_goalScale fO_start_x62 fO_column fO_chosen_x12 ++ (WM hM aM kM iM_stands iM_variables iM_rows iM_goals iM_differents iM_cases fM_from fM_to fM_whole fM_ways iM_plainRows fM_plainRow fM_kept fM_goalOver fM_goalUnder fM_goalMax fM_different ++ (WQ hQ aQ kQ hw fQ_inside fQ_outside fQ_shut iQ_rows iQ_allRows iQ_columns ++ (WW nW hw lw kw wl wb wG)))) → va_S A s.heap H locs → lv_has ls 5 [(3, .int l3_x62), (2, .int l2_x62), (0, .ref (hO 0)), (1, .int p1)] → W p l e _ s m _ below meth c H locs 0 0 _ (F0 m 62 ls [])) => loop (9) fO_start (iI (iM_variables.toInt - 1)) l2_x12 _ _ _ (iI_rng (Int.le_trans (by decide) (Int.sub_le_sub (b_iM_variables.1) (Int.le_refl _))) (Int.le_trans (Int.sub_le_sub (b_iM_variables.2) (Int.le_refl _)) (by decide)) (by decide) (by decide)) (b_l2_x12) ((by have e9 : ((iI (iM_variables.toInt - 1))).toInt = (iM_variables.toInt - 1) := (iI_t (Int.le_trans (by decide) (Int.sub_le_sub (b_iM_variables.1) (Int.le_refl _))) (Int.le_trans (Int.sub_le_sub (b_iM_variables.2) (Int.le_refl _)) (by decide))); omega)) hP hD hS hl) ?_
      intro n9
      induction n9 with
      | zero => intro fO_start_x62 l3_x62 l2_x62 H locs ls b_l3_x62 b_l2_x62 hf9; exact False.elim (by omega)
      | succ n9 ihx62 =>
        intro fO_start_x62 l3_x62 l2_x62 H locs ls b_l3_x62 b_l2_x62 hfx62 hP hD hS hl
        refine lv_iload_n hx hb dX5_choose_62 rfl (lv_at hl 0 rfl) ?_
        refine lv_if_lt (tgt := 141) hx hb dX5_choose_63 (by decide) (fun c_63 => ?_) (fun c_63 => ?_)
        · have t_63 : l3_x62.toInt < 0 := toI_lt c_63 rfl (by decide : (0 : Int32).toInt = 0)
          refine lv_aload_n hx hb dX5_choose_141 rfl (lv_at hl 2 rfl) ?_
          have hFc := allFree hD hS hA
          refine va_calli (va_runV (As := []) (rest := []) ⟨hx, hb, hml, hown, hts⟩ (m_X5_allDiffer l dC dI hO aO kO hM hQ hw iO_answered iO_searched iO_searchedRelaxed iO_counted fO_countedCase gO_goalNumber gO_goalScale fO_start_x62 fO_column fO_chosen_x12 aM kM iM_stands iM_variables iM_rows iM_goals iM_differents iM_cases fM_from fM_to fM_whole fM_ways iM_plainRows fM_plainRow fM_kept fM_goalOver fM_goalUnder fM_goalMax fM_different aQ kQ fQ_inside fQ_outside fQ_shut iQ_rows iQ_allRows iQ_columns nW lw kw wl wb wG (b_iO_answered) (b_iO_searched) (b_iO_searchedRelaxed) (b_iO_counted) b_fO_countedCase b_fO_column b_fO_chosen_x12 (b_iM_stands) (b_iM_variables) (b_iM_rows) (b_iM_goals) (b_iM_differents) (b_iM_cases) b_fM_ways (b_iM_plainRows) b_fM_plainRow (by first | with_reducible assumption | omega | assumption) (b_iQ_rows) (b_iQ_allRows) (b_iQ_columns) (by first | with_reducible assumption | omega | assumption) b_wl b_wb (by omega) H.size) (cwV 0 hts gwsMX5_choose_1 rfl rfl rfl hd_yX5_allDiffer_RX5 (by decide +kernel)) (fz_pre (va_recv hK hP (ci := 5) (q0 := 0) rfl rfl) hP hK hD) rfl rfl hl.1 rfl (lv_room (Nat.le_of_ble_eq_true rfl)) dX5_choose_142 (by decide +kernel)) hS (fun q _ h => hFc q h) hFc (fun r361 u t9_ H locs ht hvm hw9 hB9 hz1 hk1 hS => ?_)
          have b_r361 := hw9
          try dsimp only at b_r361
          have hP : va_P (dC, dI) vwCl (WO hO aO kO hM hQ hw iO_answered iO_searched iO_searchedRelaxed iO_counted fO_countedCase gO_goalNumber gO_goalScale fO_start_x62 fO_column fO_chosen_x12 ++ (WM hM aM kM iM_stands iM_variables iM_rows iM_goals iM_differents iM_cases fM_from fM_to fM_whole fM_ways iM_plainRows fM_plainRow fM_kept fM_goalOver fM_goalUnder fM_goalMax fM_different ++ (WQ hQ aQ kQ hw fQ_inside fQ_outside fQ_shut iQ_rows iQ_allRows iQ_columns ++ (WW nW hw lw kw wl wb wG)))) H := fz_P ht hB9.1
          have hD := fz_sd hP (hB9.2.weaken (fun _ q _ h => hFc q.1 h)) rfl
          refine W.widen (k := 0) (n := 0) (by decide +kernel) (by decide +kernel) ?_
          exact W.zret (v := r361) hx hb hr (by rcases z01 (x := r361) (by first | exact b_r361 | with_reducible assumption | exact ⟨by omega, by omega⟩ | assumption) with h9 | h9 <;> rw [h9] <;> rfl) (fun t9_ ht hW => ⟨⟨r361, (fO_start_x62, fO_chosen_x12), rfl, ⟨b_fO_chosen_x12, (by first | exact b_r361 | with_reducible assumption | exact ⟨by omega, by omega⟩ | assumption)⟩, by rw [ht]; exact hP, hD⟩, hS.F ht⟩) hS.2.2 dX5_choose_145
        · have t_63 : ¬ l3_x62.toInt < 0 := toI_nlt c_63 rfl (by decide : (0 : Int32).toInt = 0)
          refine lv_aload_n hx hb dX5_choose_66 rfl (lv_at hl 2 rfl) ?_
          refine va_get (D := (dC, dI)) (ci := 5) (v := .ref (hM 0)) (C := RX5) (T := TX5) (N := 19) hx hb hts iwsMX5_choose_in5 hown hK hP 0 rfl rfl 0 (by decide) (hts _ hm_m_X5_choose_0) (fun _ h9 => h9) rfl dX5_choose_67 ?_
          refine va_get (D := (dC, dI)) (ci := 1) (v := .ref (aM 2)) (C := RX1) (T := TX1) (N := 17) hx hb hts iwsMX5_choose_in1 hown hK hP 11 rfl rfl 8 (by decide) (hts (.fieldLink RX5 143 "OptimaWorks$Model" "whole" "[Z") (by decide +kernel)) (fun _ h9 => h9) rfl dX5_choose_70 ?_
          refine lv_iload_n hx hb dX5_choose_73 rfl (lv_at hl 0 rfl) ?_
          refine va_zald (cA := kM 2) (n := 8) (f := fM_whole) hx hb hK hP 14 12 rfl rfl (vp_in_iff.mpr ⟨(by omega), (Int.lt_of_le_of_lt (b_l3_x62.2) (by decide))⟩) dX5_choose_74 ?_
          refine lv_topi (fun v362 hv362 => ?_)
          clear hv362
          refine W.cut (pc := 135) (fun H locs ls stk => ∃ (fO_start_j36 : Nat → Int32) (l2_j36 : Int32), (0 ≤ l2_j36.toInt ∧ l2_j36.toInt ≤ 200000) ∧  stk = [] ∧ va_P (dC, dI) vwCl (WO hO aO kO hM hQ hw iO_answered iO_searched iO_searchedRelaxed iO_counted fO_countedCase gO_goalNumber gO_goalScale fO_start_j36 fO_column fO_chosen_x12 ++ (WM hM aM kM iM_stands iM_variables iM_rows iM_goals iM_differents iM_cases fM_from fM_to fM_whole fM_ways iM_plainRows fM_plainRow fM_kept fM_goalOver fM_goalUnder fM_goalMax fM_different ++ (WQ hQ aQ kQ hw fQ_inside fQ_outside fQ_shut iQ_rows iQ_allRows iQ_columns ++ (WW nW hw lw kw wl wb wG)))) H ∧ va_D A (WO hO aO kO hM hQ hw iO_answered iO_searched iO_searchedRelaxed iO_counted fO_countedCase gO_goalNumber gO_goalScale fO_start_j36 fO_column fO_chosen_x12 ++ (WM hM aM kM iM_stands iM_variables iM_rows iM_goals iM_differents iM_cases fM_from fM_to fM_whole fM_ways iM_plainRows fM_plainRow fM_kept fM_goalOver fM_goalUnder fM_goalMax fM_different ++ (WQ hQ aQ kQ hw fQ_inside fQ_outside fQ_shut iQ_rows iQ_allRows iQ_columns ++ (WW nW hw lw kw wl wb wG)))) ∧ va_S A s.heap H locs ∧ lv_has ls 5 [(3, .int l3_x62), (2, .int l2_j36), (0, .ref (hO 0)), (1, .int p1)]) (fun join36 => ?_) ?_
          · refine lv_if_eq (tgt := 120) hx hb dX5_choose_75 (by decide) (fun c_75 => ?_) (fun c_75 => ?_)
            · have t_75 : v362.toInt = 0 := toI_eq c_75 rfl (by decide : (0 : Int32).toInt = 0)
              refine lv_aload_n hx hb dX5_choose_120 rfl (lv_at hl 2 rfl) ?_
              refine va_get (D := (dC, dI)) (ci := 5) (v := .ref (aO 3)) (C := RX5) (T := TX5) (N := 19) hx hb hts iwsMX5_choose_in5 hown hK hP 0 rfl rfl 9 (by decide) (hts _ hm_m_X5_choose_1) (fun _ h9 => h9) rfl dX5_choose_121 ?_
              refine lv_iload_n hx hb dX5_choose_124 rfl (lv_at hl 0 rfl) ?_
              refine lv_aload_n hx hb dX5_choose_125 rfl (lv_at hl 2 rfl) ?_
              refine va_get (D := (dC, dI)) (ci := 5) (v := .ref (hM 0)) (C := RX5) (T := TX5) (N := 19) hx hb hts iwsMX5_choose_in5 hown hK hP 0 rfl rfl 0 (by decide) (hts _ hm_m_X5_choose_0) (fun _ h9 => h9) rfl dX5_choose_126 ?_
              refine va_get (D := (dC, dI)) (ci := 1) (v := .ref (aM 0)) (C := RX1) (T := TX1) (N := 17) hx hb hts iwsMX5_choose_in1 hown hK hP 11 rfl rfl 6 (by decide) (hts _ hm_m_X5_choose_2) (fun _ h9 => h9) rfl dX5_choose_129 ?_
              refine lv_iload_n hx hb dX5_choose_132 rfl (lv_at hl 0 rfl) ?_
              refine va_iald (cA := kM 0) (n := 8) (f := fM_from) hx hb hK hP 12 10 rfl rfl (vp_in_iff.mpr ⟨(by omega), (Int.lt_of_le_of_lt (b_l3_x62.2) (by decide))⟩) dX5_choose_133 ?_
              refine lv_topi (fun v372 hv372 => ?_)
              clear hv372
              refine va_iast (cA := kO 3) (n := 8) (f := fO_start_x62) hx hb hK hP hD hS 4 3 rfl rfl (vp_in_iff.mpr ⟨(by omega), (Int.lt_of_le_of_lt (b_l3_x62.2) (by decide))⟩) dX5_choose_134 (fun H locs hP hD hS => ?_)
              obtain ⟨u373, hu373⟩ : ∃ f9, f9 = upd fO_start_x62 (l3_x62).toNatClampNeg v372 := ⟨_, rfl⟩
              have hP : va_P (dC, dI) vwCl (WO hO aO kO hM hQ hw iO_answered iO_searched iO_searchedRelaxed iO_counted fO_countedCase gO_goalNumber gO_goalScale u373 fO_column fO_chosen_x12 ++ (WM hM aM kM iM_stands iM_variables iM_rows iM_goals iM_differents iM_cases fM_from fM_to fM_whole fM_ways iM_plainRows fM_plainRow fM_kept fM_goalOver fM_goalUnder fM_goalMax fM_different ++ (WQ hQ aQ kQ hw fQ_inside fQ_outside fQ_shut iQ_rows iQ_allRows iQ_columns ++ (WW nW hw lw kw wl wb wG)))) H := by rw [hu373]; exact hP
              have hD : va_D A (WO hO aO kO hM hQ hw iO_answered iO_searched iO_searchedRelaxed iO_counted fO_countedCase gO_goalNumber gO_goalScale u373 fO_column fO_chosen_x12 ++ (WM hM aM kM iM_stands iM_variables iM_rows iM_goals iM_differents iM_cases fM_from fM_to fM_whole fM_ways iM_plainRows fM_plainRow fM_kept fM_goalOver fM_goalUnder fM_goalMax fM_different ++ (WQ hQ aQ kQ hw fQ_inside fQ_outside fQ_shut iQ_rows iQ_allRows iQ_columns ++ (WW nW hw lw kw wl wb wG)))) := by rw [hu373]; exact hD
              clear hu373
              have hl : lv_has _ _ ([(3, .int l3_x62), (2, .int l2_x62), (0, .ref (hO 0)), (1, .int p1)]) := lv_sub hl [0, 1, 2, 3] rfl
              exact join36 _ _ _ _ ⟨u373, l2_x62, (b_l2_x62), rfl, hP, hD, hS, hl⟩
            · have t_75 : ¬ v362.toInt = 0 := toI_neq c_75 rfl (by decide : (0 : Int32).toInt = 0)
              refine lv_iconst (v := 1) hx hb dX5_choose_78 (by decide) ?_
              refine lv_aload_n hx hb dX5_choose_79 rfl (lv_at hl 2 rfl) ?_
              refine va_get (D := (dC, dI)) (ci := 5) (v := .ref (hM 0)) (C := RX5) (T := TX5) (N := 19) hx hb hts iwsMX5_choose_in5 hown hK hP 0 rfl rfl 0 (by decide) (hts _ hm_m_X5_choose_0) (fun _ h9 => h9) rfl dX5_choose_80 ?_
              refine lv_iload_n hx hb dX5_choose_83 rfl (lv_at hl 0 rfl) ?_
              have p9 := cj_4_1 (WO hO aO kO hM hQ hw iO_answered iO_searched iO_searchedRelaxed iO_counted fO_countedCase gO_goalNumber gO_goalScale fO_start_x62 fO_column fO_chosen_x12) (WM hM aM kM iM_stands iM_variables iM_rows iM_goals iM_differents iM_cases fM_from fM_to fM_whole fM_ways iM_plainRows fM_plainRow fM_kept fM_goalOver fM_goalUnder fM_goalMax fM_different) (WQ hQ aQ kQ hw fQ_inside fQ_outside fQ_shut iQ_rows iQ_allRows iQ_columns) (WW nW hw lw kw wl wb wG)
              have hPc := hP.mem (fun q h => p9.mem_iff.mpr (List.mem_append_left _ h))
              have hDc := (hD.perm p9).left
              have hKc : va_K (dC, dI) vwCl (tM kM) _ := hK.sub [10, 11, 12, 13, 14, 15, 16, 17, 18, 19] rfl
              have hFc := freeG p9 hD hS hA
              refine va_calli (va_runV (As := [.int l3_x62]) (rest := [.int 1]) ⟨hx, hb, hml, hown, hts⟩ (m_X1_range l dC dI hM aM kM iM_stands iM_variables iM_rows iM_goals iM_differents iM_cases fM_from fM_to fM_whole fM_ways iM_plainRows fM_plainRow fM_kept fM_goalOver fM_goalUnder fM_goalMax fM_different l3_x62 (b_iM_stands) (b_iM_variables) (b_iM_rows) (b_iM_goals) (b_iM_differents) (b_iM_cases) b_fM_ways (b_iM_plainRows) b_fM_plainRow (by first | with_reducible assumption | omega | assumption) (by first | exact b_l3_x62 | with_reducible assumption | exact ⟨by omega, by omega⟩ | assumption) H.size) (cwV 1 hts gwsMX5_choose_0 rfl rfl rfl hd_yX1_range_RX1 (by decide +kernel)) (fz_pre (va_recv hK hP (ci := 1) (q0 := 11) rfl rfl) hPc hKc hDc) rfl rfl hl.1 rfl (lv_room (Nat.le_of_ble_eq_true rfl)) dX5_choose_84 (by decide +kernel)) hS (fun q _ h => hFc q h) hFc (fun r374 u t9_ H locs ht hvm hw9 hB9 hz1 hk1 hS => ?_)
              clear hw9
              have p8 := p9
              obtain ⟨hP, hD⟩ := frameG p9 p8 hP hD hk1 hFc (fz_P ht hB9.1) hB9.2
              refine va_mmax hx hb (by rw [hml]; exact hl.1.symm) hown (hts _ hm_m_X5_choose_3) (hts _ hm_m_X5_choose_4) (hts _ hm_m_X5_choose_5) (hts _ hm_m_X5_choose_6) (by decide +kernel) (Nat.le_of_ble_eq_true rfl) (by decide +kernel) (by decide +kernel) dX5_choose_87 ?_
              refine lv_topi (fun v375 hv375 => ?_)
              have b_v375 : (1 ≤ v375.toInt ∧ r374.toInt ≤ v375.toInt) ∧ (v375.toInt = 1 ∨ v375.toInt = r374.toInt) := by rw [hv375]; exact max_t (by decide : (1 : Int32).toInt = 1) rfl
              clear hv375
              refine lv_istore hx hb dX5_choose_90 hl (by decide) rfl (fun ls (hl : lv_has ls _ ([(4, .int v375), (3, .int l3_x62), (2, .int l2_x62), (0, .ref (hO 0)), (1, .int p1)])) => ?_)
              refine lv_aload_n hx hb dX5_choose_92 rfl (lv_at hl 3 rfl) ?_
              refine va_get (D := (dC, dI)) (ci := 5) (v := .ref (aO 3)) (C := RX5) (T := TX5) (N := 19) hx hb hts iwsMX5_choose_in5 hown hK hP 0 rfl rfl 9 (by decide) (hts _ hm_m_X5_choose_1) (fun _ h9 => h9) rfl dX5_choose_93 ?_
              refine lv_iload_n hx hb dX5_choose_96 rfl (lv_at hl 1 rfl) ?_
              refine lv_aload_n hx hb dX5_choose_97 rfl (lv_at hl 3 rfl) ?_
              refine va_get (D := (dC, dI)) (ci := 5) (v := .ref (hM 0)) (C := RX5) (T := TX5) (N := 19) hx hb hts iwsMX5_choose_in5 hown hK hP 0 rfl rfl 0 (by decide) (hts _ hm_m_X5_choose_0) (fun _ h9 => h9) rfl dX5_choose_98 ?_
              refine va_get (D := (dC, dI)) (ci := 1) (v := .ref (aM 0)) (C := RX1) (T := TX1) (N := 17) hx hb hts iwsMX5_choose_in1 hown hK hP 11 rfl rfl 6 (by decide) (hts _ hm_m_X5_choose_2) (fun _ h9 => h9) rfl dX5_choose_101 ?_
              refine lv_iload_n hx hb dX5_choose_104 rfl (lv_at hl 1 rfl) ?_
              refine va_iald (cA := kM 0) (n := 8) (f := fM_from) hx hb hK hP 12 10 rfl rfl (vp_in_iff.mpr ⟨(by omega), (Int.lt_of_le_of_lt (b_l3_x62.2) (by decide))⟩) dX5_choose_105 ?_
              refine lv_topi (fun v376 hv376 => ?_)
              clear hv376
              refine lv_iload_n hx hb dX5_choose_106 rfl (lv_at hl 2 rfl) ?_
              refine lv_iload hx hb dX5_choose_107 (lv_at hl 0 rfl) ?_
              refine lv_irem hx hb dX5_choose_109 (nz_i (x := v375) rfl (by omega)) ?_
              refine lv_topi (fun v377 hv377 => ?_)
              have b_v377 : 0 ≤ v377.toInt ∧ v377.toInt < v375.toInt := by rw [hv377]; exact irem_r rfl rfl (by omega) (by omega)
              clear hv377
              refine lv_iadd hx hb dX5_choose_110 ?_
              refine lv_topi (fun y378 hy378 => ?_)
              obtain rfl : (iI (v376.toInt + v377.toInt)) = y378 := (hy378.trans (iI_add2 (iI_of _) (iI_of _))).symm
              refine va_iast (cA := kO 3) (n := 8) (f := fO_start_x62) hx hb hK hP hD hS 4 3 rfl rfl (vp_in_iff.mpr ⟨(by omega), (Int.lt_of_le_of_lt (b_l3_x62.2) (by decide))⟩) dX5_choose_111 (fun H locs hP hD hS => ?_)
              obtain ⟨u379, hu379⟩ : ∃ f9, f9 = upd fO_start_x62 (l3_x62).toNatClampNeg (iI (v376.toInt + v377.toInt)) := ⟨_, rfl⟩
              have hP : va_P (dC, dI) vwCl (WO hO aO kO hM hQ hw iO_answered iO_searched iO_searchedRelaxed iO_counted fO_countedCase gO_goalNumber gO_goalScale u379 fO_column fO_chosen_x12 ++ (WM hM aM kM iM_stands iM_variables iM_rows iM_goals iM_differents iM_cases fM_from fM_to fM_whole fM_ways iM_plainRows fM_plainRow fM_kept fM_goalOver fM_goalUnder fM_goalMax fM_different ++ (WQ hQ aQ kQ hw fQ_inside fQ_outside fQ_shut iQ_rows iQ_allRows iQ_columns ++ (WW nW hw lw kw wl wb wG)))) H := by rw [hu379]; exact hP
              have hD : va_D A (WO hO aO kO hM hQ hw iO_answered iO_searched iO_searchedRelaxed iO_counted fO_countedCase gO_goalNumber gO_goalScale u379 fO_column fO_chosen_x12 ++ (WM hM aM kM iM_stands iM_variables iM_rows iM_goals iM_differents iM_cases fM_from fM_to fM_whole fM_ways iM_plainRows fM_plainRow fM_kept fM_goalOver fM_goalUnder fM_goalMax fM_different ++ (WQ hQ aQ kQ hw fQ_inside fQ_outside fQ_shut iQ_rows iQ_allRows iQ_columns ++ (WW nW hw lw kw wl wb wG)))) := by rw [hu379]; exact hD
              clear hu379
              refine lv_iload_n hx hb dX5_choose_112 rfl (lv_at hl 2 rfl) ?_
              refine lv_iload hx hb dX5_choose_113 (lv_at hl 0 rfl) ?_
              refine lv_idiv hx hb dX5_choose_115 (nz_i (x := v375) rfl (by omega)) ?_
              refine lv_topi (fun v380 hv380 => ?_)
              have b_v380 : 0 ≤ v380.toInt ∧ v380.toInt ≤ l2_x62.toInt := by rw [hv380]; exact idiv_r rfl rfl (by omega) (by omega)
              clear hv380
              refine lv_istore_n hx hb dX5_choose_116 rfl hl (by decide) rfl (fun ls (hl : lv_has ls _ ([(2, .int v380), (4, .int v375), (3, .int l3_x62), (0, .ref (hO 0)), (1, .int p1)])) => ?_)
              refine lv_goto (tgt := 135) hx hb dX5_choose_117 (by decide) ?_
              have hl : lv_has _ _ ([(3, .int l3_x62), (2, .int v380), (0, .ref (hO 0)), (1, .int p1)]) := lv_sub hl [2, 0, 3, 4] rfl
              exact join36 _ _ _ _ ⟨u379, v380, (by first | exact b_v380 | with_reducible assumption | exact ⟨by omega, by omega⟩ | assumption), rfl, hP, hD, hS, hl⟩
          · intro H locs ls stk
            refine fz_e2 ?_
            intro fO_start_j36 l2_j36
            refine fz_a6 ?_
            intro b_l2_j36 hst9_1 hP hD hS hl
            subst hst9_1
            refine lv_iinc (v := (iI (l3_x62.toInt + (-1)))) hx hb dX5_choose_135 hl (k := 0) rfl (iI_add2 (iI_of _) (by decide : ((-1) : Int32) = iI (-1))) (by decide) rfl (fun ls (hl : lv_has ls _ ([(3, .int (iI (l3_x62.toInt + (-1)))), (2, .int l2_j36), (0, .ref (hO 0)), (1, .int p1)])) => ?_)
            refine lv_goto (tgt := 62) hx hb dX5_choose_138 (by decide) ?_
            have hl : lv_has _ _ ([(3, .int (iI (l3_x62.toInt + (-1)))), (2, .int l2_j36), (0, .ref (hO 0)), (1, .int p1)]) := lv_sub hl [0, 1, 2, 3] rfl
            exact ihx62 fO_start_j36 (iI (l3_x62.toInt + (-1))) l2_j36 _ _ _ (iI_rng (by omega) (Int.le_trans (Int.add_le_add (b_l3_x62.2) (Int.le_refl _)) (by decide)) (by decide) (by decide)) (b_l2_j36) (by have e9 : ((iI (l3_x62.toInt + (-1)))).toInt = (l3_x62.toInt + (-1)) := (iI_t (Int.le_trans (by decide) (Int.add_le_add (b_l3_x62.1) (Int.le_refl _))) (Int.le_trans (Int.add_le_add (b_l3_x62.2) (Int.le_refl _)) (by decide))); omega) hP hD hS hl
    · have t_13 : ¬ l3_x12.toInt < 0 := toI_nlt c_13 rfl (by decide : (0 : Int32).toInt = 0)
      refine lv_iconst (v := 1) hx hb dX5_choose_16 (by decide) ?_
      refine lv_aload_n hx hb dX5_choose_17 rfl (lv_at hl 2 rfl) ?_
      refine va_get (D := (dC, dI)) (ci := 5) (v := .ref (hM 0)) (C := RX5) (T := TX5) (N := 19) hx hb hts iwsMX5_choose_in5 hown hK hP 0 rfl rfl 0 (by decide) (hts _ hm_m_X5_choose_0) (fun _ h9 => h9) rfl dX5_choose_18 ?_
      refine va_get (D := (dC, dI)) (ci := 1) (v := .ref (aM 3)) (C := RX1) (T := TX1) (N := 17) hx hb hts iwsMX5_choose_in1 hown hK hP 11 rfl rfl 9 (by decide) (hts (.fieldLink RX5 134 "OptimaWorks$Model" "ways" "[I") (by decide +kernel)) (fun _ h9 => h9) rfl dX5_choose_21 ?_
      refine lv_iload_n hx hb dX5_choose_24 rfl (lv_at hl 0 rfl) ?_
      refine va_iald (cA := kM 3) (n := 12) (f := fM_ways) hx hb hK hP 15 13 rfl rfl (vp_in_iff.mpr ⟨(by omega), (Int.lt_of_le_of_lt (b_l3_x12.2) (by decide))⟩) dX5_choose_25 ?_
      refine lv_topi (fun v381 hv381 => ?_)
      have b_v381 : 0 ≤ v381.toInt ∧ v381.toInt ≤ 3 := by rw [hv381]; exact b_fM_ways _
      clear hv381
      refine va_mmax hx hb (by rw [hml]; exact hl.1.symm) hown (hts _ hm_m_X5_choose_3) (hts _ hm_m_X5_choose_4) (hts _ hm_m_X5_choose_5) (hts _ hm_m_X5_choose_6) (by decide +kernel) (Nat.le_of_ble_eq_true rfl) (by decide +kernel) (by decide +kernel) dX5_choose_26 ?_
      refine lv_topi (fun v382 hv382 => ?_)
      have b_v382 : (1 ≤ v382.toInt ∧ v381.toInt ≤ v382.toInt) ∧ (v382.toInt = 1 ∨ v382.toInt = v381.toInt) := by rw [hv382]; exact max_t (by decide : (1 : Int32).toInt = 1) rfl
      clear hv382
      refine lv_istore hx hb dX5_choose_29 hl (by decide) rfl (fun ls (hl : lv_has ls _ ([(4, .int v382), (3, .int l3_x12), (2, .int l2_x12), (0, .ref (hO 0)), (1, .int p1)])) => ?_)
      refine lv_aload_n hx hb dX5_choose_31 rfl (lv_at hl 3 rfl) ?_
      refine va_get (D := (dC, dI)) (ci := 5) (v := .ref (aO 5)) (C := RX5) (T := TX5) (N := 19) hx hb hts iwsMX5_choose_in5 hown hK hP 0 rfl rfl 11 (by decide) (hts (.fieldLink RX5 41 "OptimaWorks$Solver" "chosen" "[I") (by decide +kernel)) (fun _ h9 => h9) rfl dX5_choose_32 ?_
      refine lv_iload_n hx hb dX5_choose_35 rfl (lv_at hl 1 rfl) ?_
      refine lv_iload_n hx hb dX5_choose_36 rfl (lv_at hl 2 rfl) ?_
      refine lv_iload hx hb dX5_choose_37 (lv_at hl 0 rfl) ?_
      refine lv_irem hx hb dX5_choose_39 (nz_i (x := v382) rfl (by omega)) ?_
      refine lv_topi (fun v383 hv383 => ?_)
      have b_v383 : 0 ≤ v383.toInt ∧ v383.toInt < v382.toInt := by rw [hv383]; exact irem_r rfl rfl (by omega) (by omega)
      clear hv383
      refine va_iast (cA := kO 5) (n := 12) (f := fO_chosen_x12) hx hb hK hP hD hS 6 5 rfl rfl (vp_in_iff.mpr ⟨(by omega), (Int.lt_of_le_of_lt (b_l3_x12.2) (by decide))⟩) dX5_choose_40 (fun H locs hP hD hS => ?_)
      obtain ⟨u384, hu384⟩ : ∃ f9, f9 = upd fO_chosen_x12 (l3_x12).toNatClampNeg v383 := ⟨_, rfl⟩
      have hP : va_P (dC, dI) vwCl (WO hO aO kO hM hQ hw iO_answered iO_searched iO_searchedRelaxed iO_counted fO_countedCase gO_goalNumber gO_goalScale fO_start fO_column u384 ++ (WM hM aM kM iM_stands iM_variables iM_rows iM_goals iM_differents iM_cases fM_from fM_to fM_whole fM_ways iM_plainRows fM_plainRow fM_kept fM_goalOver fM_goalUnder fM_goalMax fM_different ++ (WQ hQ aQ kQ hw fQ_inside fQ_outside fQ_shut iQ_rows iQ_allRows iQ_columns ++ (WW nW hw lw kw wl wb wG)))) H := by rw [hu384]; exact hP
      have hD : va_D A (WO hO aO kO hM hQ hw iO_answered iO_searched iO_searchedRelaxed iO_counted fO_countedCase gO_goalNumber gO_goalScale fO_start fO_column u384 ++ (WM hM aM kM iM_stands iM_variables iM_rows iM_goals iM_differents iM_cases fM_from fM_to fM_whole fM_ways iM_plainRows fM_plainRow fM_kept fM_goalOver fM_goalUnder fM_goalMax fM_different ++ (WQ hQ aQ kQ hw fQ_inside fQ_outside fQ_shut iQ_rows iQ_allRows iQ_columns ++ (WW nW hw lw kw wl wb wG)))) := by rw [hu384]; exact hD
      have b_u384 : ∀ q : Nat, 0 ≤ (u384 q).toInt ∧ (u384 q).toInt ≤ 2 := by rw [hu384]; exact upd_r b_fO_chosen_x12 (by first | exact b_v383 | with_reducible assumption | exact ⟨by omega, by omega⟩ | assumption)
      clear hu384
      refine lv_iload_n hx hb dX5_choose_41 rfl (lv_at hl 2 rfl) ?_
      refine lv_iload hx hb dX5_choose_42 (lv_at hl 0 rfl) ?_
      refine lv_idiv hx hb dX5_choose_44 (nz_i (x := v382) rfl (by omega)) ?_
      refine lv_topi (fun v385 hv385 => ?_)
      have b_v385 : 0 ≤ v385.toInt ∧ v385.toInt ≤ l2_x12.toInt := by rw [hv385]; exact idiv_r rfl rfl (by omega) (by omega)
      clear hv385
      refine lv_istore_n hx hb dX5_choose_45 rfl hl (by decide) rfl (fun ls (hl : lv_has ls _ ([(2, .int v385), (4, .int v382), (3, .int l3_x12), (0, .ref (hO 0)), (1, .int p1)])) => ?_)
      refine lv_iinc (v := (iI (l3_x12.toInt + (-1)))) hx hb dX5_choose_46 hl (k := 2) rfl (iI_add2 (iI_of _) (by decide : ((-1) : Int32) = iI (-1))) (by decide) rfl (fun ls (hl : lv_has ls _ ([(3, .int (iI (l3_x12.toInt + (-1)))), (2, .int v385), (4, .int v382), (0, .ref (hO 0)), (1, .int p1)])) => ?_)
      refine lv_goto (tgt := 12) hx hb dX5_choose_49 (by decide) ?_
      have hl : lv_has _ _ ([(3, .int (iI (l3_x12.toInt + (-1)))), (2, .int v385), (0, .ref (hO 0)), (1, .int p1)]) := lv_sub hl [0, 1, 3, 4] rfl
      exact ihx12 u384 (iI (l3_x12.toInt + (-1))) v385 _ _ _ b_u384 (iI_rng (by omega) (Int.le_trans (Int.add_le_add (b_l3_x12.2) (Int.le_refl _)) (by decide)) (by decide) (by decide)) (by first | exact b_v385 | with_reducible assumption | exact ⟨by omega, by omega⟩ | assumption) (by have e9 : ((iI (l3_x12.toInt + (-1)))).toInt = (l3_x12.toInt + (-1)) := (iI_t (Int.le_trans (by decide) (Int.add_le_add (b_l3_x12.1) (Int.le_refl _))) (Int.le_trans (Int.add_le_add (b_l3_x12.2) (Int.le_refl _)) (by decide))); omega) hP hD hS hl
theorem dX5_addTimes_0 : decode cX5_addTimes 0 = .ok (.lload_n 3, 1) := dk_33 (by decide +kernel)
theorem dX5_addTimes_1 : decode cX5_addTimes 1 = .ok (.lconst 0, 1) := dk_9 (by decide +kernel)
theorem dX5_addTimes_2 : decode cX5_addTimes 2 = .ok (.lcmp, 1) := dk_148 (by decide +kernel)
theorem dX5_addTimes_3 : decode cX5_addTimes 3 = .ok (.ifCond .ne 4, 3) := dk_154 (by decide +kernel)
theorem dX5_addTimes_6 : decode cX5_addTimes 6 = .ok (.return_, 1) := dk_177 (by decide +kernel)
theorem dX5_addTimes_7 : decode cX5_addTimes 7 = .ok (.aload_n 0, 1) := dk_42 (by decide +kernel)
theorem dX5_addTimes_8 : decode cX5_addTimes 8 = .ok (.getfield 71, 3) := dk_180 (by decide +kernel)
theorem dX5_addTimes_11 : decode cX5_addTimes 11 = .ok (.iconst 2, 1) := dk_5 (by decide +kernel)
theorem dX5_addTimes_12 : decode cX5_addTimes 12 = .ok (.aaload, 1) := dk_50 (by decide +kernel)
theorem dX5_addTimes_13 : decode cX5_addTimes 13 = .ok (.lload_n 3, 1) := dk_33 (by decide +kernel)
theorem dX5_addTimes_14 : decode cX5_addTimes 14 = .ok (.invokevirtual 184, 3) := dk_182 (by decide +kernel)
theorem dX5_addTimes_17 : decode cX5_addTimes 17 = .ok (.aload_n 0, 1) := dk_42 (by decide +kernel)
theorem dX5_addTimes_18 : decode cX5_addTimes 18 = .ok (.getfield 71, 3) := dk_180 (by decide +kernel)
theorem dX5_addTimes_21 : decode cX5_addTimes 21 = .ok (.iconst 3, 1) := dk_6 (by decide +kernel)
theorem dX5_addTimes_22 : decode cX5_addTimes 22 = .ok (.aaload, 1) := dk_50 (by decide +kernel)
theorem dX5_addTimes_23 : decode cX5_addTimes 23 = .ok (.aload_n 2, 1) := dk_44 (by decide +kernel)
theorem dX5_addTimes_24 : decode cX5_addTimes 24 = .ok (.aload_n 0, 1) := dk_42 (by decide +kernel)
theorem dX5_addTimes_25 : decode cX5_addTimes 25 = .ok (.getfield 71, 3) := dk_180 (by decide +kernel)
theorem dX5_addTimes_28 : decode cX5_addTimes 28 = .ok (.iconst 2, 1) := dk_5 (by decide +kernel)
theorem dX5_addTimes_29 : decode cX5_addTimes 29 = .ok (.aaload, 1) := dk_50 (by decide +kernel)
theorem dX5_addTimes_30 : decode cX5_addTimes 30 = .ok (.invokevirtual 249, 3) := dk_182 (by decide +kernel)
theorem dX5_addTimes_33 : decode cX5_addTimes 33 = .ok (.aload_n 1, 1) := dk_43 (by decide +kernel)
theorem dX5_addTimes_34 : decode cX5_addTimes 34 = .ok (.aload_n 0, 1) := dk_42 (by decide +kernel)
theorem dX5_addTimes_35 : decode cX5_addTimes 35 = .ok (.getfield 71, 3) := dk_180 (by decide +kernel)
theorem dX5_addTimes_38 : decode cX5_addTimes 38 = .ok (.iconst 3, 1) := dk_6 (by decide +kernel)
theorem dX5_addTimes_39 : decode cX5_addTimes 39 = .ok (.aaload, 1) := dk_50 (by decide +kernel)
theorem dX5_addTimes_40 : decode cX5_addTimes 40 = .ok (.invokevirtual 259, 3) := dk_182 (by decide +kernel)
theorem dX5_addTimes_43 : decode cX5_addTimes 43 = .ok (.return_, 1) := dk_177 (by decide +kernel)
def wsMX5_addTimes : List Cond := .code yX5_addTimes cX5_addTimes 5 none :: ([.fieldLink RX5 71 "OptimaWorks$Solver" "spare" "[LOptimaWorks$Whole;"] ++ wsX50 ++ (wsV RX5 184 RX8 yX8_setLong wsMX8_setLong) ++ (wsV RX5 249 RX8 yX8_setProduct wsMX8_setProduct) ++ (wsV RX5 259 RX8 yX8_add wsMX8_add))
theorem iwsMX5_addTimes_in5 : ∀ w ∈ wsX50, w ∈ wsMX5_addTimes := fun _ h => List.mem_cons_of_mem _ (List.mem_append_left _ (List.mem_append_left _ (List.mem_append_left _ (List.mem_append_right _ h))))
theorem gwsMX5_addTimes_0 : GoodIn wsMX5_addTimes (wsV RX5 184 RX8 yX8_setLong wsMX8_setLong) := goodIn_sub (fun _ h => List.mem_cons_of_mem _ (List.mem_append_left _ (List.mem_append_left _ (List.mem_append_right _ h)))) (gdV (by decide +kernel) gdwsMX8_setLong)
theorem gwsMX5_addTimes_1 : GoodIn wsMX5_addTimes (wsV RX5 249 RX8 yX8_setProduct wsMX8_setProduct) := goodIn_sub (fun _ h => List.mem_cons_of_mem _ (List.mem_append_left _ (List.mem_append_right _ h))) (gdV (by decide +kernel) gdwsMX8_setProduct)
theorem gwsMX5_addTimes_2 : GoodIn wsMX5_addTimes (wsV RX5 259 RX8 yX8_add wsMX8_add) := goodIn_sub (fun _ h => List.mem_cons_of_mem _ (List.mem_append_right _ h)) (gdV (by decide +kernel) gdwsMX8_add)
theorem gdwsMX5_addTimes : wsMX5_addTimes.all goodWord = true := gdC rfl (gdA (gdA (gdA (gdA (by decide +kernel : ([.fieldLink RX5 71 "OptimaWorks$Solver" "spare" "[LOptimaWorks$Whole;"] : List Cond).all goodWord = true) gdwsX50) (gdV (by decide +kernel) gdwsMX8_setLong)) (gdV (by decide +kernel) gdwsMX8_setProduct)) (gdV (by decide +kernel) gdwsMX8_add))
theorem hm_m_X5_addTimes_0 : (.fieldLink RX5 71 "OptimaWorks$Solver" "spare" "[LOptimaWorks$Whole;" : Cond) ∈ wsMX5_addTimes := by decide +kernel
set_option maxHeartbeats 4000000 in
set_option maxRecDepth 100000 in
/-- times added -/
theorem m_X5_addTimes (l : Launch) (dC : Nat → ClassId) (dI : Nat → Nat → Nat) (hO : Nat → Nat) (aO : Nat → Nat) (kO : Nat → ClassId) (hM : Nat → Nat) (hQ : Nat → Nat) (hw : Nat → Nat) (iO_answered : Int32) (iO_searched : Int32) (iO_searchedRelaxed : Int32) (iO_counted : Int32) (fO_countedCase : Nat → Int32) (gO_goalNumber : Nat → Int64) (gO_goalScale : Nat → Int64) (fO_start : Nat → Int32) (fO_column : Nat → Int32) (fO_chosen : Nat → Int32) (aM : Nat → Nat) (kM : Nat → ClassId) (iM_stands : Int32) (iM_variables : Int32) (iM_rows : Int32) (iM_goals : Int32) (iM_differents : Int32) (iM_cases : Int32) (fM_from : Nat → Int32) (fM_to : Nat → Int32) (fM_whole : Nat → Int32) (fM_ways : Nat → Int32) (iM_plainRows : Int32) (fM_plainRow : Nat → Int32) (fM_kept : Nat → Int32) (fM_goalOver : Nat → Int32) (fM_goalUnder : Nat → Int32) (fM_goalMax : Nat → Int32) (fM_different : Nat → Int32) (aQ : Nat → Nat) (kQ : Nat → ClassId) (fQ_inside : Nat → Int32) (fQ_outside : Nat → Int32) (fQ_shut : Nat → Int32) (iQ_rows : Int32) (iQ_allRows : Int32) (iQ_columns : Int32) (nW : Nat) (lw : Nat → Nat) (kw : ClassId) (wl : Nat → Int32) (wb : Nat → Int32) (wG : Nat → Nat → Int64) (ka : Nat) (kb : Nat) (p3 : Int64) (b_iO_answered : 0 ≤ iO_answered.toInt ∧ iO_answered.toInt ≤ 1) (b_iO_searched : 0 ≤ iO_searched.toInt ∧ iO_searched.toInt ≤ 1) (b_iO_searchedRelaxed : 0 ≤ iO_searchedRelaxed.toInt ∧ iO_searchedRelaxed.toInt ≤ 1) (b_iO_counted : (-1) ≤ iO_counted.toInt ∧ iO_counted.toInt ≤ 64) (b_fO_countedCase : ∀ q : Nat, 0 ≤ (fO_countedCase q).toInt ∧ (fO_countedCase q).toInt ≤ 200000) (b_fO_column : ∀ q : Nat, (-1) ≤ (fO_column q).toInt ∧ (fO_column q).toInt ≤ 8) (b_fO_chosen : ∀ q : Nat, 0 ≤ (fO_chosen q).toInt ∧ (fO_chosen q).toInt ≤ 2) (b_iM_stands : 0 ≤ iM_stands.toInt ∧ iM_stands.toInt ≤ 1) (b_iM_variables : 0 ≤ iM_variables.toInt ∧ iM_variables.toInt ≤ 8) (b_iM_rows : 0 ≤ iM_rows.toInt ∧ iM_rows.toInt ≤ 12) (b_iM_goals : 0 ≤ iM_goals.toInt ∧ iM_goals.toInt ≤ 3) (b_iM_differents : 0 ≤ iM_differents.toInt ∧ iM_differents.toInt ≤ 8) (b_iM_cases : 0 ≤ iM_cases.toInt ∧ iM_cases.toInt ≤ 200000) (b_fM_ways : ∀ q : Nat, 0 ≤ (fM_ways q).toInt ∧ (fM_ways q).toInt ≤ 3) (b_iM_plainRows : 0 ≤ iM_plainRows.toInt ∧ iM_plainRows.toInt ≤ 12) (b_fM_plainRow : ∀ q : Nat, 0 ≤ (fM_plainRow q).toInt ∧ (fM_plainRow q).toInt ≤ 11) (b_pr : iM_plainRows.toInt ≤ iM_rows.toInt) (b_iQ_rows : 0 ≤ iQ_rows.toInt ∧ iQ_rows.toInt ≤ 40) (b_iQ_allRows : 0 ≤ iQ_allRows.toInt ∧ iQ_allRows.toInt ≤ 40) (b_iQ_columns : 0 ≤ iQ_columns.toInt ∧ iQ_columns.toInt ≤ 40) (b_tb : TbO iQ_rows iQ_allRows iQ_columns) (b_wl : ∀ q : Nat, 0 ≤ (wl q).toInt ∧ (wl q).toInt ≤ 14) (b_wb : ∀ q : Nat, 0 ≤ (wb q).toInt ∧ (wb q).toInt ≤ 1) (hnW : 432 ≤ nW) (hka : ka < nW) (hkb : kb < nW) (sz : Nat) : Met l yX5_addTimes wsMX5_addTimes ({ frames := 3, cells := 0, slots := 0, locals := 61 }) (va_Pc [.ref (hO 0), .ref (hw ka), .ref (hw kb), .long p3] (fun U => U.heap.size = sz ∧ va_P (dC, dI) vwCl (WO hO aO kO hM hQ hw iO_answered iO_searched iO_searchedRelaxed iO_counted fO_countedCase gO_goalNumber gO_goalScale fO_start fO_column fO_chosen ++ (WM hM aM kM iM_stands iM_variables iM_rows iM_goals iM_differents iM_cases fM_from fM_to fM_whole fM_ways iM_plainRows fM_plainRow fM_kept fM_goalOver fM_goalUnder fM_goalMax fM_different ++ (WQ hQ aQ kQ hw fQ_inside fQ_outside fQ_shut iQ_rows iQ_allRows iQ_columns ++ (WW nW hw lw kw wl wb wG)))) U.heap ∧ va_K (dC, dI) vwCl (tO kO ++ (tM kM ++ (tQ kQ ++ (tW kw)))) U ∧ va_D (fun _ => True) (WO hO aO kO hM hQ hw iO_answered iO_searched iO_searchedRelaxed iO_counted fO_countedCase gO_goalNumber gO_goalScale fO_start fO_column fO_chosen ++ (WM hM aM kM iM_stands iM_variables iM_rows iM_goals iM_differents iM_cases fM_from fM_to fM_whole fM_ways iM_plainRows fM_plainRow fM_kept fM_goalOver fM_goalUnder fM_goalMax fM_different ++ (WQ hQ aQ kQ hw fQ_inside fQ_outside fQ_shut iQ_rows iQ_allRows iQ_columns ++ (WW nW hw lw kw wl wb wG)))))) (va_Qv (fun (u : (Nat → Int32) × (Nat → Int32) × (Nat → Nat → Int64)) => (∀ q : Nat, 0 ≤ ((u.1) q).toInt ∧ ((u.1) q).toInt ≤ 14) ∧ (∀ q : Nat, 0 ≤ ((u.2.1) q).toInt ∧ ((u.2.1) q).toInt ≤ 1)) (fun (u : (Nat → Int32) × (Nat → Int32) × (Nat → Nat → Int64)) t => va_P (dC, dI) vwCl (WO hO aO kO hM hQ hw iO_answered iO_searched iO_searchedRelaxed iO_counted fO_countedCase gO_goalNumber gO_goalScale fO_start fO_column fO_chosen ++ (WM hM aM kM iM_stands iM_variables iM_rows iM_goals iM_differents iM_cases fM_from fM_to fM_whole fM_ways iM_plainRows fM_plainRow fM_kept fM_goalOver fM_goalUnder fM_goalMax fM_different ++ (WQ hQ aQ kQ hw fQ_inside fQ_outside fQ_shut iQ_rows iQ_allRows iQ_columns ++ (WW nW hw lw kw (u.1) (u.2.1) (u.2.2))))) t.heap ∧ va_D (va_A (WO hO aO kO hM hQ hw iO_answered iO_searched iO_searchedRelaxed iO_counted fO_countedCase gO_goalNumber gO_goalScale fO_start fO_column fO_chosen ++ (WM hM aM kM iM_stands iM_variables iM_rows iM_goals iM_differents iM_cases fM_from fM_to fM_whole fM_ways iM_plainRows fM_plainRow fM_kept fM_goalOver fM_goalUnder fM_goalMax fM_different ++ (WQ hQ aQ kQ hw fQ_inside fQ_outside fQ_shut iQ_rows iQ_allRows iQ_columns ++ (WW nW hw lw kw wl wb wG)))) sz) (WO hO aO kO hM hQ hw iO_answered iO_searched iO_searchedRelaxed iO_counted fO_countedCase gO_goalNumber gO_goalScale fO_start fO_column fO_chosen ++ (WM hM aM kM iM_stands iM_variables iM_rows iM_goals iM_differents iM_cases fM_from fM_to fM_whole fM_ways iM_plainRows fM_plainRow fM_kept fM_goalOver fM_goalUnder fM_goalMax fM_different ++ (WQ hQ aQ kQ hw fQ_inside fQ_outside fQ_shut iQ_rows iQ_allRows iQ_columns ++ (WW nW hw lw kw (u.1) (u.2.1) (u.2.2)))))) (va_A (WO hO aO kO hM hQ hw iO_answered iO_searched iO_searchedRelaxed iO_counted fO_countedCase gO_goalNumber gO_goalScale fO_start fO_column fO_chosen ++ (WM hM aM kM iM_stands iM_variables iM_rows iM_goals iM_differents iM_cases fM_from fM_to fM_whole fM_ways iM_plainRows fM_plainRow fM_kept fM_goalOver fM_goalUnder fM_goalMax fM_different ++ (WQ hQ aQ kQ hw fQ_inside fQ_outside fQ_shut iQ_rows iQ_allRows iQ_columns ++ (WW nW hw lw kw wl wb wG)))) sz)) 0 0 (va_A (WO hO aO kO hM hQ hw iO_answered iO_searched iO_searchedRelaxed iO_counted fO_countedCase gO_goalNumber gO_goalScale fO_start fO_column fO_chosen ++ (WM hM aM kM iM_stands iM_variables iM_rows iM_goals iM_differents iM_cases fM_from fM_to fM_whole fM_ways iM_plainRows fM_plainRow fM_kept fM_goalOver fM_goalUnder fM_goalMax fM_different ++ (WQ hQ aQ kQ hw fQ_inside fQ_outside fQ_shut iQ_rows iQ_allRows iQ_columns ++ (WW nW hw lw kw wl wb wG)))) sz) := by
  refine Met.ofW (cc := cX5_addTimes) (maxL := 5) (ret := none) (by decide) rfl ?_
  intro p e s m args below meth c s₁ B hml hv
  obtain ⟨rfl, hsz, hP, hK, hD0⟩ := hv
  have hx := B.exec
  have hb := B.bytes
  have hr := B.returns
  have hts := atoms_spec (ws := wsMX5_addTimes) B.pre
  have hown : s.vm.findClass RX5 = some m.cls := findClass_of_methodNamed B.named
  have hlocks := B.notSynchronized
  subst hsz
  have hD := hD0.self (sz := s.heap.size)
  generalize hAe : va_A (WO hO aO kO hM hQ hw iO_answered iO_searched iO_searchedRelaxed iO_counted fO_countedCase gO_goalNumber gO_goalScale fO_start fO_column fO_chosen ++ (WM hM aM kM iM_stands iM_variables iM_rows iM_goals iM_differents iM_cases fM_from fM_to fM_whole fM_ways iM_plainRows fM_plainRow fM_kept fM_goalOver fM_goalUnder fM_goalMax fM_different ++ (WQ hQ aQ kQ hw fQ_inside fQ_outside fQ_shut iQ_rows iQ_allRows iQ_columns ++ (WW nW hw lw kw wl wb wG)))) s.heap.size = A at hD ⊢
  have hA : ∀ q : Nat, s.heap.size ≤ q → A q := fun q h => by rw [← hAe]; exact Or.inr h
  have hS : va_S A s.heap s.heap [] := va_S.rf
  have hl := lv_entry ([.ref (hO 0), .ref (hw ka), .ref (hw kb), .long p3]) (n := 5) (Nat.le_of_ble_eq_true rfl)
  rw [lg_entry_eq]
  generalize (lg_sl ([.ref (hO 0), .ref (hw ka), .ref (hw kb), .long p3]) ++ List.replicate (5 - (lg_sl ([.ref (hO 0), .ref (hw ka), .ref (hw kb), .long p3])).length) Slot.unset).toArray = ls at hl ⊢
  have hl : lv_has ls 5 [(0, .ref (hO 0)), (1, .ref (hw ka)), (2, .ref (hw kb)), (3, .long p3)] := hl
  refine lv_lload_n hx hb dX5_addTimes_0 rfl (lv_at hl 3 rfl) ?_
  refine lv_lconst (v := 0) hx hb dX5_addTimes_1 (by decide) ?_
  refine W.lcmp hx hb dX5_addTimes_2 ?_
  refine lv_if_ne (tgt := 7) hx hb dX5_addTimes_3 (by decide) (fun c_3 => ?_) (fun c_3 => ?_)
  · have t_3 : p3.toInt ≠ 0 := toL_ne c_3 rfl (by decide : (0 : Int64).toInt = 0)
    refine lv_aload_n hx hb dX5_addTimes_7 rfl (lv_at hl 0 rfl) ?_
    refine va_get (D := (dC, dI)) (ci := 5) (v := .ref (aO 9)) (C := RX5) (T := TX5) (N := 19) hx hb hts iwsMX5_addTimes_in5 hown hK hP 0 rfl rfl 18 (by decide) (hts _ hm_m_X5_addTimes_0) (fun _ h9 => h9) rfl dX5_addTimes_8 ?_
    refine lv_iconst (v := 2) hx hb dX5_addTimes_11 (by decide) ?_
    refine va_aldq (cA := kO 9) (n := 4) (f := fun q => some (hw (428 + q))) hx hb hK hP 10 9 rfl rfl (show ¬ ((2 : Int32) < 0 ∨ 4 ≤ (2 : Int32).toNatClampNeg) by decide) dX5_addTimes_12 ?_
    obtain ⟨k1, hk1, b_k1⟩ : ∃ k9 : Nat, k9 = 428 + (2 : Int32).toNatClampNeg ∧ (428 ≤ k9 ∧ k9 < 432 ∧ (k9 : Int) = 428 + 2) := ⟨_, rfl, ald_k (x := (2 : Int32)) (o := 428) (n := 4) (by decide : (2 : Int32).toInt = 2) (by omega) (by omega)⟩
    refine W.eq (g2 := F0 m 13 ls [.ref (hw k1)]) (by rw [hk1]; rfl) ?_
    clear hk1
    refine lv_lload_n hx hb dX5_addTimes_13 rfl (lv_at hl 3 rfl) ?_
    have p9 := cj_4_3 (WO hO aO kO hM hQ hw iO_answered iO_searched iO_searchedRelaxed iO_counted fO_countedCase gO_goalNumber gO_goalScale fO_start fO_column fO_chosen) (WM hM aM kM iM_stands iM_variables iM_rows iM_goals iM_differents iM_cases fM_from fM_to fM_whole fM_ways iM_plainRows fM_plainRow fM_kept fM_goalOver fM_goalUnder fM_goalMax fM_different) (WQ hQ aQ kQ hw fQ_inside fQ_outside fQ_shut iQ_rows iQ_allRows iQ_columns) (WW nW hw lw kw wl wb wG)
    have hPc := hP.mem (fun q h => p9.mem_iff.mpr (List.mem_append_left _ h))
    have hDc := (hD.perm p9).left
    have hKc : va_K (dC, dI) vwCl (tW kw) _ := hK.sub [24] rfl
    have hFc := freeG p9 hD hS hA
    refine va_callv (va_runV (As := [.long p3]) (rest := []) ⟨hx, hb, hml, hown, hts⟩ (m_X8_setLong l dC dI nW hw lw kw wl wb wG k1 p3 b_wl b_wb (by first | with_reducible assumption | omega | (rw [iI_t (by omega) (by omega)]; omega) | decide | assumption) s.heap.size) (cwV 1 hts gwsMX5_addTimes_0 rfl rfl rfl hd_yX8_setLong_RX8 (by decide +kernel)) (fz_pre (va_recv hK hP (ci := 8) (q0 := 11 + (11 + (5 + (k1)))) rfl (apR rfl (apR rfl (apR rfl (WW_o (by omega)))))) hPc hKc hDc) rfl rfl hl.1 rfl (lv_room (Nat.le_of_ble_eq_true rfl)) dX5_addTimes_14 (by decide +kernel)) hS (fun q _ h => hFc q h) hFc (fun u t9_ H locs ht hvm hw9 hB9 hz1 hk1 hS => ?_)
    revert u hw9 hB9
    refine fz_p3 ?_
    intro wl_2 wb_2 wG_2 hw9 hB9
    try dsimp only at hw9 hB9
    revert hw9
    refine fz_a2 ?_
    intro b_wl_2 b_wb_2
    have p8 := cj_4_3 (WO hO aO kO hM hQ hw iO_answered iO_searched iO_searchedRelaxed iO_counted fO_countedCase gO_goalNumber gO_goalScale fO_start fO_column fO_chosen) (WM hM aM kM iM_stands iM_variables iM_rows iM_goals iM_differents iM_cases fM_from fM_to fM_whole fM_ways iM_plainRows fM_plainRow fM_kept fM_goalOver fM_goalUnder fM_goalMax fM_different) (WQ hQ aQ kQ hw fQ_inside fQ_outside fQ_shut iQ_rows iQ_allRows iQ_columns) (WW nW hw lw kw wl_2 wb_2 wG_2)
    obtain ⟨hP, hD⟩ := frameG p9 p8 hP hD hk1 hFc (fz_P ht hB9.1) hB9.2
    refine lv_aload_n hx hb dX5_addTimes_17 rfl (lv_at hl 0 rfl) ?_
    refine va_get (D := (dC, dI)) (ci := 5) (v := .ref (aO 9)) (C := RX5) (T := TX5) (N := 19) hx hb hts iwsMX5_addTimes_in5 hown hK hP 0 rfl rfl 18 (by decide) (hts _ hm_m_X5_addTimes_0) (fun _ h9 => h9) rfl dX5_addTimes_18 ?_
    refine lv_iconst (v := 3) hx hb dX5_addTimes_21 (by decide) ?_
    refine va_aldq (cA := kO 9) (n := 4) (f := fun q => some (hw (428 + q))) hx hb hK hP 10 9 rfl rfl (show ¬ ((3 : Int32) < 0 ∨ 4 ≤ (3 : Int32).toNatClampNeg) by decide) dX5_addTimes_22 ?_
    obtain ⟨k3, hk3, b_k3⟩ : ∃ k9 : Nat, k9 = 428 + (3 : Int32).toNatClampNeg ∧ (428 ≤ k9 ∧ k9 < 432 ∧ (k9 : Int) = 428 + 3) := ⟨_, rfl, ald_k (x := (3 : Int32)) (o := 428) (n := 4) (by decide : (3 : Int32).toInt = 3) (by omega) (by omega)⟩
    refine W.eq (g2 := F0 m 23 ls [.ref (hw k3)]) (by rw [hk3]; rfl) ?_
    clear hk3
    refine lv_aload_n hx hb dX5_addTimes_23 rfl (lv_at hl 2 rfl) ?_
    refine lv_aload_n hx hb dX5_addTimes_24 rfl (lv_at hl 0 rfl) ?_
    refine va_get (D := (dC, dI)) (ci := 5) (v := .ref (aO 9)) (C := RX5) (T := TX5) (N := 19) hx hb hts iwsMX5_addTimes_in5 hown hK hP 0 rfl rfl 18 (by decide) (hts _ hm_m_X5_addTimes_0) (fun _ h9 => h9) rfl dX5_addTimes_25 ?_
    refine lv_iconst (v := 2) hx hb dX5_addTimes_28 (by decide) ?_
    refine va_aldq (cA := kO 9) (n := 4) (f := fun q => some (hw (428 + q))) hx hb hK hP 10 9 rfl rfl (show ¬ ((2 : Int32) < 0 ∨ 4 ≤ (2 : Int32).toNatClampNeg) by decide) dX5_addTimes_29 ?_
    obtain ⟨k4, hk4, b_k4⟩ : ∃ k9 : Nat, k9 = 428 + (2 : Int32).toNatClampNeg ∧ (428 ≤ k9 ∧ k9 < 432 ∧ (k9 : Int) = 428 + 2) := ⟨_, rfl, ald_k (x := (2 : Int32)) (o := 428) (n := 4) (by decide : (2 : Int32).toInt = 2) (by omega) (by omega)⟩
    refine W.eq (g2 := F0 m 30 ls [.ref (hw k4), .ref (hw kb), .ref (hw k3)]) (by rw [hk4]; rfl) ?_
    clear hk4
    have p9 := cj_4_3 (WO hO aO kO hM hQ hw iO_answered iO_searched iO_searchedRelaxed iO_counted fO_countedCase gO_goalNumber gO_goalScale fO_start fO_column fO_chosen) (WM hM aM kM iM_stands iM_variables iM_rows iM_goals iM_differents iM_cases fM_from fM_to fM_whole fM_ways iM_plainRows fM_plainRow fM_kept fM_goalOver fM_goalUnder fM_goalMax fM_different) (WQ hQ aQ kQ hw fQ_inside fQ_outside fQ_shut iQ_rows iQ_allRows iQ_columns) (WW nW hw lw kw wl_2 wb_2 wG_2)
    have hPc := hP.mem (fun q h => p9.mem_iff.mpr (List.mem_append_left _ h))
    have hDc := (hD.perm p9).left
    have hKc : va_K (dC, dI) vwCl (tW kw) _ := hK.sub [24] rfl
    have hFc := freeG p9 hD hS hA
    refine va_callv (va_runV (As := [.ref (hw kb), .ref (hw k4)]) (rest := []) ⟨hx, hb, hml, hown, hts⟩ (m_X8_setProduct l dC dI nW hw lw kw wl_2 wb_2 wG_2 k3 kb k4 b_wl_2 b_wb_2 (by first | with_reducible assumption | omega | (rw [iI_t (by omega) (by omega)]; omega) | decide | assumption) (by first | with_reducible assumption | omega | (rw [iI_t (by omega) (by omega)]; omega) | decide | assumption) (by first | with_reducible assumption | omega | (rw [iI_t (by omega) (by omega)]; omega) | decide | assumption) H.size) (cwV 2 hts gwsMX5_addTimes_1 rfl rfl rfl hd_yX8_setProduct_RX8 (by decide +kernel)) (fz_pre (va_recv hK hP (ci := 8) (q0 := 11 + (11 + (5 + (k3)))) rfl (apR rfl (apR rfl (apR rfl (WW_o (by omega)))))) hPc hKc hDc) rfl rfl hl.1 rfl (lv_room (Nat.le_of_ble_eq_true rfl)) dX5_addTimes_30 (by decide +kernel)) hS (fun q _ h => hFc q h) hFc (fun u t9_ H locs ht hvm hw9 hB9 hz1 hk1 hS => ?_)
    revert u hw9 hB9
    refine fz_p3 ?_
    intro wl_5 wb_5 wG_5 hw9 hB9
    try dsimp only at hw9 hB9
    revert hw9
    refine fz_a2 ?_
    intro b_wl_5 b_wb_5
    have p8 := cj_4_3 (WO hO aO kO hM hQ hw iO_answered iO_searched iO_searchedRelaxed iO_counted fO_countedCase gO_goalNumber gO_goalScale fO_start fO_column fO_chosen) (WM hM aM kM iM_stands iM_variables iM_rows iM_goals iM_differents iM_cases fM_from fM_to fM_whole fM_ways iM_plainRows fM_plainRow fM_kept fM_goalOver fM_goalUnder fM_goalMax fM_different) (WQ hQ aQ kQ hw fQ_inside fQ_outside fQ_shut iQ_rows iQ_allRows iQ_columns) (WW nW hw lw kw wl_5 wb_5 wG_5)
    obtain ⟨hP, hD⟩ := frameG p9 p8 hP hD hk1 hFc (fz_P ht hB9.1) hB9.2
    refine lv_aload_n hx hb dX5_addTimes_33 rfl (lv_at hl 1 rfl) ?_
    refine lv_aload_n hx hb dX5_addTimes_34 rfl (lv_at hl 0 rfl) ?_
    refine va_get (D := (dC, dI)) (ci := 5) (v := .ref (aO 9)) (C := RX5) (T := TX5) (N := 19) hx hb hts iwsMX5_addTimes_in5 hown hK hP 0 rfl rfl 18 (by decide) (hts _ hm_m_X5_addTimes_0) (fun _ h9 => h9) rfl dX5_addTimes_35 ?_
    refine lv_iconst (v := 3) hx hb dX5_addTimes_38 (by decide) ?_
    refine va_aldq (cA := kO 9) (n := 4) (f := fun q => some (hw (428 + q))) hx hb hK hP 10 9 rfl rfl (show ¬ ((3 : Int32) < 0 ∨ 4 ≤ (3 : Int32).toNatClampNeg) by decide) dX5_addTimes_39 ?_
    obtain ⟨k6, hk6, b_k6⟩ : ∃ k9 : Nat, k9 = 428 + (3 : Int32).toNatClampNeg ∧ (428 ≤ k9 ∧ k9 < 432 ∧ (k9 : Int) = 428 + 3) := ⟨_, rfl, ald_k (x := (3 : Int32)) (o := 428) (n := 4) (by decide : (3 : Int32).toInt = 3) (by omega) (by omega)⟩
    refine W.eq (g2 := F0 m 40 ls [.ref (hw k6), .ref (hw ka)]) (by rw [hk6]; rfl) ?_
    clear hk6
    have p9 := cj_4_3 (WO hO aO kO hM hQ hw iO_answered iO_searched iO_searchedRelaxed iO_counted fO_countedCase gO_goalNumber gO_goalScale fO_start fO_column fO_chosen) (WM hM aM kM iM_stands iM_variables iM_rows iM_goals iM_differents iM_cases fM_from fM_to fM_whole fM_ways iM_plainRows fM_plainRow fM_kept fM_goalOver fM_goalUnder fM_goalMax fM_different) (WQ hQ aQ kQ hw fQ_inside fQ_outside fQ_shut iQ_rows iQ_allRows iQ_columns) (WW nW hw lw kw wl_5 wb_5 wG_5)
    have hPc := hP.mem (fun q h => p9.mem_iff.mpr (List.mem_append_left _ h))
    have hDc := (hD.perm p9).left
    have hKc : va_K (dC, dI) vwCl (tW kw) _ := hK.sub [24] rfl
    have hFc := freeG p9 hD hS hA
    refine va_callv (va_runV (As := [.ref (hw k6)]) (rest := []) ⟨hx, hb, hml, hown, hts⟩ (m_X8_add l dC dI nW hw lw kw wl_5 wb_5 wG_5 ka k6 b_wl_5 b_wb_5 (by first | with_reducible assumption | omega | (rw [iI_t (by omega) (by omega)]; omega) | decide | assumption) (by first | with_reducible assumption | omega | (rw [iI_t (by omega) (by omega)]; omega) | decide | assumption) H.size) (cwV 1 hts gwsMX5_addTimes_2 rfl rfl rfl hd_yX8_add_RX8 (by decide +kernel)) (fz_pre (va_recv hK hP (ci := 8) (q0 := 11 + (11 + (5 + (ka)))) rfl (apR rfl (apR rfl (apR rfl (WW_o (by omega)))))) hPc hKc hDc) rfl rfl hl.1 rfl (lv_room (Nat.le_of_ble_eq_true rfl)) dX5_addTimes_40 (by decide +kernel)) hS (fun q _ h => hFc q h) hFc (fun u t9_ H locs ht hvm hw9 hB9 hz1 hk1 hS => ?_)
    revert u hw9 hB9
    refine fz_p3 ?_
    intro wl_7 wb_7 wG_7 hw9 hB9
    try dsimp only at hw9 hB9
    revert hw9
    refine fz_a2 ?_
    intro b_wl_7 b_wb_7
    have p8 := cj_4_3 (WO hO aO kO hM hQ hw iO_answered iO_searched iO_searchedRelaxed iO_counted fO_countedCase gO_goalNumber gO_goalScale fO_start fO_column fO_chosen) (WM hM aM kM iM_stands iM_variables iM_rows iM_goals iM_differents iM_cases fM_from fM_to fM_whole fM_ways iM_plainRows fM_plainRow fM_kept fM_goalOver fM_goalUnder fM_goalMax fM_different) (WQ hQ aQ kQ hw fQ_inside fQ_outside fQ_shut iQ_rows iQ_allRows iQ_columns) (WW nW hw lw kw wl_7 wb_7 wG_7)
    obtain ⟨hP, hD⟩ := frameG p9 p8 hP hD hk1 hFc (fz_P ht hB9.1) hB9.2
    refine W.widen (k := 0) (n := 0) (by decide +kernel) (by decide +kernel) ?_
    exact W.vret hx hb hr (fun t9_ ht hW => ⟨⟨(wl_7, wb_7, wG_7), rfl, ⟨b_wl_7, b_wb_7⟩, by rw [ht]; exact hP, hD⟩, hS.F ht⟩) hS.2.2 dX5_addTimes_43
  · have t_3 : p3.toInt = 0 := toL_nne c_3 rfl (by decide : (0 : Int64).toInt = 0)
    refine W.widen (k := 0) (n := 0) (by decide +kernel) (by decide +kernel) ?_
    exact W.vret hx hb hr (fun t9_ ht hW => ⟨⟨(wl, wb, wG), rfl, ⟨b_wl, b_wb⟩, by rw [ht]; exact hP, hD⟩, hS.F ht⟩) hS.2.2 dX5_addTimes_6
end
section
theorem hd_yX5_scaledNumber_RX5 : yX5_scaledNumber.cls = RX5 ∧ yX5_scaledNumber.cls ≠ "java/lang/invoke/MethodHandle" ∧ yX5_scaledNumber.cls ≠ "java/lang/invoke/VarHandle" ∧ (parseMethodDescriptor yX5_scaledNumber.desc).map (fun d => d.parameters.length) = some 2 := by decide +kernel
theorem hd_yX5_addTimes_RX5 : yX5_addTimes.cls = RX5 ∧ yX5_addTimes.cls ≠ "java/lang/invoke/MethodHandle" ∧ yX5_addTimes.cls ≠ "java/lang/invoke/VarHandle" ∧ (parseMethodDescriptor yX5_addTimes.desc).map (fun d => d.parameters.length) = some 3 := by decide +kernel
theorem dX5_layWay_0 : decode cX5_layWay 0 = .ok (.aload_n 0, 1) := dk_42 (by decide +kernel)
theorem dX5_layWay_1 : decode cX5_layWay 1 = .ok (.getfield 74, 3) := dk_180 (by decide +kernel)
theorem dX5_layWay_4 : decode cX5_layWay 4 = .ok (.iload_n 2, 1) := dk_28 (by decide +kernel)
theorem dX5_layWay_5 : decode cX5_layWay 5 = .ok (.iload_n 3, 1) := dk_29 (by decide +kernel)
theorem dX5_layWay_6 : decode cX5_layWay 6 = .ok (.invokevirtual 194, 3) := dk_182 (by decide +kernel)
theorem dX5_layWay_9 : decode cX5_layWay 9 = .ok (.istore 4, 2) := dk_54 (by decide +kernel)
theorem dX5_layWay_11 : decode cX5_layWay 11 = .ok (.iload 4, 2) := dk_21 (by decide +kernel)
theorem dX5_layWay_13 : decode cX5_layWay 13 = .ok (.ifCond .ne 7, 3) := dk_154 (by decide +kernel)
theorem dX5_layWay_16 : decode cX5_layWay 16 = .ok (.iconst (-1), 1) := dk_2 (by decide +kernel)
theorem dX5_layWay_17 : decode cX5_layWay 17 = .ok (.goto 4, 3) := dk_167 (by decide +kernel)
theorem dX5_layWay_20 : decode cX5_layWay 20 = .ok (.iconst 1, 1) := dk_4 (by decide +kernel)
theorem dX5_layWay_21 : decode cX5_layWay 21 = .ok (.istore 5, 2) := dk_54 (by decide +kernel)
theorem dX5_layWay_23 : decode cX5_layWay 23 = .ok (.iload 5, 2) := dk_21 (by decide +kernel)
theorem dX5_layWay_25 : decode cX5_layWay 25 = .ok (.ineg, 1) := dk_116 (by decide +kernel)
theorem dX5_layWay_26 : decode cX5_layWay 26 = .ok (.aload_n 0, 1) := dk_42 (by decide +kernel)
theorem dX5_layWay_27 : decode cX5_layWay 27 = .ok (.getfield 74, 3) := dk_180 (by decide +kernel)
theorem dX5_layWay_30 : decode cX5_layWay 30 = .ok (.iload_n 2, 1) := dk_28 (by decide +kernel)
theorem dX5_layWay_31 : decode cX5_layWay 31 = .ok (.iload_n 3, 1) := dk_29 (by decide +kernel)
theorem dX5_layWay_32 : decode cX5_layWay 32 = .ok (.invokevirtual 197, 3) := dk_182 (by decide +kernel)
theorem dX5_layWay_35 : decode cX5_layWay 35 = .ok (.imul, 1) := dk_104 (by decide +kernel)
theorem dX5_layWay_36 : decode cX5_layWay 36 = .ok (.istore 6, 2) := dk_54 (by decide +kernel)
theorem dX5_layWay_38 : decode cX5_layWay 38 = .ok (.iconst 0, 1) := dk_3 (by decide +kernel)
theorem dX5_layWay_39 : decode cX5_layWay 39 = .ok (.istore 7, 2) := dk_54 (by decide +kernel)
theorem dX5_layWay_41 : decode cX5_layWay 41 = .ok (.iconst 0, 1) := dk_3 (by decide +kernel)
theorem dX5_layWay_42 : decode cX5_layWay 42 = .ok (.istore 8, 2) := dk_54 (by decide +kernel)
theorem dX5_layWay_44 : decode cX5_layWay 44 = .ok (.iconst 0, 1) := dk_3 (by decide +kernel)
theorem dX5_layWay_45 : decode cX5_layWay 45 = .ok (.istore 9, 2) := dk_54 (by decide +kernel)
theorem dX5_layWay_47 : decode cX5_layWay 47 = .ok (.iload 9, 2) := dk_21 (by decide +kernel)
theorem dX5_layWay_49 : decode cX5_layWay 49 = .ok (.aload_n 0, 1) := dk_42 (by decide +kernel)
theorem dX5_layWay_50 : decode cX5_layWay 50 = .ok (.getfield 74, 3) := dk_180 (by decide +kernel)
theorem dX5_layWay_53 : decode cX5_layWay 53 = .ok (.getfield 112, 3) := dk_180 (by decide +kernel)
theorem dX5_layWay_56 : decode cX5_layWay 56 = .ok (.if_icmp .ge 125, 3) := dk_162 (by decide +kernel)
theorem dX5_layWay_59 : decode cX5_layWay 59 = .ok (.iload 5, 2) := dk_21 (by decide +kernel)
theorem dX5_layWay_61 : decode cX5_layWay 61 = .ok (.aload_n 0, 1) := dk_42 (by decide +kernel)
theorem dX5_layWay_62 : decode cX5_layWay 62 = .ok (.getfield 74, 3) := dk_180 (by decide +kernel)
theorem dX5_layWay_65 : decode cX5_layWay 65 = .ok (.iload_n 2, 1) := dk_28 (by decide +kernel)
theorem dX5_layWay_66 : decode cX5_layWay 66 = .ok (.iload_n 3, 1) := dk_29 (by decide +kernel)
theorem dX5_layWay_67 : decode cX5_layWay 67 = .ok (.iload 9, 2) := dk_21 (by decide +kernel)
theorem dX5_layWay_69 : decode cX5_layWay 69 = .ok (.invokevirtual 200, 3) := dk_182 (by decide +kernel)
theorem dX5_layWay_72 : decode cX5_layWay 72 = .ok (.imul, 1) := dk_104 (by decide +kernel)
theorem dX5_layWay_73 : decode cX5_layWay 73 = .ok (.istore 10, 2) := dk_54 (by decide +kernel)
theorem dX5_layWay_75 : decode cX5_layWay 75 = .ok (.iload 6, 2) := dk_21 (by decide +kernel)
theorem dX5_layWay_77 : decode cX5_layWay 77 = .ok (.iload 10, 2) := dk_21 (by decide +kernel)
theorem dX5_layWay_79 : decode cX5_layWay 79 = .ok (.aload_n 0, 1) := dk_42 (by decide +kernel)
theorem dX5_layWay_80 : decode cX5_layWay 80 = .ok (.getfield 35, 3) := dk_180 (by decide +kernel)
theorem dX5_layWay_83 : decode cX5_layWay 83 = .ok (.iload 9, 2) := dk_21 (by decide +kernel)
theorem dX5_layWay_85 : decode cX5_layWay 85 = .ok (.iaload, 1) := dk_46 (by decide +kernel)
theorem dX5_layWay_86 : decode cX5_layWay 86 = .ok (.imul, 1) := dk_104 (by decide +kernel)
theorem dX5_layWay_87 : decode cX5_layWay 87 = .ok (.iadd, 1) := dk_96 (by decide +kernel)
theorem dX5_layWay_88 : decode cX5_layWay 88 = .ok (.istore 6, 2) := dk_54 (by decide +kernel)
theorem dX5_layWay_90 : decode cX5_layWay 90 = .ok (.iload 10, 2) := dk_21 (by decide +kernel)
theorem dX5_layWay_92 : decode cX5_layWay 92 = .ok (.ifCond .eq 83, 3) := dk_153 (by decide +kernel)
theorem dX5_layWay_95 : decode cX5_layWay 95 = .ok (.aload_n 0, 1) := dk_42 (by decide +kernel)
theorem dX5_layWay_96 : decode cX5_layWay 96 = .ok (.getfield 38, 3) := dk_180 (by decide +kernel)
theorem dX5_layWay_99 : decode cX5_layWay 99 = .ok (.iload 9, 2) := dk_21 (by decide +kernel)
theorem dX5_layWay_101 : decode cX5_layWay 101 = .ok (.iaload, 1) := dk_46 (by decide +kernel)
theorem dX5_layWay_102 : decode cX5_layWay 102 = .ok (.iconst (-1), 1) := dk_2 (by decide +kernel)
theorem dX5_layWay_103 : decode cX5_layWay 103 = .ok (.if_icmp .eq 72, 3) := dk_159 (by decide +kernel)
theorem dX5_layWay_106 : decode cX5_layWay 106 = .ok (.aload_n 0, 1) := dk_42 (by decide +kernel)
theorem dX5_layWay_107 : decode cX5_layWay 107 = .ok (.getfield 12, 3) := dk_180 (by decide +kernel)
theorem dX5_layWay_110 : decode cX5_layWay 110 = .ok (.iload_n 1, 1) := dk_27 (by decide +kernel)
theorem dX5_layWay_111 : decode cX5_layWay 111 = .ok (.aload_n 0, 1) := dk_42 (by decide +kernel)
theorem dX5_layWay_112 : decode cX5_layWay 112 = .ok (.getfield 38, 3) := dk_180 (by decide +kernel)
theorem dX5_layWay_115 : decode cX5_layWay 115 = .ok (.iload 9, 2) := dk_21 (by decide +kernel)
theorem dX5_layWay_117 : decode cX5_layWay 117 = .ok (.iaload, 1) := dk_46 (by decide +kernel)
theorem dX5_layWay_118 : decode cX5_layWay 118 = .ok (.invokevirtual 177, 3) := dk_182 (by decide +kernel)
theorem dX5_layWay_121 : decode cX5_layWay 121 = .ok (.iload 10, 2) := dk_21 (by decide +kernel)
theorem dX5_layWay_123 : decode cX5_layWay 123 = .ok (.i2l, 1) := dk_133 (by decide +kernel)
theorem dX5_layWay_124 : decode cX5_layWay 124 = .ok (.invokevirtual 184, 3) := dk_182 (by decide +kernel)
theorem dX5_layWay_127 : decode cX5_layWay 127 = .ok (.iload 10, 2) := dk_21 (by decide +kernel)
theorem dX5_layWay_129 : decode cX5_layWay 129 = .ok (.aload_n 0, 1) := dk_42 (by decide +kernel)
theorem dX5_layWay_130 : decode cX5_layWay 130 = .ok (.getfield 74, 3) := dk_180 (by decide +kernel)
theorem dX5_layWay_133 : decode cX5_layWay 133 = .ok (.getfield 181, 3) := dk_180 (by decide +kernel)
theorem dX5_layWay_136 : decode cX5_layWay 136 = .ok (.iload 9, 2) := dk_21 (by decide +kernel)
theorem dX5_layWay_138 : decode cX5_layWay 138 = .ok (.iaload, 1) := dk_46 (by decide +kernel)
theorem dX5_layWay_139 : decode cX5_layWay 139 = .ok (.aload_n 0, 1) := dk_42 (by decide +kernel)
theorem dX5_layWay_140 : decode cX5_layWay 140 = .ok (.getfield 74, 3) := dk_180 (by decide +kernel)
theorem dX5_layWay_143 : decode cX5_layWay 143 = .ok (.getfield 150, 3) := dk_180 (by decide +kernel)
theorem dX5_layWay_146 : decode cX5_layWay 146 = .ok (.iload 9, 2) := dk_21 (by decide +kernel)
theorem dX5_layWay_148 : decode cX5_layWay 148 = .ok (.iaload, 1) := dk_46 (by decide +kernel)
theorem dX5_layWay_149 : decode cX5_layWay 149 = .ok (.isub, 1) := dk_100 (by decide +kernel)
theorem dX5_layWay_150 : decode cX5_layWay 150 = .ok (.imul, 1) := dk_104 (by decide +kernel)
theorem dX5_layWay_151 : decode cX5_layWay 151 = .ok (.istore 11, 2) := dk_54 (by decide +kernel)
theorem dX5_layWay_153 : decode cX5_layWay 153 = .ok (.iload 7, 2) := dk_21 (by decide +kernel)
theorem dX5_layWay_155 : decode cX5_layWay 155 = .ok (.iload 11, 2) := dk_21 (by decide +kernel)
theorem dX5_layWay_157 : decode cX5_layWay 157 = .ok (.iconst 0, 1) := dk_3 (by decide +kernel)
theorem dX5_layWay_158 : decode cX5_layWay 158 = .ok (.invokestatic 204, 3) := dk_184 (by decide +kernel)
theorem dX5_layWay_161 : decode cX5_layWay 161 = .ok (.iadd, 1) := dk_96 (by decide +kernel)
theorem dX5_layWay_162 : decode cX5_layWay 162 = .ok (.istore 7, 2) := dk_54 (by decide +kernel)
theorem dX5_layWay_164 : decode cX5_layWay 164 = .ok (.iload 8, 2) := dk_21 (by decide +kernel)
theorem dX5_layWay_166 : decode cX5_layWay 166 = .ok (.iload 11, 2) := dk_21 (by decide +kernel)
theorem dX5_layWay_168 : decode cX5_layWay 168 = .ok (.iconst 0, 1) := dk_3 (by decide +kernel)
theorem dX5_layWay_169 : decode cX5_layWay 169 = .ok (.invokestatic 137, 3) := dk_184 (by decide +kernel)
theorem dX5_layWay_172 : decode cX5_layWay 172 = .ok (.iadd, 1) := dk_96 (by decide +kernel)
theorem dX5_layWay_173 : decode cX5_layWay 173 = .ok (.istore 8, 2) := dk_54 (by decide +kernel)
theorem dX5_layWay_175 : decode cX5_layWay 175 = .ok (.iinc 9 1, 3) := dk_132 (by decide +kernel)
theorem dX5_layWay_178 : decode cX5_layWay 178 = .ok (.goto (-131), 3) := dk_167 (by decide +kernel)
theorem dX5_layWay_181 : decode cX5_layWay 181 = .ok (.aload_n 0, 1) := dk_42 (by decide +kernel)
theorem dX5_layWay_182 : decode cX5_layWay 182 = .ok (.getfield 12, 3) := dk_180 (by decide +kernel)
theorem dX5_layWay_185 : decode cX5_layWay 185 = .ok (.iload_n 1, 1) := dk_27 (by decide +kernel)
theorem dX5_layWay_186 : decode cX5_layWay 186 = .ok (.iconst 0, 1) := dk_3 (by decide +kernel)
theorem dX5_layWay_187 : decode cX5_layWay 187 = .ok (.invokevirtual 177, 3) := dk_182 (by decide +kernel)
theorem dX5_layWay_190 : decode cX5_layWay 190 = .ok (.iload 6, 2) := dk_21 (by decide +kernel)
theorem dX5_layWay_192 : decode cX5_layWay 192 = .ok (.i2l, 1) := dk_133 (by decide +kernel)
theorem dX5_layWay_193 : decode cX5_layWay 193 = .ok (.invokevirtual 184, 3) := dk_182 (by decide +kernel)
theorem dX5_layWay_196 : decode cX5_layWay 196 = .ok (.iload 6, 2) := dk_21 (by decide +kernel)
theorem dX5_layWay_198 : decode cX5_layWay 198 = .ok (.iload 8, 2) := dk_21 (by decide +kernel)
theorem dX5_layWay_200 : decode cX5_layWay 200 = .ok (.iadd, 1) := dk_96 (by decide +kernel)
theorem dX5_layWay_201 : decode cX5_layWay 201 = .ok (.ifCond .lt 21, 3) := dk_155 (by decide +kernel)
theorem dX5_layWay_204 : decode cX5_layWay 204 = .ok (.iload 4, 2) := dk_21 (by decide +kernel)
theorem dX5_layWay_206 : decode cX5_layWay 206 = .ok (.iconst 2, 1) := dk_5 (by decide +kernel)
theorem dX5_layWay_207 : decode cX5_layWay 207 = .ok (.if_icmp .ne 11, 3) := dk_160 (by decide +kernel)
theorem dX5_layWay_210 : decode cX5_layWay 210 = .ok (.iload 6, 2) := dk_21 (by decide +kernel)
theorem dX5_layWay_212 : decode cX5_layWay 212 = .ok (.iload 7, 2) := dk_21 (by decide +kernel)
theorem dX5_layWay_214 : decode cX5_layWay 214 = .ok (.iadd, 1) := dk_96 (by decide +kernel)
theorem dX5_layWay_215 : decode cX5_layWay 215 = .ok (.ifCond .gt 7, 3) := dk_157 (by decide +kernel)
theorem dX5_layWay_218 : decode cX5_layWay 218 = .ok (.iconst 1, 1) := dk_4 (by decide +kernel)
theorem dX5_layWay_219 : decode cX5_layWay 219 = .ok (.goto 4, 3) := dk_167 (by decide +kernel)
theorem dX5_layWay_222 : decode cX5_layWay 222 = .ok (.iconst 0, 1) := dk_3 (by decide +kernel)
theorem dX5_layWay_223 : decode cX5_layWay 223 = .ok (.ireturn, 1) := dk_172 (by decide +kernel)
def wsMX5_layWay : List Cond := .code yX5_layWay cX5_layWay 12 (some .boolean) :: ([.fieldLink RX5 74 "OptimaWorks$Solver" "model" "LOptimaWorks$Model;", .fieldLink RX5 112 "OptimaWorks$Model" "variables" "I", .fieldLink RX5 35 "OptimaWorks$Solver" "start" "[I", .fieldLink RX5 38 "OptimaWorks$Solver" "column" "[I", .fieldLink RX5 12 "OptimaWorks$Solver" "tableau" "LOptimaWorks$Tableau;", .fieldLink RX5 181 "OptimaWorks$Model" "to" "[I", .fieldLink RX5 150 "OptimaWorks$Model" "from" "[I", .methodLink RX5 204 Lib.Math.min.name, .static Lib.Math.min.name, .initialized "java/lang/Math", .code Lib.Math.min.name Lib.Math.min.code 2 (some .int), .methodLink RX5 137 Lib.Math.max.name, .static Lib.Math.max.name, .code Lib.Math.max.name Lib.Math.max.code 2 (some .int)] ++ wsX10 ++ wsX50 ++ (wsV RX5 194 RX1 yX1_sign wsMX1_sign) ++ (wsV RX5 197 RX1 yX1_rightSide wsMX1_rightSide) ++ (wsV RX5 200 RX1 yX1_number wsMX1_number) ++ (wsV RX5 177 RX6 yX6_cellAt wsMX6_cellAt) ++ (wsV RX5 184 RX8 yX8_setLong wsMX8_setLong))
theorem iwsMX5_layWay_in1 : ∀ w ∈ wsX10, w ∈ wsMX5_layWay := fun _ h => List.mem_cons_of_mem _ (List.mem_append_left _ (List.mem_append_left _ (List.mem_append_left _ (List.mem_append_left _ (List.mem_append_left _ (List.mem_append_left _ (List.mem_append_right _ h)))))))
theorem iwsMX5_layWay_in5 : ∀ w ∈ wsX50, w ∈ wsMX5_layWay := fun _ h => List.mem_cons_of_mem _ (List.mem_append_left _ (List.mem_append_left _ (List.mem_append_left _ (List.mem_append_left _ (List.mem_append_left _ (List.mem_append_right _ h))))))
theorem gwsMX5_layWay_0 : GoodIn wsMX5_layWay (wsV RX5 194 RX1 yX1_sign wsMX1_sign) := goodIn_sub (fun _ h => List.mem_cons_of_mem _ (List.mem_append_left _ (List.mem_append_left _ (List.mem_append_left _ (List.mem_append_left _ (List.mem_append_right _ h)))))) (gdV (by decide +kernel) gdwsMX1_sign)
theorem gwsMX5_layWay_1 : GoodIn wsMX5_layWay (wsV RX5 197 RX1 yX1_rightSide wsMX1_rightSide) := goodIn_sub (fun _ h => List.mem_cons_of_mem _ (List.mem_append_left _ (List.mem_append_left _ (List.mem_append_left _ (List.mem_append_right _ h))))) (gdV (by decide +kernel) gdwsMX1_rightSide)
theorem gwsMX5_layWay_2 : GoodIn wsMX5_layWay (wsV RX5 200 RX1 yX1_number wsMX1_number) := goodIn_sub (fun _ h => List.mem_cons_of_mem _ (List.mem_append_left _ (List.mem_append_left _ (List.mem_append_right _ h)))) (gdV (by decide +kernel) gdwsMX1_number)
theorem gwsMX5_layWay_3 : GoodIn wsMX5_layWay (wsV RX5 177 RX6 yX6_cellAt wsMX6_cellAt) := goodIn_sub (fun _ h => List.mem_cons_of_mem _ (List.mem_append_left _ (List.mem_append_right _ h))) (gdV (by decide +kernel) gdwsMX6_cellAt)
theorem gwsMX5_layWay_4 : GoodIn wsMX5_layWay (wsV RX5 184 RX8 yX8_setLong wsMX8_setLong) := goodIn_sub (fun _ h => List.mem_cons_of_mem _ (List.mem_append_right _ h)) (gdV (by decide +kernel) gdwsMX8_setLong)
theorem gdwsMX5_layWay : wsMX5_layWay.all goodWord = true := gdC rfl (gdA (gdA (gdA (gdA (gdA (gdA (gdA (by decide +kernel : ([.fieldLink RX5 74 "OptimaWorks$Solver" "model" "LOptimaWorks$Model;", .fieldLink RX5 112 "OptimaWorks$Model" "variables" "I", .fieldLink RX5 35 "OptimaWorks$Solver" "start" "[I", .fieldLink RX5 38 "OptimaWorks$Solver" "column" "[I", .fieldLink RX5 12 "OptimaWorks$Solver" "tableau" "LOptimaWorks$Tableau;", .fieldLink RX5 181 "OptimaWorks$Model" "to" "[I", .fieldLink RX5 150 "OptimaWorks$Model" "from" "[I", .methodLink RX5 204 Lib.Math.min.name, .static Lib.Math.min.name, .initialized "java/lang/Math", .code Lib.Math.min.name Lib.Math.min.code 2 (some .int), .methodLink RX5 137 Lib.Math.max.name, .static Lib.Math.max.name, .code Lib.Math.max.name Lib.Math.max.code 2 (some .int)] : List Cond).all goodWord = true) gdwsX10) gdwsX50) (gdV (by decide +kernel) gdwsMX1_sign)) (gdV (by decide +kernel) gdwsMX1_rightSide)) (gdV (by decide +kernel) gdwsMX1_number)) (gdV (by decide +kernel) gdwsMX6_cellAt)) (gdV (by decide +kernel) gdwsMX8_setLong))
theorem hm_m_X5_layWay_0 : (.fieldLink RX5 74 "OptimaWorks$Solver" "model" "LOptimaWorks$Model;" : Cond) ∈ wsMX5_layWay := by decide +kernel
theorem hm_m_X5_layWay_1 : (.fieldLink RX5 12 "OptimaWorks$Solver" "tableau" "LOptimaWorks$Tableau;" : Cond) ∈ wsMX5_layWay := by decide +kernel
theorem hm_m_X5_layWay_2 : (.fieldLink RX5 38 "OptimaWorks$Solver" "column" "[I" : Cond) ∈ wsMX5_layWay := by decide +kernel
theorem hm_m_X5_layWay_3 : (.initialized "java/lang/Math" : Cond) ∈ wsMX5_layWay := by decide +kernel
set_option maxHeartbeats 4000000 in
set_option maxRecDepth 100000 in
/-- a way is laid out -/
theorem m_X5_layWay (l : Launch) (dC : Nat → ClassId) (dI : Nat → Nat → Nat) (hO : Nat → Nat) (aO : Nat → Nat) (kO : Nat → ClassId) (hM : Nat → Nat) (hQ : Nat → Nat) (hw : Nat → Nat) (iO_answered : Int32) (iO_searched : Int32) (iO_searchedRelaxed : Int32) (iO_counted : Int32) (fO_countedCase : Nat → Int32) (gO_goalNumber : Nat → Int64) (gO_goalScale : Nat → Int64) (fO_start : Nat → Int32) (fO_column : Nat → Int32) (fO_chosen : Nat → Int32) (aM : Nat → Nat) (kM : Nat → ClassId) (iM_stands : Int32) (iM_variables : Int32) (iM_rows : Int32) (iM_goals : Int32) (iM_differents : Int32) (iM_cases : Int32) (fM_from : Nat → Int32) (fM_to : Nat → Int32) (fM_whole : Nat → Int32) (fM_ways : Nat → Int32) (iM_plainRows : Int32) (fM_plainRow : Nat → Int32) (fM_kept : Nat → Int32) (fM_goalOver : Nat → Int32) (fM_goalUnder : Nat → Int32) (fM_goalMax : Nat → Int32) (fM_different : Nat → Int32) (aQ : Nat → Nat) (kQ : Nat → ClassId) (fQ_inside : Nat → Int32) (fQ_outside : Nat → Int32) (fQ_shut : Nat → Int32) (iQ_rows : Int32) (iQ_allRows : Int32) (iQ_columns : Int32) (nW : Nat) (lw : Nat → Nat) (kw : ClassId) (wl : Nat → Int32) (wb : Nat → Int32) (wG : Nat → Nat → Int64) (p1 : Int32) (p2 : Int32) (p3 : Int32) (b_iO_answered : 0 ≤ iO_answered.toInt ∧ iO_answered.toInt ≤ 1) (b_iO_searched : 0 ≤ iO_searched.toInt ∧ iO_searched.toInt ≤ 1) (b_iO_searchedRelaxed : 0 ≤ iO_searchedRelaxed.toInt ∧ iO_searchedRelaxed.toInt ≤ 1) (b_iO_counted : (-1) ≤ iO_counted.toInt ∧ iO_counted.toInt ≤ 64) (b_fO_countedCase : ∀ q : Nat, 0 ≤ (fO_countedCase q).toInt ∧ (fO_countedCase q).toInt ≤ 200000) (b_fO_column : ∀ q : Nat, (-1) ≤ (fO_column q).toInt ∧ (fO_column q).toInt ≤ 8) (b_fO_chosen : ∀ q : Nat, 0 ≤ (fO_chosen q).toInt ∧ (fO_chosen q).toInt ≤ 2) (b_iM_stands : 0 ≤ iM_stands.toInt ∧ iM_stands.toInt ≤ 1) (b_iM_variables : 0 ≤ iM_variables.toInt ∧ iM_variables.toInt ≤ 8) (b_iM_rows : 0 ≤ iM_rows.toInt ∧ iM_rows.toInt ≤ 12) (b_iM_goals : 0 ≤ iM_goals.toInt ∧ iM_goals.toInt ≤ 3) (b_iM_differents : 0 ≤ iM_differents.toInt ∧ iM_differents.toInt ≤ 8) (b_iM_cases : 0 ≤ iM_cases.toInt ∧ iM_cases.toInt ≤ 200000) (b_fM_ways : ∀ q : Nat, 0 ≤ (fM_ways q).toInt ∧ (fM_ways q).toInt ≤ 3) (b_iM_plainRows : 0 ≤ iM_plainRows.toInt ∧ iM_plainRows.toInt ≤ 12) (b_fM_plainRow : ∀ q : Nat, 0 ≤ (fM_plainRow q).toInt ∧ (fM_plainRow q).toInt ≤ 11) (b_pr : iM_plainRows.toInt ≤ iM_rows.toInt) (b_iQ_rows : 0 ≤ iQ_rows.toInt ∧ iQ_rows.toInt ≤ 40) (b_iQ_allRows : 0 ≤ iQ_allRows.toInt ∧ iQ_allRows.toInt ≤ 40) (b_iQ_columns : 0 ≤ iQ_columns.toInt ∧ iQ_columns.toInt ≤ 40) (b_tb : TbO iQ_rows iQ_allRows iQ_columns) (b_wl : ∀ q : Nat, 0 ≤ (wl q).toInt ∧ (wl q).toInt ≤ 14) (b_wb : ∀ q : Nat, 0 ≤ (wb q).toInt ∧ (wb q).toInt ≤ 1) (b_p1 : 0 ≤ p1.toInt ∧ p1.toInt ≤ 39) (b_p2 : 0 ≤ p2.toInt ∧ p2.toInt ≤ 11) (b_p3 : 0 ≤ p3.toInt ∧ p3.toInt ≤ 2) (hnW : 432 ≤ nW) (hc8 : iQ_columns.toInt ≤ 8) (sz : Nat) : Met l yX5_layWay wsMX5_layWay ({ frames := 1, cells := 0, slots := 0, locals := 25 }) (va_Pc [.ref (hO 0), .int p1, .int p2, .int p3] (fun U => U.heap.size = sz ∧ va_P (dC, dI) vwCl (WO hO aO kO hM hQ hw iO_answered iO_searched iO_searchedRelaxed iO_counted fO_countedCase gO_goalNumber gO_goalScale fO_start fO_column fO_chosen ++ (WM hM aM kM iM_stands iM_variables iM_rows iM_goals iM_differents iM_cases fM_from fM_to fM_whole fM_ways iM_plainRows fM_plainRow fM_kept fM_goalOver fM_goalUnder fM_goalMax fM_different ++ (WQ hQ aQ kQ hw fQ_inside fQ_outside fQ_shut iQ_rows iQ_allRows iQ_columns ++ (WW nW hw lw kw wl wb wG)))) U.heap ∧ va_K (dC, dI) vwCl (tO kO ++ (tM kM ++ (tQ kQ ++ (tW kw)))) U ∧ va_D (fun _ => True) (WO hO aO kO hM hQ hw iO_answered iO_searched iO_searchedRelaxed iO_counted fO_countedCase gO_goalNumber gO_goalScale fO_start fO_column fO_chosen ++ (WM hM aM kM iM_stands iM_variables iM_rows iM_goals iM_differents iM_cases fM_from fM_to fM_whole fM_ways iM_plainRows fM_plainRow fM_kept fM_goalOver fM_goalUnder fM_goalMax fM_different ++ (WQ hQ aQ kQ hw fQ_inside fQ_outside fQ_shut iQ_rows iQ_allRows iQ_columns ++ (WW nW hw lw kw wl wb wG)))))) (va_Qi (fun (r : Int32) (u : (Nat → Int32) × (Nat → Int32) × (Nat → Nat → Int64)) => (∀ q : Nat, 0 ≤ ((u.1) q).toInt ∧ ((u.1) q).toInt ≤ 14) ∧ (∀ q : Nat, 0 ≤ ((u.2.1) q).toInt ∧ ((u.2.1) q).toInt ≤ 1) ∧ (0 ≤ r.toInt ∧ r.toInt ≤ 1)) (fun (u : (Nat → Int32) × (Nat → Int32) × (Nat → Nat → Int64)) t => va_P (dC, dI) vwCl (WO hO aO kO hM hQ hw iO_answered iO_searched iO_searchedRelaxed iO_counted fO_countedCase gO_goalNumber gO_goalScale fO_start fO_column fO_chosen ++ (WM hM aM kM iM_stands iM_variables iM_rows iM_goals iM_differents iM_cases fM_from fM_to fM_whole fM_ways iM_plainRows fM_plainRow fM_kept fM_goalOver fM_goalUnder fM_goalMax fM_different ++ (WQ hQ aQ kQ hw fQ_inside fQ_outside fQ_shut iQ_rows iQ_allRows iQ_columns ++ (WW nW hw lw kw (u.1) (u.2.1) (u.2.2))))) t.heap ∧ va_D (va_A (WO hO aO kO hM hQ hw iO_answered iO_searched iO_searchedRelaxed iO_counted fO_countedCase gO_goalNumber gO_goalScale fO_start fO_column fO_chosen ++ (WM hM aM kM iM_stands iM_variables iM_rows iM_goals iM_differents iM_cases fM_from fM_to fM_whole fM_ways iM_plainRows fM_plainRow fM_kept fM_goalOver fM_goalUnder fM_goalMax fM_different ++ (WQ hQ aQ kQ hw fQ_inside fQ_outside fQ_shut iQ_rows iQ_allRows iQ_columns ++ (WW nW hw lw kw wl wb wG)))) sz) (WO hO aO kO hM hQ hw iO_answered iO_searched iO_searchedRelaxed iO_counted fO_countedCase gO_goalNumber gO_goalScale fO_start fO_column fO_chosen ++ (WM hM aM kM iM_stands iM_variables iM_rows iM_goals iM_differents iM_cases fM_from fM_to fM_whole fM_ways iM_plainRows fM_plainRow fM_kept fM_goalOver fM_goalUnder fM_goalMax fM_different ++ (WQ hQ aQ kQ hw fQ_inside fQ_outside fQ_shut iQ_rows iQ_allRows iQ_columns ++ (WW nW hw lw kw (u.1) (u.2.1) (u.2.2)))))) (va_A (WO hO aO kO hM hQ hw iO_answered iO_searched iO_searchedRelaxed iO_counted fO_countedCase gO_goalNumber gO_goalScale fO_start fO_column fO_chosen ++ (WM hM aM kM iM_stands iM_variables iM_rows iM_goals iM_differents iM_cases fM_from fM_to fM_whole fM_ways iM_plainRows fM_plainRow fM_kept fM_goalOver fM_goalUnder fM_goalMax fM_different ++ (WQ hQ aQ kQ hw fQ_inside fQ_outside fQ_shut iQ_rows iQ_allRows iQ_columns ++ (WW nW hw lw kw wl wb wG)))) sz)) 0 0 (va_A (WO hO aO kO hM hQ hw iO_answered iO_searched iO_searchedRelaxed iO_counted fO_countedCase gO_goalNumber gO_goalScale fO_start fO_column fO_chosen ++ (WM hM aM kM iM_stands iM_variables iM_rows iM_goals iM_differents iM_cases fM_from fM_to fM_whole fM_ways iM_plainRows fM_plainRow fM_kept fM_goalOver fM_goalUnder fM_goalMax fM_different ++ (WQ hQ aQ kQ hw fQ_inside fQ_outside fQ_shut iQ_rows iQ_allRows iQ_columns ++ (WW nW hw lw kw wl wb wG)))) sz) := by
  refine Met.ofW (cc := cX5_layWay) (maxL := 12) (ret := (some .boolean)) (by decide) rfl ?_
  intro p e s m args below meth c s₁ B hml hv
  obtain ⟨rfl, hsz, hP, hK, hD0⟩ := hv
  have hx := B.exec
  have hb := B.bytes
  have hr := B.returns
  have hts := atoms_spec (ws := wsMX5_layWay) B.pre
  have hown : s.vm.findClass RX5 = some m.cls := findClass_of_methodNamed B.named
  have hlocks := B.notSynchronized
  subst hsz
  have hD := hD0.self (sz := s.heap.size)
  generalize hAe : va_A (WO hO aO kO hM hQ hw iO_answered iO_searched iO_searchedRelaxed iO_counted fO_countedCase gO_goalNumber gO_goalScale fO_start fO_column fO_chosen ++ (WM hM aM kM iM_stands iM_variables iM_rows iM_goals iM_differents iM_cases fM_from fM_to fM_whole fM_ways iM_plainRows fM_plainRow fM_kept fM_goalOver fM_goalUnder fM_goalMax fM_different ++ (WQ hQ aQ kQ hw fQ_inside fQ_outside fQ_shut iQ_rows iQ_allRows iQ_columns ++ (WW nW hw lw kw wl wb wG)))) s.heap.size = A at hD ⊢
  have hA : ∀ q : Nat, s.heap.size ≤ q → A q := fun q h => by rw [← hAe]; exact Or.inr h
  have hS : va_S A s.heap s.heap [] := va_S.rf
  have hl := lv_entry ([.ref (hO 0), .int p1, .int p2, .int p3]) (n := 12) (Nat.le_of_ble_eq_true rfl)
  rw [lg_entry_eq]
  generalize (lg_sl ([.ref (hO 0), .int p1, .int p2, .int p3]) ++ List.replicate (12 - (lg_sl ([.ref (hO 0), .int p1, .int p2, .int p3])).length) Slot.unset).toArray = ls at hl ⊢
  have hl : lv_has ls 12 [(0, .ref (hO 0)), (1, .int p1), (2, .int p2), (3, .int p3)] := hl
  refine lv_aload_n hx hb dX5_layWay_0 rfl (lv_at hl 0 rfl) ?_
  refine va_get (D := (dC, dI)) (ci := 5) (v := .ref (hM 0)) (C := RX5) (T := TX5) (N := 19) hx hb hts iwsMX5_layWay_in5 hown hK hP 0 rfl rfl 0 (by decide) (hts _ hm_m_X5_layWay_0) (fun _ h9 => h9) rfl dX5_layWay_1 ?_
  refine lv_iload_n hx hb dX5_layWay_4 rfl (lv_at hl 2 rfl) ?_
  refine lv_iload_n hx hb dX5_layWay_5 rfl (lv_at hl 3 rfl) ?_
  have p9 := cj_4_1 (WO hO aO kO hM hQ hw iO_answered iO_searched iO_searchedRelaxed iO_counted fO_countedCase gO_goalNumber gO_goalScale fO_start fO_column fO_chosen) (WM hM aM kM iM_stands iM_variables iM_rows iM_goals iM_differents iM_cases fM_from fM_to fM_whole fM_ways iM_plainRows fM_plainRow fM_kept fM_goalOver fM_goalUnder fM_goalMax fM_different) (WQ hQ aQ kQ hw fQ_inside fQ_outside fQ_shut iQ_rows iQ_allRows iQ_columns) (WW nW hw lw kw wl wb wG)
  have hPc := hP.mem (fun q h => p9.mem_iff.mpr (List.mem_append_left _ h))
  have hDc := (hD.perm p9).left
  have hKc : va_K (dC, dI) vwCl (tM kM) _ := hK.sub [10, 11, 12, 13, 14, 15, 16, 17, 18, 19] rfl
  have hFc := freeG p9 hD hS hA
  refine va_calli (va_runV (As := [.int p2, .int p3]) (rest := []) ⟨hx, hb, hml, hown, hts⟩ (m_X1_sign l dC dI hM aM kM iM_stands iM_variables iM_rows iM_goals iM_differents iM_cases fM_from fM_to fM_whole fM_ways iM_plainRows fM_plainRow fM_kept fM_goalOver fM_goalUnder fM_goalMax fM_different p2 p3 (b_iM_stands) (b_iM_variables) (b_iM_rows) (b_iM_goals) (b_iM_differents) (b_iM_cases) b_fM_ways (b_iM_plainRows) b_fM_plainRow (by first | with_reducible assumption | omega | assumption) (b_p2) (b_p3) s.heap.size) (cwV 2 hts gwsMX5_layWay_0 rfl rfl rfl hd_yX1_sign_RX1 (by decide +kernel)) (fz_pre (va_recv hK hP (ci := 1) (q0 := 11) rfl rfl) hPc hKc hDc) rfl rfl hl.1 rfl (lv_room (Nat.le_of_ble_eq_true rfl)) dX5_layWay_6 (by decide +kernel)) hS (fun q _ h => hFc q h) hFc (fun r1 u t9_ H locs ht hvm hw9 hB9 hz1 hk1 hS => ?_)
  clear hw9
  have p8 := p9
  obtain ⟨hP, hD⟩ := frameG p9 p8 hP hD hk1 hFc (fz_P ht hB9.1) hB9.2
  refine lv_istore hx hb dX5_layWay_9 hl (by decide) rfl (fun ls (hl : lv_has ls _ ([(4, .int r1), (0, .ref (hO 0)), (1, .int p1), (2, .int p2), (3, .int p3)])) => ?_)
  refine lv_iload hx hb dX5_layWay_11 (lv_at hl 0 rfl) ?_
  refine W.cut (pc := 21) (fun H locs ls stk => ∃ (k0_j11 : Int32), ((-1) ≤ k0_j11.toInt ∧ k0_j11.toInt ≤ 1) ∧  stk = [.int k0_j11] ∧ va_P (dC, dI) vwCl (WO hO aO kO hM hQ hw iO_answered iO_searched iO_searchedRelaxed iO_counted fO_countedCase gO_goalNumber gO_goalScale fO_start fO_column fO_chosen ++ (WM hM aM kM iM_stands iM_variables iM_rows iM_goals iM_differents iM_cases fM_from fM_to fM_whole fM_ways iM_plainRows fM_plainRow fM_kept fM_goalOver fM_goalUnder fM_goalMax fM_different ++ (WQ hQ aQ kQ hw fQ_inside fQ_outside fQ_shut iQ_rows iQ_allRows iQ_columns ++ (WW nW hw lw kw wl wb wG)))) H ∧ va_D A (WO hO aO kO hM hQ hw iO_answered iO_searched iO_searchedRelaxed iO_counted fO_countedCase gO_goalNumber gO_goalScale fO_start fO_column fO_chosen ++ (WM hM aM kM iM_stands iM_variables iM_rows iM_goals iM_differents iM_cases fM_from fM_to fM_whole fM_ways iM_plainRows fM_plainRow fM_kept fM_goalOver fM_goalUnder fM_goalMax fM_different ++ (WQ hQ aQ kQ hw fQ_inside fQ_outside fQ_shut iQ_rows iQ_allRows iQ_columns ++ (WW nW hw lw kw wl wb wG)))) ∧ va_S A s.heap H locs ∧ lv_has ls 12 [(4, .int r1), (0, .ref (hO 0)), (1, .int p1), (2, .int p2), (3, .int p3)]) (fun join11 => ?_) ?_
  · refine lv_if_ne (tgt := 20) hx hb dX5_layWay_13 (by decide) (fun c_13 => ?_) (fun c_13 => ?_)
    · have t_13 : r1.toInt ≠ 0 := toI_ne c_13 rfl (by decide : (0 : Int32).toInt = 0)
      refine lv_iconst (v := 1) hx hb dX5_layWay_20 (by decide) ?_
      have hl : lv_has _ _ ([(4, .int r1), (0, .ref (hO 0)), (1, .int p1), (2, .int p2), (3, .int p3)]) := lv_sub hl [0, 1, 2, 3, 4] rfl
      exact join11 _ _ _ _ ⟨1, (show (-1) ≤ (1 : Int32).toInt ∧ (1 : Int32).toInt ≤ 1 from by decide), rfl, hP, hD, hS, hl⟩
    · have t_13 : r1.toInt = 0 := toI_nne c_13 rfl (by decide : (0 : Int32).toInt = 0)
      refine lv_iconst (v := (-1)) hx hb dX5_layWay_16 (by decide) ?_
      refine lv_goto (tgt := 21) hx hb dX5_layWay_17 (by decide) ?_
      have hl : lv_has _ _ ([(4, .int r1), (0, .ref (hO 0)), (1, .int p1), (2, .int p2), (3, .int p3)]) := lv_sub hl [0, 1, 2, 3, 4] rfl
      exact join11 _ _ _ _ ⟨(-1), (show (-1) ≤ ((-1) : Int32).toInt ∧ ((-1) : Int32).toInt ≤ 1 from by decide), rfl, hP, hD, hS, hl⟩
  · rintro H locs ls stk ⟨k0_j11, b_k0_j11, rfl, hP, hD, hS, hl⟩
    refine lv_istore hx hb dX5_layWay_21 hl (by decide) rfl (fun ls (hl : lv_has ls _ ([(5, .int k0_j11), (4, .int r1), (0, .ref (hO 0)), (1, .int p1), (2, .int p2), (3, .int p3)])) => ?_)
    refine lv_iload hx hb dX5_layWay_23 (lv_at hl 0 rfl) ?_
    refine lv_ineg hx hb dX5_layWay_25 ?_
    refine lv_topi (fun y2 hy2 => ?_)
    obtain rfl : (iI (-k0_j11.toInt)) = y2 := (hy2.trans (iI_neg2 (iI_of _))).symm
    refine lv_aload_n hx hb dX5_layWay_26 rfl (lv_at hl 2 rfl) ?_
    refine va_get (D := (dC, dI)) (ci := 5) (v := .ref (hM 0)) (C := RX5) (T := TX5) (N := 19) hx hb hts iwsMX5_layWay_in5 hown hK hP 0 rfl rfl 0 (by decide) (hts _ hm_m_X5_layWay_0) (fun _ h9 => h9) rfl dX5_layWay_27 ?_
    refine lv_iload_n hx hb dX5_layWay_30 rfl (lv_at hl 4 rfl) ?_
    refine lv_iload_n hx hb dX5_layWay_31 rfl (lv_at hl 5 rfl) ?_
    have p9 := cj_4_1 (WO hO aO kO hM hQ hw iO_answered iO_searched iO_searchedRelaxed iO_counted fO_countedCase gO_goalNumber gO_goalScale fO_start fO_column fO_chosen) (WM hM aM kM iM_stands iM_variables iM_rows iM_goals iM_differents iM_cases fM_from fM_to fM_whole fM_ways iM_plainRows fM_plainRow fM_kept fM_goalOver fM_goalUnder fM_goalMax fM_different) (WQ hQ aQ kQ hw fQ_inside fQ_outside fQ_shut iQ_rows iQ_allRows iQ_columns) (WW nW hw lw kw wl wb wG)
    have hPc := hP.mem (fun q h => p9.mem_iff.mpr (List.mem_append_left _ h))
    have hDc := (hD.perm p9).left
    have hKc : va_K (dC, dI) vwCl (tM kM) _ := hK.sub [10, 11, 12, 13, 14, 15, 16, 17, 18, 19] rfl
    have hFc := freeG p9 hD hS hA
    refine va_calli (va_runV (As := [.int p2, .int p3]) (rest := [.int (iI (-k0_j11.toInt))]) ⟨hx, hb, hml, hown, hts⟩ (m_X1_rightSide l dC dI hM aM kM iM_stands iM_variables iM_rows iM_goals iM_differents iM_cases fM_from fM_to fM_whole fM_ways iM_plainRows fM_plainRow fM_kept fM_goalOver fM_goalUnder fM_goalMax fM_different p2 p3 (b_iM_stands) (b_iM_variables) (b_iM_rows) (b_iM_goals) (b_iM_differents) (b_iM_cases) b_fM_ways (b_iM_plainRows) b_fM_plainRow (by first | with_reducible assumption | omega | assumption) (b_p2) (b_p3) H.size) (cwV 2 hts gwsMX5_layWay_1 rfl rfl rfl hd_yX1_rightSide_RX1 (by decide +kernel)) (fz_pre (va_recv hK hP (ci := 1) (q0 := 11) rfl rfl) hPc hKc hDc) rfl rfl hl.1 rfl (lv_room (Nat.le_of_ble_eq_true rfl)) dX5_layWay_32 (by decide +kernel)) hS (fun q _ h => hFc q h) hFc (fun r3 u t9_ H locs ht hvm hw9 hB9 hz1 hk1 hS => ?_)
    clear hw9
    have p8 := p9
    obtain ⟨hP, hD⟩ := frameG p9 p8 hP hD hk1 hFc (fz_P ht hB9.1) hB9.2
    refine lv_imul hx hb dX5_layWay_35 ?_
    refine lv_topi (fun y4 hy4 => ?_)
    obtain rfl : (iI ((-k0_j11.toInt) * r3.toInt)) = y4 := (hy4.trans (iI_mul2 rfl (iI_of _))).symm
    refine lv_istore hx hb dX5_layWay_36 hl (by decide) rfl (fun ls (hl : lv_has ls _ ([(6, .int (iI ((-k0_j11.toInt) * r3.toInt))), (5, .int k0_j11), (4, .int r1), (0, .ref (hO 0)), (1, .int p1), (2, .int p2), (3, .int p3)])) => ?_)
    refine lv_iconst (v := 0) hx hb dX5_layWay_38 (by decide) ?_
    refine lv_istore hx hb dX5_layWay_39 hl (by decide) rfl (fun ls (hl : lv_has ls _ ([(7, .int 0), (6, .int (iI ((-k0_j11.toInt) * r3.toInt))), (5, .int k0_j11), (4, .int r1), (0, .ref (hO 0)), (1, .int p1), (2, .int p2), (3, .int p3)])) => ?_)
    refine lv_iconst (v := 0) hx hb dX5_layWay_41 (by decide) ?_
    refine lv_istore hx hb dX5_layWay_42 hl (by decide) rfl (fun ls (hl : lv_has ls _ ([(8, .int 0), (7, .int 0), (6, .int (iI ((-k0_j11.toInt) * r3.toInt))), (5, .int k0_j11), (4, .int r1), (0, .ref (hO 0)), (1, .int p1), (2, .int p2), (3, .int p3)])) => ?_)
    refine lv_iconst (v := 0) hx hb dX5_layWay_44 (by decide) ?_
    refine lv_istore hx hb dX5_layWay_45 hl (by decide) rfl (fun ls (hl : lv_has ls _ ([(9, .int 0), (8, .int 0), (7, .int 0), (6, .int (iI ((-k0_j11.toInt) * r3.toInt))), (5, .int k0_j11), (4, .int r1), (0, .ref (hO 0)), (1, .int p1), (2, .int p2), (3, .int p3)])) => ?_)
    have hl : lv_has _ _ ([(9, .int 0), (8, .int 0), (7, .int 0), (6, .int (iI ((-k0_j11.toInt) * r3.toInt))), (5, .int k0_j11), (4, .int r1), (0, .ref (hO 0)), (1, .int p1), (2, .int p2), (3, .int p3)]) := lv_sub hl [0, 1, 2, 3, 4, 5, 6, 7, 8, 9] rfl
    refine (fun (loop : ∀ (n9 : Nat) (wl_x47 : Nat → Int32) (wb_x47 : Nat → Int32) (wG_x47 : Nat → Nat → Int64) (l9_x47 : Int32) (l8_x47 : Int32) (l7_x47 : Int32) (l6_x47 : Int32) (H : Heap) (locs : List Loc) (ls : Array Slot), (∀ q : Nat, 0 ≤ (wl_x47 q).toInt ∧ (wl_x47 q).toInt ≤ 14) → (∀ q : Nat, 0 ≤ (wb_x47 q).toInt ∧ (wb_x47 q).toInt ≤ 1) → (0 ≤ l9_x47.toInt ∧ l9_x47.toInt ≤ 8) → (8 - l9_x47.toInt < ((n9 : Nat) : Int)) → va_P (dC, dI) vwCl (WO hO aO kO hM hQ hw iO_answered iO_searched iO_searchedRelaxed iO_counted fO_countedCase gO_goalNumber gO_goalScale fO_start fO_column fO_chosen ++ (WM hM aM kM iM_stands iM_variables iM_rows iM_goals iM_differents iM_cases fM_from fM_to fM_whole fM_ways iM_plainRows fM_plainRow fM_kept fM_goalOver fM_goalUnder fM_goalMax fM_different ++ (WQ hQ aQ kQ hw fQ_inside fQ_outside fQ_shut iQ_rows iQ_allRows iQ_columns ++ (WW nW hw lw kw wl_x47 wb_x47 wG_x47)))) H → va_D A (WO hO aO kO hM hQ hw iO_answered iO_searched iO_searchedRelaxed iO_counted fO_countedCase gO_goalNumber gO_goalScale fO_start fO_column fO_chosen ++ (WM hM aM kM iM_stands iM_variables iM_rows iM_goals iM_differents iM_cases fM_from fM_to fM_whole fM_ways iM_plainRows fM_plainRow fM_kept fM_goalOver fM_goalUnder fM_goalMax fM_different ++ (WQ hQ aQ kQ hw fQ_inside fQ_outside fQ_shut iQ_rows iQ_allRows iQ_columns ++ (WW nW hw lw kw wl_x47 wb_x47 wG_x47)))) → va_S A s.heap H locs → lv_has ls 12 [(9, .int l9_x47), (8, .int l8_x47), (7, .int l7_x47), (6, .int l6_x47), (5, .int k0_j11), (4, .int r1), (0, .ref (hO 0)), (1, .int p1), (2, .int p2), (3, .int p3)] → W p l e _ s m _ below meth c H locs 0 0 _ (F0 m 47 ls [])) => loop (9) wl wb wG 0 0 0 (iI ((-k0_j11.toInt) * r3.toInt)) _ _ _ b_wl b_wb (show 0 ≤ (0 : Int32).toInt ∧ (0 : Int32).toInt ≤ 8 from by decide) ((by have e9 : (0 : Int32).toInt = 0 := (by decide : (0 : Int32).toInt = 0); omega)) hP hD hS hl) ?_
    intro n9
    induction n9 with
    | zero => intro wl_x47 wb_x47 wG_x47 l9_x47 l8_x47 l7_x47 l6_x47 H locs ls b_wl_x47 b_wb_x47 b_l9_x47 hf9; exact False.elim (by omega)
    | succ n9 ihx47 =>
      intro wl_x47 wb_x47 wG_x47 l9_x47 l8_x47 l7_x47 l6_x47 H locs ls b_wl_x47 b_wb_x47 b_l9_x47 hfx47 hP hD hS hl
      refine lv_iload hx hb dX5_layWay_47 (lv_at hl 0 rfl) ?_
      refine lv_aload_n hx hb dX5_layWay_49 rfl (lv_at hl 6 rfl) ?_
      refine va_get (D := (dC, dI)) (ci := 5) (v := .ref (hM 0)) (C := RX5) (T := TX5) (N := 19) hx hb hts iwsMX5_layWay_in5 hown hK hP 0 rfl rfl 0 (by decide) (hts _ hm_m_X5_layWay_0) (fun _ h9 => h9) rfl dX5_layWay_50 ?_
      refine va_get (D := (dC, dI)) (ci := 1) (v := .int iM_variables) (C := RX1) (T := TX1) (N := 17) hx hb hts iwsMX5_layWay_in1 hown hK hP 11 rfl rfl 1 (by decide) (hts (.fieldLink RX5 112 "OptimaWorks$Model" "variables" "I") (by decide +kernel)) (fun _ h9 => h9) rfl dX5_layWay_53 ?_
      refine lv_icmp_ge (tgt := 181) hx hb dX5_layWay_56 (by decide) (fun c_56 => ?_) (fun c_56 => ?_)
      · have t_56 : l9_x47.toInt ≥ iM_variables.toInt := toI_ge c_56 rfl rfl
        refine lv_aload_n hx hb dX5_layWay_181 rfl (lv_at hl 6 rfl) ?_
        refine va_get (D := (dC, dI)) (ci := 5) (v := .ref (hQ 0)) (C := RX5) (T := TX5) (N := 19) hx hb hts iwsMX5_layWay_in5 hown hK hP 0 rfl rfl 1 (by decide) (hts _ hm_m_X5_layWay_1) (fun _ h9 => h9) rfl dX5_layWay_182 ?_
        refine lv_iload_n hx hb dX5_layWay_185 rfl (lv_at hl 7 rfl) ?_
        refine lv_iconst (v := 0) hx hb dX5_layWay_186 (by decide) ?_
        have p9 := cj_4_2_3 (WO hO aO kO hM hQ hw iO_answered iO_searched iO_searchedRelaxed iO_counted fO_countedCase gO_goalNumber gO_goalScale fO_start fO_column fO_chosen) (WM hM aM kM iM_stands iM_variables iM_rows iM_goals iM_differents iM_cases fM_from fM_to fM_whole fM_ways iM_plainRows fM_plainRow fM_kept fM_goalOver fM_goalUnder fM_goalMax fM_different) (WQ hQ aQ kQ hw fQ_inside fQ_outside fQ_shut iQ_rows iQ_allRows iQ_columns) (WW nW hw lw kw wl_x47 wb_x47 wG_x47)
        have hPc := hP.mem (fun q h => p9.mem_iff.mpr (List.mem_append_left _ h))
        have hDc := (hD.perm p9).left
        have hKc : va_K (dC, dI) vwCl (tQ kQ ++ (tW kw)) _ := hK.sub [20, 21, 22, 23, 24] rfl
        have hFc := freeG p9 hD hS hA
        refine va_callr (va_runV (As := [.int p1, .int 0]) (rest := []) ⟨hx, hb, hml, hown, hts⟩ (m_X6_cellAt l dC dI hQ aQ kQ hw fQ_inside fQ_outside fQ_shut iQ_rows iQ_allRows iQ_columns nW lw kw wl_x47 wb_x47 wG_x47 p1 0 (b_iQ_rows) (b_iQ_allRows) (b_iQ_columns) (by first | with_reducible assumption | omega | assumption) b_wl_x47 b_wb_x47 (b_p1) (show 0 ≤ (0 : Int32).toInt ∧ (0 : Int32).toInt ≤ 40 from by decide) (by omega) ((by have h9 := ix_small (i := p1.toInt) (j := 0) (c := iQ_columns.toInt) (by omega) (by omega) (by omega) (by omega) (by omega) (by omega); have h8 : (0 : Int32).toInt = 0 := (by decide); rw [h8]; exact h9)) H.size) (cwV 2 hts gwsMX5_layWay_3 rfl rfl rfl hd_yX6_cellAt_RX6 (by decide +kernel)) (fz_pre (va_recv hK hP (ci := 6) (q0 := 22) rfl rfl) hPc hKc hDc) rfl rfl hl.1 rfl (lv_room (Nat.le_of_ble_eq_true rfl)) dX5_layWay_187 (by decide +kernel)) hS (fun q _ h => hFc q h) hFc (fun kR_172 ra172 t9_ H locs ht hvm hw9 hB9 hz1 hk1 hS => ?_)
        revert hB9
        refine fz_a2 ?_
        intro hra hB9
        subst hra
        have f172_0 := hw9
        try dsimp only at f172_0
        have p8 := p9
        obtain ⟨hP, hD⟩ := frameG p9 p8 hP hD hk1 hFc (fz_P ht hB9.1) hB9.2
        refine lv_iload hx hb dX5_layWay_190 (lv_at hl 3 rfl) ?_
        refine lv_i2l hx hb dX5_layWay_192 rfl ?_
        refine lv_topl (fun v173 hv173 => ?_)
        clear hv173
        have p9 := cj_4_3 (WO hO aO kO hM hQ hw iO_answered iO_searched iO_searchedRelaxed iO_counted fO_countedCase gO_goalNumber gO_goalScale fO_start fO_column fO_chosen) (WM hM aM kM iM_stands iM_variables iM_rows iM_goals iM_differents iM_cases fM_from fM_to fM_whole fM_ways iM_plainRows fM_plainRow fM_kept fM_goalOver fM_goalUnder fM_goalMax fM_different) (WQ hQ aQ kQ hw fQ_inside fQ_outside fQ_shut iQ_rows iQ_allRows iQ_columns) (WW nW hw lw kw wl_x47 wb_x47 wG_x47)
        have hPc := hP.mem (fun q h => p9.mem_iff.mpr (List.mem_append_left _ h))
        have hDc := (hD.perm p9).left
        have hKc : va_K (dC, dI) vwCl (tW kw) _ := hK.sub [24] rfl
        have hFc := freeG p9 hD hS hA
        refine va_callv (va_runV (As := [.long v173]) (rest := []) ⟨hx, hb, hml, hown, hts⟩ (m_X8_setLong l dC dI nW hw lw kw wl_x47 wb_x47 wG_x47 kR_172 v173 b_wl_x47 b_wb_x47 (by first | with_reducible assumption | omega | (rw [iI_t (by omega) (by omega)]; omega) | decide | assumption) H.size) (cwV 1 hts gwsMX5_layWay_4 rfl rfl rfl hd_yX8_setLong_RX8 (by decide +kernel)) (fz_pre (va_recv hK hP (ci := 8) (q0 := 11 + (11 + (5 + (kR_172)))) rfl (apR rfl (apR rfl (apR rfl (WW_o (by omega)))))) hPc hKc hDc) rfl rfl hl.1 rfl (lv_room (Nat.le_of_ble_eq_true rfl)) dX5_layWay_193 (by decide +kernel)) hS (fun q _ h => hFc q h) hFc (fun u t9_ H locs ht hvm hw9 hB9 hz1 hk1 hS => ?_)
        revert u hw9 hB9
        refine fz_p3 ?_
        intro wl_174 wb_174 wG_174 hw9 hB9
        try dsimp only at hw9 hB9
        revert hw9
        refine fz_a2 ?_
        intro b_wl_174 b_wb_174
        have p8 := cj_4_3 (WO hO aO kO hM hQ hw iO_answered iO_searched iO_searchedRelaxed iO_counted fO_countedCase gO_goalNumber gO_goalScale fO_start fO_column fO_chosen) (WM hM aM kM iM_stands iM_variables iM_rows iM_goals iM_differents iM_cases fM_from fM_to fM_whole fM_ways iM_plainRows fM_plainRow fM_kept fM_goalOver fM_goalUnder fM_goalMax fM_different) (WQ hQ aQ kQ hw fQ_inside fQ_outside fQ_shut iQ_rows iQ_allRows iQ_columns) (WW nW hw lw kw wl_174 wb_174 wG_174)
        obtain ⟨hP, hD⟩ := frameG p9 p8 hP hD hk1 hFc (fz_P ht hB9.1) hB9.2
        refine lv_iload hx hb dX5_layWay_196 (lv_at hl 3 rfl) ?_
        refine lv_iload hx hb dX5_layWay_198 (lv_at hl 1 rfl) ?_
        refine lv_iadd hx hb dX5_layWay_200 ?_
        refine lv_topi (fun y175 hy175 => ?_)
        obtain rfl : (iI (l6_x47.toInt + l8_x47.toInt)) = y175 := (hy175.trans (iI_add2 (iI_of _) (iI_of _))).symm
        refine W.cut (pc := 223) (fun H locs ls stk => ∃ (k0_j19 : Int32), (0 ≤ k0_j19.toInt ∧ k0_j19.toInt ≤ 1) ∧  stk = [.int k0_j19] ∧ va_P (dC, dI) vwCl (WO hO aO kO hM hQ hw iO_answered iO_searched iO_searchedRelaxed iO_counted fO_countedCase gO_goalNumber gO_goalScale fO_start fO_column fO_chosen ++ (WM hM aM kM iM_stands iM_variables iM_rows iM_goals iM_differents iM_cases fM_from fM_to fM_whole fM_ways iM_plainRows fM_plainRow fM_kept fM_goalOver fM_goalUnder fM_goalMax fM_different ++ (WQ hQ aQ kQ hw fQ_inside fQ_outside fQ_shut iQ_rows iQ_allRows iQ_columns ++ (WW nW hw lw kw wl_174 wb_174 wG_174)))) H ∧ va_D A (WO hO aO kO hM hQ hw iO_answered iO_searched iO_searchedRelaxed iO_counted fO_countedCase gO_goalNumber gO_goalScale fO_start fO_column fO_chosen ++ (WM hM aM kM iM_stands iM_variables iM_rows iM_goals iM_differents iM_cases fM_from fM_to fM_whole fM_ways iM_plainRows fM_plainRow fM_kept fM_goalOver fM_goalUnder fM_goalMax fM_different ++ (WQ hQ aQ kQ hw fQ_inside fQ_outside fQ_shut iQ_rows iQ_allRows iQ_columns ++ (WW nW hw lw kw wl_174 wb_174 wG_174)))) ∧ va_S A s.heap H locs ∧ lv_has ls 12 [(9, .int l9_x47), (8, .int l8_x47), (7, .int l7_x47), (6, .int l6_x47), (5, .int k0_j11), (4, .int r1), (0, .ref (hO 0)), (1, .int p1), (2, .int p2), (3, .int p3)]) (fun join19 => ?_) ?_
        · refine lv_if_lt (tgt := 222) hx hb dX5_layWay_201 (by decide) (fun c_201 => ?_) (fun c_201 => ?_)
          · first | (have t_201 : (l6_x47.toInt + l8_x47.toInt) < 0 := toI_lt c_201 (iI_t (by omega) (by omega)) (by decide : (0 : Int32).toInt = 0)) | skip
            refine lv_iconst (v := 0) hx hb dX5_layWay_222 (by decide) ?_
            have hl : lv_has _ _ ([(9, .int l9_x47), (8, .int l8_x47), (7, .int l7_x47), (6, .int l6_x47), (5, .int k0_j11), (4, .int r1), (0, .ref (hO 0)), (1, .int p1), (2, .int p2), (3, .int p3)]) := lv_sub hl [0, 1, 2, 3, 4, 5, 6, 7, 8, 9] rfl
            exact join19 _ _ _ _ ⟨0, (show 0 ≤ (0 : Int32).toInt ∧ (0 : Int32).toInt ≤ 1 from by decide), rfl, hP, hD, hS, hl⟩
          · first | (have t_201 : ¬ (l6_x47.toInt + l8_x47.toInt) < 0 := toI_nlt c_201 (iI_t (by omega) (by omega)) (by decide : (0 : Int32).toInt = 0)) | skip
            refine lv_iload hx hb dX5_layWay_204 (lv_at hl 5 rfl) ?_
            refine lv_iconst (v := 2) hx hb dX5_layWay_206 (by decide) ?_
            refine lv_icmp_ne (tgt := 218) hx hb dX5_layWay_207 (by decide) (fun c_207 => ?_) (fun c_207 => ?_)
            · have t_207 : r1.toInt ≠ 2 := toI_ne c_207 rfl (by decide : (2 : Int32).toInt = 2)
              refine lv_iconst (v := 1) hx hb dX5_layWay_218 (by decide) ?_
              refine lv_goto (tgt := 223) hx hb dX5_layWay_219 (by decide) ?_
              have hl : lv_has _ _ ([(9, .int l9_x47), (8, .int l8_x47), (7, .int l7_x47), (6, .int l6_x47), (5, .int k0_j11), (4, .int r1), (0, .ref (hO 0)), (1, .int p1), (2, .int p2), (3, .int p3)]) := lv_sub hl [0, 1, 2, 3, 4, 5, 6, 7, 8, 9] rfl
              exact join19 _ _ _ _ ⟨1, (show 0 ≤ (1 : Int32).toInt ∧ (1 : Int32).toInt ≤ 1 from by decide), rfl, hP, hD, hS, hl⟩
            · have t_207 : r1.toInt = 2 := toI_nne c_207 rfl (by decide : (2 : Int32).toInt = 2)
              refine lv_iload hx hb dX5_layWay_210 (lv_at hl 3 rfl) ?_
              refine lv_iload hx hb dX5_layWay_212 (lv_at hl 2 rfl) ?_
              refine lv_iadd hx hb dX5_layWay_214 ?_
              refine lv_topi (fun y177 hy177 => ?_)
              obtain rfl : (iI (l6_x47.toInt + l7_x47.toInt)) = y177 := (hy177.trans (iI_add2 (iI_of _) (iI_of _))).symm
              refine lv_if_gt (tgt := 222) hx hb dX5_layWay_215 (by decide) (fun c_215 => ?_) (fun c_215 => ?_)
              · first | (have t_215 : (l6_x47.toInt + l7_x47.toInt) > 0 := toI_gt c_215 (iI_t (by omega) (by omega)) (by decide : (0 : Int32).toInt = 0)) | skip
                refine lv_iconst (v := 0) hx hb dX5_layWay_222 (by decide) ?_
                have hl : lv_has _ _ ([(9, .int l9_x47), (8, .int l8_x47), (7, .int l7_x47), (6, .int l6_x47), (5, .int k0_j11), (4, .int r1), (0, .ref (hO 0)), (1, .int p1), (2, .int p2), (3, .int p3)]) := lv_sub hl [0, 1, 2, 3, 4, 5, 6, 7, 8, 9] rfl
                exact join19 _ _ _ _ ⟨0, (show 0 ≤ (0 : Int32).toInt ∧ (0 : Int32).toInt ≤ 1 from by decide), rfl, hP, hD, hS, hl⟩
              · first | (have t_215 : ¬ (l6_x47.toInt + l7_x47.toInt) > 0 := toI_ngt c_215 (iI_t (by omega) (by omega)) (by decide : (0 : Int32).toInt = 0)) | skip
                refine lv_iconst (v := 1) hx hb dX5_layWay_218 (by decide) ?_
                refine lv_goto (tgt := 223) hx hb dX5_layWay_219 (by decide) ?_
                have hl : lv_has _ _ ([(9, .int l9_x47), (8, .int l8_x47), (7, .int l7_x47), (6, .int l6_x47), (5, .int k0_j11), (4, .int r1), (0, .ref (hO 0)), (1, .int p1), (2, .int p2), (3, .int p3)]) := lv_sub hl [0, 1, 2, 3, 4, 5, 6, 7, 8, 9] rfl
                exact join19 _ _ _ _ ⟨1, (show 0 ≤ (1 : Int32).toInt ∧ (1 : Int32).toInt ≤ 1 from by decide), rfl, hP, hD, hS, hl⟩
        · rintro H locs ls stk ⟨k0_j19, b_k0_j19, rfl, hP, hD, hS, hl⟩
          refine W.widen (k := 0) (n := 0) (by decide +kernel) (by decide +kernel) ?_
          exact W.zret (v := k0_j19) hx hb hr (by rcases z01 (x := k0_j19) (b_k0_j19) with h9 | h9 <;> rw [h9] <;> rfl) (fun t9_ ht hW => ⟨⟨k0_j19, (wl_174, wb_174, wG_174), rfl, ⟨b_wl_174, b_wb_174, (b_k0_j19)⟩, by rw [ht]; exact hP, hD⟩, hS.F ht⟩) hS.2.2 dX5_layWay_223
      · have t_56 : ¬ l9_x47.toInt ≥ iM_variables.toInt := toI_nge c_56 rfl rfl
        refine lv_iload hx hb dX5_layWay_59 (lv_at hl 4 rfl) ?_
        refine lv_aload_n hx hb dX5_layWay_61 rfl (lv_at hl 6 rfl) ?_
        refine va_get (D := (dC, dI)) (ci := 5) (v := .ref (hM 0)) (C := RX5) (T := TX5) (N := 19) hx hb hts iwsMX5_layWay_in5 hown hK hP 0 rfl rfl 0 (by decide) (hts _ hm_m_X5_layWay_0) (fun _ h9 => h9) rfl dX5_layWay_62 ?_
        refine lv_iload_n hx hb dX5_layWay_65 rfl (lv_at hl 8 rfl) ?_
        refine lv_iload_n hx hb dX5_layWay_66 rfl (lv_at hl 9 rfl) ?_
        refine lv_iload hx hb dX5_layWay_67 (lv_at hl 0 rfl) ?_
        have p9 := cj_4_1 (WO hO aO kO hM hQ hw iO_answered iO_searched iO_searchedRelaxed iO_counted fO_countedCase gO_goalNumber gO_goalScale fO_start fO_column fO_chosen) (WM hM aM kM iM_stands iM_variables iM_rows iM_goals iM_differents iM_cases fM_from fM_to fM_whole fM_ways iM_plainRows fM_plainRow fM_kept fM_goalOver fM_goalUnder fM_goalMax fM_different) (WQ hQ aQ kQ hw fQ_inside fQ_outside fQ_shut iQ_rows iQ_allRows iQ_columns) (WW nW hw lw kw wl_x47 wb_x47 wG_x47)
        have hPc := hP.mem (fun q h => p9.mem_iff.mpr (List.mem_append_left _ h))
        have hDc := (hD.perm p9).left
        have hKc : va_K (dC, dI) vwCl (tM kM) _ := hK.sub [10, 11, 12, 13, 14, 15, 16, 17, 18, 19] rfl
        have hFc := freeG p9 hD hS hA
        refine va_calli (va_runV (As := [.int p2, .int p3, .int l9_x47]) (rest := [.int k0_j11]) ⟨hx, hb, hml, hown, hts⟩ (m_X1_number l dC dI hM aM kM iM_stands iM_variables iM_rows iM_goals iM_differents iM_cases fM_from fM_to fM_whole fM_ways iM_plainRows fM_plainRow fM_kept fM_goalOver fM_goalUnder fM_goalMax fM_different p2 p3 l9_x47 (b_iM_stands) (b_iM_variables) (b_iM_rows) (b_iM_goals) (b_iM_differents) (b_iM_cases) b_fM_ways (b_iM_plainRows) b_fM_plainRow (by first | with_reducible assumption | omega | assumption) (b_p2) (b_p3) (b_l9_x47) H.size) (cwV 3 hts gwsMX5_layWay_2 rfl rfl rfl hd_yX1_number_RX1 (by decide +kernel)) (fz_pre (va_recv hK hP (ci := 1) (q0 := 11) rfl rfl) hPc hKc hDc) rfl rfl hl.1 rfl (lv_room (Nat.le_of_ble_eq_true rfl)) dX5_layWay_69 (by decide +kernel)) hS (fun q _ h => hFc q h) hFc (fun r178 u t9_ H locs ht hvm hw9 hB9 hz1 hk1 hS => ?_)
        clear hw9
        have p8 := p9
        obtain ⟨hP, hD⟩ := frameG p9 p8 hP hD hk1 hFc (fz_P ht hB9.1) hB9.2
        refine lv_imul hx hb dX5_layWay_72 ?_
        refine lv_topi (fun y179 hy179 => ?_)
        obtain rfl : (iI (k0_j11.toInt * r178.toInt)) = y179 := (hy179.trans (iI_mul2 (iI_of _) (iI_of _))).symm
        refine lv_istore hx hb dX5_layWay_73 hl (by decide) rfl (fun ls (hl : lv_has ls _ ([(10, .int (iI (k0_j11.toInt * r178.toInt))), (9, .int l9_x47), (8, .int l8_x47), (7, .int l7_x47), (6, .int l6_x47), (5, .int k0_j11), (4, .int r1), (0, .ref (hO 0)), (1, .int p1), (2, .int p2), (3, .int p3)])) => ?_)
        refine lv_iload hx hb dX5_layWay_75 (lv_at hl 4 rfl) ?_
        refine lv_iload hx hb dX5_layWay_77 (lv_at hl 0 rfl) ?_
        refine lv_aload_n hx hb dX5_layWay_79 rfl (lv_at hl 7 rfl) ?_
        refine va_get (D := (dC, dI)) (ci := 5) (v := .ref (aO 3)) (C := RX5) (T := TX5) (N := 19) hx hb hts iwsMX5_layWay_in5 hown hK hP 0 rfl rfl 9 (by decide) (hts (.fieldLink RX5 35 "OptimaWorks$Solver" "start" "[I") (by decide +kernel)) (fun _ h9 => h9) rfl dX5_layWay_80 ?_
        refine lv_iload hx hb dX5_layWay_83 (lv_at hl 1 rfl) ?_
        refine va_iald (cA := kO 3) (n := 8) (f := fO_start) hx hb hK hP 4 3 rfl rfl (vp_in_iff.mpr ⟨b_l9_x47.1, (Int.lt_of_lt_of_le (Int.not_le.mp t_56) (Int.le_trans b_iM_variables.2 (by decide)))⟩) dX5_layWay_85 ?_
        refine lv_topi (fun v180 hv180 => ?_)
        clear hv180
        refine lv_imul hx hb dX5_layWay_86 ?_
        refine lv_topi (fun y181 hy181 => ?_)
        obtain rfl : (iI ((k0_j11.toInt * r178.toInt) * v180.toInt)) = y181 := (hy181.trans (iI_mul2 rfl (iI_of _))).symm
        refine lv_iadd hx hb dX5_layWay_87 ?_
        refine lv_topi (fun y182 hy182 => ?_)
        obtain rfl : (iI (l6_x47.toInt + ((k0_j11.toInt * r178.toInt) * v180.toInt))) = y182 := (hy182.trans (iI_add2 (iI_of _) rfl)).symm
        refine lv_istore hx hb dX5_layWay_88 hl (by decide) rfl (fun ls (hl : lv_has ls _ ([(6, .int (iI (l6_x47.toInt + ((k0_j11.toInt * r178.toInt) * v180.toInt)))), (10, .int (iI (k0_j11.toInt * r178.toInt))), (9, .int l9_x47), (8, .int l8_x47), (7, .int l7_x47), (5, .int k0_j11), (4, .int r1), (0, .ref (hO 0)), (1, .int p1), (2, .int p2), (3, .int p3)])) => ?_)
        refine lv_iload hx hb dX5_layWay_90 (lv_at hl 1 rfl) ?_
        refine W.cut (pc := 175) (fun H locs ls stk => ∃ (wl_j20 : Nat → Int32) (wb_j20 : Nat → Int32) (wG_j20 : Nat → Nat → Int64) (l8_j20 : Int32) (l7_j20 : Int32), (∀ q : Nat, 0 ≤ (wl_j20 q).toInt ∧ (wl_j20 q).toInt ≤ 14) ∧ (∀ q : Nat, 0 ≤ (wb_j20 q).toInt ∧ (wb_j20 q).toInt ≤ 1) ∧  stk = [] ∧ va_P (dC, dI) vwCl (WO hO aO kO hM hQ hw iO_answered iO_searched iO_searchedRelaxed iO_counted fO_countedCase gO_goalNumber gO_goalScale fO_start fO_column fO_chosen ++ (WM hM aM kM iM_stands iM_variables iM_rows iM_goals iM_differents iM_cases fM_from fM_to fM_whole fM_ways iM_plainRows fM_plainRow fM_kept fM_goalOver fM_goalUnder fM_goalMax fM_different ++ (WQ hQ aQ kQ hw fQ_inside fQ_outside fQ_shut iQ_rows iQ_allRows iQ_columns ++ (WW nW hw lw kw wl_j20 wb_j20 wG_j20)))) H ∧ va_D A (WO hO aO kO hM hQ hw iO_answered iO_searched iO_searchedRelaxed iO_counted fO_countedCase gO_goalNumber gO_goalScale fO_start fO_column fO_chosen ++ (WM hM aM kM iM_stands iM_variables iM_rows iM_goals iM_differents iM_cases fM_from fM_to fM_whole fM_ways iM_plainRows fM_plainRow fM_kept fM_goalOver fM_goalUnder fM_goalMax fM_different ++ (WQ hQ aQ kQ hw fQ_inside fQ_outside fQ_shut iQ_rows iQ_allRows iQ_columns ++ (WW nW hw lw kw wl_j20 wb_j20 wG_j20)))) ∧ va_S A s.heap H locs ∧ lv_has ls 12 [(6, .int (iI (l6_x47.toInt + ((k0_j11.toInt * r178.toInt) * v180.toInt)))), (10, .int (iI (k0_j11.toInt * r178.toInt))), (9, .int l9_x47), (8, .int l8_j20), (7, .int l7_j20), (5, .int k0_j11), (4, .int r1), (0, .ref (hO 0)), (1, .int p1), (2, .int p2), (3, .int p3)]) (fun join20 => ?_) ?_
        · refine lv_if_eq (tgt := 175) hx hb dX5_layWay_92 (by decide) (fun c_92 => ?_) (fun c_92 => ?_)
          · first | (have t_92 : (k0_j11.toInt * r178.toInt) = 0 := toI_eq c_92 (iI_t (by omega) (by omega)) (by decide : (0 : Int32).toInt = 0)) | skip
            have hl : lv_has _ _ ([(6, .int (iI (l6_x47.toInt + ((k0_j11.toInt * r178.toInt) * v180.toInt)))), (10, .int (iI (k0_j11.toInt * r178.toInt))), (9, .int l9_x47), (8, .int l8_x47), (7, .int l7_x47), (5, .int k0_j11), (4, .int r1), (0, .ref (hO 0)), (1, .int p1), (2, .int p2), (3, .int p3)]) := lv_sub hl [0, 1, 2, 3, 4, 5, 6, 7, 8, 9, 10] rfl
            exact join20 _ _ _ _ ⟨wl_x47, wb_x47, wG_x47, l8_x47, l7_x47, b_wl_x47, b_wb_x47, rfl, hP, hD, hS, hl⟩
          · first | (have t_92 : ¬ (k0_j11.toInt * r178.toInt) = 0 := toI_neq c_92 (iI_t (by omega) (by omega)) (by decide : (0 : Int32).toInt = 0)) | skip
            refine lv_aload_n hx hb dX5_layWay_95 rfl (lv_at hl 7 rfl) ?_
            refine va_get (D := (dC, dI)) (ci := 5) (v := .ref (aO 4)) (C := RX5) (T := TX5) (N := 19) hx hb hts iwsMX5_layWay_in5 hown hK hP 0 rfl rfl 10 (by decide) (hts _ hm_m_X5_layWay_2) (fun _ h9 => h9) rfl dX5_layWay_96 ?_
            refine lv_iload hx hb dX5_layWay_99 (lv_at hl 2 rfl) ?_
            refine va_iald (cA := kO 4) (n := 8) (f := fO_column) hx hb hK hP 5 4 rfl rfl (vp_in_iff.mpr ⟨b_l9_x47.1, (by omega)⟩) dX5_layWay_101 ?_
            refine lv_topi (fun v196 hv196 => ?_)
            have b_v196 : (-1) ≤ v196.toInt ∧ v196.toInt ≤ 8 := by rw [hv196]; exact b_fO_column _
            have b1_v196 : v196 = fO_column (l9_x47).toNatClampNeg := hv196
            clear hv196
            refine lv_iconst (v := (-1)) hx hb dX5_layWay_102 (by decide) ?_
            refine lv_icmp_eq (tgt := 175) hx hb dX5_layWay_103 (by decide) (fun c_103 => ?_) (fun c_103 => ?_)
            · have t_103 : v196.toInt = (-1) := toI_eq c_103 rfl (by decide : ((-1) : Int32).toInt = (-1))
              have hl : lv_has _ _ ([(6, .int (iI (l6_x47.toInt + ((k0_j11.toInt * r178.toInt) * v180.toInt)))), (10, .int (iI (k0_j11.toInt * r178.toInt))), (9, .int l9_x47), (8, .int l8_x47), (7, .int l7_x47), (5, .int k0_j11), (4, .int r1), (0, .ref (hO 0)), (1, .int p1), (2, .int p2), (3, .int p3)]) := lv_sub hl [0, 1, 2, 3, 4, 5, 6, 7, 8, 9, 10] rfl
              exact join20 _ _ _ _ ⟨wl_x47, wb_x47, wG_x47, l8_x47, l7_x47, b_wl_x47, b_wb_x47, rfl, hP, hD, hS, hl⟩
            · have t_103 : ¬ v196.toInt = (-1) := toI_neq c_103 rfl (by decide : ((-1) : Int32).toInt = (-1))
              refine lv_aload_n hx hb dX5_layWay_106 rfl (lv_at hl 7 rfl) ?_
              refine va_get (D := (dC, dI)) (ci := 5) (v := .ref (hQ 0)) (C := RX5) (T := TX5) (N := 19) hx hb hts iwsMX5_layWay_in5 hown hK hP 0 rfl rfl 1 (by decide) (hts _ hm_m_X5_layWay_1) (fun _ h9 => h9) rfl dX5_layWay_107 ?_
              refine lv_iload_n hx hb dX5_layWay_110 rfl (lv_at hl 8 rfl) ?_
              refine lv_aload_n hx hb dX5_layWay_111 rfl (lv_at hl 7 rfl) ?_
              refine va_get (D := (dC, dI)) (ci := 5) (v := .ref (aO 4)) (C := RX5) (T := TX5) (N := 19) hx hb hts iwsMX5_layWay_in5 hown hK hP 0 rfl rfl 10 (by decide) (hts _ hm_m_X5_layWay_2) (fun _ h9 => h9) rfl dX5_layWay_112 ?_
              refine lv_iload hx hb dX5_layWay_115 (lv_at hl 2 rfl) ?_
              refine va_iald (cA := kO 4) (n := 8) (f := fO_column) hx hb hK hP 5 4 rfl rfl (vp_in_iff.mpr ⟨b_l9_x47.1, (by omega)⟩) dX5_layWay_117 ?_
              refine lv_topi (fun v197 hv197 => ?_)
              have b_v197 : (-1) ≤ v197.toInt ∧ v197.toInt ≤ 8 := by rw [hv197]; exact b_fO_column _
              have b1_v197 : v197 = fO_column (l9_x47).toNatClampNeg := hv197
              have b2_v197 : v197.toInt = v196.toInt := by rw [hv197]; exact (congrArg Int32.toInt b1_v196).symm
              clear hv197
              have p9 := cj_4_2_3 (WO hO aO kO hM hQ hw iO_answered iO_searched iO_searchedRelaxed iO_counted fO_countedCase gO_goalNumber gO_goalScale fO_start fO_column fO_chosen) (WM hM aM kM iM_stands iM_variables iM_rows iM_goals iM_differents iM_cases fM_from fM_to fM_whole fM_ways iM_plainRows fM_plainRow fM_kept fM_goalOver fM_goalUnder fM_goalMax fM_different) (WQ hQ aQ kQ hw fQ_inside fQ_outside fQ_shut iQ_rows iQ_allRows iQ_columns) (WW nW hw lw kw wl_x47 wb_x47 wG_x47)
              have hPc := hP.mem (fun q h => p9.mem_iff.mpr (List.mem_append_left _ h))
              have hDc := (hD.perm p9).left
              have hKc : va_K (dC, dI) vwCl (tQ kQ ++ (tW kw)) _ := hK.sub [20, 21, 22, 23, 24] rfl
              have hFc := freeG p9 hD hS hA
              refine va_callr (va_runV (As := [.int p1, .int v197]) (rest := []) ⟨hx, hb, hml, hown, hts⟩ (m_X6_cellAt l dC dI hQ aQ kQ hw fQ_inside fQ_outside fQ_shut iQ_rows iQ_allRows iQ_columns nW lw kw wl_x47 wb_x47 wG_x47 p1 v197 (b_iQ_rows) (b_iQ_allRows) (b_iQ_columns) (by first | with_reducible assumption | omega | assumption) b_wl_x47 b_wb_x47 (b_p1) (by first | exact b_v197 | with_reducible assumption | exact ⟨by omega, by omega⟩ | assumption) (by omega) ((by have h9 := ix_small (i := p1.toInt) (j := v197.toInt) (c := iQ_columns.toInt) (by omega) (by omega) (by omega) (by omega) (by omega) (by omega); exact h9)) H.size) (cwV 2 hts gwsMX5_layWay_3 rfl rfl rfl hd_yX6_cellAt_RX6 (by decide +kernel)) (fz_pre (va_recv hK hP (ci := 6) (q0 := 22) rfl rfl) hPc hKc hDc) rfl rfl hl.1 rfl (lv_room (Nat.le_of_ble_eq_true rfl)) dX5_layWay_118 (by decide +kernel)) hS (fun q _ h => hFc q h) hFc (fun kR_198 ra198 t9_ H locs ht hvm hw9 hB9 hz1 hk1 hS => ?_)
              revert hB9
              refine fz_a2 ?_
              intro hra hB9
              subst hra
              have f198_0 := hw9
              try dsimp only at f198_0
              have p8 := p9
              obtain ⟨hP, hD⟩ := frameG p9 p8 hP hD hk1 hFc (fz_P ht hB9.1) hB9.2
              refine lv_iload hx hb dX5_layWay_121 (lv_at hl 1 rfl) ?_
              refine lv_i2l hx hb dX5_layWay_123 rfl ?_
              refine lv_topl (fun v199 hv199 => ?_)
              clear hv199
              have p9 := cj_4_3 (WO hO aO kO hM hQ hw iO_answered iO_searched iO_searchedRelaxed iO_counted fO_countedCase gO_goalNumber gO_goalScale fO_start fO_column fO_chosen) (WM hM aM kM iM_stands iM_variables iM_rows iM_goals iM_differents iM_cases fM_from fM_to fM_whole fM_ways iM_plainRows fM_plainRow fM_kept fM_goalOver fM_goalUnder fM_goalMax fM_different) (WQ hQ aQ kQ hw fQ_inside fQ_outside fQ_shut iQ_rows iQ_allRows iQ_columns) (WW nW hw lw kw wl_x47 wb_x47 wG_x47)
              have hPc := hP.mem (fun q h => p9.mem_iff.mpr (List.mem_append_left _ h))
              have hDc := (hD.perm p9).left
              have hKc : va_K (dC, dI) vwCl (tW kw) _ := hK.sub [24] rfl
              have hFc := freeG p9 hD hS hA
              refine va_callv (va_runV (As := [.long v199]) (rest := []) ⟨hx, hb, hml, hown, hts⟩ (m_X8_setLong l dC dI nW hw lw kw wl_x47 wb_x47 wG_x47 kR_198 v199 b_wl_x47 b_wb_x47 (by first | with_reducible assumption | omega | (rw [iI_t (by omega) (by omega)]; omega) | decide | assumption) H.size) (cwV 1 hts gwsMX5_layWay_4 rfl rfl rfl hd_yX8_setLong_RX8 (by decide +kernel)) (fz_pre (va_recv hK hP (ci := 8) (q0 := 11 + (11 + (5 + (kR_198)))) rfl (apR rfl (apR rfl (apR rfl (WW_o (by omega)))))) hPc hKc hDc) rfl rfl hl.1 rfl (lv_room (Nat.le_of_ble_eq_true rfl)) dX5_layWay_124 (by decide +kernel)) hS (fun q _ h => hFc q h) hFc (fun u t9_ H locs ht hvm hw9 hB9 hz1 hk1 hS => ?_)
              revert u hw9 hB9
              refine fz_p3 ?_
              intro wl_200 wb_200 wG_200 hw9 hB9
              try dsimp only at hw9 hB9
              revert hw9
              refine fz_a2 ?_
              intro b_wl_200 b_wb_200
              have p8 := cj_4_3 (WO hO aO kO hM hQ hw iO_answered iO_searched iO_searchedRelaxed iO_counted fO_countedCase gO_goalNumber gO_goalScale fO_start fO_column fO_chosen) (WM hM aM kM iM_stands iM_variables iM_rows iM_goals iM_differents iM_cases fM_from fM_to fM_whole fM_ways iM_plainRows fM_plainRow fM_kept fM_goalOver fM_goalUnder fM_goalMax fM_different) (WQ hQ aQ kQ hw fQ_inside fQ_outside fQ_shut iQ_rows iQ_allRows iQ_columns) (WW nW hw lw kw wl_200 wb_200 wG_200)
              obtain ⟨hP, hD⟩ := frameG p9 p8 hP hD hk1 hFc (fz_P ht hB9.1) hB9.2
              refine lv_iload hx hb dX5_layWay_127 (lv_at hl 1 rfl) ?_
              refine lv_aload_n hx hb dX5_layWay_129 rfl (lv_at hl 7 rfl) ?_
              refine va_get (D := (dC, dI)) (ci := 5) (v := .ref (hM 0)) (C := RX5) (T := TX5) (N := 19) hx hb hts iwsMX5_layWay_in5 hown hK hP 0 rfl rfl 0 (by decide) (hts _ hm_m_X5_layWay_0) (fun _ h9 => h9) rfl dX5_layWay_130 ?_
              refine va_get (D := (dC, dI)) (ci := 1) (v := .ref (aM 1)) (C := RX1) (T := TX1) (N := 17) hx hb hts iwsMX5_layWay_in1 hown hK hP 11 rfl rfl 7 (by decide) (hts (.fieldLink RX5 181 "OptimaWorks$Model" "to" "[I") (by decide +kernel)) (fun _ h9 => h9) rfl dX5_layWay_133 ?_
              refine lv_iload hx hb dX5_layWay_136 (lv_at hl 2 rfl) ?_
              refine va_iald (cA := kM 1) (n := 8) (f := fM_to) hx hb hK hP 13 11 rfl rfl (vp_in_iff.mpr ⟨b_l9_x47.1, (by omega)⟩) dX5_layWay_138 ?_
              refine lv_topi (fun v201 hv201 => ?_)
              clear hv201
              refine lv_aload_n hx hb dX5_layWay_139 rfl (lv_at hl 7 rfl) ?_
              refine va_get (D := (dC, dI)) (ci := 5) (v := .ref (hM 0)) (C := RX5) (T := TX5) (N := 19) hx hb hts iwsMX5_layWay_in5 hown hK hP 0 rfl rfl 0 (by decide) (hts _ hm_m_X5_layWay_0) (fun _ h9 => h9) rfl dX5_layWay_140 ?_
              refine va_get (D := (dC, dI)) (ci := 1) (v := .ref (aM 0)) (C := RX1) (T := TX1) (N := 17) hx hb hts iwsMX5_layWay_in1 hown hK hP 11 rfl rfl 6 (by decide) (hts (.fieldLink RX5 150 "OptimaWorks$Model" "from" "[I") (by decide +kernel)) (fun _ h9 => h9) rfl dX5_layWay_143 ?_
              refine lv_iload hx hb dX5_layWay_146 (lv_at hl 2 rfl) ?_
              refine va_iald (cA := kM 0) (n := 8) (f := fM_from) hx hb hK hP 12 10 rfl rfl (vp_in_iff.mpr ⟨b_l9_x47.1, (by omega)⟩) dX5_layWay_148 ?_
              refine lv_topi (fun v202 hv202 => ?_)
              clear hv202
              refine lv_isub hx hb dX5_layWay_149 ?_
              refine lv_topi (fun y203 hy203 => ?_)
              obtain rfl : (iI (v201.toInt - v202.toInt)) = y203 := (hy203.trans (iI_sub2 (iI_of _) (iI_of _))).symm
              refine lv_imul hx hb dX5_layWay_150 ?_
              refine lv_topi (fun y204 hy204 => ?_)
              obtain rfl : (iI ((k0_j11.toInt * r178.toInt) * (v201.toInt - v202.toInt))) = y204 := (hy204.trans (iI_mul2 rfl rfl)).symm
              refine lv_istore hx hb dX5_layWay_151 hl (by decide) rfl (fun ls (hl : lv_has ls _ ([(11, .int (iI ((k0_j11.toInt * r178.toInt) * (v201.toInt - v202.toInt)))), (6, .int (iI (l6_x47.toInt + ((k0_j11.toInt * r178.toInt) * v180.toInt)))), (10, .int (iI (k0_j11.toInt * r178.toInt))), (9, .int l9_x47), (8, .int l8_x47), (7, .int l7_x47), (5, .int k0_j11), (4, .int r1), (0, .ref (hO 0)), (1, .int p1), (2, .int p2), (3, .int p3)])) => ?_)
              refine lv_iload hx hb dX5_layWay_153 (lv_at hl 5 rfl) ?_
              refine lv_iload hx hb dX5_layWay_155 (lv_at hl 0 rfl) ?_
              refine lv_iconst (v := 0) hx hb dX5_layWay_157 (by decide) ?_
              refine va_mmin hx hb (by rw [hml]; exact hl.1.symm) hown (hts (.methodLink RX5 204 Lib.Math.min.name) (by decide +kernel)) (hts (.static Lib.Math.min.name) (by decide +kernel)) (hts _ hm_m_X5_layWay_3) (hts (.code Lib.Math.min.name Lib.Math.min.code 2 (some .int)) (by decide +kernel)) (by decide +kernel) (Nat.le_of_ble_eq_true rfl) (by decide +kernel) (by decide +kernel) dX5_layWay_158 ?_
              refine lv_topi (fun v205 hv205 => ?_)
              first | (have b_v205 : (v205.toInt ≤ ((k0_j11.toInt * r178.toInt) * (v201.toInt - v202.toInt)) ∧ v205.toInt ≤ 0) ∧ (v205.toInt = ((k0_j11.toInt * r178.toInt) * (v201.toInt - v202.toInt)) ∨ v205.toInt = 0) := by rw [hv205]; exact min_t (iI_t (by omega) (by omega)) (by decide : (0 : Int32).toInt = 0)) | skip
              clear hv205
              refine lv_iadd hx hb dX5_layWay_161 ?_
              refine lv_topi (fun y206 hy206 => ?_)
              obtain rfl : (iI (l7_x47.toInt + v205.toInt)) = y206 := (hy206.trans (iI_add2 (iI_of _) (iI_of _))).symm
              refine lv_istore hx hb dX5_layWay_162 hl (by decide) rfl (fun ls (hl : lv_has ls _ ([(7, .int (iI (l7_x47.toInt + v205.toInt))), (11, .int (iI ((k0_j11.toInt * r178.toInt) * (v201.toInt - v202.toInt)))), (6, .int (iI (l6_x47.toInt + ((k0_j11.toInt * r178.toInt) * v180.toInt)))), (10, .int (iI (k0_j11.toInt * r178.toInt))), (9, .int l9_x47), (8, .int l8_x47), (5, .int k0_j11), (4, .int r1), (0, .ref (hO 0)), (1, .int p1), (2, .int p2), (3, .int p3)])) => ?_)
              refine lv_iload hx hb dX5_layWay_164 (lv_at hl 5 rfl) ?_
              refine lv_iload hx hb dX5_layWay_166 (lv_at hl 1 rfl) ?_
              refine lv_iconst (v := 0) hx hb dX5_layWay_168 (by decide) ?_
              refine va_mmax hx hb (by rw [hml]; exact hl.1.symm) hown (hts (.methodLink RX5 137 Lib.Math.max.name) (by decide +kernel)) (hts (.static Lib.Math.max.name) (by decide +kernel)) (hts _ hm_m_X5_layWay_3) (hts (.code Lib.Math.max.name Lib.Math.max.code 2 (some .int)) (by decide +kernel)) (by decide +kernel) (Nat.le_of_ble_eq_true rfl) (by decide +kernel) (by decide +kernel) dX5_layWay_169 ?_
              refine lv_topi (fun v207 hv207 => ?_)
              first | (have b_v207 : (((k0_j11.toInt * r178.toInt) * (v201.toInt - v202.toInt)) ≤ v207.toInt ∧ 0 ≤ v207.toInt) ∧ (v207.toInt = ((k0_j11.toInt * r178.toInt) * (v201.toInt - v202.toInt)) ∨ v207.toInt = 0) := by rw [hv207]; exact max_t (iI_t (by omega) (by omega)) (by decide : (0 : Int32).toInt = 0)) | skip
              clear hv207
              refine lv_iadd hx hb dX5_layWay_172 ?_
              refine lv_topi (fun y208 hy208 => ?_)
              obtain rfl : (iI (l8_x47.toInt + v207.toInt)) = y208 := (hy208.trans (iI_add2 (iI_of _) (iI_of _))).symm
              refine lv_istore hx hb dX5_layWay_173 hl (by decide) rfl (fun ls (hl : lv_has ls _ ([(8, .int (iI (l8_x47.toInt + v207.toInt))), (7, .int (iI (l7_x47.toInt + v205.toInt))), (11, .int (iI ((k0_j11.toInt * r178.toInt) * (v201.toInt - v202.toInt)))), (6, .int (iI (l6_x47.toInt + ((k0_j11.toInt * r178.toInt) * v180.toInt)))), (10, .int (iI (k0_j11.toInt * r178.toInt))), (9, .int l9_x47), (5, .int k0_j11), (4, .int r1), (0, .ref (hO 0)), (1, .int p1), (2, .int p2), (3, .int p3)])) => ?_)
              have hl : lv_has _ _ ([(6, .int (iI (l6_x47.toInt + ((k0_j11.toInt * r178.toInt) * v180.toInt)))), (10, .int (iI (k0_j11.toInt * r178.toInt))), (9, .int l9_x47), (8, .int (iI (l8_x47.toInt + v207.toInt))), (7, .int (iI (l7_x47.toInt + v205.toInt))), (5, .int k0_j11), (4, .int r1), (0, .ref (hO 0)), (1, .int p1), (2, .int p2), (3, .int p3)]) := lv_sub hl [3, 4, 5, 0, 1, 6, 7, 8, 9, 10, 11] rfl
              exact join20 _ _ _ _ ⟨wl_200, wb_200, wG_200, (iI (l8_x47.toInt + v207.toInt)), (iI (l7_x47.toInt + v205.toInt)), b_wl_200, b_wb_200, rfl, hP, hD, hS, hl⟩
        · intro H locs ls stk
          refine fz_e5 ?_
          intro wl_j20 wb_j20 wG_j20 l8_j20 l7_j20
          refine fz_a7 ?_
          intro b_wl_j20 b_wb_j20 hst9_2 hP hD hS hl
          subst hst9_2
          refine lv_iinc (v := (iI (l9_x47.toInt + 1))) hx hb dX5_layWay_175 hl (k := 2) rfl (iI_add2 (iI_of _) (by decide : (1 : Int32) = iI 1)) (by decide) rfl (fun ls (hl : lv_has ls _ ([(9, .int (iI (l9_x47.toInt + 1))), (6, .int (iI (l6_x47.toInt + ((k0_j11.toInt * r178.toInt) * v180.toInt)))), (10, .int (iI (k0_j11.toInt * r178.toInt))), (8, .int l8_j20), (7, .int l7_j20), (5, .int k0_j11), (4, .int r1), (0, .ref (hO 0)), (1, .int p1), (2, .int p2), (3, .int p3)])) => ?_)
          refine lv_goto (tgt := 47) hx hb dX5_layWay_178 (by decide) ?_
          have hl : lv_has _ _ ([(9, .int (iI (l9_x47.toInt + 1))), (8, .int l8_j20), (7, .int l7_j20), (6, .int (iI (l6_x47.toInt + ((k0_j11.toInt * r178.toInt) * v180.toInt)))), (5, .int k0_j11), (4, .int r1), (0, .ref (hO 0)), (1, .int p1), (2, .int p2), (3, .int p3)]) := lv_sub hl [0, 3, 4, 1, 5, 6, 7, 8, 9, 10] rfl
          exact ihx47 wl_j20 wb_j20 wG_j20 (iI (l9_x47.toInt + 1)) l8_j20 l7_j20 (iI (l6_x47.toInt + ((k0_j11.toInt * r178.toInt) * v180.toInt))) _ _ _ b_wl_j20 b_wb_j20 (iI_rng (Int.le_trans (by decide) (Int.add_le_add (b_l9_x47.1) (Int.le_refl _))) (by omega) (by decide) (by decide)) (by have e9 : ((iI (l9_x47.toInt + 1))).toInt = (l9_x47.toInt + 1) := (iI_t (Int.le_trans (by decide) (Int.add_le_add (b_l9_x47.1) (Int.le_refl _))) (Int.le_trans (Int.add_le_add (b_l9_x47.2) (Int.le_refl _)) (by decide))); omega) hP hD hS hl
theorem dX5_layGoal_0 : decode cX5_layGoal 0 = .ok (.aload_n 0, 1) := dk_42 (by decide +kernel)
theorem dX5_layGoal_1 : decode cX5_layGoal 1 = .ok (.getfield 12, 3) := dk_180 (by decide +kernel)
theorem dX5_layGoal_4 : decode cX5_layGoal 4 = .ok (.iload_n 1, 1) := dk_27 (by decide +kernel)
theorem dX5_layGoal_5 : decode cX5_layGoal 5 = .ok (.iconst 0, 1) := dk_3 (by decide +kernel)
theorem dX5_layGoal_6 : decode cX5_layGoal 6 = .ok (.invokevirtual 177, 3) := dk_182 (by decide +kernel)
theorem dX5_layGoal_9 : decode cX5_layGoal 9 = .ok (.astore_n 3, 1) := dk_78 (by decide +kernel)
theorem dX5_layGoal_10 : decode cX5_layGoal 10 = .ok (.iconst 0, 1) := dk_3 (by decide +kernel)
theorem dX5_layGoal_11 : decode cX5_layGoal 11 = .ok (.istore 4, 2) := dk_54 (by decide +kernel)
theorem dX5_layGoal_13 : decode cX5_layGoal 13 = .ok (.iload 4, 2) := dk_21 (by decide +kernel)
theorem dX5_layGoal_15 : decode cX5_layGoal 15 = .ok (.aload_n 0, 1) := dk_42 (by decide +kernel)
theorem dX5_layGoal_16 : decode cX5_layGoal 16 = .ok (.getfield 74, 3) := dk_180 (by decide +kernel)
theorem dX5_layGoal_19 : decode cX5_layGoal 19 = .ok (.getfield 112, 3) := dk_180 (by decide +kernel)
theorem dX5_layGoal_22 : decode cX5_layGoal 22 = .ok (.if_icmp .ge 79, 3) := dk_162 (by decide +kernel)
theorem dX5_layGoal_25 : decode cX5_layGoal 25 = .ok (.aload_n 0, 1) := dk_42 (by decide +kernel)
theorem dX5_layGoal_26 : decode cX5_layGoal 26 = .ok (.iload_n 2, 1) := dk_28 (by decide +kernel)
theorem dX5_layGoal_27 : decode cX5_layGoal 27 = .ok (.iload 4, 2) := dk_21 (by decide +kernel)
theorem dX5_layGoal_29 : decode cX5_layGoal 29 = .ok (.invokevirtual 207, 3) := dk_182 (by decide +kernel)
theorem dX5_layGoal_32 : decode cX5_layGoal 32 = .ok (.lstore 5, 2) := dk_55 (by decide +kernel)
theorem dX5_layGoal_34 : decode cX5_layGoal 34 = .ok (.aload_n 0, 1) := dk_42 (by decide +kernel)
theorem dX5_layGoal_35 : decode cX5_layGoal 35 = .ok (.getfield 71, 3) := dk_180 (by decide +kernel)
theorem dX5_layGoal_38 : decode cX5_layGoal 38 = .ok (.iconst 1, 1) := dk_4 (by decide +kernel)
theorem dX5_layGoal_39 : decode cX5_layGoal 39 = .ok (.aaload, 1) := dk_50 (by decide +kernel)
theorem dX5_layGoal_40 : decode cX5_layGoal 40 = .ok (.aload_n 0, 1) := dk_42 (by decide +kernel)
theorem dX5_layGoal_41 : decode cX5_layGoal 41 = .ok (.getfield 35, 3) := dk_180 (by decide +kernel)
theorem dX5_layGoal_44 : decode cX5_layGoal 44 = .ok (.iload 4, 2) := dk_21 (by decide +kernel)
theorem dX5_layGoal_46 : decode cX5_layGoal 46 = .ok (.iaload, 1) := dk_46 (by decide +kernel)
theorem dX5_layGoal_47 : decode cX5_layGoal 47 = .ok (.i2l, 1) := dk_133 (by decide +kernel)
theorem dX5_layGoal_48 : decode cX5_layGoal 48 = .ok (.invokevirtual 184, 3) := dk_182 (by decide +kernel)
theorem dX5_layGoal_51 : decode cX5_layGoal 51 = .ok (.aload_n 0, 1) := dk_42 (by decide +kernel)
theorem dX5_layGoal_52 : decode cX5_layGoal 52 = .ok (.aload_n 3, 1) := dk_45 (by decide +kernel)
theorem dX5_layGoal_53 : decode cX5_layGoal 53 = .ok (.aload_n 0, 1) := dk_42 (by decide +kernel)
theorem dX5_layGoal_54 : decode cX5_layGoal 54 = .ok (.getfield 71, 3) := dk_180 (by decide +kernel)
theorem dX5_layGoal_57 : decode cX5_layGoal 57 = .ok (.iconst 1, 1) := dk_4 (by decide +kernel)
theorem dX5_layGoal_58 : decode cX5_layGoal 58 = .ok (.aaload, 1) := dk_50 (by decide +kernel)
theorem dX5_layGoal_59 : decode cX5_layGoal 59 = .ok (.lload 5, 2) := dk_22 (by decide +kernel)
theorem dX5_layGoal_61 : decode cX5_layGoal 61 = .ok (.invokevirtual 211, 3) := dk_182 (by decide +kernel)
theorem dX5_layGoal_64 : decode cX5_layGoal 64 = .ok (.aload_n 0, 1) := dk_42 (by decide +kernel)
theorem dX5_layGoal_65 : decode cX5_layGoal 65 = .ok (.getfield 38, 3) := dk_180 (by decide +kernel)
theorem dX5_layGoal_68 : decode cX5_layGoal 68 = .ok (.iload 4, 2) := dk_21 (by decide +kernel)
theorem dX5_layGoal_70 : decode cX5_layGoal 70 = .ok (.iaload, 1) := dk_46 (by decide +kernel)
theorem dX5_layGoal_71 : decode cX5_layGoal 71 = .ok (.iconst (-1), 1) := dk_2 (by decide +kernel)
theorem dX5_layGoal_72 : decode cX5_layGoal 72 = .ok (.if_icmp .eq 23, 3) := dk_159 (by decide +kernel)
theorem dX5_layGoal_75 : decode cX5_layGoal 75 = .ok (.aload_n 0, 1) := dk_42 (by decide +kernel)
theorem dX5_layGoal_76 : decode cX5_layGoal 76 = .ok (.getfield 12, 3) := dk_180 (by decide +kernel)
theorem dX5_layGoal_79 : decode cX5_layGoal 79 = .ok (.iload_n 1, 1) := dk_27 (by decide +kernel)
theorem dX5_layGoal_80 : decode cX5_layGoal 80 = .ok (.aload_n 0, 1) := dk_42 (by decide +kernel)
theorem dX5_layGoal_81 : decode cX5_layGoal 81 = .ok (.getfield 38, 3) := dk_180 (by decide +kernel)
theorem dX5_layGoal_84 : decode cX5_layGoal 84 = .ok (.iload 4, 2) := dk_21 (by decide +kernel)
theorem dX5_layGoal_86 : decode cX5_layGoal 86 = .ok (.iaload, 1) := dk_46 (by decide +kernel)
theorem dX5_layGoal_87 : decode cX5_layGoal 87 = .ok (.invokevirtual 177, 3) := dk_182 (by decide +kernel)
theorem dX5_layGoal_90 : decode cX5_layGoal 90 = .ok (.lload 5, 2) := dk_22 (by decide +kernel)
theorem dX5_layGoal_92 : decode cX5_layGoal 92 = .ok (.invokevirtual 184, 3) := dk_182 (by decide +kernel)
theorem dX5_layGoal_95 : decode cX5_layGoal 95 = .ok (.iinc 4 1, 3) := dk_132 (by decide +kernel)
theorem dX5_layGoal_98 : decode cX5_layGoal 98 = .ok (.goto (-85), 3) := dk_167 (by decide +kernel)
theorem dX5_layGoal_101 : decode cX5_layGoal 101 = .ok (.return_, 1) := dk_177 (by decide +kernel)
def wsMX5_layGoal : List Cond := .code yX5_layGoal cX5_layGoal 7 none :: ([.fieldLink RX5 12 "OptimaWorks$Solver" "tableau" "LOptimaWorks$Tableau;", .fieldLink RX5 74 "OptimaWorks$Solver" "model" "LOptimaWorks$Model;", .fieldLink RX5 112 "OptimaWorks$Model" "variables" "I", .fieldLink RX5 71 "OptimaWorks$Solver" "spare" "[LOptimaWorks$Whole;", .fieldLink RX5 35 "OptimaWorks$Solver" "start" "[I", .fieldLink RX5 38 "OptimaWorks$Solver" "column" "[I"] ++ wsX10 ++ wsX50 ++ (wsV RX5 177 RX6 yX6_cellAt wsMX6_cellAt) ++ (wsV RX5 207 RX5 yX5_scaledNumber wsMX5_scaledNumber) ++ (wsV RX5 184 RX8 yX8_setLong wsMX8_setLong) ++ (wsV RX5 211 RX5 yX5_addTimes wsMX5_addTimes))
theorem iwsMX5_layGoal_in1 : ∀ w ∈ wsX10, w ∈ wsMX5_layGoal := fun _ h => List.mem_cons_of_mem _ (List.mem_append_left _ (List.mem_append_left _ (List.mem_append_left _ (List.mem_append_left _ (List.mem_append_left _ (List.mem_append_right _ h))))))
theorem iwsMX5_layGoal_in5 : ∀ w ∈ wsX50, w ∈ wsMX5_layGoal := fun _ h => List.mem_cons_of_mem _ (List.mem_append_left _ (List.mem_append_left _ (List.mem_append_left _ (List.mem_append_left _ (List.mem_append_right _ h)))))
theorem gwsMX5_layGoal_0 : GoodIn wsMX5_layGoal (wsV RX5 177 RX6 yX6_cellAt wsMX6_cellAt) := goodIn_sub (fun _ h => List.mem_cons_of_mem _ (List.mem_append_left _ (List.mem_append_left _ (List.mem_append_left _ (List.mem_append_right _ h))))) (gdV (by decide +kernel) gdwsMX6_cellAt)
theorem gwsMX5_layGoal_1 : GoodIn wsMX5_layGoal (wsV RX5 207 RX5 yX5_scaledNumber wsMX5_scaledNumber) := goodIn_sub (fun _ h => List.mem_cons_of_mem _ (List.mem_append_left _ (List.mem_append_left _ (List.mem_append_right _ h)))) (gdV (by decide +kernel) gdwsMX5_scaledNumber)
theorem gwsMX5_layGoal_2 : GoodIn wsMX5_layGoal (wsV RX5 184 RX8 yX8_setLong wsMX8_setLong) := goodIn_sub (fun _ h => List.mem_cons_of_mem _ (List.mem_append_left _ (List.mem_append_right _ h))) (gdV (by decide +kernel) gdwsMX8_setLong)
theorem gwsMX5_layGoal_3 : GoodIn wsMX5_layGoal (wsV RX5 211 RX5 yX5_addTimes wsMX5_addTimes) := goodIn_sub (fun _ h => List.mem_cons_of_mem _ (List.mem_append_right _ h)) (gdV (by decide +kernel) gdwsMX5_addTimes)
theorem gdwsMX5_layGoal : wsMX5_layGoal.all goodWord = true := gdC rfl (gdA (gdA (gdA (gdA (gdA (gdA (by decide +kernel : ([.fieldLink RX5 12 "OptimaWorks$Solver" "tableau" "LOptimaWorks$Tableau;", .fieldLink RX5 74 "OptimaWorks$Solver" "model" "LOptimaWorks$Model;", .fieldLink RX5 112 "OptimaWorks$Model" "variables" "I", .fieldLink RX5 71 "OptimaWorks$Solver" "spare" "[LOptimaWorks$Whole;", .fieldLink RX5 35 "OptimaWorks$Solver" "start" "[I", .fieldLink RX5 38 "OptimaWorks$Solver" "column" "[I"] : List Cond).all goodWord = true) gdwsX10) gdwsX50) (gdV (by decide +kernel) gdwsMX6_cellAt)) (gdV (by decide +kernel) gdwsMX5_scaledNumber)) (gdV (by decide +kernel) gdwsMX8_setLong)) (gdV (by decide +kernel) gdwsMX5_addTimes))
theorem hm_m_X5_layGoal_0 : (.fieldLink RX5 12 "OptimaWorks$Solver" "tableau" "LOptimaWorks$Tableau;" : Cond) ∈ wsMX5_layGoal := by decide +kernel
theorem hm_m_X5_layGoal_1 : (.fieldLink RX5 71 "OptimaWorks$Solver" "spare" "[LOptimaWorks$Whole;" : Cond) ∈ wsMX5_layGoal := by decide +kernel
theorem hm_m_X5_layGoal_2 : (.fieldLink RX5 38 "OptimaWorks$Solver" "column" "[I" : Cond) ∈ wsMX5_layGoal := by decide +kernel
set_option maxHeartbeats 4000000 in
set_option maxRecDepth 100000 in
/-- a goal is laid out -/
theorem m_X5_layGoal (l : Launch) (dC : Nat → ClassId) (dI : Nat → Nat → Nat) (hO : Nat → Nat) (aO : Nat → Nat) (kO : Nat → ClassId) (hM : Nat → Nat) (hQ : Nat → Nat) (hw : Nat → Nat) (iO_answered : Int32) (iO_searched : Int32) (iO_searchedRelaxed : Int32) (iO_counted : Int32) (fO_countedCase : Nat → Int32) (gO_goalNumber : Nat → Int64) (gO_goalScale : Nat → Int64) (fO_start : Nat → Int32) (fO_column : Nat → Int32) (fO_chosen : Nat → Int32) (aM : Nat → Nat) (kM : Nat → ClassId) (iM_stands : Int32) (iM_variables : Int32) (iM_rows : Int32) (iM_goals : Int32) (iM_differents : Int32) (iM_cases : Int32) (fM_from : Nat → Int32) (fM_to : Nat → Int32) (fM_whole : Nat → Int32) (fM_ways : Nat → Int32) (iM_plainRows : Int32) (fM_plainRow : Nat → Int32) (fM_kept : Nat → Int32) (fM_goalOver : Nat → Int32) (fM_goalUnder : Nat → Int32) (fM_goalMax : Nat → Int32) (fM_different : Nat → Int32) (aQ : Nat → Nat) (kQ : Nat → ClassId) (fQ_inside : Nat → Int32) (fQ_outside : Nat → Int32) (fQ_shut : Nat → Int32) (iQ_rows : Int32) (iQ_allRows : Int32) (iQ_columns : Int32) (nW : Nat) (lw : Nat → Nat) (kw : ClassId) (wl : Nat → Int32) (wb : Nat → Int32) (wG : Nat → Nat → Int64) (p1 : Int32) (p2 : Int32) (b_iO_answered : 0 ≤ iO_answered.toInt ∧ iO_answered.toInt ≤ 1) (b_iO_searched : 0 ≤ iO_searched.toInt ∧ iO_searched.toInt ≤ 1) (b_iO_searchedRelaxed : 0 ≤ iO_searchedRelaxed.toInt ∧ iO_searchedRelaxed.toInt ≤ 1) (b_iO_counted : (-1) ≤ iO_counted.toInt ∧ iO_counted.toInt ≤ 64) (b_fO_countedCase : ∀ q : Nat, 0 ≤ (fO_countedCase q).toInt ∧ (fO_countedCase q).toInt ≤ 200000) (b_fO_column : ∀ q : Nat, (-1) ≤ (fO_column q).toInt ∧ (fO_column q).toInt ≤ 8) (b_fO_chosen : ∀ q : Nat, 0 ≤ (fO_chosen q).toInt ∧ (fO_chosen q).toInt ≤ 2) (b_iM_stands : 0 ≤ iM_stands.toInt ∧ iM_stands.toInt ≤ 1) (b_iM_variables : 0 ≤ iM_variables.toInt ∧ iM_variables.toInt ≤ 8) (b_iM_rows : 0 ≤ iM_rows.toInt ∧ iM_rows.toInt ≤ 12) (b_iM_goals : 0 ≤ iM_goals.toInt ∧ iM_goals.toInt ≤ 3) (b_iM_differents : 0 ≤ iM_differents.toInt ∧ iM_differents.toInt ≤ 8) (b_iM_cases : 0 ≤ iM_cases.toInt ∧ iM_cases.toInt ≤ 200000) (b_fM_ways : ∀ q : Nat, 0 ≤ (fM_ways q).toInt ∧ (fM_ways q).toInt ≤ 3) (b_iM_plainRows : 0 ≤ iM_plainRows.toInt ∧ iM_plainRows.toInt ≤ 12) (b_fM_plainRow : ∀ q : Nat, 0 ≤ (fM_plainRow q).toInt ∧ (fM_plainRow q).toInt ≤ 11) (b_pr : iM_plainRows.toInt ≤ iM_rows.toInt) (b_iQ_rows : 0 ≤ iQ_rows.toInt ∧ iQ_rows.toInt ≤ 40) (b_iQ_allRows : 0 ≤ iQ_allRows.toInt ∧ iQ_allRows.toInt ≤ 40) (b_iQ_columns : 0 ≤ iQ_columns.toInt ∧ iQ_columns.toInt ≤ 40) (b_tb : TbO iQ_rows iQ_allRows iQ_columns) (b_wl : ∀ q : Nat, 0 ≤ (wl q).toInt ∧ (wl q).toInt ≤ 14) (b_wb : ∀ q : Nat, 0 ≤ (wb q).toInt ∧ (wb q).toInt ≤ 1) (b_p1 : 0 ≤ p1.toInt ∧ p1.toInt ≤ 39) (b_p2 : 0 ≤ p2.toInt ∧ p2.toInt ≤ 2) (hnW : 432 ≤ nW) (hc8 : iQ_columns.toInt ≤ 8) (sz : Nat) : Met l yX5_layGoal wsMX5_layGoal ({ frames := 4, cells := 0, slots := 0, locals := 85 }) (va_Pc [.ref (hO 0), .int p1, .int p2] (fun U => U.heap.size = sz ∧ va_P (dC, dI) vwCl (WO hO aO kO hM hQ hw iO_answered iO_searched iO_searchedRelaxed iO_counted fO_countedCase gO_goalNumber gO_goalScale fO_start fO_column fO_chosen ++ (WM hM aM kM iM_stands iM_variables iM_rows iM_goals iM_differents iM_cases fM_from fM_to fM_whole fM_ways iM_plainRows fM_plainRow fM_kept fM_goalOver fM_goalUnder fM_goalMax fM_different ++ (WQ hQ aQ kQ hw fQ_inside fQ_outside fQ_shut iQ_rows iQ_allRows iQ_columns ++ (WW nW hw lw kw wl wb wG)))) U.heap ∧ va_K (dC, dI) vwCl (tO kO ++ (tM kM ++ (tQ kQ ++ (tW kw)))) U ∧ va_D (fun _ => True) (WO hO aO kO hM hQ hw iO_answered iO_searched iO_searchedRelaxed iO_counted fO_countedCase gO_goalNumber gO_goalScale fO_start fO_column fO_chosen ++ (WM hM aM kM iM_stands iM_variables iM_rows iM_goals iM_differents iM_cases fM_from fM_to fM_whole fM_ways iM_plainRows fM_plainRow fM_kept fM_goalOver fM_goalUnder fM_goalMax fM_different ++ (WQ hQ aQ kQ hw fQ_inside fQ_outside fQ_shut iQ_rows iQ_allRows iQ_columns ++ (WW nW hw lw kw wl wb wG)))))) (va_Qv (fun (u : (Nat → Int32) × (Nat → Int32) × (Nat → Nat → Int64)) => (∀ q : Nat, 0 ≤ ((u.1) q).toInt ∧ ((u.1) q).toInt ≤ 14) ∧ (∀ q : Nat, 0 ≤ ((u.2.1) q).toInt ∧ ((u.2.1) q).toInt ≤ 1)) (fun (u : (Nat → Int32) × (Nat → Int32) × (Nat → Nat → Int64)) t => va_P (dC, dI) vwCl (WO hO aO kO hM hQ hw iO_answered iO_searched iO_searchedRelaxed iO_counted fO_countedCase gO_goalNumber gO_goalScale fO_start fO_column fO_chosen ++ (WM hM aM kM iM_stands iM_variables iM_rows iM_goals iM_differents iM_cases fM_from fM_to fM_whole fM_ways iM_plainRows fM_plainRow fM_kept fM_goalOver fM_goalUnder fM_goalMax fM_different ++ (WQ hQ aQ kQ hw fQ_inside fQ_outside fQ_shut iQ_rows iQ_allRows iQ_columns ++ (WW nW hw lw kw (u.1) (u.2.1) (u.2.2))))) t.heap ∧ va_D (va_A (WO hO aO kO hM hQ hw iO_answered iO_searched iO_searchedRelaxed iO_counted fO_countedCase gO_goalNumber gO_goalScale fO_start fO_column fO_chosen ++ (WM hM aM kM iM_stands iM_variables iM_rows iM_goals iM_differents iM_cases fM_from fM_to fM_whole fM_ways iM_plainRows fM_plainRow fM_kept fM_goalOver fM_goalUnder fM_goalMax fM_different ++ (WQ hQ aQ kQ hw fQ_inside fQ_outside fQ_shut iQ_rows iQ_allRows iQ_columns ++ (WW nW hw lw kw wl wb wG)))) sz) (WO hO aO kO hM hQ hw iO_answered iO_searched iO_searchedRelaxed iO_counted fO_countedCase gO_goalNumber gO_goalScale fO_start fO_column fO_chosen ++ (WM hM aM kM iM_stands iM_variables iM_rows iM_goals iM_differents iM_cases fM_from fM_to fM_whole fM_ways iM_plainRows fM_plainRow fM_kept fM_goalOver fM_goalUnder fM_goalMax fM_different ++ (WQ hQ aQ kQ hw fQ_inside fQ_outside fQ_shut iQ_rows iQ_allRows iQ_columns ++ (WW nW hw lw kw (u.1) (u.2.1) (u.2.2)))))) (va_A (WO hO aO kO hM hQ hw iO_answered iO_searched iO_searchedRelaxed iO_counted fO_countedCase gO_goalNumber gO_goalScale fO_start fO_column fO_chosen ++ (WM hM aM kM iM_stands iM_variables iM_rows iM_goals iM_differents iM_cases fM_from fM_to fM_whole fM_ways iM_plainRows fM_plainRow fM_kept fM_goalOver fM_goalUnder fM_goalMax fM_different ++ (WQ hQ aQ kQ hw fQ_inside fQ_outside fQ_shut iQ_rows iQ_allRows iQ_columns ++ (WW nW hw lw kw wl wb wG)))) sz)) 0 0 (va_A (WO hO aO kO hM hQ hw iO_answered iO_searched iO_searchedRelaxed iO_counted fO_countedCase gO_goalNumber gO_goalScale fO_start fO_column fO_chosen ++ (WM hM aM kM iM_stands iM_variables iM_rows iM_goals iM_differents iM_cases fM_from fM_to fM_whole fM_ways iM_plainRows fM_plainRow fM_kept fM_goalOver fM_goalUnder fM_goalMax fM_different ++ (WQ hQ aQ kQ hw fQ_inside fQ_outside fQ_shut iQ_rows iQ_allRows iQ_columns ++ (WW nW hw lw kw wl wb wG)))) sz) := by
  refine Met.ofW (cc := cX5_layGoal) (maxL := 7) (ret := none) (by decide) rfl ?_
  intro p e s m args below meth c s₁ B hml hv
  obtain ⟨rfl, hsz, hP, hK, hD0⟩ := hv
  have hx := B.exec
  have hb := B.bytes
  have hr := B.returns
  have hts := atoms_spec (ws := wsMX5_layGoal) B.pre
  have hown : s.vm.findClass RX5 = some m.cls := findClass_of_methodNamed B.named
  have hlocks := B.notSynchronized
  subst hsz
  have hD := hD0.self (sz := s.heap.size)
  generalize hAe : va_A (WO hO aO kO hM hQ hw iO_answered iO_searched iO_searchedRelaxed iO_counted fO_countedCase gO_goalNumber gO_goalScale fO_start fO_column fO_chosen ++ (WM hM aM kM iM_stands iM_variables iM_rows iM_goals iM_differents iM_cases fM_from fM_to fM_whole fM_ways iM_plainRows fM_plainRow fM_kept fM_goalOver fM_goalUnder fM_goalMax fM_different ++ (WQ hQ aQ kQ hw fQ_inside fQ_outside fQ_shut iQ_rows iQ_allRows iQ_columns ++ (WW nW hw lw kw wl wb wG)))) s.heap.size = A at hD ⊢
  have hA : ∀ q : Nat, s.heap.size ≤ q → A q := fun q h => by rw [← hAe]; exact Or.inr h
  have hS : va_S A s.heap s.heap [] := va_S.rf
  have hl := lv_entry ([.ref (hO 0), .int p1, .int p2]) (n := 7) (Nat.le_of_ble_eq_true rfl)
  rw [lg_entry_eq]
  generalize (lg_sl ([.ref (hO 0), .int p1, .int p2]) ++ List.replicate (7 - (lg_sl ([.ref (hO 0), .int p1, .int p2])).length) Slot.unset).toArray = ls at hl ⊢
  have hl : lv_has ls 7 [(0, .ref (hO 0)), (1, .int p1), (2, .int p2)] := hl
  refine lv_aload_n hx hb dX5_layGoal_0 rfl (lv_at hl 0 rfl) ?_
  refine va_get (D := (dC, dI)) (ci := 5) (v := .ref (hQ 0)) (C := RX5) (T := TX5) (N := 19) hx hb hts iwsMX5_layGoal_in5 hown hK hP 0 rfl rfl 1 (by decide) (hts _ hm_m_X5_layGoal_0) (fun _ h9 => h9) rfl dX5_layGoal_1 ?_
  refine lv_iload_n hx hb dX5_layGoal_4 rfl (lv_at hl 1 rfl) ?_
  refine lv_iconst (v := 0) hx hb dX5_layGoal_5 (by decide) ?_
  have p9 := cj_4_2_3 (WO hO aO kO hM hQ hw iO_answered iO_searched iO_searchedRelaxed iO_counted fO_countedCase gO_goalNumber gO_goalScale fO_start fO_column fO_chosen) (WM hM aM kM iM_stands iM_variables iM_rows iM_goals iM_differents iM_cases fM_from fM_to fM_whole fM_ways iM_plainRows fM_plainRow fM_kept fM_goalOver fM_goalUnder fM_goalMax fM_different) (WQ hQ aQ kQ hw fQ_inside fQ_outside fQ_shut iQ_rows iQ_allRows iQ_columns) (WW nW hw lw kw wl wb wG)
  have hPc := hP.mem (fun q h => p9.mem_iff.mpr (List.mem_append_left _ h))
  have hDc := (hD.perm p9).left
  have hKc : va_K (dC, dI) vwCl (tQ kQ ++ (tW kw)) _ := hK.sub [20, 21, 22, 23, 24] rfl
  have hFc := freeG p9 hD hS hA
  refine va_callr (va_runV (As := [.int p1, .int 0]) (rest := []) ⟨hx, hb, hml, hown, hts⟩ (m_X6_cellAt l dC dI hQ aQ kQ hw fQ_inside fQ_outside fQ_shut iQ_rows iQ_allRows iQ_columns nW lw kw wl wb wG p1 0 (b_iQ_rows) (b_iQ_allRows) (b_iQ_columns) (by first | with_reducible assumption | omega | assumption) b_wl b_wb (b_p1) (show 0 ≤ (0 : Int32).toInt ∧ (0 : Int32).toInt ≤ 40 from by decide) (by omega) ((by have h9 := ix_small (i := p1.toInt) (j := 0) (c := iQ_columns.toInt) (by omega) (by omega) (by omega) (by omega) (by omega) (by omega); have h8 : (0 : Int32).toInt = 0 := (by decide); rw [h8]; exact h9)) s.heap.size) (cwV 2 hts gwsMX5_layGoal_0 rfl rfl rfl hd_yX6_cellAt_RX6 (by decide +kernel)) (fz_pre (va_recv hK hP (ci := 6) (q0 := 22) rfl rfl) hPc hKc hDc) rfl rfl hl.1 rfl (lv_room (Nat.le_of_ble_eq_true rfl)) dX5_layGoal_6 (by decide +kernel)) hS (fun q _ h => hFc q h) hFc (fun kR_1 ra1 t9_ H locs ht hvm hw9 hB9 hz1 hk1 hS => ?_)
  revert hB9
  refine fz_a2 ?_
  intro hra hB9
  subst hra
  have f1_0 := hw9
  try dsimp only at f1_0
  have p8 := p9
  obtain ⟨hP, hD⟩ := frameG p9 p8 hP hD hk1 hFc (fz_P ht hB9.1) hB9.2
  refine lv_astore_n hx hb dX5_layGoal_9 rfl hl (by decide) rfl (fun ls (hl : lv_has ls _ ([(3, .ref (hw kR_1)), (0, .ref (hO 0)), (1, .int p1), (2, .int p2)])) => ?_)
  refine lv_iconst (v := 0) hx hb dX5_layGoal_10 (by decide) ?_
  refine lv_istore hx hb dX5_layGoal_11 hl (by decide) rfl (fun ls (hl : lv_has ls _ ([(4, .int 0), (3, .ref (hw kR_1)), (0, .ref (hO 0)), (1, .int p1), (2, .int p2)])) => ?_)
  have hl : lv_has _ _ ([(4, .int 0), (3, .ref (hw kR_1)), (0, .ref (hO 0)), (1, .int p1), (2, .int p2)]) := lv_sub hl [0, 1, 2, 3, 4] rfl
  refine (fun (loop : ∀ (n9 : Nat) (wl_x13 : Nat → Int32) (wb_x13 : Nat → Int32) (wG_x13 : Nat → Nat → Int64) (l4_x13 : Int32) (H : Heap) (locs : List Loc) (ls : Array Slot), (∀ q : Nat, 0 ≤ (wl_x13 q).toInt ∧ (wl_x13 q).toInt ≤ 14) → (∀ q : Nat, 0 ≤ (wb_x13 q).toInt ∧ (wb_x13 q).toInt ≤ 1) → (0 ≤ l4_x13.toInt ∧ l4_x13.toInt ≤ 8) → (8 - l4_x13.toInt < ((n9 : Nat) : Int)) → va_P (dC, dI) vwCl (WO hO aO kO hM hQ hw iO_answered iO_searched iO_searchedRelaxed iO_counted fO_countedCase gO_goalNumber gO_goalScale fO_start fO_column fO_chosen ++ (WM hM aM kM iM_stands iM_variables iM_rows iM_goals iM_differents iM_cases fM_from fM_to fM_whole fM_ways iM_plainRows fM_plainRow fM_kept fM_goalOver fM_goalUnder fM_goalMax fM_different ++ (WQ hQ aQ kQ hw fQ_inside fQ_outside fQ_shut iQ_rows iQ_allRows iQ_columns ++ (WW nW hw lw kw wl_x13 wb_x13 wG_x13)))) H → va_D A (WO hO aO kO hM hQ hw iO_answered iO_searched iO_searchedRelaxed iO_counted fO_countedCase gO_goalNumber gO_goalScale fO_start fO_column fO_chosen ++ (WM hM aM kM iM_stands iM_variables iM_rows iM_goals iM_differents iM_cases fM_from fM_to fM_whole fM_ways iM_plainRows fM_plainRow fM_kept fM_goalOver fM_goalUnder fM_goalMax fM_different ++ (WQ hQ aQ kQ hw fQ_inside fQ_outside fQ_shut iQ_rows iQ_allRows iQ_columns ++ (WW nW hw lw kw wl_x13 wb_x13 wG_x13)))) → va_S A s.heap H locs → lv_has ls 7 [(4, .int l4_x13), (3, .ref (hw kR_1)), (0, .ref (hO 0)), (1, .int p1), (2, .int p2)] → W p l e _ s m _ below meth c H locs 0 0 _ (F0 m 13 ls [])) => loop (9) wl wb wG 0 _ _ _ b_wl b_wb (show 0 ≤ (0 : Int32).toInt ∧ (0 : Int32).toInt ≤ 8 from by decide) ((by have e9 : (0 : Int32).toInt = 0 := (by decide : (0 : Int32).toInt = 0); omega)) hP hD hS hl) ?_
  intro n9
  induction n9 with
  | zero => intro wl_x13 wb_x13 wG_x13 l4_x13 H locs ls b_wl_x13 b_wb_x13 b_l4_x13 hf9; exact False.elim (by omega)
  | succ n9 ihx13 =>
    intro wl_x13 wb_x13 wG_x13 l4_x13 H locs ls b_wl_x13 b_wb_x13 b_l4_x13 hfx13 hP hD hS hl
    refine lv_iload hx hb dX5_layGoal_13 (lv_at hl 0 rfl) ?_
    refine lv_aload_n hx hb dX5_layGoal_15 rfl (lv_at hl 2 rfl) ?_
    refine va_get (D := (dC, dI)) (ci := 5) (v := .ref (hM 0)) (C := RX5) (T := TX5) (N := 19) hx hb hts iwsMX5_layGoal_in5 hown hK hP 0 rfl rfl 0 (by decide) (hts (.fieldLink RX5 74 "OptimaWorks$Solver" "model" "LOptimaWorks$Model;") (by decide +kernel)) (fun _ h9 => h9) rfl dX5_layGoal_16 ?_
    refine va_get (D := (dC, dI)) (ci := 1) (v := .int iM_variables) (C := RX1) (T := TX1) (N := 17) hx hb hts iwsMX5_layGoal_in1 hown hK hP 11 rfl rfl 1 (by decide) (hts (.fieldLink RX5 112 "OptimaWorks$Model" "variables" "I") (by decide +kernel)) (fun _ h9 => h9) rfl dX5_layGoal_19 ?_
    refine lv_icmp_ge (tgt := 101) hx hb dX5_layGoal_22 (by decide) (fun c_22 => ?_) (fun c_22 => ?_)
    · have t_22 : l4_x13.toInt ≥ iM_variables.toInt := toI_ge c_22 rfl rfl
      refine W.widen (k := 0) (n := 0) (by decide +kernel) (by decide +kernel) ?_
      exact W.vret hx hb hr (fun t9_ ht hW => ⟨⟨(wl_x13, wb_x13, wG_x13), rfl, ⟨b_wl_x13, b_wb_x13⟩, by rw [ht]; exact hP, hD⟩, hS.F ht⟩) hS.2.2 dX5_layGoal_101
    · have t_22 : ¬ l4_x13.toInt ≥ iM_variables.toInt := toI_nge c_22 rfl rfl
      refine lv_aload_n hx hb dX5_layGoal_25 rfl (lv_at hl 2 rfl) ?_
      refine lv_iload_n hx hb dX5_layGoal_26 rfl (lv_at hl 4 rfl) ?_
      refine lv_iload hx hb dX5_layGoal_27 (lv_at hl 0 rfl) ?_
      have hFc := allFree hD hS hA
      refine va_calll (va_runV (As := [.int p2, .int l4_x13]) (rest := []) ⟨hx, hb, hml, hown, hts⟩ (m_X5_scaledNumber l dC dI hO aO kO hM hQ hw iO_answered iO_searched iO_searchedRelaxed iO_counted fO_countedCase gO_goalNumber gO_goalScale fO_start fO_column fO_chosen aM kM iM_stands iM_variables iM_rows iM_goals iM_differents iM_cases fM_from fM_to fM_whole fM_ways iM_plainRows fM_plainRow fM_kept fM_goalOver fM_goalUnder fM_goalMax fM_different aQ kQ fQ_inside fQ_outside fQ_shut iQ_rows iQ_allRows iQ_columns nW lw kw wl_x13 wb_x13 wG_x13 p2 l4_x13 (b_iO_answered) (b_iO_searched) (b_iO_searchedRelaxed) (b_iO_counted) b_fO_countedCase b_fO_column b_fO_chosen (b_iM_stands) (b_iM_variables) (b_iM_rows) (b_iM_goals) (b_iM_differents) (b_iM_cases) b_fM_ways (b_iM_plainRows) b_fM_plainRow (by first | with_reducible assumption | omega | assumption) (b_iQ_rows) (b_iQ_allRows) (b_iQ_columns) (by first | with_reducible assumption | omega | assumption) b_wl_x13 b_wb_x13 (b_p2) (by first | exact b_l4_x13 | with_reducible assumption | exact ⟨by omega, by omega⟩ | assumption) (by omega) H.size) (cwV 2 hts gwsMX5_layGoal_1 rfl rfl rfl hd_yX5_scaledNumber_RX5 (by decide +kernel)) (fz_pre (va_recv hK hP (ci := 5) (q0 := 0) rfl rfl) hP hK hD) rfl rfl hl.1 rfl (lv_room (Nat.le_of_ble_eq_true rfl)) dX5_layGoal_29 (by decide +kernel)) hS (fun q _ h => hFc q h) hFc (fun r72 u t9_ H locs ht hvm hw9 hB9 hz1 hk1 hS => ?_)
      clear hw9
      have hP : va_P (dC, dI) vwCl (WO hO aO kO hM hQ hw iO_answered iO_searched iO_searchedRelaxed iO_counted fO_countedCase gO_goalNumber gO_goalScale fO_start fO_column fO_chosen ++ (WM hM aM kM iM_stands iM_variables iM_rows iM_goals iM_differents iM_cases fM_from fM_to fM_whole fM_ways iM_plainRows fM_plainRow fM_kept fM_goalOver fM_goalUnder fM_goalMax fM_different ++ (WQ hQ aQ kQ hw fQ_inside fQ_outside fQ_shut iQ_rows iQ_allRows iQ_columns ++ (WW nW hw lw kw wl_x13 wb_x13 wG_x13)))) H := fz_P ht hB9.1
      have hD := fz_sd hP (hB9.2.weaken (fun _ q _ h => hFc q.1 h)) rfl
      refine lv_lstore hx hb dX5_layGoal_32 hl (by decide) rfl (fun ls (hl : lv_has ls _ ([(5, .long r72), (4, .int l4_x13), (3, .ref (hw kR_1)), (0, .ref (hO 0)), (1, .int p1), (2, .int p2)])) => ?_)
      refine lv_aload_n hx hb dX5_layGoal_34 rfl (lv_at hl 3 rfl) ?_
      refine va_get (D := (dC, dI)) (ci := 5) (v := .ref (aO 9)) (C := RX5) (T := TX5) (N := 19) hx hb hts iwsMX5_layGoal_in5 hown hK hP 0 rfl rfl 18 (by decide) (hts _ hm_m_X5_layGoal_1) (fun _ h9 => h9) rfl dX5_layGoal_35 ?_
      refine lv_iconst (v := 1) hx hb dX5_layGoal_38 (by decide) ?_
      refine va_aldq (cA := kO 9) (n := 4) (f := fun q => some (hw (428 + q))) hx hb hK hP 10 9 rfl rfl (show ¬ ((1 : Int32) < 0 ∨ 4 ≤ (1 : Int32).toNatClampNeg) by decide) dX5_layGoal_39 ?_
      obtain ⟨k73, hk73, b_k73⟩ : ∃ k9 : Nat, k9 = 428 + (1 : Int32).toNatClampNeg ∧ (428 ≤ k9 ∧ k9 < 432 ∧ (k9 : Int) = 428 + 1) := ⟨_, rfl, ald_k (x := (1 : Int32)) (o := 428) (n := 4) (by decide : (1 : Int32).toInt = 1) (by omega) (by omega)⟩
      refine W.eq (g2 := F0 m 40 ls [.ref (hw k73)]) (by rw [hk73]; rfl) ?_
      clear hk73
      refine lv_aload_n hx hb dX5_layGoal_40 rfl (lv_at hl 3 rfl) ?_
      refine va_get (D := (dC, dI)) (ci := 5) (v := .ref (aO 3)) (C := RX5) (T := TX5) (N := 19) hx hb hts iwsMX5_layGoal_in5 hown hK hP 0 rfl rfl 9 (by decide) (hts (.fieldLink RX5 35 "OptimaWorks$Solver" "start" "[I") (by decide +kernel)) (fun _ h9 => h9) rfl dX5_layGoal_41 ?_
      refine lv_iload hx hb dX5_layGoal_44 (lv_at hl 1 rfl) ?_
      refine va_iald (cA := kO 3) (n := 8) (f := fO_start) hx hb hK hP 4 3 rfl rfl (vp_in_iff.mpr ⟨b_l4_x13.1, (Int.lt_of_lt_of_le (Int.not_le.mp t_22) (Int.le_trans b_iM_variables.2 (by decide)))⟩) dX5_layGoal_46 ?_
      refine lv_topi (fun v74 hv74 => ?_)
      clear hv74
      refine lv_i2l hx hb dX5_layGoal_47 rfl ?_
      refine lv_topl (fun v75 hv75 => ?_)
      clear hv75
      have p9 := cj_4_3 (WO hO aO kO hM hQ hw iO_answered iO_searched iO_searchedRelaxed iO_counted fO_countedCase gO_goalNumber gO_goalScale fO_start fO_column fO_chosen) (WM hM aM kM iM_stands iM_variables iM_rows iM_goals iM_differents iM_cases fM_from fM_to fM_whole fM_ways iM_plainRows fM_plainRow fM_kept fM_goalOver fM_goalUnder fM_goalMax fM_different) (WQ hQ aQ kQ hw fQ_inside fQ_outside fQ_shut iQ_rows iQ_allRows iQ_columns) (WW nW hw lw kw wl_x13 wb_x13 wG_x13)
      have hPc := hP.mem (fun q h => p9.mem_iff.mpr (List.mem_append_left _ h))
      have hDc := (hD.perm p9).left
      have hKc : va_K (dC, dI) vwCl (tW kw) _ := hK.sub [24] rfl
      have hFc := freeG p9 hD hS hA
      refine va_callv (va_runV (As := [.long v75]) (rest := []) ⟨hx, hb, hml, hown, hts⟩ (m_X8_setLong l dC dI nW hw lw kw wl_x13 wb_x13 wG_x13 k73 v75 b_wl_x13 b_wb_x13 (by first | with_reducible assumption | omega | (rw [iI_t (by omega) (by omega)]; omega) | decide | assumption) H.size) (cwV 1 hts gwsMX5_layGoal_2 rfl rfl rfl hd_yX8_setLong_RX8 (by decide +kernel)) (fz_pre (va_recv hK hP (ci := 8) (q0 := 11 + (11 + (5 + (k73)))) rfl (apR rfl (apR rfl (apR rfl (WW_o (by omega)))))) hPc hKc hDc) rfl rfl hl.1 rfl (lv_room (Nat.le_of_ble_eq_true rfl)) dX5_layGoal_48 (by decide +kernel)) hS (fun q _ h => hFc q h) hFc (fun u t9_ H locs ht hvm hw9 hB9 hz1 hk1 hS => ?_)
      revert u hw9 hB9
      refine fz_p3 ?_
      intro wl_76 wb_76 wG_76 hw9 hB9
      try dsimp only at hw9 hB9
      revert hw9
      refine fz_a2 ?_
      intro b_wl_76 b_wb_76
      have p8 := cj_4_3 (WO hO aO kO hM hQ hw iO_answered iO_searched iO_searchedRelaxed iO_counted fO_countedCase gO_goalNumber gO_goalScale fO_start fO_column fO_chosen) (WM hM aM kM iM_stands iM_variables iM_rows iM_goals iM_differents iM_cases fM_from fM_to fM_whole fM_ways iM_plainRows fM_plainRow fM_kept fM_goalOver fM_goalUnder fM_goalMax fM_different) (WQ hQ aQ kQ hw fQ_inside fQ_outside fQ_shut iQ_rows iQ_allRows iQ_columns) (WW nW hw lw kw wl_76 wb_76 wG_76)
      obtain ⟨hP, hD⟩ := frameG p9 p8 hP hD hk1 hFc (fz_P ht hB9.1) hB9.2
      refine lv_aload_n hx hb dX5_layGoal_51 rfl (lv_at hl 3 rfl) ?_
      refine lv_aload_n hx hb dX5_layGoal_52 rfl (lv_at hl 2 rfl) ?_
      refine lv_aload_n hx hb dX5_layGoal_53 rfl (lv_at hl 3 rfl) ?_
      refine va_get (D := (dC, dI)) (ci := 5) (v := .ref (aO 9)) (C := RX5) (T := TX5) (N := 19) hx hb hts iwsMX5_layGoal_in5 hown hK hP 0 rfl rfl 18 (by decide) (hts _ hm_m_X5_layGoal_1) (fun _ h9 => h9) rfl dX5_layGoal_54 ?_
      refine lv_iconst (v := 1) hx hb dX5_layGoal_57 (by decide) ?_
      refine va_aldq (cA := kO 9) (n := 4) (f := fun q => some (hw (428 + q))) hx hb hK hP 10 9 rfl rfl (show ¬ ((1 : Int32) < 0 ∨ 4 ≤ (1 : Int32).toNatClampNeg) by decide) dX5_layGoal_58 ?_
      obtain ⟨k77, hk77, b_k77⟩ : ∃ k9 : Nat, k9 = 428 + (1 : Int32).toNatClampNeg ∧ (428 ≤ k9 ∧ k9 < 432 ∧ (k9 : Int) = 428 + 1) := ⟨_, rfl, ald_k (x := (1 : Int32)) (o := 428) (n := 4) (by decide : (1 : Int32).toInt = 1) (by omega) (by omega)⟩
      refine W.eq (g2 := F0 m 59 ls [.ref (hw k77), .ref (hw kR_1), .ref (hO 0)]) (by rw [hk77]; rfl) ?_
      clear hk77
      refine lv_lload hx hb dX5_layGoal_59 (lv_at hl 0 rfl) ?_
      have hFc := allFree hD hS hA
      refine va_callv (va_runV (As := [.ref (hw kR_1), .ref (hw k77), .long r72]) (rest := []) ⟨hx, hb, hml, hown, hts⟩ (m_X5_addTimes l dC dI hO aO kO hM hQ hw iO_answered iO_searched iO_searchedRelaxed iO_counted fO_countedCase gO_goalNumber gO_goalScale fO_start fO_column fO_chosen aM kM iM_stands iM_variables iM_rows iM_goals iM_differents iM_cases fM_from fM_to fM_whole fM_ways iM_plainRows fM_plainRow fM_kept fM_goalOver fM_goalUnder fM_goalMax fM_different aQ kQ fQ_inside fQ_outside fQ_shut iQ_rows iQ_allRows iQ_columns nW lw kw wl_76 wb_76 wG_76 kR_1 k77 r72 (b_iO_answered) (b_iO_searched) (b_iO_searchedRelaxed) (b_iO_counted) b_fO_countedCase b_fO_column b_fO_chosen (b_iM_stands) (b_iM_variables) (b_iM_rows) (b_iM_goals) (b_iM_differents) (b_iM_cases) b_fM_ways (b_iM_plainRows) b_fM_plainRow (by first | with_reducible assumption | omega | assumption) (b_iQ_rows) (b_iQ_allRows) (b_iQ_columns) (by first | with_reducible assumption | omega | assumption) b_wl_76 b_wb_76 (by omega) (by first | with_reducible assumption | omega | (rw [iI_t (by omega) (by omega)]; omega) | decide | assumption) (by first | with_reducible assumption | omega | (rw [iI_t (by omega) (by omega)]; omega) | decide | assumption) H.size) (cwV 3 hts gwsMX5_layGoal_3 rfl rfl rfl hd_yX5_addTimes_RX5 (by decide +kernel)) (fz_pre (va_recv hK hP (ci := 5) (q0 := 0) rfl rfl) hP hK hD) rfl rfl hl.1 rfl (lv_room (Nat.le_of_ble_eq_true rfl)) dX5_layGoal_61 (by decide +kernel)) hS (fun q _ h => hFc q h) hFc (fun u t9_ H locs ht hvm hw9 hB9 hz1 hk1 hS => ?_)
      revert u hw9 hB9
      refine fz_p3 ?_
      intro wl_78 wb_78 wG_78 hw9 hB9
      try dsimp only at hw9 hB9
      revert hw9
      refine fz_a2 ?_
      intro b_wl_78 b_wb_78
      have hP : va_P (dC, dI) vwCl (WO hO aO kO hM hQ hw iO_answered iO_searched iO_searchedRelaxed iO_counted fO_countedCase gO_goalNumber gO_goalScale fO_start fO_column fO_chosen ++ (WM hM aM kM iM_stands iM_variables iM_rows iM_goals iM_differents iM_cases fM_from fM_to fM_whole fM_ways iM_plainRows fM_plainRow fM_kept fM_goalOver fM_goalUnder fM_goalMax fM_different ++ (WQ hQ aQ kQ hw fQ_inside fQ_outside fQ_shut iQ_rows iQ_allRows iQ_columns ++ (WW nW hw lw kw wl_78 wb_78 wG_78)))) H := fz_P ht hB9.1
      have hD := fz_sd hP (hB9.2.weaken (fun _ q _ h => hFc q.1 h)) rfl
      refine lv_aload_n hx hb dX5_layGoal_64 rfl (lv_at hl 3 rfl) ?_
      refine va_get (D := (dC, dI)) (ci := 5) (v := .ref (aO 4)) (C := RX5) (T := TX5) (N := 19) hx hb hts iwsMX5_layGoal_in5 hown hK hP 0 rfl rfl 10 (by decide) (hts _ hm_m_X5_layGoal_2) (fun _ h9 => h9) rfl dX5_layGoal_65 ?_
      refine lv_iload hx hb dX5_layGoal_68 (lv_at hl 1 rfl) ?_
      refine va_iald (cA := kO 4) (n := 8) (f := fO_column) hx hb hK hP 5 4 rfl rfl (vp_in_iff.mpr ⟨b_l4_x13.1, (Int.lt_of_lt_of_le (Int.not_le.mp t_22) (Int.le_trans b_iM_variables.2 (by decide)))⟩) dX5_layGoal_70 ?_
      refine lv_topi (fun v79 hv79 => ?_)
      have b_v79 : (-1) ≤ v79.toInt ∧ v79.toInt ≤ 8 := by rw [hv79]; exact b_fO_column _
      have b1_v79 : v79 = fO_column (l4_x13).toNatClampNeg := hv79
      clear hv79
      refine lv_iconst (v := (-1)) hx hb dX5_layGoal_71 (by decide) ?_
      refine W.cut (pc := 95) (fun H locs ls stk => ∃ (wl_j12 : Nat → Int32) (wb_j12 : Nat → Int32) (wG_j12 : Nat → Nat → Int64), (∀ q : Nat, 0 ≤ (wl_j12 q).toInt ∧ (wl_j12 q).toInt ≤ 14) ∧ (∀ q : Nat, 0 ≤ (wb_j12 q).toInt ∧ (wb_j12 q).toInt ≤ 1) ∧  stk = [] ∧ va_P (dC, dI) vwCl (WO hO aO kO hM hQ hw iO_answered iO_searched iO_searchedRelaxed iO_counted fO_countedCase gO_goalNumber gO_goalScale fO_start fO_column fO_chosen ++ (WM hM aM kM iM_stands iM_variables iM_rows iM_goals iM_differents iM_cases fM_from fM_to fM_whole fM_ways iM_plainRows fM_plainRow fM_kept fM_goalOver fM_goalUnder fM_goalMax fM_different ++ (WQ hQ aQ kQ hw fQ_inside fQ_outside fQ_shut iQ_rows iQ_allRows iQ_columns ++ (WW nW hw lw kw wl_j12 wb_j12 wG_j12)))) H ∧ va_D A (WO hO aO kO hM hQ hw iO_answered iO_searched iO_searchedRelaxed iO_counted fO_countedCase gO_goalNumber gO_goalScale fO_start fO_column fO_chosen ++ (WM hM aM kM iM_stands iM_variables iM_rows iM_goals iM_differents iM_cases fM_from fM_to fM_whole fM_ways iM_plainRows fM_plainRow fM_kept fM_goalOver fM_goalUnder fM_goalMax fM_different ++ (WQ hQ aQ kQ hw fQ_inside fQ_outside fQ_shut iQ_rows iQ_allRows iQ_columns ++ (WW nW hw lw kw wl_j12 wb_j12 wG_j12)))) ∧ va_S A s.heap H locs ∧ lv_has ls 7 [(5, .long r72), (4, .int l4_x13), (3, .ref (hw kR_1)), (0, .ref (hO 0)), (1, .int p1), (2, .int p2)]) (fun join12 => ?_) ?_
      · refine lv_icmp_eq (tgt := 95) hx hb dX5_layGoal_72 (by decide) (fun c_72 => ?_) (fun c_72 => ?_)
        · have t_72 : v79.toInt = (-1) := toI_eq c_72 rfl (by decide : ((-1) : Int32).toInt = (-1))
          have hl : lv_has _ _ ([(5, .long r72), (4, .int l4_x13), (3, .ref (hw kR_1)), (0, .ref (hO 0)), (1, .int p1), (2, .int p2)]) := lv_sub hl [0, 1, 2, 3, 4, 5] rfl
          exact join12 _ _ _ _ ⟨wl_78, wb_78, wG_78, b_wl_78, b_wb_78, rfl, hP, hD, hS, hl⟩
        · have t_72 : ¬ v79.toInt = (-1) := toI_neq c_72 rfl (by decide : ((-1) : Int32).toInt = (-1))
          refine lv_aload_n hx hb dX5_layGoal_75 rfl (lv_at hl 3 rfl) ?_
          refine va_get (D := (dC, dI)) (ci := 5) (v := .ref (hQ 0)) (C := RX5) (T := TX5) (N := 19) hx hb hts iwsMX5_layGoal_in5 hown hK hP 0 rfl rfl 1 (by decide) (hts _ hm_m_X5_layGoal_0) (fun _ h9 => h9) rfl dX5_layGoal_76 ?_
          refine lv_iload_n hx hb dX5_layGoal_79 rfl (lv_at hl 4 rfl) ?_
          refine lv_aload_n hx hb dX5_layGoal_80 rfl (lv_at hl 3 rfl) ?_
          refine va_get (D := (dC, dI)) (ci := 5) (v := .ref (aO 4)) (C := RX5) (T := TX5) (N := 19) hx hb hts iwsMX5_layGoal_in5 hown hK hP 0 rfl rfl 10 (by decide) (hts _ hm_m_X5_layGoal_2) (fun _ h9 => h9) rfl dX5_layGoal_81 ?_
          refine lv_iload hx hb dX5_layGoal_84 (lv_at hl 1 rfl) ?_
          refine va_iald (cA := kO 4) (n := 8) (f := fO_column) hx hb hK hP 5 4 rfl rfl (vp_in_iff.mpr ⟨b_l4_x13.1, (by omega)⟩) dX5_layGoal_86 ?_
          refine lv_topi (fun v83 hv83 => ?_)
          have b_v83 : (-1) ≤ v83.toInt ∧ v83.toInt ≤ 8 := by rw [hv83]; exact b_fO_column _
          have b1_v83 : v83 = fO_column (l4_x13).toNatClampNeg := hv83
          have b2_v83 : v83.toInt = v79.toInt := by rw [hv83]; exact (congrArg Int32.toInt b1_v79).symm
          clear hv83
          have p9 := cj_4_2_3 (WO hO aO kO hM hQ hw iO_answered iO_searched iO_searchedRelaxed iO_counted fO_countedCase gO_goalNumber gO_goalScale fO_start fO_column fO_chosen) (WM hM aM kM iM_stands iM_variables iM_rows iM_goals iM_differents iM_cases fM_from fM_to fM_whole fM_ways iM_plainRows fM_plainRow fM_kept fM_goalOver fM_goalUnder fM_goalMax fM_different) (WQ hQ aQ kQ hw fQ_inside fQ_outside fQ_shut iQ_rows iQ_allRows iQ_columns) (WW nW hw lw kw wl_78 wb_78 wG_78)
          have hPc := hP.mem (fun q h => p9.mem_iff.mpr (List.mem_append_left _ h))
          have hDc := (hD.perm p9).left
          have hKc : va_K (dC, dI) vwCl (tQ kQ ++ (tW kw)) _ := hK.sub [20, 21, 22, 23, 24] rfl
          have hFc := freeG p9 hD hS hA
          refine va_callr (va_runV (As := [.int p1, .int v83]) (rest := []) ⟨hx, hb, hml, hown, hts⟩ (m_X6_cellAt l dC dI hQ aQ kQ hw fQ_inside fQ_outside fQ_shut iQ_rows iQ_allRows iQ_columns nW lw kw wl_78 wb_78 wG_78 p1 v83 (b_iQ_rows) (b_iQ_allRows) (b_iQ_columns) (by first | with_reducible assumption | omega | assumption) b_wl_78 b_wb_78 (b_p1) (by first | exact b_v83 | with_reducible assumption | exact ⟨by omega, by omega⟩ | assumption) (by omega) ((by have h9 := ix_small (i := p1.toInt) (j := v83.toInt) (c := iQ_columns.toInt) (by omega) (by omega) (by omega) (by omega) (by omega) (by omega); exact h9)) H.size) (cwV 2 hts gwsMX5_layGoal_0 rfl rfl rfl hd_yX6_cellAt_RX6 (by decide +kernel)) (fz_pre (va_recv hK hP (ci := 6) (q0 := 22) rfl rfl) hPc hKc hDc) rfl rfl hl.1 rfl (lv_room (Nat.le_of_ble_eq_true rfl)) dX5_layGoal_87 (by decide +kernel)) hS (fun q _ h => hFc q h) hFc (fun kR_84 ra84 t9_ H locs ht hvm hw9 hB9 hz1 hk1 hS => ?_)
          revert hB9
          refine fz_a2 ?_
          intro hra hB9
          subst hra
          have f84_0 := hw9
          try dsimp only at f84_0
          have p8 := p9
          obtain ⟨hP, hD⟩ := frameG p9 p8 hP hD hk1 hFc (fz_P ht hB9.1) hB9.2
          refine lv_lload hx hb dX5_layGoal_90 (lv_at hl 0 rfl) ?_
          have p9 := cj_4_3 (WO hO aO kO hM hQ hw iO_answered iO_searched iO_searchedRelaxed iO_counted fO_countedCase gO_goalNumber gO_goalScale fO_start fO_column fO_chosen) (WM hM aM kM iM_stands iM_variables iM_rows iM_goals iM_differents iM_cases fM_from fM_to fM_whole fM_ways iM_plainRows fM_plainRow fM_kept fM_goalOver fM_goalUnder fM_goalMax fM_different) (WQ hQ aQ kQ hw fQ_inside fQ_outside fQ_shut iQ_rows iQ_allRows iQ_columns) (WW nW hw lw kw wl_78 wb_78 wG_78)
          have hPc := hP.mem (fun q h => p9.mem_iff.mpr (List.mem_append_left _ h))
          have hDc := (hD.perm p9).left
          have hKc : va_K (dC, dI) vwCl (tW kw) _ := hK.sub [24] rfl
          have hFc := freeG p9 hD hS hA
          refine va_callv (va_runV (As := [.long r72]) (rest := []) ⟨hx, hb, hml, hown, hts⟩ (m_X8_setLong l dC dI nW hw lw kw wl_78 wb_78 wG_78 kR_84 r72 b_wl_78 b_wb_78 (by first | with_reducible assumption | omega | (rw [iI_t (by omega) (by omega)]; omega) | decide | assumption) H.size) (cwV 1 hts gwsMX5_layGoal_2 rfl rfl rfl hd_yX8_setLong_RX8 (by decide +kernel)) (fz_pre (va_recv hK hP (ci := 8) (q0 := 11 + (11 + (5 + (kR_84)))) rfl (apR rfl (apR rfl (apR rfl (WW_o (by omega)))))) hPc hKc hDc) rfl rfl hl.1 rfl (lv_room (Nat.le_of_ble_eq_true rfl)) dX5_layGoal_92 (by decide +kernel)) hS (fun q _ h => hFc q h) hFc (fun u t9_ H locs ht hvm hw9 hB9 hz1 hk1 hS => ?_)
          revert u hw9 hB9
          refine fz_p3 ?_
          intro wl_85 wb_85 wG_85 hw9 hB9
          try dsimp only at hw9 hB9
          revert hw9
          refine fz_a2 ?_
          intro b_wl_85 b_wb_85
          have p8 := cj_4_3 (WO hO aO kO hM hQ hw iO_answered iO_searched iO_searchedRelaxed iO_counted fO_countedCase gO_goalNumber gO_goalScale fO_start fO_column fO_chosen) (WM hM aM kM iM_stands iM_variables iM_rows iM_goals iM_differents iM_cases fM_from fM_to fM_whole fM_ways iM_plainRows fM_plainRow fM_kept fM_goalOver fM_goalUnder fM_goalMax fM_different) (WQ hQ aQ kQ hw fQ_inside fQ_outside fQ_shut iQ_rows iQ_allRows iQ_columns) (WW nW hw lw kw wl_85 wb_85 wG_85)
          obtain ⟨hP, hD⟩ := frameG p9 p8 hP hD hk1 hFc (fz_P ht hB9.1) hB9.2
          have hl : lv_has _ _ ([(5, .long r72), (4, .int l4_x13), (3, .ref (hw kR_1)), (0, .ref (hO 0)), (1, .int p1), (2, .int p2)]) := lv_sub hl [0, 1, 2, 3, 4, 5] rfl
          exact join12 _ _ _ _ ⟨wl_85, wb_85, wG_85, b_wl_85, b_wb_85, rfl, hP, hD, hS, hl⟩
      · intro H locs ls stk
        refine fz_e3 ?_
        intro wl_j12 wb_j12 wG_j12
        refine fz_a7 ?_
        intro b_wl_j12 b_wb_j12 hst9_2 hP hD hS hl
        subst hst9_2
        refine lv_iinc (v := (iI (l4_x13.toInt + 1))) hx hb dX5_layGoal_95 hl (k := 1) rfl (iI_add2 (iI_of _) (by decide : (1 : Int32) = iI 1)) (by decide) rfl (fun ls (hl : lv_has ls _ ([(4, .int (iI (l4_x13.toInt + 1))), (5, .long r72), (3, .ref (hw kR_1)), (0, .ref (hO 0)), (1, .int p1), (2, .int p2)])) => ?_)
        refine lv_goto (tgt := 13) hx hb dX5_layGoal_98 (by decide) ?_
        have hl : lv_has _ _ ([(4, .int (iI (l4_x13.toInt + 1))), (3, .ref (hw kR_1)), (0, .ref (hO 0)), (1, .int p1), (2, .int p2)]) := lv_sub hl [0, 2, 3, 4, 5] rfl
        exact ihx13 wl_j12 wb_j12 wG_j12 (iI (l4_x13.toInt + 1)) _ _ _ b_wl_j12 b_wb_j12 (iI_rng (Int.le_trans (by decide) (Int.add_le_add (b_l4_x13.1) (Int.le_refl _))) (by omega) (by decide) (by decide)) (by have e9 : ((iI (l4_x13.toInt + 1))).toInt = (l4_x13.toInt + 1) := (iI_t (Int.le_trans (by decide) (Int.add_le_add (b_l4_x13.1) (Int.le_refl _))) (Int.le_trans (Int.add_le_add (b_l4_x13.2) (Int.le_refl _)) (by decide))); omega) hP hD hS hl
end
section
theorem hd_yX6_begin_RX6 : yX6_begin.cls = RX6 ∧ yX6_begin.cls ≠ "java/lang/invoke/MethodHandle" ∧ yX6_begin.cls ≠ "java/lang/invoke/VarHandle" ∧ (parseMethodDescriptor yX6_begin.desc).map (fun d => d.parameters.length) = some 3 := by decide +kernel
theorem hd_yX5_layGoal_RX5 : yX5_layGoal.cls = RX5 ∧ yX5_layGoal.cls ≠ "java/lang/invoke/MethodHandle" ∧ yX5_layGoal.cls ≠ "java/lang/invoke/VarHandle" ∧ (parseMethodDescriptor yX5_layGoal.desc).map (fun d => d.parameters.length) = some 2 := by decide +kernel
theorem hd_yX5_layWay_RX5 : yX5_layWay.cls = RX5 ∧ yX5_layWay.cls ≠ "java/lang/invoke/MethodHandle" ∧ yX5_layWay.cls ≠ "java/lang/invoke/VarHandle" ∧ (parseMethodDescriptor yX5_layWay.desc).map (fun d => d.parameters.length) = some 3 := by decide +kernel
theorem dX5_lay_0 : decode cX5_lay 0 = .ok (.iconst 0, 1) := dk_3 (by decide +kernel)
theorem dX5_lay_1 : decode cX5_lay 1 = .ok (.istore_n 3, 1) := dk_62 (by decide +kernel)
theorem dX5_lay_2 : decode cX5_lay 2 = .ok (.iconst 0, 1) := dk_3 (by decide +kernel)
theorem dX5_lay_3 : decode cX5_lay 3 = .ok (.istore 4, 2) := dk_54 (by decide +kernel)
theorem dX5_lay_5 : decode cX5_lay 5 = .ok (.iload 4, 2) := dk_21 (by decide +kernel)
theorem dX5_lay_7 : decode cX5_lay 7 = .ok (.aload_n 0, 1) := dk_42 (by decide +kernel)
theorem dX5_lay_8 : decode cX5_lay 8 = .ok (.getfield 74, 3) := dk_180 (by decide +kernel)
theorem dX5_lay_11 : decode cX5_lay 11 = .ok (.getfield 112, 3) := dk_180 (by decide +kernel)
theorem dX5_lay_14 : decode cX5_lay 14 = .ok (.if_icmp .ge 74, 3) := dk_162 (by decide +kernel)
theorem dX5_lay_17 : decode cX5_lay 17 = .ok (.iload_n 1, 1) := dk_27 (by decide +kernel)
theorem dX5_lay_18 : decode cX5_lay 18 = .ok (.ifCond .ne 16, 3) := dk_154 (by decide +kernel)
theorem dX5_lay_21 : decode cX5_lay 21 = .ok (.aload_n 0, 1) := dk_42 (by decide +kernel)
theorem dX5_lay_22 : decode cX5_lay 22 = .ok (.getfield 74, 3) := dk_180 (by decide +kernel)
theorem dX5_lay_25 : decode cX5_lay 25 = .ok (.getfield 143, 3) := dk_180 (by decide +kernel)
theorem dX5_lay_28 : decode cX5_lay 28 = .ok (.iload 4, 2) := dk_21 (by decide +kernel)
theorem dX5_lay_30 : decode cX5_lay 30 = .ok (.baload, 1) := dk_51 (by decide +kernel)
theorem dX5_lay_31 : decode cX5_lay 31 = .ok (.ifCond .ne 7, 3) := dk_154 (by decide +kernel)
theorem dX5_lay_34 : decode cX5_lay 34 = .ok (.iconst 1, 1) := dk_4 (by decide +kernel)
theorem dX5_lay_35 : decode cX5_lay 35 = .ok (.goto 4, 3) := dk_167 (by decide +kernel)
theorem dX5_lay_38 : decode cX5_lay 38 = .ok (.iconst 0, 1) := dk_3 (by decide +kernel)
theorem dX5_lay_39 : decode cX5_lay 39 = .ok (.istore 5, 2) := dk_54 (by decide +kernel)
theorem dX5_lay_41 : decode cX5_lay 41 = .ok (.aload_n 0, 1) := dk_42 (by decide +kernel)
theorem dX5_lay_42 : decode cX5_lay 42 = .ok (.getfield 38, 3) := dk_180 (by decide +kernel)
theorem dX5_lay_45 : decode cX5_lay 45 = .ok (.iload 4, 2) := dk_21 (by decide +kernel)
theorem dX5_lay_47 : decode cX5_lay 47 = .ok (.iload 5, 2) := dk_21 (by decide +kernel)
theorem dX5_lay_49 : decode cX5_lay 49 = .ok (.ifCond .eq 10, 3) := dk_153 (by decide +kernel)
theorem dX5_lay_52 : decode cX5_lay 52 = .ok (.iinc 3 1, 3) := dk_132 (by decide +kernel)
theorem dX5_lay_55 : decode cX5_lay 55 = .ok (.iload_n 3, 1) := dk_29 (by decide +kernel)
theorem dX5_lay_56 : decode cX5_lay 56 = .ok (.goto 4, 3) := dk_167 (by decide +kernel)
theorem dX5_lay_59 : decode cX5_lay 59 = .ok (.iconst (-1), 1) := dk_2 (by decide +kernel)
theorem dX5_lay_60 : decode cX5_lay 60 = .ok (.iastore, 1) := dk_79 (by decide +kernel)
theorem dX5_lay_61 : decode cX5_lay 61 = .ok (.iload_n 1, 1) := dk_27 (by decide +kernel)
theorem dX5_lay_62 : decode cX5_lay 62 = .ok (.ifCond .eq 20, 3) := dk_153 (by decide +kernel)
theorem dX5_lay_65 : decode cX5_lay 65 = .ok (.aload_n 0, 1) := dk_42 (by decide +kernel)
theorem dX5_lay_66 : decode cX5_lay 66 = .ok (.getfield 35, 3) := dk_180 (by decide +kernel)
theorem dX5_lay_69 : decode cX5_lay 69 = .ok (.iload 4, 2) := dk_21 (by decide +kernel)
theorem dX5_lay_71 : decode cX5_lay 71 = .ok (.aload_n 0, 1) := dk_42 (by decide +kernel)
theorem dX5_lay_72 : decode cX5_lay 72 = .ok (.getfield 74, 3) := dk_180 (by decide +kernel)
theorem dX5_lay_75 : decode cX5_lay 75 = .ok (.getfield 150, 3) := dk_180 (by decide +kernel)
theorem dX5_lay_78 : decode cX5_lay 78 = .ok (.iload 4, 2) := dk_21 (by decide +kernel)
theorem dX5_lay_80 : decode cX5_lay 80 = .ok (.iaload, 1) := dk_46 (by decide +kernel)
theorem dX5_lay_81 : decode cX5_lay 81 = .ok (.iastore, 1) := dk_79 (by decide +kernel)
theorem dX5_lay_82 : decode cX5_lay 82 = .ok (.iinc 4 1, 3) := dk_132 (by decide +kernel)
theorem dX5_lay_85 : decode cX5_lay 85 = .ok (.goto (-80), 3) := dk_167 (by decide +kernel)
theorem dX5_lay_88 : decode cX5_lay 88 = .ok (.iload_n 1, 1) := dk_27 (by decide +kernel)
theorem dX5_lay_89 : decode cX5_lay 89 = .ok (.ifCond .eq 13, 3) := dk_153 (by decide +kernel)
theorem dX5_lay_92 : decode cX5_lay 92 = .ok (.aload_n 0, 1) := dk_42 (by decide +kernel)
theorem dX5_lay_93 : decode cX5_lay 93 = .ok (.getfield 74, 3) := dk_180 (by decide +kernel)
theorem dX5_lay_96 : decode cX5_lay 96 = .ok (.getfield 166, 3) := dk_180 (by decide +kernel)
theorem dX5_lay_99 : decode cX5_lay 99 = .ok (.goto 10, 3) := dk_167 (by decide +kernel)
theorem dX5_lay_102 : decode cX5_lay 102 = .ok (.aload_n 0, 1) := dk_42 (by decide +kernel)
theorem dX5_lay_103 : decode cX5_lay 103 = .ok (.getfield 74, 3) := dk_180 (by decide +kernel)
theorem dX5_lay_106 : decode cX5_lay 106 = .ok (.getfield 131, 3) := dk_180 (by decide +kernel)
theorem dX5_lay_109 : decode cX5_lay 109 = .ok (.istore 4, 2) := dk_54 (by decide +kernel)
theorem dX5_lay_111 : decode cX5_lay 111 = .ok (.aload_n 0, 1) := dk_42 (by decide +kernel)
theorem dX5_lay_112 : decode cX5_lay 112 = .ok (.getfield 12, 3) := dk_180 (by decide +kernel)
theorem dX5_lay_115 : decode cX5_lay 115 = .ok (.iload 4, 2) := dk_21 (by decide +kernel)
theorem dX5_lay_117 : decode cX5_lay 117 = .ok (.iload_n 3, 1) := dk_29 (by decide +kernel)
theorem dX5_lay_118 : decode cX5_lay 118 = .ok (.iadd, 1) := dk_96 (by decide +kernel)
theorem dX5_lay_119 : decode cX5_lay 119 = .ok (.iload_n 2, 1) := dk_28 (by decide +kernel)
theorem dX5_lay_120 : decode cX5_lay 120 = .ok (.iload_n 3, 1) := dk_29 (by decide +kernel)
theorem dX5_lay_121 : decode cX5_lay 121 = .ok (.invokevirtual 169, 3) := dk_182 (by decide +kernel)
theorem dX5_lay_124 : decode cX5_lay 124 = .ok (.iconst 0, 1) := dk_3 (by decide +kernel)
theorem dX5_lay_125 : decode cX5_lay 125 = .ok (.istore 5, 2) := dk_54 (by decide +kernel)
theorem dX5_lay_127 : decode cX5_lay 127 = .ok (.iconst 0, 1) := dk_3 (by decide +kernel)
theorem dX5_lay_128 : decode cX5_lay 128 = .ok (.istore 6, 2) := dk_54 (by decide +kernel)
theorem dX5_lay_130 : decode cX5_lay 130 = .ok (.iload 6, 2) := dk_21 (by decide +kernel)
theorem dX5_lay_132 : decode cX5_lay 132 = .ok (.aload_n 0, 1) := dk_42 (by decide +kernel)
theorem dX5_lay_133 : decode cX5_lay 133 = .ok (.getfield 74, 3) := dk_180 (by decide +kernel)
theorem dX5_lay_136 : decode cX5_lay 136 = .ok (.getfield 131, 3) := dk_180 (by decide +kernel)
theorem dX5_lay_139 : decode cX5_lay 139 = .ok (.if_icmp .ge 58, 3) := dk_162 (by decide +kernel)
theorem dX5_lay_142 : decode cX5_lay 142 = .ok (.iload_n 1, 1) := dk_27 (by decide +kernel)
theorem dX5_lay_143 : decode cX5_lay 143 = .ok (.ifCond .eq 17, 3) := dk_153 (by decide +kernel)
theorem dX5_lay_146 : decode cX5_lay 146 = .ok (.aload_n 0, 1) := dk_42 (by decide +kernel)
theorem dX5_lay_147 : decode cX5_lay 147 = .ok (.getfield 74, 3) := dk_180 (by decide +kernel)
theorem dX5_lay_150 : decode cX5_lay 150 = .ok (.getfield 134, 3) := dk_180 (by decide +kernel)
theorem dX5_lay_153 : decode cX5_lay 153 = .ok (.iload 6, 2) := dk_21 (by decide +kernel)
theorem dX5_lay_155 : decode cX5_lay 155 = .ok (.iaload, 1) := dk_46 (by decide +kernel)
theorem dX5_lay_156 : decode cX5_lay 156 = .ok (.iconst 1, 1) := dk_4 (by decide +kernel)
theorem dX5_lay_157 : decode cX5_lay 157 = .ok (.if_icmp .ne 34, 3) := dk_160 (by decide +kernel)
theorem dX5_lay_160 : decode cX5_lay 160 = .ok (.aload_n 0, 1) := dk_42 (by decide +kernel)
theorem dX5_lay_161 : decode cX5_lay 161 = .ok (.iload 5, 2) := dk_21 (by decide +kernel)
theorem dX5_lay_163 : decode cX5_lay 163 = .ok (.iload 6, 2) := dk_21 (by decide +kernel)
theorem dX5_lay_165 : decode cX5_lay 165 = .ok (.iload_n 1, 1) := dk_27 (by decide +kernel)
theorem dX5_lay_166 : decode cX5_lay 166 = .ok (.ifCond .eq 7, 3) := dk_153 (by decide +kernel)
theorem dX5_lay_169 : decode cX5_lay 169 = .ok (.iconst 0, 1) := dk_3 (by decide +kernel)
theorem dX5_lay_170 : decode cX5_lay 170 = .ok (.goto 10, 3) := dk_167 (by decide +kernel)
theorem dX5_lay_173 : decode cX5_lay 173 = .ok (.aload_n 0, 1) := dk_42 (by decide +kernel)
theorem dX5_lay_174 : decode cX5_lay 174 = .ok (.getfield 41, 3) := dk_180 (by decide +kernel)
theorem dX5_lay_177 : decode cX5_lay 177 = .ok (.iload 6, 2) := dk_21 (by decide +kernel)
theorem dX5_lay_179 : decode cX5_lay 179 = .ok (.iaload, 1) := dk_46 (by decide +kernel)
theorem dX5_lay_180 : decode cX5_lay 180 = .ok (.invokevirtual 173, 3) := dk_182 (by decide +kernel)
theorem dX5_lay_183 : decode cX5_lay 183 = .ok (.ifCond .ne 5, 3) := dk_154 (by decide +kernel)
theorem dX5_lay_186 : decode cX5_lay 186 = .ok (.iconst 0, 1) := dk_3 (by decide +kernel)
theorem dX5_lay_187 : decode cX5_lay 187 = .ok (.ireturn, 1) := dk_172 (by decide +kernel)
theorem dX5_lay_188 : decode cX5_lay 188 = .ok (.iinc 5 1, 3) := dk_132 (by decide +kernel)
theorem dX5_lay_191 : decode cX5_lay 191 = .ok (.iinc 6 1, 3) := dk_132 (by decide +kernel)
theorem dX5_lay_194 : decode cX5_lay 194 = .ok (.goto (-64), 3) := dk_167 (by decide +kernel)
theorem dX5_lay_197 : decode cX5_lay 197 = .ok (.iconst 0, 1) := dk_3 (by decide +kernel)
theorem dX5_lay_198 : decode cX5_lay 198 = .ok (.istore 6, 2) := dk_54 (by decide +kernel)
theorem dX5_lay_200 : decode cX5_lay 200 = .ok (.iload 6, 2) := dk_21 (by decide +kernel)
theorem dX5_lay_202 : decode cX5_lay 202 = .ok (.aload_n 0, 1) := dk_42 (by decide +kernel)
theorem dX5_lay_203 : decode cX5_lay 203 = .ok (.getfield 74, 3) := dk_180 (by decide +kernel)
theorem dX5_lay_206 : decode cX5_lay 206 = .ok (.getfield 112, 3) := dk_180 (by decide +kernel)
theorem dX5_lay_209 : decode cX5_lay 209 = .ok (.if_icmp .ge 80, 3) := dk_162 (by decide +kernel)
theorem dX5_lay_212 : decode cX5_lay 212 = .ok (.aload_n 0, 1) := dk_42 (by decide +kernel)
theorem dX5_lay_213 : decode cX5_lay 213 = .ok (.getfield 38, 3) := dk_180 (by decide +kernel)
theorem dX5_lay_216 : decode cX5_lay 216 = .ok (.iload 6, 2) := dk_21 (by decide +kernel)
theorem dX5_lay_218 : decode cX5_lay 218 = .ok (.iaload, 1) := dk_46 (by decide +kernel)
theorem dX5_lay_219 : decode cX5_lay 219 = .ok (.iconst (-1), 1) := dk_2 (by decide +kernel)
theorem dX5_lay_220 : decode cX5_lay 220 = .ok (.if_icmp .eq 63, 3) := dk_159 (by decide +kernel)
theorem dX5_lay_223 : decode cX5_lay 223 = .ok (.aload_n 0, 1) := dk_42 (by decide +kernel)
theorem dX5_lay_224 : decode cX5_lay 224 = .ok (.getfield 12, 3) := dk_180 (by decide +kernel)
theorem dX5_lay_227 : decode cX5_lay 227 = .ok (.iload 5, 2) := dk_21 (by decide +kernel)
theorem dX5_lay_229 : decode cX5_lay 229 = .ok (.iconst 0, 1) := dk_3 (by decide +kernel)
theorem dX5_lay_230 : decode cX5_lay 230 = .ok (.invokevirtual 177, 3) := dk_182 (by decide +kernel)
theorem dX5_lay_233 : decode cX5_lay 233 = .ok (.aload_n 0, 1) := dk_42 (by decide +kernel)
theorem dX5_lay_234 : decode cX5_lay 234 = .ok (.getfield 74, 3) := dk_180 (by decide +kernel)
theorem dX5_lay_237 : decode cX5_lay 237 = .ok (.getfield 181, 3) := dk_180 (by decide +kernel)
theorem dX5_lay_240 : decode cX5_lay 240 = .ok (.iload 6, 2) := dk_21 (by decide +kernel)
theorem dX5_lay_242 : decode cX5_lay 242 = .ok (.iaload, 1) := dk_46 (by decide +kernel)
theorem dX5_lay_243 : decode cX5_lay 243 = .ok (.aload_n 0, 1) := dk_42 (by decide +kernel)
theorem dX5_lay_244 : decode cX5_lay 244 = .ok (.getfield 74, 3) := dk_180 (by decide +kernel)
theorem dX5_lay_247 : decode cX5_lay 247 = .ok (.getfield 150, 3) := dk_180 (by decide +kernel)
theorem dX5_lay_250 : decode cX5_lay 250 = .ok (.iload 6, 2) := dk_21 (by decide +kernel)
theorem dX5_lay_252 : decode cX5_lay 252 = .ok (.iaload, 1) := dk_46 (by decide +kernel)
theorem dX5_lay_253 : decode cX5_lay 253 = .ok (.isub, 1) := dk_100 (by decide +kernel)
theorem dX5_lay_254 : decode cX5_lay 254 = .ok (.i2l, 1) := dk_133 (by decide +kernel)
theorem dX5_lay_255 : decode cX5_lay 255 = .ok (.invokevirtual 184, 3) := dk_182 (by decide +kernel)
theorem dX5_lay_258 : decode cX5_lay 258 = .ok (.aload_n 0, 1) := dk_42 (by decide +kernel)
theorem dX5_lay_259 : decode cX5_lay 259 = .ok (.getfield 12, 3) := dk_180 (by decide +kernel)
theorem dX5_lay_262 : decode cX5_lay 262 = .ok (.iload 5, 2) := dk_21 (by decide +kernel)
theorem dX5_lay_264 : decode cX5_lay 264 = .ok (.aload_n 0, 1) := dk_42 (by decide +kernel)
theorem dX5_lay_265 : decode cX5_lay 265 = .ok (.getfield 38, 3) := dk_180 (by decide +kernel)
theorem dX5_lay_268 : decode cX5_lay 268 = .ok (.iload 6, 2) := dk_21 (by decide +kernel)
theorem dX5_lay_270 : decode cX5_lay 270 = .ok (.iaload, 1) := dk_46 (by decide +kernel)
theorem dX5_lay_271 : decode cX5_lay 271 = .ok (.invokevirtual 177, 3) := dk_182 (by decide +kernel)
theorem dX5_lay_274 : decode cX5_lay 274 = .ok (.ldc2_w 188, 3) := dk_20 (by decide +kernel)
theorem dX5_lay_277 : decode cX5_lay 277 = .ok (.invokevirtual 184, 3) := dk_182 (by decide +kernel)
theorem dX5_lay_280 : decode cX5_lay 280 = .ok (.iinc 5 1, 3) := dk_132 (by decide +kernel)
theorem dX5_lay_283 : decode cX5_lay 283 = .ok (.iinc 6 1, 3) := dk_132 (by decide +kernel)
theorem dX5_lay_286 : decode cX5_lay 286 = .ok (.goto (-86), 3) := dk_167 (by decide +kernel)
theorem dX5_lay_289 : decode cX5_lay 289 = .ok (.iconst 0, 1) := dk_3 (by decide +kernel)
theorem dX5_lay_290 : decode cX5_lay 290 = .ok (.istore 6, 2) := dk_54 (by decide +kernel)
theorem dX5_lay_292 : decode cX5_lay 292 = .ok (.iload 6, 2) := dk_21 (by decide +kernel)
theorem dX5_lay_294 : decode cX5_lay 294 = .ok (.iload_n 2, 1) := dk_28 (by decide +kernel)
theorem dX5_lay_295 : decode cX5_lay 295 = .ok (.if_icmp .ge 20, 3) := dk_162 (by decide +kernel)
theorem dX5_lay_298 : decode cX5_lay 298 = .ok (.aload_n 0, 1) := dk_42 (by decide +kernel)
theorem dX5_lay_299 : decode cX5_lay 299 = .ok (.iload 5, 2) := dk_21 (by decide +kernel)
theorem dX5_lay_301 : decode cX5_lay 301 = .ok (.iload 6, 2) := dk_21 (by decide +kernel)
theorem dX5_lay_303 : decode cX5_lay 303 = .ok (.iadd, 1) := dk_96 (by decide +kernel)
theorem dX5_lay_304 : decode cX5_lay 304 = .ok (.iload 6, 2) := dk_21 (by decide +kernel)
theorem dX5_lay_306 : decode cX5_lay 306 = .ok (.invokevirtual 190, 3) := dk_182 (by decide +kernel)
theorem dX5_lay_309 : decode cX5_lay 309 = .ok (.iinc 6 1, 3) := dk_132 (by decide +kernel)
theorem dX5_lay_312 : decode cX5_lay 312 = .ok (.goto (-20), 3) := dk_167 (by decide +kernel)
theorem dX5_lay_315 : decode cX5_lay 315 = .ok (.iconst 1, 1) := dk_4 (by decide +kernel)
theorem dX5_lay_316 : decode cX5_lay 316 = .ok (.ireturn, 1) := dk_172 (by decide +kernel)
def wsMX5_lay : List Cond := .code yX5_lay cX5_lay 7 (some .boolean) :: ([.fieldLink RX5 74 "OptimaWorks$Solver" "model" "LOptimaWorks$Model;", .fieldLink RX5 112 "OptimaWorks$Model" "variables" "I", .fieldLink RX5 38 "OptimaWorks$Solver" "column" "[I", .fieldLink RX5 35 "OptimaWorks$Solver" "start" "[I", .fieldLink RX5 150 "OptimaWorks$Model" "from" "[I", .fieldLink RX5 143 "OptimaWorks$Model" "whole" "[Z", .fieldLink RX5 131 "OptimaWorks$Model" "rows" "I", .fieldLink RX5 166 "OptimaWorks$Model" "plainRows" "I", .fieldLink RX5 12 "OptimaWorks$Solver" "tableau" "LOptimaWorks$Tableau;", .fieldLink RX5 181 "OptimaWorks$Model" "to" "[I", .constantLong RX5 188 (-1), .fieldLink RX5 41 "OptimaWorks$Solver" "chosen" "[I", .fieldLink RX5 134 "OptimaWorks$Model" "ways" "[I"] ++ wsX10 ++ wsX50 ++ (wsV RX5 169 RX6 yX6_begin wsMX6_begin) ++ (wsV RX5 177 RX6 yX6_cellAt wsMX6_cellAt) ++ (wsV RX5 184 RX8 yX8_setLong wsMX8_setLong) ++ (wsV RX5 190 RX5 yX5_layGoal wsMX5_layGoal) ++ (wsV RX5 173 RX5 yX5_layWay wsMX5_layWay))
theorem iwsMX5_lay_in1 : ∀ w ∈ wsX10, w ∈ wsMX5_lay := fun _ h => List.mem_cons_of_mem _ (List.mem_append_left _ (List.mem_append_left _ (List.mem_append_left _ (List.mem_append_left _ (List.mem_append_left _ (List.mem_append_left _ (List.mem_append_right _ h)))))))
theorem iwsMX5_lay_in5 : ∀ w ∈ wsX50, w ∈ wsMX5_lay := fun _ h => List.mem_cons_of_mem _ (List.mem_append_left _ (List.mem_append_left _ (List.mem_append_left _ (List.mem_append_left _ (List.mem_append_left _ (List.mem_append_right _ h))))))
theorem gwsMX5_lay_0 : GoodIn wsMX5_lay (wsV RX5 169 RX6 yX6_begin wsMX6_begin) := goodIn_sub (fun _ h => List.mem_cons_of_mem _ (List.mem_append_left _ (List.mem_append_left _ (List.mem_append_left _ (List.mem_append_left _ (List.mem_append_right _ h)))))) (gdV (by decide +kernel) gdwsMX6_begin)
theorem gwsMX5_lay_1 : GoodIn wsMX5_lay (wsV RX5 177 RX6 yX6_cellAt wsMX6_cellAt) := goodIn_sub (fun _ h => List.mem_cons_of_mem _ (List.mem_append_left _ (List.mem_append_left _ (List.mem_append_left _ (List.mem_append_right _ h))))) (gdV (by decide +kernel) gdwsMX6_cellAt)
theorem gwsMX5_lay_2 : GoodIn wsMX5_lay (wsV RX5 184 RX8 yX8_setLong wsMX8_setLong) := goodIn_sub (fun _ h => List.mem_cons_of_mem _ (List.mem_append_left _ (List.mem_append_left _ (List.mem_append_right _ h)))) (gdV (by decide +kernel) gdwsMX8_setLong)
theorem gwsMX5_lay_3 : GoodIn wsMX5_lay (wsV RX5 190 RX5 yX5_layGoal wsMX5_layGoal) := goodIn_sub (fun _ h => List.mem_cons_of_mem _ (List.mem_append_left _ (List.mem_append_right _ h))) (gdV (by decide +kernel) gdwsMX5_layGoal)
theorem gwsMX5_lay_4 : GoodIn wsMX5_lay (wsV RX5 173 RX5 yX5_layWay wsMX5_layWay) := goodIn_sub (fun _ h => List.mem_cons_of_mem _ (List.mem_append_right _ h)) (gdV (by decide +kernel) gdwsMX5_layWay)
theorem gdwsMX5_lay : wsMX5_lay.all goodWord = true := gdC rfl (gdA (gdA (gdA (gdA (gdA (gdA (gdA (by decide +kernel : ([.fieldLink RX5 74 "OptimaWorks$Solver" "model" "LOptimaWorks$Model;", .fieldLink RX5 112 "OptimaWorks$Model" "variables" "I", .fieldLink RX5 38 "OptimaWorks$Solver" "column" "[I", .fieldLink RX5 35 "OptimaWorks$Solver" "start" "[I", .fieldLink RX5 150 "OptimaWorks$Model" "from" "[I", .fieldLink RX5 143 "OptimaWorks$Model" "whole" "[Z", .fieldLink RX5 131 "OptimaWorks$Model" "rows" "I", .fieldLink RX5 166 "OptimaWorks$Model" "plainRows" "I", .fieldLink RX5 12 "OptimaWorks$Solver" "tableau" "LOptimaWorks$Tableau;", .fieldLink RX5 181 "OptimaWorks$Model" "to" "[I", .constantLong RX5 188 (-1), .fieldLink RX5 41 "OptimaWorks$Solver" "chosen" "[I", .fieldLink RX5 134 "OptimaWorks$Model" "ways" "[I"] : List Cond).all goodWord = true) gdwsX10) gdwsX50) (gdV (by decide +kernel) gdwsMX6_begin)) (gdV (by decide +kernel) gdwsMX6_cellAt)) (gdV (by decide +kernel) gdwsMX8_setLong)) (gdV (by decide +kernel) gdwsMX5_layGoal)) (gdV (by decide +kernel) gdwsMX5_layWay))
theorem hm_m_X5_lay_0 : (.fieldLink RX5 74 "OptimaWorks$Solver" "model" "LOptimaWorks$Model;" : Cond) ∈ wsMX5_lay := by decide +kernel
theorem hm_m_X5_lay_1 : (.fieldLink RX5 112 "OptimaWorks$Model" "variables" "I" : Cond) ∈ wsMX5_lay := by decide +kernel
theorem hm_m_X5_lay_2 : (.fieldLink RX5 131 "OptimaWorks$Model" "rows" "I" : Cond) ∈ wsMX5_lay := by decide +kernel
theorem hm_m_X5_lay_3 : (.fieldLink RX5 12 "OptimaWorks$Solver" "tableau" "LOptimaWorks$Tableau;" : Cond) ∈ wsMX5_lay := by decide +kernel
theorem hm_m_X5_lay_4 : (.fieldLink RX5 38 "OptimaWorks$Solver" "column" "[I" : Cond) ∈ wsMX5_lay := by decide +kernel
theorem hm_m_X5_lay_5 : (.fieldLink RX5 150 "OptimaWorks$Model" "from" "[I" : Cond) ∈ wsMX5_lay := by decide +kernel
theorem hm_m_X5_lay_6 : (.fieldLink RX5 41 "OptimaWorks$Solver" "chosen" "[I" : Cond) ∈ wsMX5_lay := by decide +kernel
theorem hm_m_X5_lay_7 : (.fieldLink RX5 35 "OptimaWorks$Solver" "start" "[I" : Cond) ∈ wsMX5_lay := by decide +kernel
set_option maxHeartbeats 4000000 in
set_option maxRecDepth 100000 in
/-- a case is laid out -/
theorem m_X5_lay (l : Launch) (dC : Nat → ClassId) (dI : Nat → Nat → Nat) (hO : Nat → Nat) (aO : Nat → Nat) (kO : Nat → ClassId) (hM : Nat → Nat) (hQ : Nat → Nat) (hw : Nat → Nat) (iO_answered : Int32) (iO_searched : Int32) (iO_searchedRelaxed : Int32) (iO_counted : Int32) (fO_countedCase : Nat → Int32) (gO_goalNumber : Nat → Int64) (gO_goalScale : Nat → Int64) (fO_start : Nat → Int32) (fO_column : Nat → Int32) (fO_chosen : Nat → Int32) (aM : Nat → Nat) (kM : Nat → ClassId) (iM_stands : Int32) (iM_variables : Int32) (iM_rows : Int32) (iM_goals : Int32) (iM_differents : Int32) (iM_cases : Int32) (fM_from : Nat → Int32) (fM_to : Nat → Int32) (fM_whole : Nat → Int32) (fM_ways : Nat → Int32) (iM_plainRows : Int32) (fM_plainRow : Nat → Int32) (fM_kept : Nat → Int32) (fM_goalOver : Nat → Int32) (fM_goalUnder : Nat → Int32) (fM_goalMax : Nat → Int32) (fM_different : Nat → Int32) (aQ : Nat → Nat) (kQ : Nat → ClassId) (fQ_inside : Nat → Int32) (fQ_outside : Nat → Int32) (fQ_shut : Nat → Int32) (iQ_rows : Int32) (iQ_allRows : Int32) (iQ_columns : Int32) (nW : Nat) (lw : Nat → Nat) (kw : ClassId) (wl : Nat → Int32) (wb : Nat → Int32) (wG : Nat → Nat → Int64) (p1 : Int32) (p2 : Int32) (b_iO_answered : 0 ≤ iO_answered.toInt ∧ iO_answered.toInt ≤ 1) (b_iO_searched : 0 ≤ iO_searched.toInt ∧ iO_searched.toInt ≤ 1) (b_iO_searchedRelaxed : 0 ≤ iO_searchedRelaxed.toInt ∧ iO_searchedRelaxed.toInt ≤ 1) (b_iO_counted : (-1) ≤ iO_counted.toInt ∧ iO_counted.toInt ≤ 64) (b_fO_countedCase : ∀ q : Nat, 0 ≤ (fO_countedCase q).toInt ∧ (fO_countedCase q).toInt ≤ 200000) (b_fO_column : ∀ q : Nat, (-1) ≤ (fO_column q).toInt ∧ (fO_column q).toInt ≤ 8) (b_fO_chosen : ∀ q : Nat, 0 ≤ (fO_chosen q).toInt ∧ (fO_chosen q).toInt ≤ 2) (b_iM_stands : 0 ≤ iM_stands.toInt ∧ iM_stands.toInt ≤ 1) (b_iM_variables : 0 ≤ iM_variables.toInt ∧ iM_variables.toInt ≤ 8) (b_iM_rows : 0 ≤ iM_rows.toInt ∧ iM_rows.toInt ≤ 12) (b_iM_goals : 0 ≤ iM_goals.toInt ∧ iM_goals.toInt ≤ 3) (b_iM_differents : 0 ≤ iM_differents.toInt ∧ iM_differents.toInt ≤ 8) (b_iM_cases : 0 ≤ iM_cases.toInt ∧ iM_cases.toInt ≤ 200000) (b_fM_ways : ∀ q : Nat, 0 ≤ (fM_ways q).toInt ∧ (fM_ways q).toInt ≤ 3) (b_iM_plainRows : 0 ≤ iM_plainRows.toInt ∧ iM_plainRows.toInt ≤ 12) (b_fM_plainRow : ∀ q : Nat, 0 ≤ (fM_plainRow q).toInt ∧ (fM_plainRow q).toInt ≤ 11) (b_pr : iM_plainRows.toInt ≤ iM_rows.toInt) (b_iQ_rows : 0 ≤ iQ_rows.toInt ∧ iQ_rows.toInt ≤ 40) (b_iQ_allRows : 0 ≤ iQ_allRows.toInt ∧ iQ_allRows.toInt ≤ 40) (b_iQ_columns : 0 ≤ iQ_columns.toInt ∧ iQ_columns.toInt ≤ 40) (b_tb : TbO iQ_rows iQ_allRows iQ_columns) (b_wl : ∀ q : Nat, 0 ≤ (wl q).toInt ∧ (wl q).toInt ≤ 14) (b_wb : ∀ q : Nat, 0 ≤ (wb q).toInt ∧ (wb q).toInt ≤ 1) (b_p2 : 0 ≤ p2.toInt ∧ p2.toInt ≤ 3) (hnW : 432 ≤ nW) (sz : Nat) : Met l yX5_lay wsMX5_lay ({ frames := 5, cells := 0, slots := 0, locals := 111 }) (va_Pc [.ref (hO 0), .int p1, .int p2] (fun U => U.heap.size = sz ∧ va_P (dC, dI) vwCl (WO hO aO kO hM hQ hw iO_answered iO_searched iO_searchedRelaxed iO_counted fO_countedCase gO_goalNumber gO_goalScale fO_start fO_column fO_chosen ++ (WM hM aM kM iM_stands iM_variables iM_rows iM_goals iM_differents iM_cases fM_from fM_to fM_whole fM_ways iM_plainRows fM_plainRow fM_kept fM_goalOver fM_goalUnder fM_goalMax fM_different ++ (WQ hQ aQ kQ hw fQ_inside fQ_outside fQ_shut iQ_rows iQ_allRows iQ_columns ++ (WW nW hw lw kw wl wb wG)))) U.heap ∧ va_K (dC, dI) vwCl (tO kO ++ (tM kM ++ (tQ kQ ++ (tW kw)))) U ∧ va_D (fun _ => True) (WO hO aO kO hM hQ hw iO_answered iO_searched iO_searchedRelaxed iO_counted fO_countedCase gO_goalNumber gO_goalScale fO_start fO_column fO_chosen ++ (WM hM aM kM iM_stands iM_variables iM_rows iM_goals iM_differents iM_cases fM_from fM_to fM_whole fM_ways iM_plainRows fM_plainRow fM_kept fM_goalOver fM_goalUnder fM_goalMax fM_different ++ (WQ hQ aQ kQ hw fQ_inside fQ_outside fQ_shut iQ_rows iQ_allRows iQ_columns ++ (WW nW hw lw kw wl wb wG)))))) (va_Qi (fun (r : Int32) (u : (Nat → Int32) × (Nat → Int32) × (Nat → Int32) × (Nat → Int32) × (Nat → Int32) × (Int32) × (Int32) × (Int32) × (Nat → Int32) × (Nat → Int32) × (Nat → Nat → Int64)) => (∀ q : Nat, (-1) ≤ ((u.2.1) q).toInt ∧ ((u.2.1) q).toInt ≤ 8) ∧ (0 ≤ (u.2.2.2.2.2.1).toInt ∧ (u.2.2.2.2.2.1).toInt ≤ 40) ∧ (0 ≤ (u.2.2.2.2.2.2.1).toInt ∧ (u.2.2.2.2.2.2.1).toInt ≤ 40) ∧ (0 ≤ (u.2.2.2.2.2.2.2.1).toInt ∧ (u.2.2.2.2.2.2.2.1).toInt ≤ 40) ∧ (∀ q : Nat, 0 ≤ ((u.2.2.2.2.2.2.2.2.1) q).toInt ∧ ((u.2.2.2.2.2.2.2.2.1) q).toInt ≤ 14) ∧ (∀ q : Nat, 0 ≤ ((u.2.2.2.2.2.2.2.2.2.1) q).toInt ∧ ((u.2.2.2.2.2.2.2.2.2.1) q).toInt ≤ 1) ∧ (TbO (u.2.2.2.2.2.1) (u.2.2.2.2.2.2.1) (u.2.2.2.2.2.2.2.1)) ∧ (0 ≤ r.toInt ∧ r.toInt ≤ 1) ∧ ((u.2.2.2.2.2.2.2.1).toInt ≤ 8) ∧ ((u.2.2.2.2.2.1).toInt ≤ 20)) (fun (u : (Nat → Int32) × (Nat → Int32) × (Nat → Int32) × (Nat → Int32) × (Nat → Int32) × (Int32) × (Int32) × (Int32) × (Nat → Int32) × (Nat → Int32) × (Nat → Nat → Int64)) t => va_P (dC, dI) vwCl (WO hO aO kO hM hQ hw iO_answered iO_searched iO_searchedRelaxed iO_counted fO_countedCase gO_goalNumber gO_goalScale (u.1) (u.2.1) fO_chosen ++ (WM hM aM kM iM_stands iM_variables iM_rows iM_goals iM_differents iM_cases fM_from fM_to fM_whole fM_ways iM_plainRows fM_plainRow fM_kept fM_goalOver fM_goalUnder fM_goalMax fM_different ++ (WQ hQ aQ kQ hw (u.2.2.1) (u.2.2.2.1) (u.2.2.2.2.1) (u.2.2.2.2.2.1) (u.2.2.2.2.2.2.1) (u.2.2.2.2.2.2.2.1) ++ (WW nW hw lw kw (u.2.2.2.2.2.2.2.2.1) (u.2.2.2.2.2.2.2.2.2.1) (u.2.2.2.2.2.2.2.2.2.2))))) t.heap ∧ va_D (va_A (WO hO aO kO hM hQ hw iO_answered iO_searched iO_searchedRelaxed iO_counted fO_countedCase gO_goalNumber gO_goalScale fO_start fO_column fO_chosen ++ (WM hM aM kM iM_stands iM_variables iM_rows iM_goals iM_differents iM_cases fM_from fM_to fM_whole fM_ways iM_plainRows fM_plainRow fM_kept fM_goalOver fM_goalUnder fM_goalMax fM_different ++ (WQ hQ aQ kQ hw fQ_inside fQ_outside fQ_shut iQ_rows iQ_allRows iQ_columns ++ (WW nW hw lw kw wl wb wG)))) sz) (WO hO aO kO hM hQ hw iO_answered iO_searched iO_searchedRelaxed iO_counted fO_countedCase gO_goalNumber gO_goalScale (u.1) (u.2.1) fO_chosen ++ (WM hM aM kM iM_stands iM_variables iM_rows iM_goals iM_differents iM_cases fM_from fM_to fM_whole fM_ways iM_plainRows fM_plainRow fM_kept fM_goalOver fM_goalUnder fM_goalMax fM_different ++ (WQ hQ aQ kQ hw (u.2.2.1) (u.2.2.2.1) (u.2.2.2.2.1) (u.2.2.2.2.2.1) (u.2.2.2.2.2.2.1) (u.2.2.2.2.2.2.2.1) ++ (WW nW hw lw kw (u.2.2.2.2.2.2.2.2.1) (u.2.2.2.2.2.2.2.2.2.1) (u.2.2.2.2.2.2.2.2.2.2)))))) (va_A (WO hO aO kO hM hQ hw iO_answered iO_searched iO_searchedRelaxed iO_counted fO_countedCase gO_goalNumber gO_goalScale fO_start fO_column fO_chosen ++ (WM hM aM kM iM_stands iM_variables iM_rows iM_goals iM_differents iM_cases fM_from fM_to fM_whole fM_ways iM_plainRows fM_plainRow fM_kept fM_goalOver fM_goalUnder fM_goalMax fM_different ++ (WQ hQ aQ kQ hw fQ_inside fQ_outside fQ_shut iQ_rows iQ_allRows iQ_columns ++ (WW nW hw lw kw wl wb wG)))) sz)) 0 0 (va_A (WO hO aO kO hM hQ hw iO_answered iO_searched iO_searchedRelaxed iO_counted fO_countedCase gO_goalNumber gO_goalScale fO_start fO_column fO_chosen ++ (WM hM aM kM iM_stands iM_variables iM_rows iM_goals iM_differents iM_cases fM_from fM_to fM_whole fM_ways iM_plainRows fM_plainRow fM_kept fM_goalOver fM_goalUnder fM_goalMax fM_different ++ (WQ hQ aQ kQ hw fQ_inside fQ_outside fQ_shut iQ_rows iQ_allRows iQ_columns ++ (WW nW hw lw kw wl wb wG)))) sz) := by
  refine Met.ofW (cc := cX5_lay) (maxL := 7) (ret := (some .boolean)) (by decide) rfl ?_
  intro p e s m args below meth c s₁ B hml hv
  obtain ⟨rfl, hsz, hP, hK, hD0⟩ := hv
  have hx := B.exec
  have hb := B.bytes
  have hr := B.returns
  have hts := atoms_spec (ws := wsMX5_lay) B.pre
  have hown : s.vm.findClass RX5 = some m.cls := findClass_of_methodNamed B.named
  have hlocks := B.notSynchronized
  subst hsz
  have hD := hD0.self (sz := s.heap.size)
  generalize hAe : va_A (WO hO aO kO hM hQ hw iO_answered iO_searched iO_searchedRelaxed iO_counted fO_countedCase gO_goalNumber gO_goalScale fO_start fO_column fO_chosen ++ (WM hM aM kM iM_stands iM_variables iM_rows iM_goals iM_differents iM_cases fM_from fM_to fM_whole fM_ways iM_plainRows fM_plainRow fM_kept fM_goalOver fM_goalUnder fM_goalMax fM_different ++ (WQ hQ aQ kQ hw fQ_inside fQ_outside fQ_shut iQ_rows iQ_allRows iQ_columns ++ (WW nW hw lw kw wl wb wG)))) s.heap.size = A at hD ⊢
  have hA : ∀ q : Nat, s.heap.size ≤ q → A q := fun q h => by rw [← hAe]; exact Or.inr h
  have hS : va_S A s.heap s.heap [] := va_S.rf
  have hl := lv_entry ([.ref (hO 0), .int p1, .int p2]) (n := 7) (Nat.le_of_ble_eq_true rfl)
  rw [lg_entry_eq]
  generalize (lg_sl ([.ref (hO 0), .int p1, .int p2]) ++ List.replicate (7 - (lg_sl ([.ref (hO 0), .int p1, .int p2])).length) Slot.unset).toArray = ls at hl ⊢
  have hl : lv_has ls 7 [(0, .ref (hO 0)), (1, .int p1), (2, .int p2)] := hl
  refine lv_iconst (v := 0) hx hb dX5_lay_0 (by decide) ?_
  refine lv_istore_n hx hb dX5_lay_1 rfl hl (by decide) rfl (fun ls (hl : lv_has ls _ ([(3, .int 0), (0, .ref (hO 0)), (1, .int p1), (2, .int p2)])) => ?_)
  refine lv_iconst (v := 0) hx hb dX5_lay_2 (by decide) ?_
  refine lv_istore hx hb dX5_lay_3 hl (by decide) rfl (fun ls (hl : lv_has ls _ ([(4, .int 0), (3, .int 0), (0, .ref (hO 0)), (1, .int p1), (2, .int p2)])) => ?_)
  have hl : lv_has _ _ ([(4, .int 0), (3, .int 0), (0, .ref (hO 0)), (1, .int p1), (2, .int p2)]) := lv_sub hl [0, 1, 2, 3, 4] rfl
  refine (fun (loop : ∀ (n9 : Nat) (fO_start_x5 : Nat → Int32) (fO_column_x5 : Nat → Int32) (l4_x5 : Int32) (l3_x5 : Int32) (H : Heap) (locs : List Loc) (ls : Array Slot), (∀ q : Nat, (-1) ≤ (fO_column_x5 q).toInt ∧ (fO_column_x5 q).toInt ≤ 8) → (0 ≤ l4_x5.toInt ∧ l4_x5.toInt ≤ 8) → (0 ≤ l3_x5.toInt ∧ l3_x5.toInt ≤ 8) → (l3_x5.toInt ≤ l4_x5.toInt) → (8 - l4_x5.toInt < ((n9 : Nat) : Int)) → va_P (dC, dI) vwCl (WO hO aO kO hM hQ hw iO_answered iO_searched iO_searchedRelaxed iO_counted fO_countedCase gO_goalNumber gO_goalScale fO_start_x5 fO_column_x5 fO_chosen ++ (WM hM aM kM iM_stands iM_variables iM_rows iM_goals iM_differents iM_cases fM_from fM_to fM_whole fM_ways iM_plainRows fM_plainRow fM_kept fM_goalOver fM_goalUnder fM_goalMax fM_different ++ (WQ hQ aQ kQ hw fQ_inside fQ_outside fQ_shut iQ_rows iQ_allRows iQ_columns ++ (WW nW hw lw kw wl wb wG)))) H → va_D A (WO hO aO kO hM hQ hw iO_answered iO_searched iO_searchedRelaxed iO_counted fO_countedCase gO_goalNumber gO_goalScale fO_start_x5 fO_column_x5 fO_chosen ++ (WM hM aM kM iM_stands iM_variables iM_rows iM_goals iM_differents iM_cases fM_from fM_to fM_whole fM_ways iM_plainRows fM_plainRow fM_kept fM_goalOver fM_goalUnder fM_goalMax fM_different ++ (WQ hQ aQ kQ hw fQ_inside fQ_outside fQ_shut iQ_rows iQ_allRows iQ_columns ++ (WW nW hw lw kw wl wb wG)))) → va_S A s.heap H locs → lv_has ls 7 [(4, .int l4_x5), (3, .int l3_x5), (0, .ref (hO 0)), (1, .int p1), (2, .int p2)] → W p l e _ s m _ below meth c H locs 0 0 _ (F0 m 5 ls [])) => loop (9) fO_start fO_column 0 0 _ _ _ b_fO_column (show 0 ≤ (0 : Int32).toInt ∧ (0 : Int32).toInt ≤ 8 from by decide) (show 0 ≤ (0 : Int32).toInt ∧ (0 : Int32).toInt ≤ 8 from by decide) (show (0 : Int32).toInt ≤ (0 : Int32).toInt from by decide) ((by have e9 : (0 : Int32).toInt = 0 := (by decide : (0 : Int32).toInt = 0); omega)) hP hD hS hl) ?_
  intro n9
  induction n9 with
  | zero => intro fO_start_x5 fO_column_x5 l4_x5 l3_x5 H locs ls b_fO_column_x5 b_l4_x5 b_l3_x5 hc1 hf9; exact False.elim (by omega)
  | succ n9 ihx5 =>
    intro fO_start_x5 fO_column_x5 l4_x5 l3_x5 H locs ls b_fO_column_x5 b_l4_x5 b_l3_x5 hc1 hfx5 hP hD hS hl
    refine lv_iload hx hb dX5_lay_5 (lv_at hl 0 rfl) ?_
    refine lv_aload_n hx hb dX5_lay_7 rfl (lv_at hl 2 rfl) ?_
    refine va_get (D := (dC, dI)) (ci := 5) (v := .ref (hM 0)) (C := RX5) (T := TX5) (N := 19) hx hb hts iwsMX5_lay_in5 hown hK hP 0 rfl rfl 0 (by decide) (hts _ hm_m_X5_lay_0) (fun _ h9 => h9) rfl dX5_lay_8 ?_
    refine va_get (D := (dC, dI)) (ci := 1) (v := .int iM_variables) (C := RX1) (T := TX1) (N := 17) hx hb hts iwsMX5_lay_in1 hown hK hP 11 rfl rfl 1 (by decide) (hts _ hm_m_X5_lay_1) (fun _ h9 => h9) rfl dX5_lay_11 ?_
    refine lv_icmp_ge (tgt := 88) hx hb dX5_lay_14 (by decide) (fun c_14 => ?_) (fun c_14 => ?_)
    · have t_14 : l4_x5.toInt ≥ iM_variables.toInt := toI_ge c_14 rfl rfl
      refine lv_iload_n hx hb dX5_lay_88 rfl (lv_at hl 3 rfl) ?_
      refine W.cut (pc := 109) (fun H locs ls stk => ∃ (k0_j36 : Int32), (0 ≤ k0_j36.toInt ∧ k0_j36.toInt ≤ 12) ∧  stk = [.int k0_j36] ∧ va_P (dC, dI) vwCl (WO hO aO kO hM hQ hw iO_answered iO_searched iO_searchedRelaxed iO_counted fO_countedCase gO_goalNumber gO_goalScale fO_start_x5 fO_column_x5 fO_chosen ++ (WM hM aM kM iM_stands iM_variables iM_rows iM_goals iM_differents iM_cases fM_from fM_to fM_whole fM_ways iM_plainRows fM_plainRow fM_kept fM_goalOver fM_goalUnder fM_goalMax fM_different ++ (WQ hQ aQ kQ hw fQ_inside fQ_outside fQ_shut iQ_rows iQ_allRows iQ_columns ++ (WW nW hw lw kw wl wb wG)))) H ∧ va_D A (WO hO aO kO hM hQ hw iO_answered iO_searched iO_searchedRelaxed iO_counted fO_countedCase gO_goalNumber gO_goalScale fO_start_x5 fO_column_x5 fO_chosen ++ (WM hM aM kM iM_stands iM_variables iM_rows iM_goals iM_differents iM_cases fM_from fM_to fM_whole fM_ways iM_plainRows fM_plainRow fM_kept fM_goalOver fM_goalUnder fM_goalMax fM_different ++ (WQ hQ aQ kQ hw fQ_inside fQ_outside fQ_shut iQ_rows iQ_allRows iQ_columns ++ (WW nW hw lw kw wl wb wG)))) ∧ va_S A s.heap H locs ∧ lv_has ls 7 [(4, .int l4_x5), (3, .int l3_x5), (0, .ref (hO 0)), (1, .int p1), (2, .int p2)]) (fun join36 => ?_) ?_
      · refine lv_if_eq (tgt := 102) hx hb dX5_lay_89 (by decide) (fun c_89 => ?_) (fun c_89 => ?_)
        · have t_89 : p1.toInt = 0 := toI_eq c_89 rfl (by decide : (0 : Int32).toInt = 0)
          refine lv_aload_n hx hb dX5_lay_102 rfl (lv_at hl 2 rfl) ?_
          refine va_get (D := (dC, dI)) (ci := 5) (v := .ref (hM 0)) (C := RX5) (T := TX5) (N := 19) hx hb hts iwsMX5_lay_in5 hown hK hP 0 rfl rfl 0 (by decide) (hts _ hm_m_X5_lay_0) (fun _ h9 => h9) rfl dX5_lay_103 ?_
          refine va_get (D := (dC, dI)) (ci := 1) (v := .int iM_rows) (C := RX1) (T := TX1) (N := 17) hx hb hts iwsMX5_lay_in1 hown hK hP 11 rfl rfl 2 (by decide) (hts _ hm_m_X5_lay_2) (fun _ h9 => h9) rfl dX5_lay_106 ?_
          have hl : lv_has _ _ ([(4, .int l4_x5), (3, .int l3_x5), (0, .ref (hO 0)), (1, .int p1), (2, .int p2)]) := lv_sub hl [0, 1, 2, 3, 4] rfl
          exact join36 _ _ _ _ ⟨iM_rows, (b_iM_rows), rfl, hP, hD, hS, hl⟩
        · have t_89 : ¬ p1.toInt = 0 := toI_neq c_89 rfl (by decide : (0 : Int32).toInt = 0)
          refine lv_aload_n hx hb dX5_lay_92 rfl (lv_at hl 2 rfl) ?_
          refine va_get (D := (dC, dI)) (ci := 5) (v := .ref (hM 0)) (C := RX5) (T := TX5) (N := 19) hx hb hts iwsMX5_lay_in5 hown hK hP 0 rfl rfl 0 (by decide) (hts _ hm_m_X5_lay_0) (fun _ h9 => h9) rfl dX5_lay_93 ?_
          refine va_get (D := (dC, dI)) (ci := 1) (v := .int iM_plainRows) (C := RX1) (T := TX1) (N := 17) hx hb hts iwsMX5_lay_in1 hown hK hP 11 rfl rfl 10 (by decide) (hts (.fieldLink RX5 166 "OptimaWorks$Model" "plainRows" "I") (by decide +kernel)) (fun _ h9 => h9) rfl dX5_lay_96 ?_
          refine lv_goto (tgt := 109) hx hb dX5_lay_99 (by decide) ?_
          have hl : lv_has _ _ ([(4, .int l4_x5), (3, .int l3_x5), (0, .ref (hO 0)), (1, .int p1), (2, .int p2)]) := lv_sub hl [0, 1, 2, 3, 4] rfl
          exact join36 _ _ _ _ ⟨iM_plainRows, (b_iM_plainRows), rfl, hP, hD, hS, hl⟩
      · rintro H locs ls stk ⟨k0_j36, b_k0_j36, rfl, hP, hD, hS, hl⟩
        refine lv_istore hx hb dX5_lay_109 hl (by decide) rfl (fun ls (hl : lv_has ls _ ([(4, .int k0_j36), (3, .int l3_x5), (0, .ref (hO 0)), (1, .int p1), (2, .int p2)])) => ?_)
        refine lv_aload_n hx hb dX5_lay_111 rfl (lv_at hl 2 rfl) ?_
        refine va_get (D := (dC, dI)) (ci := 5) (v := .ref (hQ 0)) (C := RX5) (T := TX5) (N := 19) hx hb hts iwsMX5_lay_in5 hown hK hP 0 rfl rfl 1 (by decide) (hts _ hm_m_X5_lay_3) (fun _ h9 => h9) rfl dX5_lay_112 ?_
        refine lv_iload hx hb dX5_lay_115 (lv_at hl 0 rfl) ?_
        refine lv_iload_n hx hb dX5_lay_117 rfl (lv_at hl 1 rfl) ?_
        refine lv_iadd hx hb dX5_lay_118 ?_
        refine lv_topi (fun y673 hy673 => ?_)
        obtain rfl : (iI (k0_j36.toInt + l3_x5.toInt)) = y673 := (hy673.trans (iI_add2 (iI_of _) (iI_of _))).symm
        refine lv_iload_n hx hb dX5_lay_119 rfl (lv_at hl 4 rfl) ?_
        refine lv_iload_n hx hb dX5_lay_120 rfl (lv_at hl 1 rfl) ?_
        have p9 := cj_4_2_3 (WO hO aO kO hM hQ hw iO_answered iO_searched iO_searchedRelaxed iO_counted fO_countedCase gO_goalNumber gO_goalScale fO_start_x5 fO_column_x5 fO_chosen) (WM hM aM kM iM_stands iM_variables iM_rows iM_goals iM_differents iM_cases fM_from fM_to fM_whole fM_ways iM_plainRows fM_plainRow fM_kept fM_goalOver fM_goalUnder fM_goalMax fM_different) (WQ hQ aQ kQ hw fQ_inside fQ_outside fQ_shut iQ_rows iQ_allRows iQ_columns) (WW nW hw lw kw wl wb wG)
        have hPc := hP.mem (fun q h => p9.mem_iff.mpr (List.mem_append_left _ h))
        have hDc := (hD.perm p9).left
        have hKc : va_K (dC, dI) vwCl (tQ kQ ++ (tW kw)) _ := hK.sub [20, 21, 22, 23, 24] rfl
        have hFc := freeG p9 hD hS hA
        refine va_callv (va_runV (As := [.int (iI (k0_j36.toInt + l3_x5.toInt)), .int p2, .int l3_x5]) (rest := []) ⟨hx, hb, hml, hown, hts⟩ (m_X6_begin l dC dI hQ aQ kQ hw fQ_inside fQ_outside fQ_shut iQ_rows iQ_allRows iQ_columns nW lw kw wl wb wG (iI (k0_j36.toInt + l3_x5.toInt)) p2 l3_x5 (b_iQ_rows) (b_iQ_allRows) (b_iQ_columns) (by first | with_reducible assumption | omega | assumption) b_wl b_wb (iI_rng (Int.le_trans (by decide) (Int.add_le_add (b_k0_j36.1) (b_l3_x5.1))) (Int.le_trans (Int.add_le_add (b_k0_j36.2) (b_l3_x5.2)) (by decide)) (by decide) (by decide)) (⟨b_p2.1, Int.le_trans b_p2.2 (by decide)⟩) (⟨b_l3_x5.1, Int.le_trans b_l3_x5.2 (by decide)⟩) (by omega) (by (try rw [iI_t (by omega) (by omega)]); omega) (mul40 (by rw [iI_t (by omega) (by omega)]; omega) (by rw [iI_t (by omega) (by omega)]; omega) (by omega) (by omega)) H.size) (cwV 3 hts gwsMX5_lay_0 rfl rfl rfl hd_yX6_begin_RX6 (by decide +kernel)) (fz_pre (va_recv hK hP (ci := 6) (q0 := 22) rfl rfl) hPc hKc hDc) rfl rfl hl.1 rfl (lv_room (Nat.le_of_ble_eq_true rfl)) dX5_lay_121 (by decide +kernel)) hS (fun q _ h => hFc q h) hFc (fun u t9_ H locs ht hvm hw9 hB9 hz1 hk1 hS => ?_)
        revert u hw9 hB9
        refine fz_p9 ?_
        intro fQ_inside_674 fQ_outside_674 fQ_shut_674 iQ_rows_674 iQ_allRows_674 iQ_columns_674 wl_674 wb_674 wG_674 hw9 hB9
        try dsimp only at hw9 hB9
        revert hw9
        refine fz_a9 ?_
        intro b_iQ_rows_674 b_iQ_allRows_674 b_iQ_columns_674 b_wl_674 b_wb_674 b_tb_674 f674_0 f674_1 f674_2
        have p8 := cj_4_2_3 (WO hO aO kO hM hQ hw iO_answered iO_searched iO_searchedRelaxed iO_counted fO_countedCase gO_goalNumber gO_goalScale fO_start_x5 fO_column_x5 fO_chosen) (WM hM aM kM iM_stands iM_variables iM_rows iM_goals iM_differents iM_cases fM_from fM_to fM_whole fM_ways iM_plainRows fM_plainRow fM_kept fM_goalOver fM_goalUnder fM_goalMax fM_different) (WQ hQ aQ kQ hw fQ_inside_674 fQ_outside_674 fQ_shut_674 iQ_rows_674 iQ_allRows_674 iQ_columns_674) (WW nW hw lw kw wl_674 wb_674 wG_674)
        obtain ⟨hP, hD⟩ := frameG p9 p8 hP hD hk1 hFc (fz_P ht hB9.1) hB9.2
        have hb1 := f674_0
        have hb3 := f674_2
        rw [iI_t (by omega) (by omega)] at hb1
        refine lv_iconst (v := 0) hx hb dX5_lay_124 (by decide) ?_
        refine lv_istore hx hb dX5_lay_125 hl (by decide) rfl (fun ls (hl : lv_has ls _ ([(5, .int 0), (4, .int k0_j36), (3, .int l3_x5), (0, .ref (hO 0)), (1, .int p1), (2, .int p2)])) => ?_)
        refine lv_iconst (v := 0) hx hb dX5_lay_127 (by decide) ?_
        refine lv_istore hx hb dX5_lay_128 hl (by decide) rfl (fun ls (hl : lv_has ls _ ([(6, .int 0), (5, .int 0), (4, .int k0_j36), (3, .int l3_x5), (0, .ref (hO 0)), (1, .int p1), (2, .int p2)])) => ?_)
        have hl : lv_has _ _ ([(6, .int 0), (5, .int 0), (4, .int k0_j36), (3, .int l3_x5), (0, .ref (hO 0)), (1, .int p1), (2, .int p2)]) := lv_sub hl [0, 1, 2, 3, 4, 5, 6] rfl
        refine (fun (loop : ∀ (n9 : Nat) (wl_x130 : Nat → Int32) (wb_x130 : Nat → Int32) (wG_x130 : Nat → Nat → Int64) (l6_x130 : Int32) (l5_x130 : Int32) (H : Heap) (locs : List Loc) (ls : Array Slot), (∀ q : Nat, 0 ≤ (wl_x130 q).toInt ∧ (wl_x130 q).toInt ≤ 14) → (∀ q : Nat, 0 ≤ (wb_x130 q).toInt ∧ (wb_x130 q).toInt ≤ 1) → (0 ≤ l6_x130.toInt ∧ l6_x130.toInt ≤ 12) → (0 ≤ l5_x130.toInt ∧ l5_x130.toInt ≤ 20) → (l5_x130.toInt ≤ l6_x130.toInt) → (12 - l6_x130.toInt < ((n9 : Nat) : Int)) → va_P (dC, dI) vwCl (WO hO aO kO hM hQ hw iO_answered iO_searched iO_searchedRelaxed iO_counted fO_countedCase gO_goalNumber gO_goalScale fO_start_x5 fO_column_x5 fO_chosen ++ (WM hM aM kM iM_stands iM_variables iM_rows iM_goals iM_differents iM_cases fM_from fM_to fM_whole fM_ways iM_plainRows fM_plainRow fM_kept fM_goalOver fM_goalUnder fM_goalMax fM_different ++ (WQ hQ aQ kQ hw fQ_inside_674 fQ_outside_674 fQ_shut_674 iQ_rows_674 iQ_allRows_674 iQ_columns_674 ++ (WW nW hw lw kw wl_x130 wb_x130 wG_x130)))) H → va_D A (WO hO aO kO hM hQ hw iO_answered iO_searched iO_searchedRelaxed iO_counted fO_countedCase gO_goalNumber gO_goalScale fO_start_x5 fO_column_x5 fO_chosen ++ (WM hM aM kM iM_stands iM_variables iM_rows iM_goals iM_differents iM_cases fM_from fM_to fM_whole fM_ways iM_plainRows fM_plainRow fM_kept fM_goalOver fM_goalUnder fM_goalMax fM_different ++ (WQ hQ aQ kQ hw fQ_inside_674 fQ_outside_674 fQ_shut_674 iQ_rows_674 iQ_allRows_674 iQ_columns_674 ++ (WW nW hw lw kw wl_x130 wb_x130 wG_x130)))) → va_S A s.heap H locs → lv_has ls 7 [(6, .int l6_x130), (5, .int l5_x130), (4, .int k0_j36), (3, .int l3_x5), (0, .ref (hO 0)), (1, .int p1), (2, .int p2)] → W p l e _ s m _ below meth c H locs 0 0 _ (F0 m 130 ls [])) => loop (13) wl_674 wb_674 wG_674 0 0 _ _ _ b_wl_674 b_wb_674 (show 0 ≤ (0 : Int32).toInt ∧ (0 : Int32).toInt ≤ 12 from by decide) (show 0 ≤ (0 : Int32).toInt ∧ (0 : Int32).toInt ≤ 20 from by decide) (show (0 : Int32).toInt ≤ (0 : Int32).toInt from by decide) ((by have e9 : (0 : Int32).toInt = 0 := (by decide : (0 : Int32).toInt = 0); omega)) hP hD hS hl) ?_
        intro n9
        induction n9 with
        | zero => intro wl_x130 wb_x130 wG_x130 l6_x130 l5_x130 H locs ls b_wl_x130 b_wb_x130 b_l6_x130 b_l5_x130 hl1 hf9; exact False.elim (by omega)
        | succ n9 ihx130 =>
          intro wl_x130 wb_x130 wG_x130 l6_x130 l5_x130 H locs ls b_wl_x130 b_wb_x130 b_l6_x130 b_l5_x130 hl1 hfx130 hP hD hS hl
          refine lv_iload hx hb dX5_lay_130 (lv_at hl 0 rfl) ?_
          refine lv_aload_n hx hb dX5_lay_132 rfl (lv_at hl 4 rfl) ?_
          refine va_get (D := (dC, dI)) (ci := 5) (v := .ref (hM 0)) (C := RX5) (T := TX5) (N := 19) hx hb hts iwsMX5_lay_in5 hown hK hP 0 rfl rfl 0 (by decide) (hts _ hm_m_X5_lay_0) (fun _ h9 => h9) rfl dX5_lay_133 ?_
          refine va_get (D := (dC, dI)) (ci := 1) (v := .int iM_rows) (C := RX1) (T := TX1) (N := 17) hx hb hts iwsMX5_lay_in1 hown hK hP 11 rfl rfl 2 (by decide) (hts _ hm_m_X5_lay_2) (fun _ h9 => h9) rfl dX5_lay_136 ?_
          refine lv_icmp_ge (tgt := 197) hx hb dX5_lay_139 (by decide) (fun c_139 => ?_) (fun c_139 => ?_)
          · have t_139 : l6_x130.toInt ≥ iM_rows.toInt := toI_ge c_139 rfl rfl
            refine lv_iconst (v := 0) hx hb dX5_lay_197 (by decide) ?_
            refine lv_istore hx hb dX5_lay_198 hl (by decide) rfl (fun ls (hl : lv_has ls _ ([(6, .int 0), (5, .int l5_x130), (4, .int k0_j36), (3, .int l3_x5), (0, .ref (hO 0)), (1, .int p1), (2, .int p2)])) => ?_)
            have hl : lv_has _ _ ([(6, .int 0), (5, .int l5_x130), (4, .int k0_j36), (3, .int l3_x5), (0, .ref (hO 0)), (1, .int p1), (2, .int p2)]) := lv_sub hl [0, 1, 2, 3, 4, 5, 6] rfl
            refine (fun (loop : ∀ (n9 : Nat) (wl_x200 : Nat → Int32) (wb_x200 : Nat → Int32) (wG_x200 : Nat → Nat → Int64) (l6_x200 : Int32) (l5_x200 : Int32) (H : Heap) (locs : List Loc) (ls : Array Slot), (∀ q : Nat, 0 ≤ (wl_x200 q).toInt ∧ (wl_x200 q).toInt ≤ 14) → (∀ q : Nat, 0 ≤ (wb_x200 q).toInt ∧ (wb_x200 q).toInt ≤ 1) → (0 ≤ l6_x200.toInt ∧ l6_x200.toInt ≤ 8) → (0 ≤ l5_x200.toInt ∧ l5_x200.toInt ≤ 20) → (l5_x200.toInt ≤ 12 + l6_x200.toInt) → (8 - l6_x200.toInt < ((n9 : Nat) : Int)) → va_P (dC, dI) vwCl (WO hO aO kO hM hQ hw iO_answered iO_searched iO_searchedRelaxed iO_counted fO_countedCase gO_goalNumber gO_goalScale fO_start_x5 fO_column_x5 fO_chosen ++ (WM hM aM kM iM_stands iM_variables iM_rows iM_goals iM_differents iM_cases fM_from fM_to fM_whole fM_ways iM_plainRows fM_plainRow fM_kept fM_goalOver fM_goalUnder fM_goalMax fM_different ++ (WQ hQ aQ kQ hw fQ_inside_674 fQ_outside_674 fQ_shut_674 iQ_rows_674 iQ_allRows_674 iQ_columns_674 ++ (WW nW hw lw kw wl_x200 wb_x200 wG_x200)))) H → va_D A (WO hO aO kO hM hQ hw iO_answered iO_searched iO_searchedRelaxed iO_counted fO_countedCase gO_goalNumber gO_goalScale fO_start_x5 fO_column_x5 fO_chosen ++ (WM hM aM kM iM_stands iM_variables iM_rows iM_goals iM_differents iM_cases fM_from fM_to fM_whole fM_ways iM_plainRows fM_plainRow fM_kept fM_goalOver fM_goalUnder fM_goalMax fM_different ++ (WQ hQ aQ kQ hw fQ_inside_674 fQ_outside_674 fQ_shut_674 iQ_rows_674 iQ_allRows_674 iQ_columns_674 ++ (WW nW hw lw kw wl_x200 wb_x200 wG_x200)))) → va_S A s.heap H locs → lv_has ls 7 [(6, .int l6_x200), (5, .int l5_x200), (4, .int k0_j36), (3, .int l3_x5), (0, .ref (hO 0)), (1, .int p1), (2, .int p2)] → W p l e _ s m _ below meth c H locs 0 0 _ (F0 m 200 ls [])) => loop (9) wl_x130 wb_x130 wG_x130 0 l5_x130 _ _ _ b_wl_x130 b_wb_x130 (show 0 ≤ (0 : Int32).toInt ∧ (0 : Int32).toInt ≤ 8 from by decide) (b_l5_x130) (show l5_x130.toInt ≤ 12 + (0 : Int32).toInt from by have h9 : (0 : Int32).toInt = 0 := (by decide); omega) ((by have e9 : (0 : Int32).toInt = 0 := (by decide : (0 : Int32).toInt = 0); omega)) hP hD hS hl) ?_
            intro n9
            induction n9 with
            | zero => intro wl_x200 wb_x200 wG_x200 l6_x200 l5_x200 H locs ls b_wl_x200 b_wb_x200 b_l6_x200 b_l5_x200 hl2 hf9; exact False.elim (by omega)
            | succ n9 ihx200 =>
              intro wl_x200 wb_x200 wG_x200 l6_x200 l5_x200 H locs ls b_wl_x200 b_wb_x200 b_l6_x200 b_l5_x200 hl2 hfx200 hP hD hS hl
              refine lv_iload hx hb dX5_lay_200 (lv_at hl 0 rfl) ?_
              refine lv_aload_n hx hb dX5_lay_202 rfl (lv_at hl 4 rfl) ?_
              refine va_get (D := (dC, dI)) (ci := 5) (v := .ref (hM 0)) (C := RX5) (T := TX5) (N := 19) hx hb hts iwsMX5_lay_in5 hown hK hP 0 rfl rfl 0 (by decide) (hts _ hm_m_X5_lay_0) (fun _ h9 => h9) rfl dX5_lay_203 ?_
              refine va_get (D := (dC, dI)) (ci := 1) (v := .int iM_variables) (C := RX1) (T := TX1) (N := 17) hx hb hts iwsMX5_lay_in1 hown hK hP 11 rfl rfl 1 (by decide) (hts _ hm_m_X5_lay_1) (fun _ h9 => h9) rfl dX5_lay_206 ?_
              refine lv_icmp_ge (tgt := 289) hx hb dX5_lay_209 (by decide) (fun c_209 => ?_) (fun c_209 => ?_)
              · have t_209 : l6_x200.toInt ≥ iM_variables.toInt := toI_ge c_209 rfl rfl
                refine lv_iconst (v := 0) hx hb dX5_lay_289 (by decide) ?_
                refine lv_istore hx hb dX5_lay_290 hl (by decide) rfl (fun ls (hl : lv_has ls _ ([(6, .int 0), (5, .int l5_x200), (4, .int k0_j36), (3, .int l3_x5), (0, .ref (hO 0)), (1, .int p1), (2, .int p2)])) => ?_)
                have hl : lv_has _ _ ([(6, .int 0), (5, .int l5_x200), (4, .int k0_j36), (3, .int l3_x5), (0, .ref (hO 0)), (1, .int p1), (2, .int p2)]) := lv_sub hl [0, 1, 2, 3, 4, 5, 6] rfl
                refine (fun (loop : ∀ (n9 : Nat) (wl_x292 : Nat → Int32) (wb_x292 : Nat → Int32) (wG_x292 : Nat → Nat → Int64) (l6_x292 : Int32) (H : Heap) (locs : List Loc) (ls : Array Slot), (∀ q : Nat, 0 ≤ (wl_x292 q).toInt ∧ (wl_x292 q).toInt ≤ 14) → (∀ q : Nat, 0 ≤ (wb_x292 q).toInt ∧ (wb_x292 q).toInt ≤ 1) → (0 ≤ l6_x292.toInt ∧ l6_x292.toInt ≤ 3) → (3 - l6_x292.toInt < ((n9 : Nat) : Int)) → va_P (dC, dI) vwCl (WO hO aO kO hM hQ hw iO_answered iO_searched iO_searchedRelaxed iO_counted fO_countedCase gO_goalNumber gO_goalScale fO_start_x5 fO_column_x5 fO_chosen ++ (WM hM aM kM iM_stands iM_variables iM_rows iM_goals iM_differents iM_cases fM_from fM_to fM_whole fM_ways iM_plainRows fM_plainRow fM_kept fM_goalOver fM_goalUnder fM_goalMax fM_different ++ (WQ hQ aQ kQ hw fQ_inside_674 fQ_outside_674 fQ_shut_674 iQ_rows_674 iQ_allRows_674 iQ_columns_674 ++ (WW nW hw lw kw wl_x292 wb_x292 wG_x292)))) H → va_D A (WO hO aO kO hM hQ hw iO_answered iO_searched iO_searchedRelaxed iO_counted fO_countedCase gO_goalNumber gO_goalScale fO_start_x5 fO_column_x5 fO_chosen ++ (WM hM aM kM iM_stands iM_variables iM_rows iM_goals iM_differents iM_cases fM_from fM_to fM_whole fM_ways iM_plainRows fM_plainRow fM_kept fM_goalOver fM_goalUnder fM_goalMax fM_different ++ (WQ hQ aQ kQ hw fQ_inside_674 fQ_outside_674 fQ_shut_674 iQ_rows_674 iQ_allRows_674 iQ_columns_674 ++ (WW nW hw lw kw wl_x292 wb_x292 wG_x292)))) → va_S A s.heap H locs → lv_has ls 7 [(6, .int l6_x292), (5, .int l5_x200), (4, .int k0_j36), (3, .int l3_x5), (0, .ref (hO 0)), (1, .int p1), (2, .int p2)] → W p l e _ s m _ below meth c H locs 0 0 _ (F0 m 292 ls [])) => loop (4) wl_x200 wb_x200 wG_x200 0 _ _ _ b_wl_x200 b_wb_x200 (show 0 ≤ (0 : Int32).toInt ∧ (0 : Int32).toInt ≤ 3 from by decide) ((by have e9 : (0 : Int32).toInt = 0 := (by decide : (0 : Int32).toInt = 0); omega)) hP hD hS hl) ?_
                intro n9
                induction n9 with
                | zero => intro wl_x292 wb_x292 wG_x292 l6_x292 H locs ls b_wl_x292 b_wb_x292 b_l6_x292 hf9; exact False.elim (by omega)
                | succ n9 ihx292 =>
                  intro wl_x292 wb_x292 wG_x292 l6_x292 H locs ls b_wl_x292 b_wb_x292 b_l6_x292 hfx292 hP hD hS hl
                  refine lv_iload hx hb dX5_lay_292 (lv_at hl 0 rfl) ?_
                  refine lv_iload_n hx hb dX5_lay_294 rfl (lv_at hl 6 rfl) ?_
                  refine lv_icmp_ge (tgt := 315) hx hb dX5_lay_295 (by decide) (fun c_295 => ?_) (fun c_295 => ?_)
                  · have t_295 : l6_x292.toInt ≥ p2.toInt := toI_ge c_295 rfl rfl
                    refine lv_iconst (v := 1) hx hb dX5_lay_315 (by decide) ?_
                    refine W.widen (k := 0) (n := 0) (by decide +kernel) (by decide +kernel) ?_
                    exact W.zret (v := 1) hx hb hr rfl (fun t9_ ht hW => ⟨⟨(1 : Int32), (fO_start_x5, fO_column_x5, fQ_inside_674, fQ_outside_674, fQ_shut_674, iQ_rows_674, iQ_allRows_674, iQ_columns_674, wl_x292, wb_x292, wG_x292), rfl, ⟨b_fO_column_x5, b_iQ_rows_674, b_iQ_allRows_674, b_iQ_columns_674, b_wl_x292, b_wb_x292, (by (try dsimp only); exact (by first | with_reducible assumption | omega | assumption)), (show 0 ≤ (1 : Int32).toInt ∧ (1 : Int32).toInt ≤ 1 from by decide), (by (try dsimp only); omega), (by (try dsimp only); omega)⟩, by rw [ht]; exact hP, hD⟩, hS.F ht⟩) hS.2.2 dX5_lay_316
                  · have t_295 : ¬ l6_x292.toInt ≥ p2.toInt := toI_nge c_295 rfl rfl
                    refine lv_aload_n hx hb dX5_lay_298 rfl (lv_at hl 4 rfl) ?_
                    refine lv_iload hx hb dX5_lay_299 (lv_at hl 1 rfl) ?_
                    refine lv_iload hx hb dX5_lay_301 (lv_at hl 0 rfl) ?_
                    refine lv_iadd hx hb dX5_lay_303 ?_
                    refine lv_topi (fun y965 hy965 => ?_)
                    obtain rfl : (iI (l5_x200.toInt + l6_x292.toInt)) = y965 := (hy965.trans (iI_add2 (iI_of _) (iI_of _))).symm
                    refine lv_iload hx hb dX5_lay_304 (lv_at hl 0 rfl) ?_
                    have hFc := allFree hD hS hA
                    refine va_callv (va_runV (As := [.int (iI (l5_x200.toInt + l6_x292.toInt)), .int l6_x292]) (rest := []) ⟨hx, hb, hml, hown, hts⟩ (m_X5_layGoal l dC dI hO aO kO hM hQ hw iO_answered iO_searched iO_searchedRelaxed iO_counted fO_countedCase gO_goalNumber gO_goalScale fO_start_x5 fO_column_x5 fO_chosen aM kM iM_stands iM_variables iM_rows iM_goals iM_differents iM_cases fM_from fM_to fM_whole fM_ways iM_plainRows fM_plainRow fM_kept fM_goalOver fM_goalUnder fM_goalMax fM_different aQ kQ fQ_inside_674 fQ_outside_674 fQ_shut_674 iQ_rows_674 iQ_allRows_674 iQ_columns_674 nW lw kw wl_x292 wb_x292 wG_x292 (iI (l5_x200.toInt + l6_x292.toInt)) l6_x292 (b_iO_answered) (b_iO_searched) (b_iO_searchedRelaxed) (b_iO_counted) b_fO_countedCase b_fO_column_x5 b_fO_chosen (b_iM_stands) (b_iM_variables) (b_iM_rows) (b_iM_goals) (b_iM_differents) (b_iM_cases) b_fM_ways (b_iM_plainRows) b_fM_plainRow (by first | with_reducible assumption | omega | assumption) (b_iQ_rows_674) (b_iQ_allRows_674) (b_iQ_columns_674) (by first | with_reducible assumption | omega | assumption) b_wl_x292 b_wb_x292 (iI_rng (Int.le_trans (by decide) (Int.add_le_add (b_l5_x200.1) (b_l6_x292.1))) (Int.le_trans (Int.add_le_add (b_l5_x200.2) (b_l6_x292.2)) (by decide)) (by decide) (by decide)) (by first | exact b_l6_x292 | with_reducible assumption | exact ⟨by omega, by omega⟩ | assumption) (by omega) (by omega) H.size) (cwV 2 hts gwsMX5_lay_3 rfl rfl rfl hd_yX5_layGoal_RX5 (by decide +kernel)) (fz_pre (va_recv hK hP (ci := 5) (q0 := 0) rfl rfl) hP hK hD) rfl rfl hl.1 rfl (lv_room (Nat.le_of_ble_eq_true rfl)) dX5_lay_306 (by decide +kernel)) hS (fun q _ h => hFc q h) hFc (fun u t9_ H locs ht hvm hw9 hB9 hz1 hk1 hS => ?_)
                    revert u hw9 hB9
                    refine fz_p3 ?_
                    intro wl_966 wb_966 wG_966 hw9 hB9
                    try dsimp only at hw9 hB9
                    revert hw9
                    refine fz_a2 ?_
                    intro b_wl_966 b_wb_966
                    have hP : va_P (dC, dI) vwCl (WO hO aO kO hM hQ hw iO_answered iO_searched iO_searchedRelaxed iO_counted fO_countedCase gO_goalNumber gO_goalScale fO_start_x5 fO_column_x5 fO_chosen ++ (WM hM aM kM iM_stands iM_variables iM_rows iM_goals iM_differents iM_cases fM_from fM_to fM_whole fM_ways iM_plainRows fM_plainRow fM_kept fM_goalOver fM_goalUnder fM_goalMax fM_different ++ (WQ hQ aQ kQ hw fQ_inside_674 fQ_outside_674 fQ_shut_674 iQ_rows_674 iQ_allRows_674 iQ_columns_674 ++ (WW nW hw lw kw wl_966 wb_966 wG_966)))) H := fz_P ht hB9.1
                    have hD := fz_sd hP (hB9.2.weaken (fun _ q _ h => hFc q.1 h)) rfl
                    refine lv_iinc (v := (iI (l6_x292.toInt + 1))) hx hb dX5_lay_309 hl (k := 0) rfl (iI_add2 (iI_of _) (by decide : (1 : Int32) = iI 1)) (by decide) rfl (fun ls (hl : lv_has ls _ ([(6, .int (iI (l6_x292.toInt + 1))), (5, .int l5_x200), (4, .int k0_j36), (3, .int l3_x5), (0, .ref (hO 0)), (1, .int p1), (2, .int p2)])) => ?_)
                    refine lv_goto (tgt := 292) hx hb dX5_lay_312 (by decide) ?_
                    have hl : lv_has _ _ ([(6, .int (iI (l6_x292.toInt + 1))), (5, .int l5_x200), (4, .int k0_j36), (3, .int l3_x5), (0, .ref (hO 0)), (1, .int p1), (2, .int p2)]) := lv_sub hl [0, 1, 2, 3, 4, 5, 6] rfl
                    exact ihx292 wl_966 wb_966 wG_966 (iI (l6_x292.toInt + 1)) _ _ _ b_wl_966 b_wb_966 (iI_rng (Int.le_trans (by decide) (Int.add_le_add (b_l6_x292.1) (Int.le_refl _))) (by omega) (by decide) (by decide)) (by have e9 : ((iI (l6_x292.toInt + 1))).toInt = (l6_x292.toInt + 1) := (iI_t (Int.le_trans (by decide) (Int.add_le_add (b_l6_x292.1) (Int.le_refl _))) (Int.le_trans (Int.add_le_add (b_l6_x292.2) (Int.le_refl _)) (by decide))); omega) hP hD hS hl
              · have t_209 : ¬ l6_x200.toInt ≥ iM_variables.toInt := toI_nge c_209 rfl rfl
                refine lv_aload_n hx hb dX5_lay_212 rfl (lv_at hl 4 rfl) ?_
                refine va_get (D := (dC, dI)) (ci := 5) (v := .ref (aO 4)) (C := RX5) (T := TX5) (N := 19) hx hb hts iwsMX5_lay_in5 hown hK hP 0 rfl rfl 10 (by decide) (hts _ hm_m_X5_lay_4) (fun _ h9 => h9) rfl dX5_lay_213 ?_
                refine lv_iload hx hb dX5_lay_216 (lv_at hl 0 rfl) ?_
                refine va_iald (cA := kO 4) (n := 8) (f := fO_column_x5) hx hb hK hP 5 4 rfl rfl (vp_in_iff.mpr ⟨b_l6_x200.1, (Int.lt_of_lt_of_le (Int.not_le.mp t_209) (Int.le_trans b_iM_variables.2 (by decide)))⟩) dX5_lay_218 ?_
                refine lv_topi (fun v967 hv967 => ?_)
                have b_v967 : (-1) ≤ v967.toInt ∧ v967.toInt ≤ 8 := by rw [hv967]; exact b_fO_column_x5 _
                have b1_v967 : v967 = fO_column_x5 (l6_x200).toNatClampNeg := hv967
                clear hv967
                refine lv_iconst (v := (-1)) hx hb dX5_lay_219 (by decide) ?_
                refine lv_icmp_eq (tgt := 283) hx hb dX5_lay_220 (by decide) (fun c_220 => ?_) (fun c_220 => ?_)
                · have t_220 : v967.toInt = (-1) := toI_eq c_220 rfl (by decide : ((-1) : Int32).toInt = (-1))
                  refine lv_iinc (v := (iI (l6_x200.toInt + 1))) hx hb dX5_lay_283 hl (k := 0) rfl (iI_add2 (iI_of _) (by decide : (1 : Int32) = iI 1)) (by decide) rfl (fun ls (hl : lv_has ls _ ([(6, .int (iI (l6_x200.toInt + 1))), (5, .int l5_x200), (4, .int k0_j36), (3, .int l3_x5), (0, .ref (hO 0)), (1, .int p1), (2, .int p2)])) => ?_)
                  refine lv_goto (tgt := 200) hx hb dX5_lay_286 (by decide) ?_
                  have hl : lv_has _ _ ([(6, .int (iI (l6_x200.toInt + 1))), (5, .int l5_x200), (4, .int k0_j36), (3, .int l3_x5), (0, .ref (hO 0)), (1, .int p1), (2, .int p2)]) := lv_sub hl [0, 1, 2, 3, 4, 5, 6] rfl
                  exact ihx200 wl_x200 wb_x200 wG_x200 (iI (l6_x200.toInt + 1)) l5_x200 _ _ _ b_wl_x200 b_wb_x200 (iI_rng (Int.le_trans (by decide) (Int.add_le_add (b_l6_x200.1) (Int.le_refl _))) (by omega) (by decide) (by decide)) (b_l5_x200) (show l5_x200.toInt ≤ 12 + (iI (l6_x200.toInt + 1)).toInt from by (try rw [iI_t (E := l3_x5.toInt + 1) (by omega) (by omega)]); (try rw [iI_t (E := l4_x5.toInt + 1) (by omega) (by omega)]); (try rw [iI_t (E := l5_x130.toInt + 1) (by omega) (by omega)]); (try rw [iI_t (E := l6_x130.toInt + 1) (by omega) (by omega)]); (try rw [iI_t (E := l5_x200.toInt + 1) (by omega) (by omega)]); (try rw [iI_t (E := l6_x200.toInt + 1) (by omega) (by omega)]); omega) (by have e9 : ((iI (l6_x200.toInt + 1))).toInt = (l6_x200.toInt + 1) := (iI_t (Int.le_trans (by decide) (Int.add_le_add (b_l6_x200.1) (Int.le_refl _))) (Int.le_trans (Int.add_le_add (b_l6_x200.2) (Int.le_refl _)) (by decide))); omega) hP hD hS hl
                · have t_220 : ¬ v967.toInt = (-1) := toI_neq c_220 rfl (by decide : ((-1) : Int32).toInt = (-1))
                  refine lv_aload_n hx hb dX5_lay_223 rfl (lv_at hl 4 rfl) ?_
                  refine va_get (D := (dC, dI)) (ci := 5) (v := .ref (hQ 0)) (C := RX5) (T := TX5) (N := 19) hx hb hts iwsMX5_lay_in5 hown hK hP 0 rfl rfl 1 (by decide) (hts _ hm_m_X5_lay_3) (fun _ h9 => h9) rfl dX5_lay_224 ?_
                  refine lv_iload hx hb dX5_lay_227 (lv_at hl 1 rfl) ?_
                  refine lv_iconst (v := 0) hx hb dX5_lay_229 (by decide) ?_
                  have p9 := cj_4_2_3 (WO hO aO kO hM hQ hw iO_answered iO_searched iO_searchedRelaxed iO_counted fO_countedCase gO_goalNumber gO_goalScale fO_start_x5 fO_column_x5 fO_chosen) (WM hM aM kM iM_stands iM_variables iM_rows iM_goals iM_differents iM_cases fM_from fM_to fM_whole fM_ways iM_plainRows fM_plainRow fM_kept fM_goalOver fM_goalUnder fM_goalMax fM_different) (WQ hQ aQ kQ hw fQ_inside_674 fQ_outside_674 fQ_shut_674 iQ_rows_674 iQ_allRows_674 iQ_columns_674) (WW nW hw lw kw wl_x200 wb_x200 wG_x200)
                  have hPc := hP.mem (fun q h => p9.mem_iff.mpr (List.mem_append_left _ h))
                  have hDc := (hD.perm p9).left
                  have hKc : va_K (dC, dI) vwCl (tQ kQ ++ (tW kw)) _ := hK.sub [20, 21, 22, 23, 24] rfl
                  have hFc := freeG p9 hD hS hA
                  refine va_callr (va_runV (As := [.int l5_x200, .int 0]) (rest := []) ⟨hx, hb, hml, hown, hts⟩ (m_X6_cellAt l dC dI hQ aQ kQ hw fQ_inside_674 fQ_outside_674 fQ_shut_674 iQ_rows_674 iQ_allRows_674 iQ_columns_674 nW lw kw wl_x200 wb_x200 wG_x200 l5_x200 0 (b_iQ_rows_674) (b_iQ_allRows_674) (b_iQ_columns_674) (by first | with_reducible assumption | omega | assumption) b_wl_x200 b_wb_x200 (⟨b_l5_x200.1, Int.le_trans b_l5_x200.2 (by decide)⟩) (show 0 ≤ (0 : Int32).toInt ∧ (0 : Int32).toInt ≤ 40 from by decide) (by omega) ((by have h9 := ix_small (i := l5_x200.toInt) (j := 0) (c := iQ_columns_674.toInt) (by omega) (by omega) (by omega) (by omega) (by omega) (by omega); have h8 : (0 : Int32).toInt = 0 := (by decide); rw [h8]; exact h9)) H.size) (cwV 2 hts gwsMX5_lay_1 rfl rfl rfl hd_yX6_cellAt_RX6 (by decide +kernel)) (fz_pre (va_recv hK hP (ci := 6) (q0 := 22) rfl rfl) hPc hKc hDc) rfl rfl hl.1 rfl (lv_room (Nat.le_of_ble_eq_true rfl)) dX5_lay_230 (by decide +kernel)) hS (fun q _ h => hFc q h) hFc (fun kR_968 ra968 t9_ H locs ht hvm hw9 hB9 hz1 hk1 hS => ?_)
                  revert hB9
                  refine fz_a2 ?_
                  intro hra hB9
                  subst hra
                  have f968_0 := hw9
                  try dsimp only at f968_0
                  have p8 := p9
                  obtain ⟨hP, hD⟩ := frameG p9 p8 hP hD hk1 hFc (fz_P ht hB9.1) hB9.2
                  refine lv_aload_n hx hb dX5_lay_233 rfl (lv_at hl 4 rfl) ?_
                  refine va_get (D := (dC, dI)) (ci := 5) (v := .ref (hM 0)) (C := RX5) (T := TX5) (N := 19) hx hb hts iwsMX5_lay_in5 hown hK hP 0 rfl rfl 0 (by decide) (hts _ hm_m_X5_lay_0) (fun _ h9 => h9) rfl dX5_lay_234 ?_
                  refine va_get (D := (dC, dI)) (ci := 1) (v := .ref (aM 1)) (C := RX1) (T := TX1) (N := 17) hx hb hts iwsMX5_lay_in1 hown hK hP 11 rfl rfl 7 (by decide) (hts (.fieldLink RX5 181 "OptimaWorks$Model" "to" "[I") (by decide +kernel)) (fun _ h9 => h9) rfl dX5_lay_237 ?_
                  refine lv_iload hx hb dX5_lay_240 (lv_at hl 0 rfl) ?_
                  refine va_iald (cA := kM 1) (n := 8) (f := fM_to) hx hb hK hP 13 11 rfl rfl (vp_in_iff.mpr ⟨b_l6_x200.1, (Int.lt_of_lt_of_le (Int.not_le.mp t_209) (Int.le_trans b_iM_variables.2 (by decide)))⟩) dX5_lay_242 ?_
                  refine lv_topi (fun v969 hv969 => ?_)
                  clear hv969
                  refine lv_aload_n hx hb dX5_lay_243 rfl (lv_at hl 4 rfl) ?_
                  refine va_get (D := (dC, dI)) (ci := 5) (v := .ref (hM 0)) (C := RX5) (T := TX5) (N := 19) hx hb hts iwsMX5_lay_in5 hown hK hP 0 rfl rfl 0 (by decide) (hts _ hm_m_X5_lay_0) (fun _ h9 => h9) rfl dX5_lay_244 ?_
                  refine va_get (D := (dC, dI)) (ci := 1) (v := .ref (aM 0)) (C := RX1) (T := TX1) (N := 17) hx hb hts iwsMX5_lay_in1 hown hK hP 11 rfl rfl 6 (by decide) (hts _ hm_m_X5_lay_5) (fun _ h9 => h9) rfl dX5_lay_247 ?_
                  refine lv_iload hx hb dX5_lay_250 (lv_at hl 0 rfl) ?_
                  refine va_iald (cA := kM 0) (n := 8) (f := fM_from) hx hb hK hP 12 10 rfl rfl (vp_in_iff.mpr ⟨b_l6_x200.1, (Int.lt_of_lt_of_le (Int.not_le.mp t_209) (Int.le_trans b_iM_variables.2 (by decide)))⟩) dX5_lay_252 ?_
                  refine lv_topi (fun v970 hv970 => ?_)
                  clear hv970
                  refine lv_isub hx hb dX5_lay_253 ?_
                  refine lv_topi (fun y971 hy971 => ?_)
                  obtain rfl : (iI (v969.toInt - v970.toInt)) = y971 := (hy971.trans (iI_sub2 (iI_of _) (iI_of _))).symm
                  refine lv_i2l hx hb dX5_lay_254 rfl ?_
                  refine lv_topl (fun v972 hv972 => ?_)
                  clear hv972
                  have p9 := cj_4_3 (WO hO aO kO hM hQ hw iO_answered iO_searched iO_searchedRelaxed iO_counted fO_countedCase gO_goalNumber gO_goalScale fO_start_x5 fO_column_x5 fO_chosen) (WM hM aM kM iM_stands iM_variables iM_rows iM_goals iM_differents iM_cases fM_from fM_to fM_whole fM_ways iM_plainRows fM_plainRow fM_kept fM_goalOver fM_goalUnder fM_goalMax fM_different) (WQ hQ aQ kQ hw fQ_inside_674 fQ_outside_674 fQ_shut_674 iQ_rows_674 iQ_allRows_674 iQ_columns_674) (WW nW hw lw kw wl_x200 wb_x200 wG_x200)
                  have hPc := hP.mem (fun q h => p9.mem_iff.mpr (List.mem_append_left _ h))
                  have hDc := (hD.perm p9).left
                  have hKc : va_K (dC, dI) vwCl (tW kw) _ := hK.sub [24] rfl
                  have hFc := freeG p9 hD hS hA
                  refine va_callv (va_runV (As := [.long v972]) (rest := []) ⟨hx, hb, hml, hown, hts⟩ (m_X8_setLong l dC dI nW hw lw kw wl_x200 wb_x200 wG_x200 kR_968 v972 b_wl_x200 b_wb_x200 (by first | with_reducible assumption | omega | (rw [iI_t (by omega) (by omega)]; omega) | decide | assumption) H.size) (cwV 1 hts gwsMX5_lay_2 rfl rfl rfl hd_yX8_setLong_RX8 (by decide +kernel)) (fz_pre (va_recv hK hP (ci := 8) (q0 := 11 + (11 + (5 + (kR_968)))) rfl (apR rfl (apR rfl (apR rfl (WW_o (by omega)))))) hPc hKc hDc) rfl rfl hl.1 rfl (lv_room (Nat.le_of_ble_eq_true rfl)) dX5_lay_255 (by decide +kernel)) hS (fun q _ h => hFc q h) hFc (fun u t9_ H locs ht hvm hw9 hB9 hz1 hk1 hS => ?_)
                  revert u hw9 hB9
                  refine fz_p3 ?_
                  intro wl_973 wb_973 wG_973 hw9 hB9
                  try dsimp only at hw9 hB9
                  revert hw9
                  refine fz_a2 ?_
                  intro b_wl_973 b_wb_973
                  have p8 := cj_4_3 (WO hO aO kO hM hQ hw iO_answered iO_searched iO_searchedRelaxed iO_counted fO_countedCase gO_goalNumber gO_goalScale fO_start_x5 fO_column_x5 fO_chosen) (WM hM aM kM iM_stands iM_variables iM_rows iM_goals iM_differents iM_cases fM_from fM_to fM_whole fM_ways iM_plainRows fM_plainRow fM_kept fM_goalOver fM_goalUnder fM_goalMax fM_different) (WQ hQ aQ kQ hw fQ_inside_674 fQ_outside_674 fQ_shut_674 iQ_rows_674 iQ_allRows_674 iQ_columns_674) (WW nW hw lw kw wl_973 wb_973 wG_973)
                  obtain ⟨hP, hD⟩ := frameG p9 p8 hP hD hk1 hFc (fz_P ht hB9.1) hB9.2
                  refine lv_aload_n hx hb dX5_lay_258 rfl (lv_at hl 4 rfl) ?_
                  refine va_get (D := (dC, dI)) (ci := 5) (v := .ref (hQ 0)) (C := RX5) (T := TX5) (N := 19) hx hb hts iwsMX5_lay_in5 hown hK hP 0 rfl rfl 1 (by decide) (hts _ hm_m_X5_lay_3) (fun _ h9 => h9) rfl dX5_lay_259 ?_
                  refine lv_iload hx hb dX5_lay_262 (lv_at hl 1 rfl) ?_
                  refine lv_aload_n hx hb dX5_lay_264 rfl (lv_at hl 4 rfl) ?_
                  refine va_get (D := (dC, dI)) (ci := 5) (v := .ref (aO 4)) (C := RX5) (T := TX5) (N := 19) hx hb hts iwsMX5_lay_in5 hown hK hP 0 rfl rfl 10 (by decide) (hts _ hm_m_X5_lay_4) (fun _ h9 => h9) rfl dX5_lay_265 ?_
                  refine lv_iload hx hb dX5_lay_268 (lv_at hl 0 rfl) ?_
                  refine va_iald (cA := kO 4) (n := 8) (f := fO_column_x5) hx hb hK hP 5 4 rfl rfl (vp_in_iff.mpr ⟨b_l6_x200.1, (Int.lt_of_lt_of_le (Int.not_le.mp t_209) (Int.le_trans b_iM_variables.2 (by decide)))⟩) dX5_lay_270 ?_
                  refine lv_topi (fun v974 hv974 => ?_)
                  have b_v974 : (-1) ≤ v974.toInt ∧ v974.toInt ≤ 8 := by rw [hv974]; exact b_fO_column_x5 _
                  have b1_v974 : v974 = fO_column_x5 (l6_x200).toNatClampNeg := hv974
                  have b2_v974 : v974.toInt = v967.toInt := by rw [hv974]; exact (congrArg Int32.toInt b1_v967).symm
                  clear hv974
                  have p9 := cj_4_2_3 (WO hO aO kO hM hQ hw iO_answered iO_searched iO_searchedRelaxed iO_counted fO_countedCase gO_goalNumber gO_goalScale fO_start_x5 fO_column_x5 fO_chosen) (WM hM aM kM iM_stands iM_variables iM_rows iM_goals iM_differents iM_cases fM_from fM_to fM_whole fM_ways iM_plainRows fM_plainRow fM_kept fM_goalOver fM_goalUnder fM_goalMax fM_different) (WQ hQ aQ kQ hw fQ_inside_674 fQ_outside_674 fQ_shut_674 iQ_rows_674 iQ_allRows_674 iQ_columns_674) (WW nW hw lw kw wl_973 wb_973 wG_973)
                  have hPc := hP.mem (fun q h => p9.mem_iff.mpr (List.mem_append_left _ h))
                  have hDc := (hD.perm p9).left
                  have hKc : va_K (dC, dI) vwCl (tQ kQ ++ (tW kw)) _ := hK.sub [20, 21, 22, 23, 24] rfl
                  have hFc := freeG p9 hD hS hA
                  refine va_callr (va_runV (As := [.int l5_x200, .int v974]) (rest := []) ⟨hx, hb, hml, hown, hts⟩ (m_X6_cellAt l dC dI hQ aQ kQ hw fQ_inside_674 fQ_outside_674 fQ_shut_674 iQ_rows_674 iQ_allRows_674 iQ_columns_674 nW lw kw wl_973 wb_973 wG_973 l5_x200 v974 (b_iQ_rows_674) (b_iQ_allRows_674) (b_iQ_columns_674) (by first | with_reducible assumption | omega | assumption) b_wl_973 b_wb_973 (⟨b_l5_x200.1, Int.le_trans b_l5_x200.2 (by decide)⟩) (by first | exact b_v974 | with_reducible assumption | exact ⟨by omega, by omega⟩ | assumption) (by omega) ((by have h9 := ix_small (i := l5_x200.toInt) (j := v974.toInt) (c := iQ_columns_674.toInt) (by omega) (by omega) (by omega) (by omega) (by omega) (by omega); exact h9)) H.size) (cwV 2 hts gwsMX5_lay_1 rfl rfl rfl hd_yX6_cellAt_RX6 (by decide +kernel)) (fz_pre (va_recv hK hP (ci := 6) (q0 := 22) rfl rfl) hPc hKc hDc) rfl rfl hl.1 rfl (lv_room (Nat.le_of_ble_eq_true rfl)) dX5_lay_271 (by decide +kernel)) hS (fun q _ h => hFc q h) hFc (fun kR_975 ra975 t9_ H locs ht hvm hw9 hB9 hz1 hk1 hS => ?_)
                  revert hB9
                  refine fz_a2 ?_
                  intro hra hB9
                  subst hra
                  have f975_0 := hw9
                  try dsimp only at f975_0
                  have p8 := p9
                  obtain ⟨hP, hD⟩ := frameG p9 p8 hP hD hk1 hFc (fz_P ht hB9.1) hB9.2
                  refine lv_ldc2 (v := (-1)) hx hb hown (hts (.constantLong RX5 188 (-1)) (by decide +kernel)) dX5_lay_274 ?_
                  have p9 := cj_4_3 (WO hO aO kO hM hQ hw iO_answered iO_searched iO_searchedRelaxed iO_counted fO_countedCase gO_goalNumber gO_goalScale fO_start_x5 fO_column_x5 fO_chosen) (WM hM aM kM iM_stands iM_variables iM_rows iM_goals iM_differents iM_cases fM_from fM_to fM_whole fM_ways iM_plainRows fM_plainRow fM_kept fM_goalOver fM_goalUnder fM_goalMax fM_different) (WQ hQ aQ kQ hw fQ_inside_674 fQ_outside_674 fQ_shut_674 iQ_rows_674 iQ_allRows_674 iQ_columns_674) (WW nW hw lw kw wl_973 wb_973 wG_973)
                  have hPc := hP.mem (fun q h => p9.mem_iff.mpr (List.mem_append_left _ h))
                  have hDc := (hD.perm p9).left
                  have hKc : va_K (dC, dI) vwCl (tW kw) _ := hK.sub [24] rfl
                  have hFc := freeG p9 hD hS hA
                  refine va_callv (va_runV (As := [.long (-1)]) (rest := []) ⟨hx, hb, hml, hown, hts⟩ (m_X8_setLong l dC dI nW hw lw kw wl_973 wb_973 wG_973 kR_975 (-1) b_wl_973 b_wb_973 (by first | with_reducible assumption | omega | (rw [iI_t (by omega) (by omega)]; omega) | decide | assumption) H.size) (cwV 1 hts gwsMX5_lay_2 rfl rfl rfl hd_yX8_setLong_RX8 (by decide +kernel)) (fz_pre (va_recv hK hP (ci := 8) (q0 := 11 + (11 + (5 + (kR_975)))) rfl (apR rfl (apR rfl (apR rfl (WW_o (by omega)))))) hPc hKc hDc) rfl rfl hl.1 rfl (lv_room (Nat.le_of_ble_eq_true rfl)) dX5_lay_277 (by decide +kernel)) hS (fun q _ h => hFc q h) hFc (fun u t9_ H locs ht hvm hw9 hB9 hz1 hk1 hS => ?_)
                  revert u hw9 hB9
                  refine fz_p3 ?_
                  intro wl_976 wb_976 wG_976 hw9 hB9
                  try dsimp only at hw9 hB9
                  revert hw9
                  refine fz_a2 ?_
                  intro b_wl_976 b_wb_976
                  have p8 := cj_4_3 (WO hO aO kO hM hQ hw iO_answered iO_searched iO_searchedRelaxed iO_counted fO_countedCase gO_goalNumber gO_goalScale fO_start_x5 fO_column_x5 fO_chosen) (WM hM aM kM iM_stands iM_variables iM_rows iM_goals iM_differents iM_cases fM_from fM_to fM_whole fM_ways iM_plainRows fM_plainRow fM_kept fM_goalOver fM_goalUnder fM_goalMax fM_different) (WQ hQ aQ kQ hw fQ_inside_674 fQ_outside_674 fQ_shut_674 iQ_rows_674 iQ_allRows_674 iQ_columns_674) (WW nW hw lw kw wl_976 wb_976 wG_976)
                  obtain ⟨hP, hD⟩ := frameG p9 p8 hP hD hk1 hFc (fz_P ht hB9.1) hB9.2
                  refine lv_iinc (v := (iI (l5_x200.toInt + 1))) hx hb dX5_lay_280 hl (k := 1) rfl (iI_add2 (iI_of _) (by decide : (1 : Int32) = iI 1)) (by decide) rfl (fun ls (hl : lv_has ls _ ([(5, .int (iI (l5_x200.toInt + 1))), (6, .int l6_x200), (4, .int k0_j36), (3, .int l3_x5), (0, .ref (hO 0)), (1, .int p1), (2, .int p2)])) => ?_)
                  refine lv_iinc (v := (iI (l6_x200.toInt + 1))) hx hb dX5_lay_283 hl (k := 1) rfl (iI_add2 (iI_of _) (by decide : (1 : Int32) = iI 1)) (by decide) rfl (fun ls (hl : lv_has ls _ ([(6, .int (iI (l6_x200.toInt + 1))), (5, .int (iI (l5_x200.toInt + 1))), (4, .int k0_j36), (3, .int l3_x5), (0, .ref (hO 0)), (1, .int p1), (2, .int p2)])) => ?_)
                  refine lv_goto (tgt := 200) hx hb dX5_lay_286 (by decide) ?_
                  have hl : lv_has _ _ ([(6, .int (iI (l6_x200.toInt + 1))), (5, .int (iI (l5_x200.toInt + 1))), (4, .int k0_j36), (3, .int l3_x5), (0, .ref (hO 0)), (1, .int p1), (2, .int p2)]) := lv_sub hl [0, 1, 2, 3, 4, 5, 6] rfl
                  exact ihx200 wl_976 wb_976 wG_976 (iI (l6_x200.toInt + 1)) (iI (l5_x200.toInt + 1)) _ _ _ b_wl_976 b_wb_976 (iI_rng (Int.le_trans (by decide) (Int.add_le_add (b_l6_x200.1) (Int.le_refl _))) (by omega) (by decide) (by decide)) (iI_rng (Int.le_trans (by decide) (Int.add_le_add (b_l5_x200.1) (Int.le_refl _))) (by omega) (by decide) (by decide)) (show (iI (l5_x200.toInt + 1)).toInt ≤ 12 + (iI (l6_x200.toInt + 1)).toInt from by (try rw [iI_t (E := l3_x5.toInt + 1) (by omega) (by omega)]); (try rw [iI_t (E := l4_x5.toInt + 1) (by omega) (by omega)]); (try rw [iI_t (E := l5_x130.toInt + 1) (by omega) (by omega)]); (try rw [iI_t (E := l6_x130.toInt + 1) (by omega) (by omega)]); (try rw [iI_t (E := l5_x200.toInt + 1) (by omega) (by omega)]); (try rw [iI_t (E := l6_x200.toInt + 1) (by omega) (by omega)]); omega) (by have e9 : ((iI (l6_x200.toInt + 1))).toInt = (l6_x200.toInt + 1) := (iI_t (Int.le_trans (by decide) (Int.add_le_add (b_l6_x200.1) (Int.le_refl _))) (Int.le_trans (Int.add_le_add (b_l6_x200.2) (Int.le_refl _)) (by decide))); omega) hP hD hS hl
          · have t_139 : ¬ l6_x130.toInt ≥ iM_rows.toInt := toI_nge c_139 rfl rfl
            refine lv_iload_n hx hb dX5_lay_142 rfl (lv_at hl 5 rfl) ?_
            refine lv_if_eq (tgt := 160) hx hb dX5_lay_143 (by decide) (fun c_143 => ?_) (fun c_143 => ?_)
            · have t_143 : p1.toInt = 0 := toI_eq c_143 rfl (by decide : (0 : Int32).toInt = 0)
              refine lv_aload_n hx hb dX5_lay_160 rfl (lv_at hl 4 rfl) ?_
              refine lv_iload hx hb dX5_lay_161 (lv_at hl 1 rfl) ?_
              refine lv_iload hx hb dX5_lay_163 (lv_at hl 0 rfl) ?_
              refine lv_iload_n hx hb dX5_lay_165 rfl (lv_at hl 5 rfl) ?_
              refine W.cut (pc := 180) (fun H locs ls stk => ∃ (k0_j41 : Int32), (0 ≤ k0_j41.toInt ∧ k0_j41.toInt ≤ 2) ∧  stk = [.int k0_j41, .int l6_x130, .int l5_x130, .ref (hO 0)] ∧ va_P (dC, dI) vwCl (WO hO aO kO hM hQ hw iO_answered iO_searched iO_searchedRelaxed iO_counted fO_countedCase gO_goalNumber gO_goalScale fO_start_x5 fO_column_x5 fO_chosen ++ (WM hM aM kM iM_stands iM_variables iM_rows iM_goals iM_differents iM_cases fM_from fM_to fM_whole fM_ways iM_plainRows fM_plainRow fM_kept fM_goalOver fM_goalUnder fM_goalMax fM_different ++ (WQ hQ aQ kQ hw fQ_inside_674 fQ_outside_674 fQ_shut_674 iQ_rows_674 iQ_allRows_674 iQ_columns_674 ++ (WW nW hw lw kw wl_x130 wb_x130 wG_x130)))) H ∧ va_D A (WO hO aO kO hM hQ hw iO_answered iO_searched iO_searchedRelaxed iO_counted fO_countedCase gO_goalNumber gO_goalScale fO_start_x5 fO_column_x5 fO_chosen ++ (WM hM aM kM iM_stands iM_variables iM_rows iM_goals iM_differents iM_cases fM_from fM_to fM_whole fM_ways iM_plainRows fM_plainRow fM_kept fM_goalOver fM_goalUnder fM_goalMax fM_different ++ (WQ hQ aQ kQ hw fQ_inside_674 fQ_outside_674 fQ_shut_674 iQ_rows_674 iQ_allRows_674 iQ_columns_674 ++ (WW nW hw lw kw wl_x130 wb_x130 wG_x130)))) ∧ va_S A s.heap H locs ∧ lv_has ls 7 [(6, .int l6_x130), (5, .int l5_x130), (4, .int k0_j36), (3, .int l3_x5), (0, .ref (hO 0)), (1, .int p1), (2, .int p2)]) (fun join41 => ?_) ?_
              · refine lv_if_eq (tgt := 173) hx hb dX5_lay_166 (by decide) (fun c_166 => ?_) (fun c_166 => ?_)
                · have t_166 : p1.toInt = 0 := toI_eq c_166 rfl (by decide : (0 : Int32).toInt = 0)
                  refine lv_aload_n hx hb dX5_lay_173 rfl (lv_at hl 4 rfl) ?_
                  refine va_get (D := (dC, dI)) (ci := 5) (v := .ref (aO 5)) (C := RX5) (T := TX5) (N := 19) hx hb hts iwsMX5_lay_in5 hown hK hP 0 rfl rfl 11 (by decide) (hts _ hm_m_X5_lay_6) (fun _ h9 => h9) rfl dX5_lay_174 ?_
                  refine lv_iload hx hb dX5_lay_177 (lv_at hl 0 rfl) ?_
                  refine va_iald (cA := kO 5) (n := 12) (f := fO_chosen) hx hb hK hP 6 5 rfl rfl (vp_in_iff.mpr ⟨b_l6_x130.1, (by omega)⟩) dX5_lay_179 ?_
                  refine lv_topi (fun v978 hv978 => ?_)
                  have b_v978 : 0 ≤ v978.toInt ∧ v978.toInt ≤ 2 := by rw [hv978]; exact b_fO_chosen _
                  clear hv978
                  have hl : lv_has _ _ ([(6, .int l6_x130), (5, .int l5_x130), (4, .int k0_j36), (3, .int l3_x5), (0, .ref (hO 0)), (1, .int p1), (2, .int p2)]) := lv_sub hl [0, 1, 2, 3, 4, 5, 6] rfl
                  exact join41 _ _ _ _ ⟨v978, (b_v978), rfl, hP, hD, hS, hl⟩
                · have t_166 : ¬ p1.toInt = 0 := toI_neq c_166 rfl (by decide : (0 : Int32).toInt = 0)
                  refine lv_iconst (v := 0) hx hb dX5_lay_169 (by decide) ?_
                  refine lv_goto (tgt := 180) hx hb dX5_lay_170 (by decide) ?_
                  have hl : lv_has _ _ ([(6, .int l6_x130), (5, .int l5_x130), (4, .int k0_j36), (3, .int l3_x5), (0, .ref (hO 0)), (1, .int p1), (2, .int p2)]) := lv_sub hl [0, 1, 2, 3, 4, 5, 6] rfl
                  exact join41 _ _ _ _ ⟨0, (show 0 ≤ (0 : Int32).toInt ∧ (0 : Int32).toInt ≤ 2 from by decide), rfl, hP, hD, hS, hl⟩
              · rintro H locs ls stk ⟨k0_j41, b_k0_j41, rfl, hP, hD, hS, hl⟩
                have hFc := allFree hD hS hA
                refine va_calli (va_runV (As := [.int l5_x130, .int l6_x130, .int k0_j41]) (rest := []) ⟨hx, hb, hml, hown, hts⟩ (m_X5_layWay l dC dI hO aO kO hM hQ hw iO_answered iO_searched iO_searchedRelaxed iO_counted fO_countedCase gO_goalNumber gO_goalScale fO_start_x5 fO_column_x5 fO_chosen aM kM iM_stands iM_variables iM_rows iM_goals iM_differents iM_cases fM_from fM_to fM_whole fM_ways iM_plainRows fM_plainRow fM_kept fM_goalOver fM_goalUnder fM_goalMax fM_different aQ kQ fQ_inside_674 fQ_outside_674 fQ_shut_674 iQ_rows_674 iQ_allRows_674 iQ_columns_674 nW lw kw wl_x130 wb_x130 wG_x130 l5_x130 l6_x130 k0_j41 (b_iO_answered) (b_iO_searched) (b_iO_searchedRelaxed) (b_iO_counted) b_fO_countedCase b_fO_column_x5 b_fO_chosen (b_iM_stands) (b_iM_variables) (b_iM_rows) (b_iM_goals) (b_iM_differents) (b_iM_cases) b_fM_ways (b_iM_plainRows) b_fM_plainRow (by first | with_reducible assumption | omega | assumption) (b_iQ_rows_674) (b_iQ_allRows_674) (b_iQ_columns_674) (by first | with_reducible assumption | omega | assumption) b_wl_x130 b_wb_x130 (⟨b_l5_x130.1, Int.le_trans b_l5_x130.2 (by decide)⟩) (by first | exact b_l6_x130 | with_reducible assumption | exact ⟨by omega, by omega⟩ | assumption) (b_k0_j41) (by omega) (by omega) H.size) (cwV 3 hts gwsMX5_lay_4 rfl rfl rfl hd_yX5_layWay_RX5 (by decide +kernel)) (fz_pre (va_recv hK hP (ci := 5) (q0 := 0) rfl rfl) hP hK hD) rfl rfl hl.1 rfl (lv_room (Nat.le_of_ble_eq_true rfl)) dX5_lay_180 (by decide +kernel)) hS (fun q _ h => hFc q h) hFc (fun r979 u t9_ H locs ht hvm hw9 hB9 hz1 hk1 hS => ?_)
                revert u hw9 hB9
                refine fz_p3 ?_
                intro wl_979 wb_979 wG_979 hw9 hB9
                try dsimp only at hw9 hB9
                revert hw9
                refine fz_a3 ?_
                intro b_wl_979 b_wb_979 b_r979
                have hP : va_P (dC, dI) vwCl (WO hO aO kO hM hQ hw iO_answered iO_searched iO_searchedRelaxed iO_counted fO_countedCase gO_goalNumber gO_goalScale fO_start_x5 fO_column_x5 fO_chosen ++ (WM hM aM kM iM_stands iM_variables iM_rows iM_goals iM_differents iM_cases fM_from fM_to fM_whole fM_ways iM_plainRows fM_plainRow fM_kept fM_goalOver fM_goalUnder fM_goalMax fM_different ++ (WQ hQ aQ kQ hw fQ_inside_674 fQ_outside_674 fQ_shut_674 iQ_rows_674 iQ_allRows_674 iQ_columns_674 ++ (WW nW hw lw kw wl_979 wb_979 wG_979)))) H := fz_P ht hB9.1
                have hD := fz_sd hP (hB9.2.weaken (fun _ q _ h => hFc q.1 h)) rfl
                refine lv_if_ne (tgt := 188) hx hb dX5_lay_183 (by decide) (fun c_183 => ?_) (fun c_183 => ?_)
                · have t_183 : r979.toInt ≠ 0 := toI_ne c_183 rfl (by decide : (0 : Int32).toInt = 0)
                  refine lv_iinc (v := (iI (l5_x130.toInt + 1))) hx hb dX5_lay_188 hl (k := 1) rfl (iI_add2 (iI_of _) (by decide : (1 : Int32) = iI 1)) (by decide) rfl (fun ls (hl : lv_has ls _ ([(5, .int (iI (l5_x130.toInt + 1))), (6, .int l6_x130), (4, .int k0_j36), (3, .int l3_x5), (0, .ref (hO 0)), (1, .int p1), (2, .int p2)])) => ?_)
                  refine lv_iinc (v := (iI (l6_x130.toInt + 1))) hx hb dX5_lay_191 hl (k := 1) rfl (iI_add2 (iI_of _) (by decide : (1 : Int32) = iI 1)) (by decide) rfl (fun ls (hl : lv_has ls _ ([(6, .int (iI (l6_x130.toInt + 1))), (5, .int (iI (l5_x130.toInt + 1))), (4, .int k0_j36), (3, .int l3_x5), (0, .ref (hO 0)), (1, .int p1), (2, .int p2)])) => ?_)
                  refine lv_goto (tgt := 130) hx hb dX5_lay_194 (by decide) ?_
                  have hl : lv_has _ _ ([(6, .int (iI (l6_x130.toInt + 1))), (5, .int (iI (l5_x130.toInt + 1))), (4, .int k0_j36), (3, .int l3_x5), (0, .ref (hO 0)), (1, .int p1), (2, .int p2)]) := lv_sub hl [0, 1, 2, 3, 4, 5, 6] rfl
                  exact ihx130 wl_979 wb_979 wG_979 (iI (l6_x130.toInt + 1)) (iI (l5_x130.toInt + 1)) _ _ _ b_wl_979 b_wb_979 (iI_rng (Int.le_trans (by decide) (Int.add_le_add (b_l6_x130.1) (Int.le_refl _))) (by omega) (by decide) (by decide)) (iI_rng (Int.le_trans (by decide) (Int.add_le_add (b_l5_x130.1) (Int.le_refl _))) (by omega) (by decide) (by decide)) (show (iI (l5_x130.toInt + 1)).toInt ≤ (iI (l6_x130.toInt + 1)).toInt from by (try rw [iI_t (E := l3_x5.toInt + 1) (by omega) (by omega)]); (try rw [iI_t (E := l4_x5.toInt + 1) (by omega) (by omega)]); (try rw [iI_t (E := l5_x130.toInt + 1) (by omega) (by omega)]); (try rw [iI_t (E := l6_x130.toInt + 1) (by omega) (by omega)]); (try rw [iI_t (E := l5_x200.toInt + 1) (by omega) (by omega)]); (try rw [iI_t (E := l6_x200.toInt + 1) (by omega) (by omega)]); omega) (by have e9 : ((iI (l6_x130.toInt + 1))).toInt = (l6_x130.toInt + 1) := (iI_t (Int.le_trans (by decide) (Int.add_le_add (b_l6_x130.1) (Int.le_refl _))) (Int.le_trans (Int.add_le_add (b_l6_x130.2) (Int.le_refl _)) (by decide))); omega) hP hD hS hl
                · have t_183 : r979.toInt = 0 := toI_nne c_183 rfl (by decide : (0 : Int32).toInt = 0)
                  refine lv_iconst (v := 0) hx hb dX5_lay_186 (by decide) ?_
                  refine W.widen (k := 0) (n := 0) (by decide +kernel) (by decide +kernel) ?_
                  exact W.zret (v := 0) hx hb hr rfl (fun t9_ ht hW => ⟨⟨(0 : Int32), (fO_start_x5, fO_column_x5, fQ_inside_674, fQ_outside_674, fQ_shut_674, iQ_rows_674, iQ_allRows_674, iQ_columns_674, wl_979, wb_979, wG_979), rfl, ⟨b_fO_column_x5, b_iQ_rows_674, b_iQ_allRows_674, b_iQ_columns_674, b_wl_979, b_wb_979, (by (try dsimp only); exact (by first | with_reducible assumption | omega | assumption)), (show 0 ≤ (0 : Int32).toInt ∧ (0 : Int32).toInt ≤ 1 from by decide), (by (try dsimp only); omega), (by (try dsimp only); omega)⟩, by rw [ht]; exact hP, hD⟩, hS.F ht⟩) hS.2.2 dX5_lay_187
            · have t_143 : ¬ p1.toInt = 0 := toI_neq c_143 rfl (by decide : (0 : Int32).toInt = 0)
              refine lv_aload_n hx hb dX5_lay_146 rfl (lv_at hl 4 rfl) ?_
              refine va_get (D := (dC, dI)) (ci := 5) (v := .ref (hM 0)) (C := RX5) (T := TX5) (N := 19) hx hb hts iwsMX5_lay_in5 hown hK hP 0 rfl rfl 0 (by decide) (hts _ hm_m_X5_lay_0) (fun _ h9 => h9) rfl dX5_lay_147 ?_
              refine va_get (D := (dC, dI)) (ci := 1) (v := .ref (aM 3)) (C := RX1) (T := TX1) (N := 17) hx hb hts iwsMX5_lay_in1 hown hK hP 11 rfl rfl 9 (by decide) (hts (.fieldLink RX5 134 "OptimaWorks$Model" "ways" "[I") (by decide +kernel)) (fun _ h9 => h9) rfl dX5_lay_150 ?_
              refine lv_iload hx hb dX5_lay_153 (lv_at hl 0 rfl) ?_
              refine va_iald (cA := kM 3) (n := 12) (f := fM_ways) hx hb hK hP 15 13 rfl rfl (vp_in_iff.mpr ⟨b_l6_x130.1, (by omega)⟩) dX5_lay_155 ?_
              refine lv_topi (fun v980 hv980 => ?_)
              have b_v980 : 0 ≤ v980.toInt ∧ v980.toInt ≤ 3 := by rw [hv980]; exact b_fM_ways _
              clear hv980
              refine lv_iconst (v := 1) hx hb dX5_lay_156 (by decide) ?_
              refine lv_icmp_ne (tgt := 191) hx hb dX5_lay_157 (by decide) (fun c_157 => ?_) (fun c_157 => ?_)
              · have t_157 : v980.toInt ≠ 1 := toI_ne c_157 rfl (by decide : (1 : Int32).toInt = 1)
                refine lv_iinc (v := (iI (l6_x130.toInt + 1))) hx hb dX5_lay_191 hl (k := 0) rfl (iI_add2 (iI_of _) (by decide : (1 : Int32) = iI 1)) (by decide) rfl (fun ls (hl : lv_has ls _ ([(6, .int (iI (l6_x130.toInt + 1))), (5, .int l5_x130), (4, .int k0_j36), (3, .int l3_x5), (0, .ref (hO 0)), (1, .int p1), (2, .int p2)])) => ?_)
                refine lv_goto (tgt := 130) hx hb dX5_lay_194 (by decide) ?_
                have hl : lv_has _ _ ([(6, .int (iI (l6_x130.toInt + 1))), (5, .int l5_x130), (4, .int k0_j36), (3, .int l3_x5), (0, .ref (hO 0)), (1, .int p1), (2, .int p2)]) := lv_sub hl [0, 1, 2, 3, 4, 5, 6] rfl
                exact ihx130 wl_x130 wb_x130 wG_x130 (iI (l6_x130.toInt + 1)) l5_x130 _ _ _ b_wl_x130 b_wb_x130 (iI_rng (Int.le_trans (by decide) (Int.add_le_add (b_l6_x130.1) (Int.le_refl _))) (by omega) (by decide) (by decide)) (b_l5_x130) (show l5_x130.toInt ≤ (iI (l6_x130.toInt + 1)).toInt from by (try rw [iI_t (E := l3_x5.toInt + 1) (by omega) (by omega)]); (try rw [iI_t (E := l4_x5.toInt + 1) (by omega) (by omega)]); (try rw [iI_t (E := l5_x130.toInt + 1) (by omega) (by omega)]); (try rw [iI_t (E := l6_x130.toInt + 1) (by omega) (by omega)]); (try rw [iI_t (E := l5_x200.toInt + 1) (by omega) (by omega)]); (try rw [iI_t (E := l6_x200.toInt + 1) (by omega) (by omega)]); omega) (by have e9 : ((iI (l6_x130.toInt + 1))).toInt = (l6_x130.toInt + 1) := (iI_t (Int.le_trans (by decide) (Int.add_le_add (b_l6_x130.1) (Int.le_refl _))) (Int.le_trans (Int.add_le_add (b_l6_x130.2) (Int.le_refl _)) (by decide))); omega) hP hD hS hl
              · have t_157 : v980.toInt = 1 := toI_nne c_157 rfl (by decide : (1 : Int32).toInt = 1)
                refine lv_aload_n hx hb dX5_lay_160 rfl (lv_at hl 4 rfl) ?_
                refine lv_iload hx hb dX5_lay_161 (lv_at hl 1 rfl) ?_
                refine lv_iload hx hb dX5_lay_163 (lv_at hl 0 rfl) ?_
                refine lv_iload_n hx hb dX5_lay_165 rfl (lv_at hl 5 rfl) ?_
                refine W.cut (pc := 180) (fun H locs ls stk => ∃ (k0_j42 : Int32), (0 ≤ k0_j42.toInt ∧ k0_j42.toInt ≤ 2) ∧  stk = [.int k0_j42, .int l6_x130, .int l5_x130, .ref (hO 0)] ∧ va_P (dC, dI) vwCl (WO hO aO kO hM hQ hw iO_answered iO_searched iO_searchedRelaxed iO_counted fO_countedCase gO_goalNumber gO_goalScale fO_start_x5 fO_column_x5 fO_chosen ++ (WM hM aM kM iM_stands iM_variables iM_rows iM_goals iM_differents iM_cases fM_from fM_to fM_whole fM_ways iM_plainRows fM_plainRow fM_kept fM_goalOver fM_goalUnder fM_goalMax fM_different ++ (WQ hQ aQ kQ hw fQ_inside_674 fQ_outside_674 fQ_shut_674 iQ_rows_674 iQ_allRows_674 iQ_columns_674 ++ (WW nW hw lw kw wl_x130 wb_x130 wG_x130)))) H ∧ va_D A (WO hO aO kO hM hQ hw iO_answered iO_searched iO_searchedRelaxed iO_counted fO_countedCase gO_goalNumber gO_goalScale fO_start_x5 fO_column_x5 fO_chosen ++ (WM hM aM kM iM_stands iM_variables iM_rows iM_goals iM_differents iM_cases fM_from fM_to fM_whole fM_ways iM_plainRows fM_plainRow fM_kept fM_goalOver fM_goalUnder fM_goalMax fM_different ++ (WQ hQ aQ kQ hw fQ_inside_674 fQ_outside_674 fQ_shut_674 iQ_rows_674 iQ_allRows_674 iQ_columns_674 ++ (WW nW hw lw kw wl_x130 wb_x130 wG_x130)))) ∧ va_S A s.heap H locs ∧ lv_has ls 7 [(6, .int l6_x130), (5, .int l5_x130), (4, .int k0_j36), (3, .int l3_x5), (0, .ref (hO 0)), (1, .int p1), (2, .int p2)]) (fun join42 => ?_) ?_
                · refine lv_if_eq (tgt := 173) hx hb dX5_lay_166 (by decide) (fun c_166 => ?_) (fun c_166 => ?_)
                  · have t_166 : p1.toInt = 0 := toI_eq c_166 rfl (by decide : (0 : Int32).toInt = 0)
                    refine lv_aload_n hx hb dX5_lay_173 rfl (lv_at hl 4 rfl) ?_
                    refine va_get (D := (dC, dI)) (ci := 5) (v := .ref (aO 5)) (C := RX5) (T := TX5) (N := 19) hx hb hts iwsMX5_lay_in5 hown hK hP 0 rfl rfl 11 (by decide) (hts _ hm_m_X5_lay_6) (fun _ h9 => h9) rfl dX5_lay_174 ?_
                    refine lv_iload hx hb dX5_lay_177 (lv_at hl 0 rfl) ?_
                    refine va_iald (cA := kO 5) (n := 12) (f := fO_chosen) hx hb hK hP 6 5 rfl rfl (vp_in_iff.mpr ⟨b_l6_x130.1, (by omega)⟩) dX5_lay_179 ?_
                    refine lv_topi (fun v982 hv982 => ?_)
                    have b_v982 : 0 ≤ v982.toInt ∧ v982.toInt ≤ 2 := by rw [hv982]; exact b_fO_chosen _
                    clear hv982
                    have hl : lv_has _ _ ([(6, .int l6_x130), (5, .int l5_x130), (4, .int k0_j36), (3, .int l3_x5), (0, .ref (hO 0)), (1, .int p1), (2, .int p2)]) := lv_sub hl [0, 1, 2, 3, 4, 5, 6] rfl
                    exact join42 _ _ _ _ ⟨v982, (b_v982), rfl, hP, hD, hS, hl⟩
                  · have t_166 : ¬ p1.toInt = 0 := toI_neq c_166 rfl (by decide : (0 : Int32).toInt = 0)
                    refine lv_iconst (v := 0) hx hb dX5_lay_169 (by decide) ?_
                    refine lv_goto (tgt := 180) hx hb dX5_lay_170 (by decide) ?_
                    have hl : lv_has _ _ ([(6, .int l6_x130), (5, .int l5_x130), (4, .int k0_j36), (3, .int l3_x5), (0, .ref (hO 0)), (1, .int p1), (2, .int p2)]) := lv_sub hl [0, 1, 2, 3, 4, 5, 6] rfl
                    exact join42 _ _ _ _ ⟨0, (show 0 ≤ (0 : Int32).toInt ∧ (0 : Int32).toInt ≤ 2 from by decide), rfl, hP, hD, hS, hl⟩
                · rintro H locs ls stk ⟨k0_j42, b_k0_j42, rfl, hP, hD, hS, hl⟩
                  have hFc := allFree hD hS hA
                  refine va_calli (va_runV (As := [.int l5_x130, .int l6_x130, .int k0_j42]) (rest := []) ⟨hx, hb, hml, hown, hts⟩ (m_X5_layWay l dC dI hO aO kO hM hQ hw iO_answered iO_searched iO_searchedRelaxed iO_counted fO_countedCase gO_goalNumber gO_goalScale fO_start_x5 fO_column_x5 fO_chosen aM kM iM_stands iM_variables iM_rows iM_goals iM_differents iM_cases fM_from fM_to fM_whole fM_ways iM_plainRows fM_plainRow fM_kept fM_goalOver fM_goalUnder fM_goalMax fM_different aQ kQ fQ_inside_674 fQ_outside_674 fQ_shut_674 iQ_rows_674 iQ_allRows_674 iQ_columns_674 nW lw kw wl_x130 wb_x130 wG_x130 l5_x130 l6_x130 k0_j42 (b_iO_answered) (b_iO_searched) (b_iO_searchedRelaxed) (b_iO_counted) b_fO_countedCase b_fO_column_x5 b_fO_chosen (b_iM_stands) (b_iM_variables) (b_iM_rows) (b_iM_goals) (b_iM_differents) (b_iM_cases) b_fM_ways (b_iM_plainRows) b_fM_plainRow (by first | with_reducible assumption | omega | assumption) (b_iQ_rows_674) (b_iQ_allRows_674) (b_iQ_columns_674) (by first | with_reducible assumption | omega | assumption) b_wl_x130 b_wb_x130 (⟨b_l5_x130.1, Int.le_trans b_l5_x130.2 (by decide)⟩) (by first | exact b_l6_x130 | with_reducible assumption | exact ⟨by omega, by omega⟩ | assumption) (b_k0_j42) (by omega) (by omega) H.size) (cwV 3 hts gwsMX5_lay_4 rfl rfl rfl hd_yX5_layWay_RX5 (by decide +kernel)) (fz_pre (va_recv hK hP (ci := 5) (q0 := 0) rfl rfl) hP hK hD) rfl rfl hl.1 rfl (lv_room (Nat.le_of_ble_eq_true rfl)) dX5_lay_180 (by decide +kernel)) hS (fun q _ h => hFc q h) hFc (fun r983 u t9_ H locs ht hvm hw9 hB9 hz1 hk1 hS => ?_)
                  revert u hw9 hB9
                  refine fz_p3 ?_
                  intro wl_983 wb_983 wG_983 hw9 hB9
                  try dsimp only at hw9 hB9
                  revert hw9
                  refine fz_a3 ?_
                  intro b_wl_983 b_wb_983 b_r983
                  have hP : va_P (dC, dI) vwCl (WO hO aO kO hM hQ hw iO_answered iO_searched iO_searchedRelaxed iO_counted fO_countedCase gO_goalNumber gO_goalScale fO_start_x5 fO_column_x5 fO_chosen ++ (WM hM aM kM iM_stands iM_variables iM_rows iM_goals iM_differents iM_cases fM_from fM_to fM_whole fM_ways iM_plainRows fM_plainRow fM_kept fM_goalOver fM_goalUnder fM_goalMax fM_different ++ (WQ hQ aQ kQ hw fQ_inside_674 fQ_outside_674 fQ_shut_674 iQ_rows_674 iQ_allRows_674 iQ_columns_674 ++ (WW nW hw lw kw wl_983 wb_983 wG_983)))) H := fz_P ht hB9.1
                  have hD := fz_sd hP (hB9.2.weaken (fun _ q _ h => hFc q.1 h)) rfl
                  refine lv_if_ne (tgt := 188) hx hb dX5_lay_183 (by decide) (fun c_183 => ?_) (fun c_183 => ?_)
                  · have t_183 : r983.toInt ≠ 0 := toI_ne c_183 rfl (by decide : (0 : Int32).toInt = 0)
                    refine lv_iinc (v := (iI (l5_x130.toInt + 1))) hx hb dX5_lay_188 hl (k := 1) rfl (iI_add2 (iI_of _) (by decide : (1 : Int32) = iI 1)) (by decide) rfl (fun ls (hl : lv_has ls _ ([(5, .int (iI (l5_x130.toInt + 1))), (6, .int l6_x130), (4, .int k0_j36), (3, .int l3_x5), (0, .ref (hO 0)), (1, .int p1), (2, .int p2)])) => ?_)
                    refine lv_iinc (v := (iI (l6_x130.toInt + 1))) hx hb dX5_lay_191 hl (k := 1) rfl (iI_add2 (iI_of _) (by decide : (1 : Int32) = iI 1)) (by decide) rfl (fun ls (hl : lv_has ls _ ([(6, .int (iI (l6_x130.toInt + 1))), (5, .int (iI (l5_x130.toInt + 1))), (4, .int k0_j36), (3, .int l3_x5), (0, .ref (hO 0)), (1, .int p1), (2, .int p2)])) => ?_)
                    refine lv_goto (tgt := 130) hx hb dX5_lay_194 (by decide) ?_
                    have hl : lv_has _ _ ([(6, .int (iI (l6_x130.toInt + 1))), (5, .int (iI (l5_x130.toInt + 1))), (4, .int k0_j36), (3, .int l3_x5), (0, .ref (hO 0)), (1, .int p1), (2, .int p2)]) := lv_sub hl [0, 1, 2, 3, 4, 5, 6] rfl
                    exact ihx130 wl_983 wb_983 wG_983 (iI (l6_x130.toInt + 1)) (iI (l5_x130.toInt + 1)) _ _ _ b_wl_983 b_wb_983 (iI_rng (Int.le_trans (by decide) (Int.add_le_add (b_l6_x130.1) (Int.le_refl _))) (by omega) (by decide) (by decide)) (iI_rng (Int.le_trans (by decide) (Int.add_le_add (b_l5_x130.1) (Int.le_refl _))) (by omega) (by decide) (by decide)) (show (iI (l5_x130.toInt + 1)).toInt ≤ (iI (l6_x130.toInt + 1)).toInt from by (try rw [iI_t (E := l3_x5.toInt + 1) (by omega) (by omega)]); (try rw [iI_t (E := l4_x5.toInt + 1) (by omega) (by omega)]); (try rw [iI_t (E := l5_x130.toInt + 1) (by omega) (by omega)]); (try rw [iI_t (E := l6_x130.toInt + 1) (by omega) (by omega)]); (try rw [iI_t (E := l5_x200.toInt + 1) (by omega) (by omega)]); (try rw [iI_t (E := l6_x200.toInt + 1) (by omega) (by omega)]); omega) (by have e9 : ((iI (l6_x130.toInt + 1))).toInt = (l6_x130.toInt + 1) := (iI_t (Int.le_trans (by decide) (Int.add_le_add (b_l6_x130.1) (Int.le_refl _))) (Int.le_trans (Int.add_le_add (b_l6_x130.2) (Int.le_refl _)) (by decide))); omega) hP hD hS hl
                  · have t_183 : r983.toInt = 0 := toI_nne c_183 rfl (by decide : (0 : Int32).toInt = 0)
                    refine lv_iconst (v := 0) hx hb dX5_lay_186 (by decide) ?_
                    refine W.widen (k := 0) (n := 0) (by decide +kernel) (by decide +kernel) ?_
                    exact W.zret (v := 0) hx hb hr rfl (fun t9_ ht hW => ⟨⟨(0 : Int32), (fO_start_x5, fO_column_x5, fQ_inside_674, fQ_outside_674, fQ_shut_674, iQ_rows_674, iQ_allRows_674, iQ_columns_674, wl_983, wb_983, wG_983), rfl, ⟨b_fO_column_x5, b_iQ_rows_674, b_iQ_allRows_674, b_iQ_columns_674, b_wl_983, b_wb_983, (by (try dsimp only); exact (by first | with_reducible assumption | omega | assumption)), (show 0 ≤ (0 : Int32).toInt ∧ (0 : Int32).toInt ≤ 1 from by decide), (by (try dsimp only); omega), (by (try dsimp only); omega)⟩, by rw [ht]; exact hP, hD⟩, hS.F ht⟩) hS.2.2 dX5_lay_187
    · have t_14 : ¬ l4_x5.toInt ≥ iM_variables.toInt := toI_nge c_14 rfl rfl
      refine lv_iload_n hx hb dX5_lay_17 rfl (lv_at hl 3 rfl) ?_
      refine lv_if_ne (tgt := 34) hx hb dX5_lay_18 (by decide) (fun c_18 => ?_) (fun c_18 => ?_)
      · have t_18 : p1.toInt ≠ 0 := toI_ne c_18 rfl (by decide : (0 : Int32).toInt = 0)
        refine lv_iconst (v := 1) hx hb dX5_lay_34 (by decide) ?_
        refine lv_goto (tgt := 39) hx hb dX5_lay_35 (by decide) ?_
        refine lv_istore hx hb dX5_lay_39 hl (by decide) rfl (fun ls (hl : lv_has ls _ ([(5, .int 1), (4, .int l4_x5), (3, .int l3_x5), (0, .ref (hO 0)), (1, .int p1), (2, .int p2)])) => ?_)
        refine lv_aload_n hx hb dX5_lay_41 rfl (lv_at hl 3 rfl) ?_
        refine va_get (D := (dC, dI)) (ci := 5) (v := .ref (aO 4)) (C := RX5) (T := TX5) (N := 19) hx hb hts iwsMX5_lay_in5 hown hK hP 0 rfl rfl 10 (by decide) (hts _ hm_m_X5_lay_4) (fun _ h9 => h9) rfl dX5_lay_42 ?_
        refine lv_iload hx hb dX5_lay_45 (lv_at hl 1 rfl) ?_
        refine lv_iload hx hb dX5_lay_47 (lv_at hl 0 rfl) ?_
        refine lv_if_eq (tgt := 59) hx hb dX5_lay_49 (by decide) (fun c9 => absurd c9 (by decide)) (fun _ => ?_)
        refine lv_iinc (v := (iI (l3_x5.toInt + 1))) hx hb dX5_lay_52 hl (k := 2) rfl (iI_add2 (iI_of _) (by decide : (1 : Int32) = iI 1)) (by decide) rfl (fun ls (hl : lv_has ls _ ([(3, .int (iI (l3_x5.toInt + 1))), (5, .int 1), (4, .int l4_x5), (0, .ref (hO 0)), (1, .int p1), (2, .int p2)])) => ?_)
        refine lv_iload_n hx hb dX5_lay_55 rfl (lv_at hl 0 rfl) ?_
        refine lv_goto (tgt := 60) hx hb dX5_lay_56 (by decide) ?_
        refine va_iast (cA := kO 4) (n := 8) (f := fO_column_x5) hx hb hK hP hD hS 5 4 rfl rfl (vp_in_iff.mpr ⟨b_l4_x5.1, (Int.lt_of_lt_of_le (Int.not_le.mp t_14) (Int.le_trans b_iM_variables.2 (by decide)))⟩) dX5_lay_60 (fun H locs hP hD hS => ?_)
        obtain ⟨u984, hu984⟩ : ∃ f9, f9 = upd fO_column_x5 (l4_x5).toNatClampNeg (iI (l3_x5.toInt + 1)) := ⟨_, rfl⟩
        have hP : va_P (dC, dI) vwCl (WO hO aO kO hM hQ hw iO_answered iO_searched iO_searchedRelaxed iO_counted fO_countedCase gO_goalNumber gO_goalScale fO_start_x5 u984 fO_chosen ++ (WM hM aM kM iM_stands iM_variables iM_rows iM_goals iM_differents iM_cases fM_from fM_to fM_whole fM_ways iM_plainRows fM_plainRow fM_kept fM_goalOver fM_goalUnder fM_goalMax fM_different ++ (WQ hQ aQ kQ hw fQ_inside fQ_outside fQ_shut iQ_rows iQ_allRows iQ_columns ++ (WW nW hw lw kw wl wb wG)))) H := by rw [hu984]; exact hP
        have hD : va_D A (WO hO aO kO hM hQ hw iO_answered iO_searched iO_searchedRelaxed iO_counted fO_countedCase gO_goalNumber gO_goalScale fO_start_x5 u984 fO_chosen ++ (WM hM aM kM iM_stands iM_variables iM_rows iM_goals iM_differents iM_cases fM_from fM_to fM_whole fM_ways iM_plainRows fM_plainRow fM_kept fM_goalOver fM_goalUnder fM_goalMax fM_different ++ (WQ hQ aQ kQ hw fQ_inside fQ_outside fQ_shut iQ_rows iQ_allRows iQ_columns ++ (WW nW hw lw kw wl wb wG)))) := by rw [hu984]; exact hD
        have b_u984 : ∀ q : Nat, (-1) ≤ (u984 q).toInt ∧ (u984 q).toInt ≤ 8 := by rw [hu984]; exact upd_r b_fO_column_x5 (iI_rng (Int.le_trans (by decide) (Int.add_le_add (b_l3_x5.1) (Int.le_refl _))) (by omega) (by decide) (by decide))
        clear hu984
        refine lv_iload_n hx hb dX5_lay_61 rfl (lv_at hl 4 rfl) ?_
        refine lv_if_eq (tgt := 82) hx hb dX5_lay_62 (by decide) (fun c_62 => ?_) (fun c_62 => ?_)
        · have t_62 : p1.toInt = 0 := toI_eq c_62 rfl (by decide : (0 : Int32).toInt = 0)
          refine lv_iinc (v := (iI (l4_x5.toInt + 1))) hx hb dX5_lay_82 hl (k := 2) rfl (iI_add2 (iI_of _) (by decide : (1 : Int32) = iI 1)) (by decide) rfl (fun ls (hl : lv_has ls _ ([(4, .int (iI (l4_x5.toInt + 1))), (3, .int (iI (l3_x5.toInt + 1))), (5, .int 1), (0, .ref (hO 0)), (1, .int p1), (2, .int p2)])) => ?_)
          refine lv_goto (tgt := 5) hx hb dX5_lay_85 (by decide) ?_
          have hl : lv_has _ _ ([(4, .int (iI (l4_x5.toInt + 1))), (3, .int (iI (l3_x5.toInt + 1))), (0, .ref (hO 0)), (1, .int p1), (2, .int p2)]) := lv_sub hl [0, 1, 3, 4, 5] rfl
          exact ihx5 fO_start_x5 u984 (iI (l4_x5.toInt + 1)) (iI (l3_x5.toInt + 1)) _ _ _ b_u984 (iI_rng (Int.le_trans (by decide) (Int.add_le_add (b_l4_x5.1) (Int.le_refl _))) (by omega) (by decide) (by decide)) (iI_rng (Int.le_trans (by decide) (Int.add_le_add (b_l3_x5.1) (Int.le_refl _))) (by omega) (by decide) (by decide)) (show (iI (l3_x5.toInt + 1)).toInt ≤ (iI (l4_x5.toInt + 1)).toInt from by (try rw [iI_t (E := l3_x5.toInt + 1) (by omega) (by omega)]); (try rw [iI_t (E := l4_x5.toInt + 1) (by omega) (by omega)]); (try rw [iI_t (E := l5_x130.toInt + 1) (by omega) (by omega)]); (try rw [iI_t (E := l6_x130.toInt + 1) (by omega) (by omega)]); (try rw [iI_t (E := l5_x200.toInt + 1) (by omega) (by omega)]); (try rw [iI_t (E := l6_x200.toInt + 1) (by omega) (by omega)]); omega) (by have e9 : ((iI (l4_x5.toInt + 1))).toInt = (l4_x5.toInt + 1) := (iI_t (Int.le_trans (by decide) (Int.add_le_add (b_l4_x5.1) (Int.le_refl _))) (Int.le_trans (Int.add_le_add (b_l4_x5.2) (Int.le_refl _)) (by decide))); omega) hP hD hS hl
        · have t_62 : ¬ p1.toInt = 0 := toI_neq c_62 rfl (by decide : (0 : Int32).toInt = 0)
          refine lv_aload_n hx hb dX5_lay_65 rfl (lv_at hl 3 rfl) ?_
          refine va_get (D := (dC, dI)) (ci := 5) (v := .ref (aO 3)) (C := RX5) (T := TX5) (N := 19) hx hb hts iwsMX5_lay_in5 hown hK hP 0 rfl rfl 9 (by decide) (hts _ hm_m_X5_lay_7) (fun _ h9 => h9) rfl dX5_lay_66 ?_
          refine lv_iload hx hb dX5_lay_69 (lv_at hl 2 rfl) ?_
          refine lv_aload_n hx hb dX5_lay_71 rfl (lv_at hl 3 rfl) ?_
          refine va_get (D := (dC, dI)) (ci := 5) (v := .ref (hM 0)) (C := RX5) (T := TX5) (N := 19) hx hb hts iwsMX5_lay_in5 hown hK hP 0 rfl rfl 0 (by decide) (hts _ hm_m_X5_lay_0) (fun _ h9 => h9) rfl dX5_lay_72 ?_
          refine va_get (D := (dC, dI)) (ci := 1) (v := .ref (aM 0)) (C := RX1) (T := TX1) (N := 17) hx hb hts iwsMX5_lay_in1 hown hK hP 11 rfl rfl 6 (by decide) (hts _ hm_m_X5_lay_5) (fun _ h9 => h9) rfl dX5_lay_75 ?_
          refine lv_iload hx hb dX5_lay_78 (lv_at hl 2 rfl) ?_
          refine va_iald (cA := kM 0) (n := 8) (f := fM_from) hx hb hK hP 12 10 rfl rfl (vp_in_iff.mpr ⟨b_l4_x5.1, (Int.lt_of_lt_of_le (Int.not_le.mp t_14) (Int.le_trans b_iM_variables.2 (by decide)))⟩) dX5_lay_80 ?_
          refine lv_topi (fun v985 hv985 => ?_)
          clear hv985
          refine va_iast (cA := kO 3) (n := 8) (f := fO_start_x5) hx hb hK hP hD hS 4 3 rfl rfl (vp_in_iff.mpr ⟨b_l4_x5.1, (Int.lt_of_lt_of_le (Int.not_le.mp t_14) (Int.le_trans b_iM_variables.2 (by decide)))⟩) dX5_lay_81 (fun H locs hP hD hS => ?_)
          obtain ⟨u986, hu986⟩ : ∃ f9, f9 = upd fO_start_x5 (l4_x5).toNatClampNeg v985 := ⟨_, rfl⟩
          have hP : va_P (dC, dI) vwCl (WO hO aO kO hM hQ hw iO_answered iO_searched iO_searchedRelaxed iO_counted fO_countedCase gO_goalNumber gO_goalScale u986 u984 fO_chosen ++ (WM hM aM kM iM_stands iM_variables iM_rows iM_goals iM_differents iM_cases fM_from fM_to fM_whole fM_ways iM_plainRows fM_plainRow fM_kept fM_goalOver fM_goalUnder fM_goalMax fM_different ++ (WQ hQ aQ kQ hw fQ_inside fQ_outside fQ_shut iQ_rows iQ_allRows iQ_columns ++ (WW nW hw lw kw wl wb wG)))) H := by rw [hu986]; exact hP
          have hD : va_D A (WO hO aO kO hM hQ hw iO_answered iO_searched iO_searchedRelaxed iO_counted fO_countedCase gO_goalNumber gO_goalScale u986 u984 fO_chosen ++ (WM hM aM kM iM_stands iM_variables iM_rows iM_goals iM_differents iM_cases fM_from fM_to fM_whole fM_ways iM_plainRows fM_plainRow fM_kept fM_goalOver fM_goalUnder fM_goalMax fM_different ++ (WQ hQ aQ kQ hw fQ_inside fQ_outside fQ_shut iQ_rows iQ_allRows iQ_columns ++ (WW nW hw lw kw wl wb wG)))) := by rw [hu986]; exact hD
          clear hu986
          refine lv_iinc (v := (iI (l4_x5.toInt + 1))) hx hb dX5_lay_82 hl (k := 2) rfl (iI_add2 (iI_of _) (by decide : (1 : Int32) = iI 1)) (by decide) rfl (fun ls (hl : lv_has ls _ ([(4, .int (iI (l4_x5.toInt + 1))), (3, .int (iI (l3_x5.toInt + 1))), (5, .int 1), (0, .ref (hO 0)), (1, .int p1), (2, .int p2)])) => ?_)
          refine lv_goto (tgt := 5) hx hb dX5_lay_85 (by decide) ?_
          have hl : lv_has _ _ ([(4, .int (iI (l4_x5.toInt + 1))), (3, .int (iI (l3_x5.toInt + 1))), (0, .ref (hO 0)), (1, .int p1), (2, .int p2)]) := lv_sub hl [0, 1, 3, 4, 5] rfl
          exact ihx5 u986 u984 (iI (l4_x5.toInt + 1)) (iI (l3_x5.toInt + 1)) _ _ _ b_u984 (iI_rng (Int.le_trans (by decide) (Int.add_le_add (b_l4_x5.1) (Int.le_refl _))) (by omega) (by decide) (by decide)) (iI_rng (Int.le_trans (by decide) (Int.add_le_add (b_l3_x5.1) (Int.le_refl _))) (by omega) (by decide) (by decide)) (show (iI (l3_x5.toInt + 1)).toInt ≤ (iI (l4_x5.toInt + 1)).toInt from by (try rw [iI_t (E := l3_x5.toInt + 1) (by omega) (by omega)]); (try rw [iI_t (E := l4_x5.toInt + 1) (by omega) (by omega)]); (try rw [iI_t (E := l5_x130.toInt + 1) (by omega) (by omega)]); (try rw [iI_t (E := l6_x130.toInt + 1) (by omega) (by omega)]); (try rw [iI_t (E := l5_x200.toInt + 1) (by omega) (by omega)]); (try rw [iI_t (E := l6_x200.toInt + 1) (by omega) (by omega)]); omega) (by have e9 : ((iI (l4_x5.toInt + 1))).toInt = (l4_x5.toInt + 1) := (iI_t (Int.le_trans (by decide) (Int.add_le_add (b_l4_x5.1) (Int.le_refl _))) (Int.le_trans (Int.add_le_add (b_l4_x5.2) (Int.le_refl _)) (by decide))); omega) hP hD hS hl
      · have t_18 : p1.toInt = 0 := toI_nne c_18 rfl (by decide : (0 : Int32).toInt = 0)
        refine lv_aload_n hx hb dX5_lay_21 rfl (lv_at hl 2 rfl) ?_
        refine va_get (D := (dC, dI)) (ci := 5) (v := .ref (hM 0)) (C := RX5) (T := TX5) (N := 19) hx hb hts iwsMX5_lay_in5 hown hK hP 0 rfl rfl 0 (by decide) (hts _ hm_m_X5_lay_0) (fun _ h9 => h9) rfl dX5_lay_22 ?_
        refine va_get (D := (dC, dI)) (ci := 1) (v := .ref (aM 2)) (C := RX1) (T := TX1) (N := 17) hx hb hts iwsMX5_lay_in1 hown hK hP 11 rfl rfl 8 (by decide) (hts (.fieldLink RX5 143 "OptimaWorks$Model" "whole" "[Z") (by decide +kernel)) (fun _ h9 => h9) rfl dX5_lay_25 ?_
        refine lv_iload hx hb dX5_lay_28 (lv_at hl 0 rfl) ?_
        refine va_zald (cA := kM 2) (n := 8) (f := fM_whole) hx hb hK hP 14 12 rfl rfl (vp_in_iff.mpr ⟨b_l4_x5.1, (Int.lt_of_lt_of_le (Int.not_le.mp t_14) (Int.le_trans b_iM_variables.2 (by decide)))⟩) dX5_lay_30 ?_
        refine lv_topi (fun v987 hv987 => ?_)
        clear hv987
        refine lv_if_ne (tgt := 38) hx hb dX5_lay_31 (by decide) (fun c_31 => ?_) (fun c_31 => ?_)
        · have t_31 : v987.toInt ≠ 0 := toI_ne c_31 rfl (by decide : (0 : Int32).toInt = 0)
          refine lv_iconst (v := 0) hx hb dX5_lay_38 (by decide) ?_
          refine lv_istore hx hb dX5_lay_39 hl (by decide) rfl (fun ls (hl : lv_has ls _ ([(5, .int 0), (4, .int l4_x5), (3, .int l3_x5), (0, .ref (hO 0)), (1, .int p1), (2, .int p2)])) => ?_)
          refine lv_aload_n hx hb dX5_lay_41 rfl (lv_at hl 3 rfl) ?_
          refine va_get (D := (dC, dI)) (ci := 5) (v := .ref (aO 4)) (C := RX5) (T := TX5) (N := 19) hx hb hts iwsMX5_lay_in5 hown hK hP 0 rfl rfl 10 (by decide) (hts _ hm_m_X5_lay_4) (fun _ h9 => h9) rfl dX5_lay_42 ?_
          refine lv_iload hx hb dX5_lay_45 (lv_at hl 1 rfl) ?_
          refine lv_iload hx hb dX5_lay_47 (lv_at hl 0 rfl) ?_
          refine lv_if_eq (tgt := 59) hx hb dX5_lay_49 (by decide) (fun _ => ?_) (fun c9 => absurd (by decide) c9)
          refine lv_iconst (v := (-1)) hx hb dX5_lay_59 (by decide) ?_
          refine va_iast (cA := kO 4) (n := 8) (f := fO_column_x5) hx hb hK hP hD hS 5 4 rfl rfl (vp_in_iff.mpr ⟨b_l4_x5.1, (Int.lt_of_lt_of_le (Int.not_le.mp t_14) (Int.le_trans b_iM_variables.2 (by decide)))⟩) dX5_lay_60 (fun H locs hP hD hS => ?_)
          obtain ⟨u988, hu988⟩ : ∃ f9, f9 = upd fO_column_x5 (l4_x5).toNatClampNeg ((-1) : Int32) := ⟨_, rfl⟩
          have hP : va_P (dC, dI) vwCl (WO hO aO kO hM hQ hw iO_answered iO_searched iO_searchedRelaxed iO_counted fO_countedCase gO_goalNumber gO_goalScale fO_start_x5 u988 fO_chosen ++ (WM hM aM kM iM_stands iM_variables iM_rows iM_goals iM_differents iM_cases fM_from fM_to fM_whole fM_ways iM_plainRows fM_plainRow fM_kept fM_goalOver fM_goalUnder fM_goalMax fM_different ++ (WQ hQ aQ kQ hw fQ_inside fQ_outside fQ_shut iQ_rows iQ_allRows iQ_columns ++ (WW nW hw lw kw wl wb wG)))) H := by rw [hu988]; exact hP
          have hD : va_D A (WO hO aO kO hM hQ hw iO_answered iO_searched iO_searchedRelaxed iO_counted fO_countedCase gO_goalNumber gO_goalScale fO_start_x5 u988 fO_chosen ++ (WM hM aM kM iM_stands iM_variables iM_rows iM_goals iM_differents iM_cases fM_from fM_to fM_whole fM_ways iM_plainRows fM_plainRow fM_kept fM_goalOver fM_goalUnder fM_goalMax fM_different ++ (WQ hQ aQ kQ hw fQ_inside fQ_outside fQ_shut iQ_rows iQ_allRows iQ_columns ++ (WW nW hw lw kw wl wb wG)))) := by rw [hu988]; exact hD
          have b_u988 : ∀ q : Nat, (-1) ≤ (u988 q).toInt ∧ (u988 q).toInt ≤ 8 := by rw [hu988]; exact upd_r b_fO_column_x5 (show (-1) ≤ ((-1) : Int32).toInt ∧ ((-1) : Int32).toInt ≤ 8 from by decide)
          clear hu988
          refine lv_iload_n hx hb dX5_lay_61 rfl (lv_at hl 4 rfl) ?_
          refine lv_if_eq (tgt := 82) hx hb dX5_lay_62 (by decide) (fun c_62 => ?_) (fun c_62 => ?_)
          · have t_62 : p1.toInt = 0 := toI_eq c_62 rfl (by decide : (0 : Int32).toInt = 0)
            refine lv_iinc (v := (iI (l4_x5.toInt + 1))) hx hb dX5_lay_82 hl (k := 1) rfl (iI_add2 (iI_of _) (by decide : (1 : Int32) = iI 1)) (by decide) rfl (fun ls (hl : lv_has ls _ ([(4, .int (iI (l4_x5.toInt + 1))), (5, .int 0), (3, .int l3_x5), (0, .ref (hO 0)), (1, .int p1), (2, .int p2)])) => ?_)
            refine lv_goto (tgt := 5) hx hb dX5_lay_85 (by decide) ?_
            have hl : lv_has _ _ ([(4, .int (iI (l4_x5.toInt + 1))), (3, .int l3_x5), (0, .ref (hO 0)), (1, .int p1), (2, .int p2)]) := lv_sub hl [0, 2, 3, 4, 5] rfl
            exact ihx5 fO_start_x5 u988 (iI (l4_x5.toInt + 1)) l3_x5 _ _ _ b_u988 (iI_rng (Int.le_trans (by decide) (Int.add_le_add (b_l4_x5.1) (Int.le_refl _))) (by omega) (by decide) (by decide)) (b_l3_x5) (show l3_x5.toInt ≤ (iI (l4_x5.toInt + 1)).toInt from by (try rw [iI_t (E := l3_x5.toInt + 1) (by omega) (by omega)]); (try rw [iI_t (E := l4_x5.toInt + 1) (by omega) (by omega)]); (try rw [iI_t (E := l5_x130.toInt + 1) (by omega) (by omega)]); (try rw [iI_t (E := l6_x130.toInt + 1) (by omega) (by omega)]); (try rw [iI_t (E := l5_x200.toInt + 1) (by omega) (by omega)]); (try rw [iI_t (E := l6_x200.toInt + 1) (by omega) (by omega)]); omega) (by have e9 : ((iI (l4_x5.toInt + 1))).toInt = (l4_x5.toInt + 1) := (iI_t (Int.le_trans (by decide) (Int.add_le_add (b_l4_x5.1) (Int.le_refl _))) (Int.le_trans (Int.add_le_add (b_l4_x5.2) (Int.le_refl _)) (by decide))); omega) hP hD hS hl
          · have t_62 : ¬ p1.toInt = 0 := toI_neq c_62 rfl (by decide : (0 : Int32).toInt = 0)
            refine lv_aload_n hx hb dX5_lay_65 rfl (lv_at hl 3 rfl) ?_
            refine va_get (D := (dC, dI)) (ci := 5) (v := .ref (aO 3)) (C := RX5) (T := TX5) (N := 19) hx hb hts iwsMX5_lay_in5 hown hK hP 0 rfl rfl 9 (by decide) (hts _ hm_m_X5_lay_7) (fun _ h9 => h9) rfl dX5_lay_66 ?_
            refine lv_iload hx hb dX5_lay_69 (lv_at hl 1 rfl) ?_
            refine lv_aload_n hx hb dX5_lay_71 rfl (lv_at hl 3 rfl) ?_
            refine va_get (D := (dC, dI)) (ci := 5) (v := .ref (hM 0)) (C := RX5) (T := TX5) (N := 19) hx hb hts iwsMX5_lay_in5 hown hK hP 0 rfl rfl 0 (by decide) (hts _ hm_m_X5_lay_0) (fun _ h9 => h9) rfl dX5_lay_72 ?_
            refine va_get (D := (dC, dI)) (ci := 1) (v := .ref (aM 0)) (C := RX1) (T := TX1) (N := 17) hx hb hts iwsMX5_lay_in1 hown hK hP 11 rfl rfl 6 (by decide) (hts _ hm_m_X5_lay_5) (fun _ h9 => h9) rfl dX5_lay_75 ?_
            refine lv_iload hx hb dX5_lay_78 (lv_at hl 1 rfl) ?_
            refine va_iald (cA := kM 0) (n := 8) (f := fM_from) hx hb hK hP 12 10 rfl rfl (vp_in_iff.mpr ⟨b_l4_x5.1, (Int.lt_of_lt_of_le (Int.not_le.mp t_14) (Int.le_trans b_iM_variables.2 (by decide)))⟩) dX5_lay_80 ?_
            refine lv_topi (fun v989 hv989 => ?_)
            clear hv989
            refine va_iast (cA := kO 3) (n := 8) (f := fO_start_x5) hx hb hK hP hD hS 4 3 rfl rfl (vp_in_iff.mpr ⟨b_l4_x5.1, (Int.lt_of_lt_of_le (Int.not_le.mp t_14) (Int.le_trans b_iM_variables.2 (by decide)))⟩) dX5_lay_81 (fun H locs hP hD hS => ?_)
            obtain ⟨u990, hu990⟩ : ∃ f9, f9 = upd fO_start_x5 (l4_x5).toNatClampNeg v989 := ⟨_, rfl⟩
            have hP : va_P (dC, dI) vwCl (WO hO aO kO hM hQ hw iO_answered iO_searched iO_searchedRelaxed iO_counted fO_countedCase gO_goalNumber gO_goalScale u990 u988 fO_chosen ++ (WM hM aM kM iM_stands iM_variables iM_rows iM_goals iM_differents iM_cases fM_from fM_to fM_whole fM_ways iM_plainRows fM_plainRow fM_kept fM_goalOver fM_goalUnder fM_goalMax fM_different ++ (WQ hQ aQ kQ hw fQ_inside fQ_outside fQ_shut iQ_rows iQ_allRows iQ_columns ++ (WW nW hw lw kw wl wb wG)))) H := by rw [hu990]; exact hP
            have hD : va_D A (WO hO aO kO hM hQ hw iO_answered iO_searched iO_searchedRelaxed iO_counted fO_countedCase gO_goalNumber gO_goalScale u990 u988 fO_chosen ++ (WM hM aM kM iM_stands iM_variables iM_rows iM_goals iM_differents iM_cases fM_from fM_to fM_whole fM_ways iM_plainRows fM_plainRow fM_kept fM_goalOver fM_goalUnder fM_goalMax fM_different ++ (WQ hQ aQ kQ hw fQ_inside fQ_outside fQ_shut iQ_rows iQ_allRows iQ_columns ++ (WW nW hw lw kw wl wb wG)))) := by rw [hu990]; exact hD
            clear hu990
            refine lv_iinc (v := (iI (l4_x5.toInt + 1))) hx hb dX5_lay_82 hl (k := 1) rfl (iI_add2 (iI_of _) (by decide : (1 : Int32) = iI 1)) (by decide) rfl (fun ls (hl : lv_has ls _ ([(4, .int (iI (l4_x5.toInt + 1))), (5, .int 0), (3, .int l3_x5), (0, .ref (hO 0)), (1, .int p1), (2, .int p2)])) => ?_)
            refine lv_goto (tgt := 5) hx hb dX5_lay_85 (by decide) ?_
            have hl : lv_has _ _ ([(4, .int (iI (l4_x5.toInt + 1))), (3, .int l3_x5), (0, .ref (hO 0)), (1, .int p1), (2, .int p2)]) := lv_sub hl [0, 2, 3, 4, 5] rfl
            exact ihx5 u990 u988 (iI (l4_x5.toInt + 1)) l3_x5 _ _ _ b_u988 (iI_rng (Int.le_trans (by decide) (Int.add_le_add (b_l4_x5.1) (Int.le_refl _))) (by omega) (by decide) (by decide)) (b_l3_x5) (show l3_x5.toInt ≤ (iI (l4_x5.toInt + 1)).toInt from by (try rw [iI_t (E := l3_x5.toInt + 1) (by omega) (by omega)]); (try rw [iI_t (E := l4_x5.toInt + 1) (by omega) (by omega)]); (try rw [iI_t (E := l5_x130.toInt + 1) (by omega) (by omega)]); (try rw [iI_t (E := l6_x130.toInt + 1) (by omega) (by omega)]); (try rw [iI_t (E := l5_x200.toInt + 1) (by omega) (by omega)]); (try rw [iI_t (E := l6_x200.toInt + 1) (by omega) (by omega)]); omega) (by have e9 : ((iI (l4_x5.toInt + 1))).toInt = (l4_x5.toInt + 1) := (iI_t (Int.le_trans (by decide) (Int.add_le_add (b_l4_x5.1) (Int.le_refl _))) (Int.le_trans (Int.add_le_add (b_l4_x5.2) (Int.le_refl _)) (by decide))); omega) hP hD hS hl
        · have t_31 : v987.toInt = 0 := toI_nne c_31 rfl (by decide : (0 : Int32).toInt = 0)
          refine lv_iconst (v := 1) hx hb dX5_lay_34 (by decide) ?_
          refine lv_goto (tgt := 39) hx hb dX5_lay_35 (by decide) ?_
          refine lv_istore hx hb dX5_lay_39 hl (by decide) rfl (fun ls (hl : lv_has ls _ ([(5, .int 1), (4, .int l4_x5), (3, .int l3_x5), (0, .ref (hO 0)), (1, .int p1), (2, .int p2)])) => ?_)
          refine lv_aload_n hx hb dX5_lay_41 rfl (lv_at hl 3 rfl) ?_
          refine va_get (D := (dC, dI)) (ci := 5) (v := .ref (aO 4)) (C := RX5) (T := TX5) (N := 19) hx hb hts iwsMX5_lay_in5 hown hK hP 0 rfl rfl 10 (by decide) (hts _ hm_m_X5_lay_4) (fun _ h9 => h9) rfl dX5_lay_42 ?_
          refine lv_iload hx hb dX5_lay_45 (lv_at hl 1 rfl) ?_
          refine lv_iload hx hb dX5_lay_47 (lv_at hl 0 rfl) ?_
          refine lv_if_eq (tgt := 59) hx hb dX5_lay_49 (by decide) (fun c9 => absurd c9 (by decide)) (fun _ => ?_)
          refine lv_iinc (v := (iI (l3_x5.toInt + 1))) hx hb dX5_lay_52 hl (k := 2) rfl (iI_add2 (iI_of _) (by decide : (1 : Int32) = iI 1)) (by decide) rfl (fun ls (hl : lv_has ls _ ([(3, .int (iI (l3_x5.toInt + 1))), (5, .int 1), (4, .int l4_x5), (0, .ref (hO 0)), (1, .int p1), (2, .int p2)])) => ?_)
          refine lv_iload_n hx hb dX5_lay_55 rfl (lv_at hl 0 rfl) ?_
          refine lv_goto (tgt := 60) hx hb dX5_lay_56 (by decide) ?_
          refine va_iast (cA := kO 4) (n := 8) (f := fO_column_x5) hx hb hK hP hD hS 5 4 rfl rfl (vp_in_iff.mpr ⟨b_l4_x5.1, (Int.lt_of_lt_of_le (Int.not_le.mp t_14) (Int.le_trans b_iM_variables.2 (by decide)))⟩) dX5_lay_60 (fun H locs hP hD hS => ?_)
          obtain ⟨u991, hu991⟩ : ∃ f9, f9 = upd fO_column_x5 (l4_x5).toNatClampNeg (iI (l3_x5.toInt + 1)) := ⟨_, rfl⟩
          have hP : va_P (dC, dI) vwCl (WO hO aO kO hM hQ hw iO_answered iO_searched iO_searchedRelaxed iO_counted fO_countedCase gO_goalNumber gO_goalScale fO_start_x5 u991 fO_chosen ++ (WM hM aM kM iM_stands iM_variables iM_rows iM_goals iM_differents iM_cases fM_from fM_to fM_whole fM_ways iM_plainRows fM_plainRow fM_kept fM_goalOver fM_goalUnder fM_goalMax fM_different ++ (WQ hQ aQ kQ hw fQ_inside fQ_outside fQ_shut iQ_rows iQ_allRows iQ_columns ++ (WW nW hw lw kw wl wb wG)))) H := by rw [hu991]; exact hP
          have hD : va_D A (WO hO aO kO hM hQ hw iO_answered iO_searched iO_searchedRelaxed iO_counted fO_countedCase gO_goalNumber gO_goalScale fO_start_x5 u991 fO_chosen ++ (WM hM aM kM iM_stands iM_variables iM_rows iM_goals iM_differents iM_cases fM_from fM_to fM_whole fM_ways iM_plainRows fM_plainRow fM_kept fM_goalOver fM_goalUnder fM_goalMax fM_different ++ (WQ hQ aQ kQ hw fQ_inside fQ_outside fQ_shut iQ_rows iQ_allRows iQ_columns ++ (WW nW hw lw kw wl wb wG)))) := by rw [hu991]; exact hD
          have b_u991 : ∀ q : Nat, (-1) ≤ (u991 q).toInt ∧ (u991 q).toInt ≤ 8 := by rw [hu991]; exact upd_r b_fO_column_x5 (iI_rng (Int.le_trans (by decide) (Int.add_le_add (b_l3_x5.1) (Int.le_refl _))) (by omega) (by decide) (by decide))
          clear hu991
          refine lv_iload_n hx hb dX5_lay_61 rfl (lv_at hl 4 rfl) ?_
          refine lv_if_eq (tgt := 82) hx hb dX5_lay_62 (by decide) (fun c_62 => ?_) (fun c_62 => ?_)
          · have t_62 : p1.toInt = 0 := toI_eq c_62 rfl (by decide : (0 : Int32).toInt = 0)
            refine lv_iinc (v := (iI (l4_x5.toInt + 1))) hx hb dX5_lay_82 hl (k := 2) rfl (iI_add2 (iI_of _) (by decide : (1 : Int32) = iI 1)) (by decide) rfl (fun ls (hl : lv_has ls _ ([(4, .int (iI (l4_x5.toInt + 1))), (3, .int (iI (l3_x5.toInt + 1))), (5, .int 1), (0, .ref (hO 0)), (1, .int p1), (2, .int p2)])) => ?_)
            refine lv_goto (tgt := 5) hx hb dX5_lay_85 (by decide) ?_
            have hl : lv_has _ _ ([(4, .int (iI (l4_x5.toInt + 1))), (3, .int (iI (l3_x5.toInt + 1))), (0, .ref (hO 0)), (1, .int p1), (2, .int p2)]) := lv_sub hl [0, 1, 3, 4, 5] rfl
            exact ihx5 fO_start_x5 u991 (iI (l4_x5.toInt + 1)) (iI (l3_x5.toInt + 1)) _ _ _ b_u991 (iI_rng (Int.le_trans (by decide) (Int.add_le_add (b_l4_x5.1) (Int.le_refl _))) (by omega) (by decide) (by decide)) (iI_rng (Int.le_trans (by decide) (Int.add_le_add (b_l3_x5.1) (Int.le_refl _))) (by omega) (by decide) (by decide)) (show (iI (l3_x5.toInt + 1)).toInt ≤ (iI (l4_x5.toInt + 1)).toInt from by (try rw [iI_t (E := l3_x5.toInt + 1) (by omega) (by omega)]); (try rw [iI_t (E := l4_x5.toInt + 1) (by omega) (by omega)]); (try rw [iI_t (E := l5_x130.toInt + 1) (by omega) (by omega)]); (try rw [iI_t (E := l6_x130.toInt + 1) (by omega) (by omega)]); (try rw [iI_t (E := l5_x200.toInt + 1) (by omega) (by omega)]); (try rw [iI_t (E := l6_x200.toInt + 1) (by omega) (by omega)]); omega) (by have e9 : ((iI (l4_x5.toInt + 1))).toInt = (l4_x5.toInt + 1) := (iI_t (Int.le_trans (by decide) (Int.add_le_add (b_l4_x5.1) (Int.le_refl _))) (Int.le_trans (Int.add_le_add (b_l4_x5.2) (Int.le_refl _)) (by decide))); omega) hP hD hS hl
          · have t_62 : ¬ p1.toInt = 0 := toI_neq c_62 rfl (by decide : (0 : Int32).toInt = 0)
            refine lv_aload_n hx hb dX5_lay_65 rfl (lv_at hl 3 rfl) ?_
            refine va_get (D := (dC, dI)) (ci := 5) (v := .ref (aO 3)) (C := RX5) (T := TX5) (N := 19) hx hb hts iwsMX5_lay_in5 hown hK hP 0 rfl rfl 9 (by decide) (hts _ hm_m_X5_lay_7) (fun _ h9 => h9) rfl dX5_lay_66 ?_
            refine lv_iload hx hb dX5_lay_69 (lv_at hl 2 rfl) ?_
            refine lv_aload_n hx hb dX5_lay_71 rfl (lv_at hl 3 rfl) ?_
            refine va_get (D := (dC, dI)) (ci := 5) (v := .ref (hM 0)) (C := RX5) (T := TX5) (N := 19) hx hb hts iwsMX5_lay_in5 hown hK hP 0 rfl rfl 0 (by decide) (hts _ hm_m_X5_lay_0) (fun _ h9 => h9) rfl dX5_lay_72 ?_
            refine va_get (D := (dC, dI)) (ci := 1) (v := .ref (aM 0)) (C := RX1) (T := TX1) (N := 17) hx hb hts iwsMX5_lay_in1 hown hK hP 11 rfl rfl 6 (by decide) (hts _ hm_m_X5_lay_5) (fun _ h9 => h9) rfl dX5_lay_75 ?_
            refine lv_iload hx hb dX5_lay_78 (lv_at hl 2 rfl) ?_
            refine va_iald (cA := kM 0) (n := 8) (f := fM_from) hx hb hK hP 12 10 rfl rfl (vp_in_iff.mpr ⟨b_l4_x5.1, (Int.lt_of_lt_of_le (Int.not_le.mp t_14) (Int.le_trans b_iM_variables.2 (by decide)))⟩) dX5_lay_80 ?_
            refine lv_topi (fun v992 hv992 => ?_)
            clear hv992
            refine va_iast (cA := kO 3) (n := 8) (f := fO_start_x5) hx hb hK hP hD hS 4 3 rfl rfl (vp_in_iff.mpr ⟨b_l4_x5.1, (Int.lt_of_lt_of_le (Int.not_le.mp t_14) (Int.le_trans b_iM_variables.2 (by decide)))⟩) dX5_lay_81 (fun H locs hP hD hS => ?_)
            obtain ⟨u993, hu993⟩ : ∃ f9, f9 = upd fO_start_x5 (l4_x5).toNatClampNeg v992 := ⟨_, rfl⟩
            have hP : va_P (dC, dI) vwCl (WO hO aO kO hM hQ hw iO_answered iO_searched iO_searchedRelaxed iO_counted fO_countedCase gO_goalNumber gO_goalScale u993 u991 fO_chosen ++ (WM hM aM kM iM_stands iM_variables iM_rows iM_goals iM_differents iM_cases fM_from fM_to fM_whole fM_ways iM_plainRows fM_plainRow fM_kept fM_goalOver fM_goalUnder fM_goalMax fM_different ++ (WQ hQ aQ kQ hw fQ_inside fQ_outside fQ_shut iQ_rows iQ_allRows iQ_columns ++ (WW nW hw lw kw wl wb wG)))) H := by rw [hu993]; exact hP
            have hD : va_D A (WO hO aO kO hM hQ hw iO_answered iO_searched iO_searchedRelaxed iO_counted fO_countedCase gO_goalNumber gO_goalScale u993 u991 fO_chosen ++ (WM hM aM kM iM_stands iM_variables iM_rows iM_goals iM_differents iM_cases fM_from fM_to fM_whole fM_ways iM_plainRows fM_plainRow fM_kept fM_goalOver fM_goalUnder fM_goalMax fM_different ++ (WQ hQ aQ kQ hw fQ_inside fQ_outside fQ_shut iQ_rows iQ_allRows iQ_columns ++ (WW nW hw lw kw wl wb wG)))) := by rw [hu993]; exact hD
            clear hu993
            refine lv_iinc (v := (iI (l4_x5.toInt + 1))) hx hb dX5_lay_82 hl (k := 2) rfl (iI_add2 (iI_of _) (by decide : (1 : Int32) = iI 1)) (by decide) rfl (fun ls (hl : lv_has ls _ ([(4, .int (iI (l4_x5.toInt + 1))), (3, .int (iI (l3_x5.toInt + 1))), (5, .int 1), (0, .ref (hO 0)), (1, .int p1), (2, .int p2)])) => ?_)
            refine lv_goto (tgt := 5) hx hb dX5_lay_85 (by decide) ?_
            have hl : lv_has _ _ ([(4, .int (iI (l4_x5.toInt + 1))), (3, .int (iI (l3_x5.toInt + 1))), (0, .ref (hO 0)), (1, .int p1), (2, .int p2)]) := lv_sub hl [0, 1, 3, 4, 5] rfl
            exact ihx5 u993 u991 (iI (l4_x5.toInt + 1)) (iI (l3_x5.toInt + 1)) _ _ _ b_u991 (iI_rng (Int.le_trans (by decide) (Int.add_le_add (b_l4_x5.1) (Int.le_refl _))) (by omega) (by decide) (by decide)) (iI_rng (Int.le_trans (by decide) (Int.add_le_add (b_l3_x5.1) (Int.le_refl _))) (by omega) (by decide) (by decide)) (show (iI (l3_x5.toInt + 1)).toInt ≤ (iI (l4_x5.toInt + 1)).toInt from by (try rw [iI_t (E := l3_x5.toInt + 1) (by omega) (by omega)]); (try rw [iI_t (E := l4_x5.toInt + 1) (by omega) (by omega)]); (try rw [iI_t (E := l5_x130.toInt + 1) (by omega) (by omega)]); (try rw [iI_t (E := l6_x130.toInt + 1) (by omega) (by omega)]); (try rw [iI_t (E := l5_x200.toInt + 1) (by omega) (by omega)]); (try rw [iI_t (E := l6_x200.toInt + 1) (by omega) (by omega)]); omega) (by have e9 : ((iI (l4_x5.toInt + 1))).toInt = (l4_x5.toInt + 1) := (iI_t (Int.le_trans (by decide) (Int.add_le_add (b_l4_x5.1) (Int.le_refl _))) (Int.le_trans (Int.add_le_add (b_l4_x5.2) (Int.le_refl _)) (by decide))); omega) hP hD hS hl
end
section
theorem hd_yX6_canKeep_RX6 : yX6_canKeep.cls = RX6 ∧ yX6_canKeep.cls ≠ "java/lang/invoke/MethodHandle" ∧ yX6_canKeep.cls ≠ "java/lang/invoke/VarHandle" ∧ (parseMethodDescriptor yX6_canKeep.desc).map (fun d => d.parameters.length) = some 0 := by decide +kernel
theorem hd_yX6_holdAtNought_RX6 : yX6_holdAtNought.cls = RX6 ∧ yX6_holdAtNought.cls ≠ "java/lang/invoke/MethodHandle" ∧ yX6_holdAtNought.cls ≠ "java/lang/invoke/VarHandle" ∧ (parseMethodDescriptor yX6_holdAtNought.desc).map (fun d => d.parameters.length) = some 1 := by decide +kernel
theorem hd_yX6_rowCount_RX6 : yX6_rowCount.cls = RX6 ∧ yX6_rowCount.cls ≠ "java/lang/invoke/MethodHandle" ∧ yX6_rowCount.cls ≠ "java/lang/invoke/VarHandle" ∧ (parseMethodDescriptor yX6_rowCount.desc).map (fun d => d.parameters.length) = some 0 := by decide +kernel
theorem hd_yX5_goalRow_RX5 : yX5_goalRow.cls = RX5 ∧ yX5_goalRow.cls ≠ "java/lang/invoke/MethodHandle" ∧ yX5_goalRow.cls ≠ "java/lang/invoke/VarHandle" ∧ (parseMethodDescriptor yX5_goalRow.desc).map (fun d => d.parameters.length) = some 1 := by decide +kernel
theorem hd_yX5_takeNumbers_RX5 : yX5_takeNumbers.cls = RX5 ∧ yX5_takeNumbers.cls ≠ "java/lang/invoke/MethodHandle" ∧ yX5_takeNumbers.cls ≠ "java/lang/invoke/VarHandle" ∧ (parseMethodDescriptor yX5_takeNumbers.desc).map (fun d => d.parameters.length) = some 1 := by decide +kernel
theorem hd_yX5_compare_RX5 : yX5_compare.cls = RX5 ∧ yX5_compare.cls ≠ "java/lang/invoke/MethodHandle" ∧ yX5_compare.cls ≠ "java/lang/invoke/VarHandle" ∧ (parseMethodDescriptor yX5_compare.desc).map (fun d => d.parameters.length) = some 2 := by decide +kernel
theorem hd_yX5_keepAnswer_RX5 : yX5_keepAnswer.cls = RX5 ∧ yX5_keepAnswer.cls ≠ "java/lang/invoke/MethodHandle" ∧ yX5_keepAnswer.cls ≠ "java/lang/invoke/VarHandle" ∧ (parseMethodDescriptor yX5_keepAnswer.desc).map (fun d => d.parameters.length) = some 0 := by decide +kernel
theorem hd_yX6_sink_RX6 : yX6_sink.cls = RX6 ∧ yX6_sink.cls ≠ "java/lang/invoke/MethodHandle" ∧ yX6_sink.cls ≠ "java/lang/invoke/VarHandle" ∧ (parseMethodDescriptor yX6_sink.desc).map (fun d => d.parameters.length) = some 1 := by decide +kernel
theorem hd_yX6_keepSunk_RX6 : yX6_keepSunk.cls = RX6 ∧ yX6_keepSunk.cls ≠ "java/lang/invoke/MethodHandle" ∧ yX6_keepSunk.cls ≠ "java/lang/invoke/VarHandle" ∧ (parseMethodDescriptor yX6_keepSunk.desc).map (fun d => d.parameters.length) = some 1 := by decide +kernel
theorem hd_yX6_makeLeast_RX6 : yX6_makeLeast.cls = RX6 ∧ yX6_makeLeast.cls ≠ "java/lang/invoke/MethodHandle" ∧ yX6_makeLeast.cls ≠ "java/lang/invoke/VarHandle" ∧ (parseMethodDescriptor yX6_makeLeast.desc).map (fun d => d.parameters.length) = some 1 := by decide +kernel
theorem dX5_settle_0 : decode cX5_settle 0 = .ok (.iconst 0, 1) := dk_3 (by decide +kernel)
theorem dX5_settle_1 : decode cX5_settle 1 = .ok (.istore_n 2, 1) := dk_61 (by decide +kernel)
theorem dX5_settle_2 : decode cX5_settle 2 = .ok (.iconst 0, 1) := dk_3 (by decide +kernel)
theorem dX5_settle_3 : decode cX5_settle 3 = .ok (.istore_n 3, 1) := dk_62 (by decide +kernel)
theorem dX5_settle_4 : decode cX5_settle 4 = .ok (.iload_n 3, 1) := dk_29 (by decide +kernel)
theorem dX5_settle_5 : decode cX5_settle 5 = .ok (.aload_n 0, 1) := dk_42 (by decide +kernel)
theorem dX5_settle_6 : decode cX5_settle 6 = .ok (.getfield 74, 3) := dk_180 (by decide +kernel)
theorem dX5_settle_9 : decode cX5_settle 9 = .ok (.getfield 131, 3) := dk_180 (by decide +kernel)
theorem dX5_settle_12 : decode cX5_settle 12 = .ok (.if_icmp .ge 72, 3) := dk_162 (by decide +kernel)
theorem dX5_settle_15 : decode cX5_settle 15 = .ok (.iload_n 1, 1) := dk_27 (by decide +kernel)
theorem dX5_settle_16 : decode cX5_settle 16 = .ok (.ifCond .eq 16, 3) := dk_153 (by decide +kernel)
theorem dX5_settle_19 : decode cX5_settle 19 = .ok (.aload_n 0, 1) := dk_42 (by decide +kernel)
theorem dX5_settle_20 : decode cX5_settle 20 = .ok (.getfield 74, 3) := dk_180 (by decide +kernel)
theorem dX5_settle_23 : decode cX5_settle 23 = .ok (.getfield 134, 3) := dk_180 (by decide +kernel)
theorem dX5_settle_26 : decode cX5_settle 26 = .ok (.iload_n 3, 1) := dk_29 (by decide +kernel)
theorem dX5_settle_27 : decode cX5_settle 27 = .ok (.iaload, 1) := dk_46 (by decide +kernel)
theorem dX5_settle_28 : decode cX5_settle 28 = .ok (.iconst 1, 1) := dk_4 (by decide +kernel)
theorem dX5_settle_29 : decode cX5_settle 29 = .ok (.if_icmp .ne 49, 3) := dk_160 (by decide +kernel)
theorem dX5_settle_32 : decode cX5_settle 32 = .ok (.aload_n 0, 1) := dk_42 (by decide +kernel)
theorem dX5_settle_33 : decode cX5_settle 33 = .ok (.getfield 74, 3) := dk_180 (by decide +kernel)
theorem dX5_settle_36 : decode cX5_settle 36 = .ok (.iload_n 3, 1) := dk_29 (by decide +kernel)
theorem dX5_settle_37 : decode cX5_settle 37 = .ok (.iload_n 1, 1) := dk_27 (by decide +kernel)
theorem dX5_settle_38 : decode cX5_settle 38 = .ok (.ifCond .eq 7, 3) := dk_153 (by decide +kernel)
theorem dX5_settle_41 : decode cX5_settle 41 = .ok (.iconst 0, 1) := dk_3 (by decide +kernel)
theorem dX5_settle_42 : decode cX5_settle 42 = .ok (.goto 9, 3) := dk_167 (by decide +kernel)
theorem dX5_settle_45 : decode cX5_settle 45 = .ok (.aload_n 0, 1) := dk_42 (by decide +kernel)
theorem dX5_settle_46 : decode cX5_settle 46 = .ok (.getfield 41, 3) := dk_180 (by decide +kernel)
theorem dX5_settle_49 : decode cX5_settle 49 = .ok (.iload_n 3, 1) := dk_29 (by decide +kernel)
theorem dX5_settle_50 : decode cX5_settle 50 = .ok (.iaload, 1) := dk_46 (by decide +kernel)
theorem dX5_settle_51 : decode cX5_settle 51 = .ok (.invokevirtual 194, 3) := dk_182 (by decide +kernel)
theorem dX5_settle_54 : decode cX5_settle 54 = .ok (.istore 4, 2) := dk_54 (by decide +kernel)
theorem dX5_settle_56 : decode cX5_settle 56 = .ok (.iload 4, 2) := dk_21 (by decide +kernel)
theorem dX5_settle_58 : decode cX5_settle 58 = .ok (.iconst 2, 1) := dk_5 (by decide +kernel)
theorem dX5_settle_59 : decode cX5_settle 59 = .ok (.if_icmp .ne 16, 3) := dk_160 (by decide +kernel)
theorem dX5_settle_62 : decode cX5_settle 62 = .ok (.aload_n 0, 1) := dk_42 (by decide +kernel)
theorem dX5_settle_63 : decode cX5_settle 63 = .ok (.getfield 12, 3) := dk_180 (by decide +kernel)
theorem dX5_settle_66 : decode cX5_settle 66 = .ok (.iload_n 2, 1) := dk_28 (by decide +kernel)
theorem dX5_settle_67 : decode cX5_settle 67 = .ok (.invokevirtual 215, 3) := dk_182 (by decide +kernel)
theorem dX5_settle_70 : decode cX5_settle 70 = .ok (.ifCond .ne 5, 3) := dk_154 (by decide +kernel)
theorem dX5_settle_73 : decode cX5_settle 73 = .ok (.iconst 0, 1) := dk_3 (by decide +kernel)
theorem dX5_settle_74 : decode cX5_settle 74 = .ok (.ireturn, 1) := dk_172 (by decide +kernel)
theorem dX5_settle_75 : decode cX5_settle 75 = .ok (.iinc 2 1, 3) := dk_132 (by decide +kernel)
theorem dX5_settle_78 : decode cX5_settle 78 = .ok (.iinc 3 1, 3) := dk_132 (by decide +kernel)
theorem dX5_settle_81 : decode cX5_settle 81 = .ok (.goto (-77), 3) := dk_167 (by decide +kernel)
theorem dX5_settle_84 : decode cX5_settle 84 = .ok (.aload_n 0, 1) := dk_42 (by decide +kernel)
theorem dX5_settle_85 : decode cX5_settle 85 = .ok (.getfield 12, 3) := dk_180 (by decide +kernel)
theorem dX5_settle_88 : decode cX5_settle 88 = .ok (.invokevirtual 218, 3) := dk_182 (by decide +kernel)
theorem dX5_settle_91 : decode cX5_settle 91 = .ok (.ireturn, 1) := dk_172 (by decide +kernel)
def wsMX5_settle : List Cond := .code yX5_settle cX5_settle 5 (some .boolean) :: ([.fieldLink RX5 74 "OptimaWorks$Solver" "model" "LOptimaWorks$Model;", .fieldLink RX5 131 "OptimaWorks$Model" "rows" "I", .fieldLink RX5 12 "OptimaWorks$Solver" "tableau" "LOptimaWorks$Tableau;", .fieldLink RX5 41 "OptimaWorks$Solver" "chosen" "[I", .fieldLink RX5 134 "OptimaWorks$Model" "ways" "[I"] ++ wsX10 ++ wsX50 ++ (wsV RX5 218 RX6 yX6_canKeep wsMX6_canKeep) ++ (wsV RX5 194 RX1 yX1_sign wsMX1_sign) ++ (wsV RX5 215 RX6 yX6_holdAtNought wsMX6_holdAtNought))
theorem iwsMX5_settle_in1 : ∀ w ∈ wsX10, w ∈ wsMX5_settle := fun _ h => List.mem_cons_of_mem _ (List.mem_append_left _ (List.mem_append_left _ (List.mem_append_left _ (List.mem_append_left _ (List.mem_append_right _ h)))))
theorem iwsMX5_settle_in5 : ∀ w ∈ wsX50, w ∈ wsMX5_settle := fun _ h => List.mem_cons_of_mem _ (List.mem_append_left _ (List.mem_append_left _ (List.mem_append_left _ (List.mem_append_right _ h))))
theorem gwsMX5_settle_0 : GoodIn wsMX5_settle (wsV RX5 218 RX6 yX6_canKeep wsMX6_canKeep) := goodIn_sub (fun _ h => List.mem_cons_of_mem _ (List.mem_append_left _ (List.mem_append_left _ (List.mem_append_right _ h)))) (gdV (by decide +kernel) gdwsMX6_canKeep)
theorem gwsMX5_settle_1 : GoodIn wsMX5_settle (wsV RX5 194 RX1 yX1_sign wsMX1_sign) := goodIn_sub (fun _ h => List.mem_cons_of_mem _ (List.mem_append_left _ (List.mem_append_right _ h))) (gdV (by decide +kernel) gdwsMX1_sign)
theorem gwsMX5_settle_2 : GoodIn wsMX5_settle (wsV RX5 215 RX6 yX6_holdAtNought wsMX6_holdAtNought) := goodIn_sub (fun _ h => List.mem_cons_of_mem _ (List.mem_append_right _ h)) (gdV (by decide +kernel) gdwsMX6_holdAtNought)
theorem gdwsMX5_settle : wsMX5_settle.all goodWord = true := gdC rfl (gdA (gdA (gdA (gdA (gdA (by decide +kernel : ([.fieldLink RX5 74 "OptimaWorks$Solver" "model" "LOptimaWorks$Model;", .fieldLink RX5 131 "OptimaWorks$Model" "rows" "I", .fieldLink RX5 12 "OptimaWorks$Solver" "tableau" "LOptimaWorks$Tableau;", .fieldLink RX5 41 "OptimaWorks$Solver" "chosen" "[I", .fieldLink RX5 134 "OptimaWorks$Model" "ways" "[I"] : List Cond).all goodWord = true) gdwsX10) gdwsX50) (gdV (by decide +kernel) gdwsMX6_canKeep)) (gdV (by decide +kernel) gdwsMX1_sign)) (gdV (by decide +kernel) gdwsMX6_holdAtNought))
theorem hm_m_X5_settle_0 : (.fieldLink RX5 74 "OptimaWorks$Solver" "model" "LOptimaWorks$Model;" : Cond) ∈ wsMX5_settle := by decide +kernel
theorem hm_m_X5_settle_1 : (.fieldLink RX5 12 "OptimaWorks$Solver" "tableau" "LOptimaWorks$Tableau;" : Cond) ∈ wsMX5_settle := by decide +kernel
theorem hm_m_X5_settle_2 : (.fieldLink RX5 41 "OptimaWorks$Solver" "chosen" "[I" : Cond) ∈ wsMX5_settle := by decide +kernel
set_option maxHeartbeats 4000000 in
set_option maxRecDepth 100000 in
/-- is it kept -/
theorem m_X5_settle (l : Launch) (dC : Nat → ClassId) (dI : Nat → Nat → Nat) (hO : Nat → Nat) (aO : Nat → Nat) (kO : Nat → ClassId) (hM : Nat → Nat) (hQ : Nat → Nat) (hw : Nat → Nat) (iO_answered : Int32) (iO_searched : Int32) (iO_searchedRelaxed : Int32) (iO_counted : Int32) (fO_countedCase : Nat → Int32) (gO_goalNumber : Nat → Int64) (gO_goalScale : Nat → Int64) (fO_start : Nat → Int32) (fO_column : Nat → Int32) (fO_chosen : Nat → Int32) (aM : Nat → Nat) (kM : Nat → ClassId) (iM_stands : Int32) (iM_variables : Int32) (iM_rows : Int32) (iM_goals : Int32) (iM_differents : Int32) (iM_cases : Int32) (fM_from : Nat → Int32) (fM_to : Nat → Int32) (fM_whole : Nat → Int32) (fM_ways : Nat → Int32) (iM_plainRows : Int32) (fM_plainRow : Nat → Int32) (fM_kept : Nat → Int32) (fM_goalOver : Nat → Int32) (fM_goalUnder : Nat → Int32) (fM_goalMax : Nat → Int32) (fM_different : Nat → Int32) (aQ : Nat → Nat) (kQ : Nat → ClassId) (fQ_inside : Nat → Int32) (fQ_outside : Nat → Int32) (fQ_shut : Nat → Int32) (iQ_rows : Int32) (iQ_allRows : Int32) (iQ_columns : Int32) (nW : Nat) (lw : Nat → Nat) (kw : ClassId) (wl : Nat → Int32) (wb : Nat → Int32) (wG : Nat → Nat → Int64) (p1 : Int32) (b_iO_answered : 0 ≤ iO_answered.toInt ∧ iO_answered.toInt ≤ 1) (b_iO_searched : 0 ≤ iO_searched.toInt ∧ iO_searched.toInt ≤ 1) (b_iO_searchedRelaxed : 0 ≤ iO_searchedRelaxed.toInt ∧ iO_searchedRelaxed.toInt ≤ 1) (b_iO_counted : (-1) ≤ iO_counted.toInt ∧ iO_counted.toInt ≤ 64) (b_fO_countedCase : ∀ q : Nat, 0 ≤ (fO_countedCase q).toInt ∧ (fO_countedCase q).toInt ≤ 200000) (b_fO_column : ∀ q : Nat, (-1) ≤ (fO_column q).toInt ∧ (fO_column q).toInt ≤ 8) (b_fO_chosen : ∀ q : Nat, 0 ≤ (fO_chosen q).toInt ∧ (fO_chosen q).toInt ≤ 2) (b_iM_stands : 0 ≤ iM_stands.toInt ∧ iM_stands.toInt ≤ 1) (b_iM_variables : 0 ≤ iM_variables.toInt ∧ iM_variables.toInt ≤ 8) (b_iM_rows : 0 ≤ iM_rows.toInt ∧ iM_rows.toInt ≤ 12) (b_iM_goals : 0 ≤ iM_goals.toInt ∧ iM_goals.toInt ≤ 3) (b_iM_differents : 0 ≤ iM_differents.toInt ∧ iM_differents.toInt ≤ 8) (b_iM_cases : 0 ≤ iM_cases.toInt ∧ iM_cases.toInt ≤ 200000) (b_fM_ways : ∀ q : Nat, 0 ≤ (fM_ways q).toInt ∧ (fM_ways q).toInt ≤ 3) (b_iM_plainRows : 0 ≤ iM_plainRows.toInt ∧ iM_plainRows.toInt ≤ 12) (b_fM_plainRow : ∀ q : Nat, 0 ≤ (fM_plainRow q).toInt ∧ (fM_plainRow q).toInt ≤ 11) (b_pr : iM_plainRows.toInt ≤ iM_rows.toInt) (b_iQ_rows : 0 ≤ iQ_rows.toInt ∧ iQ_rows.toInt ≤ 40) (b_iQ_allRows : 0 ≤ iQ_allRows.toInt ∧ iQ_allRows.toInt ≤ 40) (b_iQ_columns : 0 ≤ iQ_columns.toInt ∧ iQ_columns.toInt ≤ 40) (b_tb : TbO iQ_rows iQ_allRows iQ_columns) (b_wl : ∀ q : Nat, 0 ≤ (wl q).toInt ∧ (wl q).toInt ≤ 14) (b_wb : ∀ q : Nat, 0 ≤ (wb q).toInt ∧ (wb q).toInt ≤ 1) (hnW : 432 ≤ nW) (hc8 : iQ_columns.toInt ≤ 8) (sz : Nat) : Met l yX5_settle wsMX5_settle ({ frames := 6, cells := 0, slots := 0, locals := 154 }) (va_Pc [.ref (hO 0), .int p1] (fun U => U.heap.size = sz ∧ va_P (dC, dI) vwCl (WO hO aO kO hM hQ hw iO_answered iO_searched iO_searchedRelaxed iO_counted fO_countedCase gO_goalNumber gO_goalScale fO_start fO_column fO_chosen ++ (WM hM aM kM iM_stands iM_variables iM_rows iM_goals iM_differents iM_cases fM_from fM_to fM_whole fM_ways iM_plainRows fM_plainRow fM_kept fM_goalOver fM_goalUnder fM_goalMax fM_different ++ (WQ hQ aQ kQ hw fQ_inside fQ_outside fQ_shut iQ_rows iQ_allRows iQ_columns ++ (WW nW hw lw kw wl wb wG)))) U.heap ∧ va_K (dC, dI) vwCl (tO kO ++ (tM kM ++ (tQ kQ ++ (tW kw)))) U ∧ va_D (fun _ => True) (WO hO aO kO hM hQ hw iO_answered iO_searched iO_searchedRelaxed iO_counted fO_countedCase gO_goalNumber gO_goalScale fO_start fO_column fO_chosen ++ (WM hM aM kM iM_stands iM_variables iM_rows iM_goals iM_differents iM_cases fM_from fM_to fM_whole fM_ways iM_plainRows fM_plainRow fM_kept fM_goalOver fM_goalUnder fM_goalMax fM_different ++ (WQ hQ aQ kQ hw fQ_inside fQ_outside fQ_shut iQ_rows iQ_allRows iQ_columns ++ (WW nW hw lw kw wl wb wG)))))) (va_Qi (fun (r : Int32) (u : (Nat → Int32) × (Nat → Int32) × (Nat → Int32) × (Nat → Int32) × (Nat → Int32) × (Nat → Nat → Int64)) => (∀ q : Nat, 0 ≤ ((u.2.2.2.1) q).toInt ∧ ((u.2.2.2.1) q).toInt ≤ 14) ∧ (∀ q : Nat, 0 ≤ ((u.2.2.2.2.1) q).toInt ∧ ((u.2.2.2.2.1) q).toInt ≤ 1) ∧ (0 ≤ r.toInt ∧ r.toInt ≤ 1)) (fun (u : (Nat → Int32) × (Nat → Int32) × (Nat → Int32) × (Nat → Int32) × (Nat → Int32) × (Nat → Nat → Int64)) t => va_P (dC, dI) vwCl (WO hO aO kO hM hQ hw iO_answered iO_searched iO_searchedRelaxed iO_counted fO_countedCase gO_goalNumber gO_goalScale fO_start fO_column fO_chosen ++ (WM hM aM kM iM_stands iM_variables iM_rows iM_goals iM_differents iM_cases fM_from fM_to fM_whole fM_ways iM_plainRows fM_plainRow fM_kept fM_goalOver fM_goalUnder fM_goalMax fM_different ++ (WQ hQ aQ kQ hw (u.1) (u.2.1) (u.2.2.1) iQ_rows iQ_allRows iQ_columns ++ (WW nW hw lw kw (u.2.2.2.1) (u.2.2.2.2.1) (u.2.2.2.2.2))))) t.heap ∧ va_D (va_A (WO hO aO kO hM hQ hw iO_answered iO_searched iO_searchedRelaxed iO_counted fO_countedCase gO_goalNumber gO_goalScale fO_start fO_column fO_chosen ++ (WM hM aM kM iM_stands iM_variables iM_rows iM_goals iM_differents iM_cases fM_from fM_to fM_whole fM_ways iM_plainRows fM_plainRow fM_kept fM_goalOver fM_goalUnder fM_goalMax fM_different ++ (WQ hQ aQ kQ hw fQ_inside fQ_outside fQ_shut iQ_rows iQ_allRows iQ_columns ++ (WW nW hw lw kw wl wb wG)))) sz) (WO hO aO kO hM hQ hw iO_answered iO_searched iO_searchedRelaxed iO_counted fO_countedCase gO_goalNumber gO_goalScale fO_start fO_column fO_chosen ++ (WM hM aM kM iM_stands iM_variables iM_rows iM_goals iM_differents iM_cases fM_from fM_to fM_whole fM_ways iM_plainRows fM_plainRow fM_kept fM_goalOver fM_goalUnder fM_goalMax fM_different ++ (WQ hQ aQ kQ hw (u.1) (u.2.1) (u.2.2.1) iQ_rows iQ_allRows iQ_columns ++ (WW nW hw lw kw (u.2.2.2.1) (u.2.2.2.2.1) (u.2.2.2.2.2)))))) (va_A (WO hO aO kO hM hQ hw iO_answered iO_searched iO_searchedRelaxed iO_counted fO_countedCase gO_goalNumber gO_goalScale fO_start fO_column fO_chosen ++ (WM hM aM kM iM_stands iM_variables iM_rows iM_goals iM_differents iM_cases fM_from fM_to fM_whole fM_ways iM_plainRows fM_plainRow fM_kept fM_goalOver fM_goalUnder fM_goalMax fM_different ++ (WQ hQ aQ kQ hw fQ_inside fQ_outside fQ_shut iQ_rows iQ_allRows iQ_columns ++ (WW nW hw lw kw wl wb wG)))) sz)) 0 0 (va_A (WO hO aO kO hM hQ hw iO_answered iO_searched iO_searchedRelaxed iO_counted fO_countedCase gO_goalNumber gO_goalScale fO_start fO_column fO_chosen ++ (WM hM aM kM iM_stands iM_variables iM_rows iM_goals iM_differents iM_cases fM_from fM_to fM_whole fM_ways iM_plainRows fM_plainRow fM_kept fM_goalOver fM_goalUnder fM_goalMax fM_different ++ (WQ hQ aQ kQ hw fQ_inside fQ_outside fQ_shut iQ_rows iQ_allRows iQ_columns ++ (WW nW hw lw kw wl wb wG)))) sz) := by
  refine Met.ofW (cc := cX5_settle) (maxL := 5) (ret := (some .boolean)) (by decide) rfl ?_
  intro p e s m args below meth c s₁ B hml hv
  obtain ⟨rfl, hsz, hP, hK, hD0⟩ := hv
  have hx := B.exec
  have hb := B.bytes
  have hr := B.returns
  have hts := atoms_spec (ws := wsMX5_settle) B.pre
  have hown : s.vm.findClass RX5 = some m.cls := findClass_of_methodNamed B.named
  have hlocks := B.notSynchronized
  subst hsz
  have hD := hD0.self (sz := s.heap.size)
  generalize hAe : va_A (WO hO aO kO hM hQ hw iO_answered iO_searched iO_searchedRelaxed iO_counted fO_countedCase gO_goalNumber gO_goalScale fO_start fO_column fO_chosen ++ (WM hM aM kM iM_stands iM_variables iM_rows iM_goals iM_differents iM_cases fM_from fM_to fM_whole fM_ways iM_plainRows fM_plainRow fM_kept fM_goalOver fM_goalUnder fM_goalMax fM_different ++ (WQ hQ aQ kQ hw fQ_inside fQ_outside fQ_shut iQ_rows iQ_allRows iQ_columns ++ (WW nW hw lw kw wl wb wG)))) s.heap.size = A at hD ⊢
  have hA : ∀ q : Nat, s.heap.size ≤ q → A q := fun q h => by rw [← hAe]; exact Or.inr h
  have hS : va_S A s.heap s.heap [] := va_S.rf
  have hl := lv_entry ([.ref (hO 0), .int p1]) (n := 5) (Nat.le_of_ble_eq_true rfl)
  rw [lg_entry_eq]
  generalize (lg_sl ([.ref (hO 0), .int p1]) ++ List.replicate (5 - (lg_sl ([.ref (hO 0), .int p1])).length) Slot.unset).toArray = ls at hl ⊢
  have hl : lv_has ls 5 [(0, .ref (hO 0)), (1, .int p1)] := hl
  refine lv_iconst (v := 0) hx hb dX5_settle_0 (by decide) ?_
  refine lv_istore_n hx hb dX5_settle_1 rfl hl (by decide) rfl (fun ls (hl : lv_has ls _ ([(2, .int 0), (0, .ref (hO 0)), (1, .int p1)])) => ?_)
  refine lv_iconst (v := 0) hx hb dX5_settle_2 (by decide) ?_
  refine lv_istore_n hx hb dX5_settle_3 rfl hl (by decide) rfl (fun ls (hl : lv_has ls _ ([(3, .int 0), (2, .int 0), (0, .ref (hO 0)), (1, .int p1)])) => ?_)
  have hl : lv_has _ _ ([(3, .int 0), (2, .int 0), (0, .ref (hO 0)), (1, .int p1)]) := lv_sub hl [0, 1, 2, 3] rfl
  refine (fun (loop : ∀ (n9 : Nat) (fQ_inside_x4 : Nat → Int32) (fQ_outside_x4 : Nat → Int32) (fQ_shut_x4 : Nat → Int32) (wl_x4 : Nat → Int32) (wb_x4 : Nat → Int32) (wG_x4 : Nat → Nat → Int64) (l3_x4 : Int32) (l2_x4 : Int32) (H : Heap) (locs : List Loc) (ls : Array Slot), (∀ q : Nat, 0 ≤ (wl_x4 q).toInt ∧ (wl_x4 q).toInt ≤ 14) → (∀ q : Nat, 0 ≤ (wb_x4 q).toInt ∧ (wb_x4 q).toInt ≤ 1) → (0 ≤ l3_x4.toInt ∧ l3_x4.toInt ≤ 12) → (0 ≤ l2_x4.toInt ∧ l2_x4.toInt ≤ 12) → (l2_x4.toInt ≤ l3_x4.toInt) → (12 - l3_x4.toInt < ((n9 : Nat) : Int)) → va_P (dC, dI) vwCl (WO hO aO kO hM hQ hw iO_answered iO_searched iO_searchedRelaxed iO_counted fO_countedCase gO_goalNumber gO_goalScale fO_start fO_column fO_chosen ++ (WM hM aM kM iM_stands iM_variables iM_rows iM_goals iM_differents iM_cases fM_from fM_to fM_whole fM_ways iM_plainRows fM_plainRow fM_kept fM_goalOver fM_goalUnder fM_goalMax fM_different ++ (WQ hQ aQ kQ hw fQ_inside_x4 fQ_outside_x4 fQ_shut_x4 iQ_rows iQ_allRows iQ_columns ++ (WW nW hw lw kw wl_x4 wb_x4 wG_x4)))) H → va_D A (WO hO aO kO hM hQ hw iO_answered iO_searched iO_searchedRelaxed iO_counted fO_countedCase gO_goalNumber gO_goalScale fO_start fO_column fO_chosen ++ (WM hM aM kM iM_stands iM_variables iM_rows iM_goals iM_differents iM_cases fM_from fM_to fM_whole fM_ways iM_plainRows fM_plainRow fM_kept fM_goalOver fM_goalUnder fM_goalMax fM_different ++ (WQ hQ aQ kQ hw fQ_inside_x4 fQ_outside_x4 fQ_shut_x4 iQ_rows iQ_allRows iQ_columns ++ (WW nW hw lw kw wl_x4 wb_x4 wG_x4)))) → va_S A s.heap H locs → lv_has ls 5 [(3, .int l3_x4), (2, .int l2_x4), (0, .ref (hO 0)), (1, .int p1)] → W p l e _ s m _ below meth c H locs 0 0 _ (F0 m 4 ls [])) => loop (13) fQ_inside fQ_outside fQ_shut wl wb wG 0 0 _ _ _ b_wl b_wb (show 0 ≤ (0 : Int32).toInt ∧ (0 : Int32).toInt ≤ 12 from by decide) (show 0 ≤ (0 : Int32).toInt ∧ (0 : Int32).toInt ≤ 12 from by decide) (show (0 : Int32).toInt ≤ (0 : Int32).toInt from by decide) ((by have e9 : (0 : Int32).toInt = 0 := (by decide : (0 : Int32).toInt = 0); omega)) hP hD hS hl) ?_
  intro n9
  induction n9 with
  | zero => intro fQ_inside_x4 fQ_outside_x4 fQ_shut_x4 wl_x4 wb_x4 wG_x4 l3_x4 l2_x4 H locs ls b_wl_x4 b_wb_x4 b_l3_x4 b_l2_x4 hl1 hf9; exact False.elim (by omega)
  | succ n9 ihx4 =>
    intro fQ_inside_x4 fQ_outside_x4 fQ_shut_x4 wl_x4 wb_x4 wG_x4 l3_x4 l2_x4 H locs ls b_wl_x4 b_wb_x4 b_l3_x4 b_l2_x4 hl1 hfx4 hP hD hS hl
    refine lv_iload_n hx hb dX5_settle_4 rfl (lv_at hl 0 rfl) ?_
    refine lv_aload_n hx hb dX5_settle_5 rfl (lv_at hl 2 rfl) ?_
    refine va_get (D := (dC, dI)) (ci := 5) (v := .ref (hM 0)) (C := RX5) (T := TX5) (N := 19) hx hb hts iwsMX5_settle_in5 hown hK hP 0 rfl rfl 0 (by decide) (hts _ hm_m_X5_settle_0) (fun _ h9 => h9) rfl dX5_settle_6 ?_
    refine va_get (D := (dC, dI)) (ci := 1) (v := .int iM_rows) (C := RX1) (T := TX1) (N := 17) hx hb hts iwsMX5_settle_in1 hown hK hP 11 rfl rfl 2 (by decide) (hts (.fieldLink RX5 131 "OptimaWorks$Model" "rows" "I") (by decide +kernel)) (fun _ h9 => h9) rfl dX5_settle_9 ?_
    refine lv_icmp_ge (tgt := 84) hx hb dX5_settle_12 (by decide) (fun c_12 => ?_) (fun c_12 => ?_)
    · have t_12 : l3_x4.toInt ≥ iM_rows.toInt := toI_ge c_12 rfl rfl
      refine lv_aload_n hx hb dX5_settle_84 rfl (lv_at hl 2 rfl) ?_
      refine va_get (D := (dC, dI)) (ci := 5) (v := .ref (hQ 0)) (C := RX5) (T := TX5) (N := 19) hx hb hts iwsMX5_settle_in5 hown hK hP 0 rfl rfl 1 (by decide) (hts _ hm_m_X5_settle_1) (fun _ h9 => h9) rfl dX5_settle_85 ?_
      have p9 := cj_4_2_3 (WO hO aO kO hM hQ hw iO_answered iO_searched iO_searchedRelaxed iO_counted fO_countedCase gO_goalNumber gO_goalScale fO_start fO_column fO_chosen) (WM hM aM kM iM_stands iM_variables iM_rows iM_goals iM_differents iM_cases fM_from fM_to fM_whole fM_ways iM_plainRows fM_plainRow fM_kept fM_goalOver fM_goalUnder fM_goalMax fM_different) (WQ hQ aQ kQ hw fQ_inside_x4 fQ_outside_x4 fQ_shut_x4 iQ_rows iQ_allRows iQ_columns) (WW nW hw lw kw wl_x4 wb_x4 wG_x4)
      have hPc := hP.mem (fun q h => p9.mem_iff.mpr (List.mem_append_left _ h))
      have hDc := (hD.perm p9).left
      have hKc : va_K (dC, dI) vwCl (tQ kQ ++ (tW kw)) _ := hK.sub [20, 21, 22, 23, 24] rfl
      have hFc := freeG p9 hD hS hA
      refine va_calli (va_runV (As := []) (rest := []) ⟨hx, hb, hml, hown, hts⟩ (m_X6_canKeep l dC dI hQ aQ kQ hw fQ_inside_x4 fQ_outside_x4 fQ_shut_x4 iQ_rows iQ_allRows iQ_columns nW lw kw wl_x4 wb_x4 wG_x4 (b_iQ_rows) (b_iQ_allRows) (b_iQ_columns) (by first | with_reducible assumption | omega | assumption) b_wl_x4 b_wb_x4 (by omega) H.size) (cwV 0 hts gwsMX5_settle_0 rfl rfl rfl hd_yX6_canKeep_RX6 (by decide +kernel)) (fz_pre (va_recv hK hP (ci := 6) (q0 := 22) rfl rfl) hPc hKc hDc) rfl rfl hl.1 rfl (lv_room (Nat.le_of_ble_eq_true rfl)) dX5_settle_88 (by decide +kernel)) hS (fun q _ h => hFc q h) hFc (fun r21 u t9_ H locs ht hvm hw9 hB9 hz1 hk1 hS => ?_)
      revert u hw9 hB9
      refine fz_p5 ?_
      intro fQ_inside_21 fQ_outside_21 wl_21 wb_21 wG_21 hw9 hB9
      try dsimp only at hw9 hB9
      revert hw9
      refine fz_a3 ?_
      intro b_wl_21 b_wb_21 b_r21
      have p8 := cj_4_2_3 (WO hO aO kO hM hQ hw iO_answered iO_searched iO_searchedRelaxed iO_counted fO_countedCase gO_goalNumber gO_goalScale fO_start fO_column fO_chosen) (WM hM aM kM iM_stands iM_variables iM_rows iM_goals iM_differents iM_cases fM_from fM_to fM_whole fM_ways iM_plainRows fM_plainRow fM_kept fM_goalOver fM_goalUnder fM_goalMax fM_different) (WQ hQ aQ kQ hw fQ_inside_21 fQ_outside_21 fQ_shut_x4 iQ_rows iQ_allRows iQ_columns) (WW nW hw lw kw wl_21 wb_21 wG_21)
      obtain ⟨hP, hD⟩ := frameG p9 p8 hP hD hk1 hFc (fz_P ht hB9.1) hB9.2
      refine W.widen (k := 0) (n := 0) (by decide +kernel) (by decide +kernel) ?_
      exact W.zret (v := r21) hx hb hr (by rcases z01 (x := r21) (by first | exact b_r21 | with_reducible assumption | exact ⟨by omega, by omega⟩ | assumption) with h9 | h9 <;> rw [h9] <;> rfl) (fun t9_ ht hW => ⟨⟨r21, (fQ_inside_21, fQ_outside_21, fQ_shut_x4, wl_21, wb_21, wG_21), rfl, ⟨b_wl_21, b_wb_21, (by first | exact b_r21 | with_reducible assumption | exact ⟨by omega, by omega⟩ | assumption)⟩, by rw [ht]; exact hP, hD⟩, hS.F ht⟩) hS.2.2 dX5_settle_91
    · have t_12 : ¬ l3_x4.toInt ≥ iM_rows.toInt := toI_nge c_12 rfl rfl
      refine lv_iload_n hx hb dX5_settle_15 rfl (lv_at hl 3 rfl) ?_
      refine lv_if_eq (tgt := 32) hx hb dX5_settle_16 (by decide) (fun c_16 => ?_) (fun c_16 => ?_)
      · have t_16 : p1.toInt = 0 := toI_eq c_16 rfl (by decide : (0 : Int32).toInt = 0)
        refine lv_aload_n hx hb dX5_settle_32 rfl (lv_at hl 2 rfl) ?_
        refine va_get (D := (dC, dI)) (ci := 5) (v := .ref (hM 0)) (C := RX5) (T := TX5) (N := 19) hx hb hts iwsMX5_settle_in5 hown hK hP 0 rfl rfl 0 (by decide) (hts _ hm_m_X5_settle_0) (fun _ h9 => h9) rfl dX5_settle_33 ?_
        refine lv_iload_n hx hb dX5_settle_36 rfl (lv_at hl 0 rfl) ?_
        refine lv_iload_n hx hb dX5_settle_37 rfl (lv_at hl 3 rfl) ?_
        refine W.cut (pc := 51) (fun H locs ls stk => ∃ (k0_j11 : Int32), (0 ≤ k0_j11.toInt ∧ k0_j11.toInt ≤ 2) ∧  stk = [.int k0_j11, .int l3_x4, .ref (hM 0)] ∧ va_P (dC, dI) vwCl (WO hO aO kO hM hQ hw iO_answered iO_searched iO_searchedRelaxed iO_counted fO_countedCase gO_goalNumber gO_goalScale fO_start fO_column fO_chosen ++ (WM hM aM kM iM_stands iM_variables iM_rows iM_goals iM_differents iM_cases fM_from fM_to fM_whole fM_ways iM_plainRows fM_plainRow fM_kept fM_goalOver fM_goalUnder fM_goalMax fM_different ++ (WQ hQ aQ kQ hw fQ_inside_x4 fQ_outside_x4 fQ_shut_x4 iQ_rows iQ_allRows iQ_columns ++ (WW nW hw lw kw wl_x4 wb_x4 wG_x4)))) H ∧ va_D A (WO hO aO kO hM hQ hw iO_answered iO_searched iO_searchedRelaxed iO_counted fO_countedCase gO_goalNumber gO_goalScale fO_start fO_column fO_chosen ++ (WM hM aM kM iM_stands iM_variables iM_rows iM_goals iM_differents iM_cases fM_from fM_to fM_whole fM_ways iM_plainRows fM_plainRow fM_kept fM_goalOver fM_goalUnder fM_goalMax fM_different ++ (WQ hQ aQ kQ hw fQ_inside_x4 fQ_outside_x4 fQ_shut_x4 iQ_rows iQ_allRows iQ_columns ++ (WW nW hw lw kw wl_x4 wb_x4 wG_x4)))) ∧ va_S A s.heap H locs ∧ lv_has ls 5 [(3, .int l3_x4), (2, .int l2_x4), (0, .ref (hO 0)), (1, .int p1)]) (fun join11 => ?_) ?_
        · refine lv_if_eq (tgt := 45) hx hb dX5_settle_38 (by decide) (fun c_38 => ?_) (fun c_38 => ?_)
          · have t_38 : p1.toInt = 0 := toI_eq c_38 rfl (by decide : (0 : Int32).toInt = 0)
            refine lv_aload_n hx hb dX5_settle_45 rfl (lv_at hl 2 rfl) ?_
            refine va_get (D := (dC, dI)) (ci := 5) (v := .ref (aO 5)) (C := RX5) (T := TX5) (N := 19) hx hb hts iwsMX5_settle_in5 hown hK hP 0 rfl rfl 11 (by decide) (hts _ hm_m_X5_settle_2) (fun _ h9 => h9) rfl dX5_settle_46 ?_
            refine lv_iload_n hx hb dX5_settle_49 rfl (lv_at hl 0 rfl) ?_
            refine va_iald (cA := kO 5) (n := 12) (f := fO_chosen) hx hb hK hP 6 5 rfl rfl (vp_in_iff.mpr ⟨b_l3_x4.1, (by omega)⟩) dX5_settle_50 ?_
            refine lv_topi (fun v23 hv23 => ?_)
            have b_v23 : 0 ≤ v23.toInt ∧ v23.toInt ≤ 2 := by rw [hv23]; exact b_fO_chosen _
            clear hv23
            have hl : lv_has _ _ ([(3, .int l3_x4), (2, .int l2_x4), (0, .ref (hO 0)), (1, .int p1)]) := lv_sub hl [0, 1, 2, 3] rfl
            exact join11 _ _ _ _ ⟨v23, (b_v23), rfl, hP, hD, hS, hl⟩
          · have t_38 : ¬ p1.toInt = 0 := toI_neq c_38 rfl (by decide : (0 : Int32).toInt = 0)
            refine lv_iconst (v := 0) hx hb dX5_settle_41 (by decide) ?_
            refine lv_goto (tgt := 51) hx hb dX5_settle_42 (by decide) ?_
            have hl : lv_has _ _ ([(3, .int l3_x4), (2, .int l2_x4), (0, .ref (hO 0)), (1, .int p1)]) := lv_sub hl [0, 1, 2, 3] rfl
            exact join11 _ _ _ _ ⟨0, (show 0 ≤ (0 : Int32).toInt ∧ (0 : Int32).toInt ≤ 2 from by decide), rfl, hP, hD, hS, hl⟩
        · rintro H locs ls stk ⟨k0_j11, b_k0_j11, rfl, hP, hD, hS, hl⟩
          have p9 := cj_4_1 (WO hO aO kO hM hQ hw iO_answered iO_searched iO_searchedRelaxed iO_counted fO_countedCase gO_goalNumber gO_goalScale fO_start fO_column fO_chosen) (WM hM aM kM iM_stands iM_variables iM_rows iM_goals iM_differents iM_cases fM_from fM_to fM_whole fM_ways iM_plainRows fM_plainRow fM_kept fM_goalOver fM_goalUnder fM_goalMax fM_different) (WQ hQ aQ kQ hw fQ_inside_x4 fQ_outside_x4 fQ_shut_x4 iQ_rows iQ_allRows iQ_columns) (WW nW hw lw kw wl_x4 wb_x4 wG_x4)
          have hPc := hP.mem (fun q h => p9.mem_iff.mpr (List.mem_append_left _ h))
          have hDc := (hD.perm p9).left
          have hKc : va_K (dC, dI) vwCl (tM kM) _ := hK.sub [10, 11, 12, 13, 14, 15, 16, 17, 18, 19] rfl
          have hFc := freeG p9 hD hS hA
          refine va_calli (va_runV (As := [.int l3_x4, .int k0_j11]) (rest := []) ⟨hx, hb, hml, hown, hts⟩ (m_X1_sign l dC dI hM aM kM iM_stands iM_variables iM_rows iM_goals iM_differents iM_cases fM_from fM_to fM_whole fM_ways iM_plainRows fM_plainRow fM_kept fM_goalOver fM_goalUnder fM_goalMax fM_different l3_x4 k0_j11 (b_iM_stands) (b_iM_variables) (b_iM_rows) (b_iM_goals) (b_iM_differents) (b_iM_cases) b_fM_ways (b_iM_plainRows) b_fM_plainRow (by first | with_reducible assumption | omega | assumption) (by first | exact b_l3_x4 | with_reducible assumption | exact ⟨by omega, by omega⟩ | assumption) (b_k0_j11) H.size) (cwV 2 hts gwsMX5_settle_1 rfl rfl rfl hd_yX1_sign_RX1 (by decide +kernel)) (fz_pre (va_recv hK hP (ci := 1) (q0 := 11) rfl rfl) hPc hKc hDc) rfl rfl hl.1 rfl (lv_room (Nat.le_of_ble_eq_true rfl)) dX5_settle_51 (by decide +kernel)) hS (fun q _ h => hFc q h) hFc (fun r24 u t9_ H locs ht hvm hw9 hB9 hz1 hk1 hS => ?_)
          clear hw9
          have p8 := p9
          obtain ⟨hP, hD⟩ := frameG p9 p8 hP hD hk1 hFc (fz_P ht hB9.1) hB9.2
          refine lv_istore hx hb dX5_settle_54 hl (by decide) rfl (fun ls (hl : lv_has ls _ ([(4, .int r24), (3, .int l3_x4), (2, .int l2_x4), (0, .ref (hO 0)), (1, .int p1)])) => ?_)
          refine lv_iload hx hb dX5_settle_56 (lv_at hl 0 rfl) ?_
          refine lv_iconst (v := 2) hx hb dX5_settle_58 (by decide) ?_
          refine lv_icmp_ne (tgt := 75) hx hb dX5_settle_59 (by decide) (fun c_59 => ?_) (fun c_59 => ?_)
          · have t_59 : r24.toInt ≠ 2 := toI_ne c_59 rfl (by decide : (2 : Int32).toInt = 2)
            refine lv_iinc (v := (iI (l2_x4.toInt + 1))) hx hb dX5_settle_75 hl (k := 2) rfl (iI_add2 (iI_of _) (by decide : (1 : Int32) = iI 1)) (by decide) rfl (fun ls (hl : lv_has ls _ ([(2, .int (iI (l2_x4.toInt + 1))), (4, .int r24), (3, .int l3_x4), (0, .ref (hO 0)), (1, .int p1)])) => ?_)
            refine lv_iinc (v := (iI (l3_x4.toInt + 1))) hx hb dX5_settle_78 hl (k := 2) rfl (iI_add2 (iI_of _) (by decide : (1 : Int32) = iI 1)) (by decide) rfl (fun ls (hl : lv_has ls _ ([(3, .int (iI (l3_x4.toInt + 1))), (2, .int (iI (l2_x4.toInt + 1))), (4, .int r24), (0, .ref (hO 0)), (1, .int p1)])) => ?_)
            refine lv_goto (tgt := 4) hx hb dX5_settle_81 (by decide) ?_
            have hl : lv_has _ _ ([(3, .int (iI (l3_x4.toInt + 1))), (2, .int (iI (l2_x4.toInt + 1))), (0, .ref (hO 0)), (1, .int p1)]) := lv_sub hl [0, 1, 3, 4] rfl
            exact ihx4 fQ_inside_x4 fQ_outside_x4 fQ_shut_x4 wl_x4 wb_x4 wG_x4 (iI (l3_x4.toInt + 1)) (iI (l2_x4.toInt + 1)) _ _ _ b_wl_x4 b_wb_x4 (iI_rng (Int.le_trans (by decide) (Int.add_le_add (b_l3_x4.1) (Int.le_refl _))) (by omega) (by decide) (by decide)) (iI_rng (Int.le_trans (by decide) (Int.add_le_add (b_l2_x4.1) (Int.le_refl _))) (by omega) (by decide) (by decide)) (show (iI (l2_x4.toInt + 1)).toInt ≤ (iI (l3_x4.toInt + 1)).toInt from by (try rw [iI_t (E := l2_x4.toInt + 1) (by omega) (by omega)]); rw [iI_t (E := l3_x4.toInt + 1) (by omega) (by omega)]; omega) (by have e9 : ((iI (l3_x4.toInt + 1))).toInt = (l3_x4.toInt + 1) := (iI_t (Int.le_trans (by decide) (Int.add_le_add (b_l3_x4.1) (Int.le_refl _))) (Int.le_trans (Int.add_le_add (b_l3_x4.2) (Int.le_refl _)) (by decide))); omega) hP hD hS hl
          · have t_59 : r24.toInt = 2 := toI_nne c_59 rfl (by decide : (2 : Int32).toInt = 2)
            refine lv_aload_n hx hb dX5_settle_62 rfl (lv_at hl 3 rfl) ?_
            refine va_get (D := (dC, dI)) (ci := 5) (v := .ref (hQ 0)) (C := RX5) (T := TX5) (N := 19) hx hb hts iwsMX5_settle_in5 hown hK hP 0 rfl rfl 1 (by decide) (hts _ hm_m_X5_settle_1) (fun _ h9 => h9) rfl dX5_settle_63 ?_
            refine lv_iload_n hx hb dX5_settle_66 rfl (lv_at hl 2 rfl) ?_
            have p9 := cj_4_2_3 (WO hO aO kO hM hQ hw iO_answered iO_searched iO_searchedRelaxed iO_counted fO_countedCase gO_goalNumber gO_goalScale fO_start fO_column fO_chosen) (WM hM aM kM iM_stands iM_variables iM_rows iM_goals iM_differents iM_cases fM_from fM_to fM_whole fM_ways iM_plainRows fM_plainRow fM_kept fM_goalOver fM_goalUnder fM_goalMax fM_different) (WQ hQ aQ kQ hw fQ_inside_x4 fQ_outside_x4 fQ_shut_x4 iQ_rows iQ_allRows iQ_columns) (WW nW hw lw kw wl_x4 wb_x4 wG_x4)
            have hPc := hP.mem (fun q h => p9.mem_iff.mpr (List.mem_append_left _ h))
            have hDc := (hD.perm p9).left
            have hKc : va_K (dC, dI) vwCl (tQ kQ ++ (tW kw)) _ := hK.sub [20, 21, 22, 23, 24] rfl
            have hFc := freeG p9 hD hS hA
            refine va_calli (va_runV (As := [.int l2_x4]) (rest := []) ⟨hx, hb, hml, hown, hts⟩ (m_X6_holdAtNought l dC dI hQ aQ kQ hw fQ_inside_x4 fQ_outside_x4 fQ_shut_x4 iQ_rows iQ_allRows iQ_columns nW lw kw wl_x4 wb_x4 wG_x4 l2_x4 (b_iQ_rows) (b_iQ_allRows) (b_iQ_columns) (by first | with_reducible assumption | omega | assumption) b_wl_x4 b_wb_x4 (⟨b_l2_x4.1, Int.le_trans b_l2_x4.2 (by decide)⟩) (by omega) (FitR.small (I := 39) (C := 8) (by omega) (by omega) (by omega) (by omega) (by decide)) H.size) (cwV 1 hts gwsMX5_settle_2 rfl rfl rfl hd_yX6_holdAtNought_RX6 (by decide +kernel)) (fz_pre (va_recv hK hP (ci := 6) (q0 := 22) rfl rfl) hPc hKc hDc) rfl rfl hl.1 rfl (lv_room (Nat.le_of_ble_eq_true rfl)) dX5_settle_67 (by decide +kernel)) hS (fun q _ h => hFc q h) hFc (fun r25 u t9_ H locs ht hvm hw9 hB9 hz1 hk1 hS => ?_)
            revert u hw9 hB9
            refine fz_p6 ?_
            intro fQ_inside_25 fQ_outside_25 fQ_shut_25 wl_25 wb_25 wG_25 hw9 hB9
            try dsimp only at hw9 hB9
            revert hw9
            refine fz_a3 ?_
            intro b_wl_25 b_wb_25 b_r25
            have p8 := cj_4_2_3 (WO hO aO kO hM hQ hw iO_answered iO_searched iO_searchedRelaxed iO_counted fO_countedCase gO_goalNumber gO_goalScale fO_start fO_column fO_chosen) (WM hM aM kM iM_stands iM_variables iM_rows iM_goals iM_differents iM_cases fM_from fM_to fM_whole fM_ways iM_plainRows fM_plainRow fM_kept fM_goalOver fM_goalUnder fM_goalMax fM_different) (WQ hQ aQ kQ hw fQ_inside_25 fQ_outside_25 fQ_shut_25 iQ_rows iQ_allRows iQ_columns) (WW nW hw lw kw wl_25 wb_25 wG_25)
            obtain ⟨hP, hD⟩ := frameG p9 p8 hP hD hk1 hFc (fz_P ht hB9.1) hB9.2
            refine lv_if_ne (tgt := 75) hx hb dX5_settle_70 (by decide) (fun c_70 => ?_) (fun c_70 => ?_)
            · have t_70 : r25.toInt ≠ 0 := toI_ne c_70 rfl (by decide : (0 : Int32).toInt = 0)
              refine lv_iinc (v := (iI (l2_x4.toInt + 1))) hx hb dX5_settle_75 hl (k := 2) rfl (iI_add2 (iI_of _) (by decide : (1 : Int32) = iI 1)) (by decide) rfl (fun ls (hl : lv_has ls _ ([(2, .int (iI (l2_x4.toInt + 1))), (4, .int r24), (3, .int l3_x4), (0, .ref (hO 0)), (1, .int p1)])) => ?_)
              refine lv_iinc (v := (iI (l3_x4.toInt + 1))) hx hb dX5_settle_78 hl (k := 2) rfl (iI_add2 (iI_of _) (by decide : (1 : Int32) = iI 1)) (by decide) rfl (fun ls (hl : lv_has ls _ ([(3, .int (iI (l3_x4.toInt + 1))), (2, .int (iI (l2_x4.toInt + 1))), (4, .int r24), (0, .ref (hO 0)), (1, .int p1)])) => ?_)
              refine lv_goto (tgt := 4) hx hb dX5_settle_81 (by decide) ?_
              have hl : lv_has _ _ ([(3, .int (iI (l3_x4.toInt + 1))), (2, .int (iI (l2_x4.toInt + 1))), (0, .ref (hO 0)), (1, .int p1)]) := lv_sub hl [0, 1, 3, 4] rfl
              exact ihx4 fQ_inside_25 fQ_outside_25 fQ_shut_25 wl_25 wb_25 wG_25 (iI (l3_x4.toInt + 1)) (iI (l2_x4.toInt + 1)) _ _ _ b_wl_25 b_wb_25 (iI_rng (Int.le_trans (by decide) (Int.add_le_add (b_l3_x4.1) (Int.le_refl _))) (by omega) (by decide) (by decide)) (iI_rng (Int.le_trans (by decide) (Int.add_le_add (b_l2_x4.1) (Int.le_refl _))) (by omega) (by decide) (by decide)) (show (iI (l2_x4.toInt + 1)).toInt ≤ (iI (l3_x4.toInt + 1)).toInt from by (try rw [iI_t (E := l2_x4.toInt + 1) (by omega) (by omega)]); rw [iI_t (E := l3_x4.toInt + 1) (by omega) (by omega)]; omega) (by have e9 : ((iI (l3_x4.toInt + 1))).toInt = (l3_x4.toInt + 1) := (iI_t (Int.le_trans (by decide) (Int.add_le_add (b_l3_x4.1) (Int.le_refl _))) (Int.le_trans (Int.add_le_add (b_l3_x4.2) (Int.le_refl _)) (by decide))); omega) hP hD hS hl
            · have t_70 : r25.toInt = 0 := toI_nne c_70 rfl (by decide : (0 : Int32).toInt = 0)
              refine lv_iconst (v := 0) hx hb dX5_settle_73 (by decide) ?_
              refine W.widen (k := 0) (n := 0) (by decide +kernel) (by decide +kernel) ?_
              exact W.zret (v := 0) hx hb hr rfl (fun t9_ ht hW => ⟨⟨(0 : Int32), (fQ_inside_25, fQ_outside_25, fQ_shut_25, wl_25, wb_25, wG_25), rfl, ⟨b_wl_25, b_wb_25, (show 0 ≤ (0 : Int32).toInt ∧ (0 : Int32).toInt ≤ 1 from by decide)⟩, by rw [ht]; exact hP, hD⟩, hS.F ht⟩) hS.2.2 dX5_settle_74
      · have t_16 : ¬ p1.toInt = 0 := toI_neq c_16 rfl (by decide : (0 : Int32).toInt = 0)
        refine lv_aload_n hx hb dX5_settle_19 rfl (lv_at hl 2 rfl) ?_
        refine va_get (D := (dC, dI)) (ci := 5) (v := .ref (hM 0)) (C := RX5) (T := TX5) (N := 19) hx hb hts iwsMX5_settle_in5 hown hK hP 0 rfl rfl 0 (by decide) (hts _ hm_m_X5_settle_0) (fun _ h9 => h9) rfl dX5_settle_20 ?_
        refine va_get (D := (dC, dI)) (ci := 1) (v := .ref (aM 3)) (C := RX1) (T := TX1) (N := 17) hx hb hts iwsMX5_settle_in1 hown hK hP 11 rfl rfl 9 (by decide) (hts (.fieldLink RX5 134 "OptimaWorks$Model" "ways" "[I") (by decide +kernel)) (fun _ h9 => h9) rfl dX5_settle_23 ?_
        refine lv_iload_n hx hb dX5_settle_26 rfl (lv_at hl 0 rfl) ?_
        refine va_iald (cA := kM 3) (n := 12) (f := fM_ways) hx hb hK hP 15 13 rfl rfl (vp_in_iff.mpr ⟨b_l3_x4.1, (by omega)⟩) dX5_settle_27 ?_
        refine lv_topi (fun v26 hv26 => ?_)
        have b_v26 : 0 ≤ v26.toInt ∧ v26.toInt ≤ 3 := by rw [hv26]; exact b_fM_ways _
        clear hv26
        refine lv_iconst (v := 1) hx hb dX5_settle_28 (by decide) ?_
        refine lv_icmp_ne (tgt := 78) hx hb dX5_settle_29 (by decide) (fun c_29 => ?_) (fun c_29 => ?_)
        · have t_29 : v26.toInt ≠ 1 := toI_ne c_29 rfl (by decide : (1 : Int32).toInt = 1)
          refine lv_iinc (v := (iI (l3_x4.toInt + 1))) hx hb dX5_settle_78 hl (k := 0) rfl (iI_add2 (iI_of _) (by decide : (1 : Int32) = iI 1)) (by decide) rfl (fun ls (hl : lv_has ls _ ([(3, .int (iI (l3_x4.toInt + 1))), (2, .int l2_x4), (0, .ref (hO 0)), (1, .int p1)])) => ?_)
          refine lv_goto (tgt := 4) hx hb dX5_settle_81 (by decide) ?_
          have hl : lv_has _ _ ([(3, .int (iI (l3_x4.toInt + 1))), (2, .int l2_x4), (0, .ref (hO 0)), (1, .int p1)]) := lv_sub hl [0, 1, 2, 3] rfl
          exact ihx4 fQ_inside_x4 fQ_outside_x4 fQ_shut_x4 wl_x4 wb_x4 wG_x4 (iI (l3_x4.toInt + 1)) l2_x4 _ _ _ b_wl_x4 b_wb_x4 (iI_rng (Int.le_trans (by decide) (Int.add_le_add (b_l3_x4.1) (Int.le_refl _))) (by omega) (by decide) (by decide)) (b_l2_x4) (show l2_x4.toInt ≤ (iI (l3_x4.toInt + 1)).toInt from by (try rw [iI_t (E := l2_x4.toInt + 1) (by omega) (by omega)]); rw [iI_t (E := l3_x4.toInt + 1) (by omega) (by omega)]; omega) (by have e9 : ((iI (l3_x4.toInt + 1))).toInt = (l3_x4.toInt + 1) := (iI_t (Int.le_trans (by decide) (Int.add_le_add (b_l3_x4.1) (Int.le_refl _))) (Int.le_trans (Int.add_le_add (b_l3_x4.2) (Int.le_refl _)) (by decide))); omega) hP hD hS hl
        · have t_29 : v26.toInt = 1 := toI_nne c_29 rfl (by decide : (1 : Int32).toInt = 1)
          refine lv_aload_n hx hb dX5_settle_32 rfl (lv_at hl 2 rfl) ?_
          refine va_get (D := (dC, dI)) (ci := 5) (v := .ref (hM 0)) (C := RX5) (T := TX5) (N := 19) hx hb hts iwsMX5_settle_in5 hown hK hP 0 rfl rfl 0 (by decide) (hts _ hm_m_X5_settle_0) (fun _ h9 => h9) rfl dX5_settle_33 ?_
          refine lv_iload_n hx hb dX5_settle_36 rfl (lv_at hl 0 rfl) ?_
          refine lv_iload_n hx hb dX5_settle_37 rfl (lv_at hl 3 rfl) ?_
          refine W.cut (pc := 51) (fun H locs ls stk => ∃ (k0_j12 : Int32), (0 ≤ k0_j12.toInt ∧ k0_j12.toInt ≤ 2) ∧  stk = [.int k0_j12, .int l3_x4, .ref (hM 0)] ∧ va_P (dC, dI) vwCl (WO hO aO kO hM hQ hw iO_answered iO_searched iO_searchedRelaxed iO_counted fO_countedCase gO_goalNumber gO_goalScale fO_start fO_column fO_chosen ++ (WM hM aM kM iM_stands iM_variables iM_rows iM_goals iM_differents iM_cases fM_from fM_to fM_whole fM_ways iM_plainRows fM_plainRow fM_kept fM_goalOver fM_goalUnder fM_goalMax fM_different ++ (WQ hQ aQ kQ hw fQ_inside_x4 fQ_outside_x4 fQ_shut_x4 iQ_rows iQ_allRows iQ_columns ++ (WW nW hw lw kw wl_x4 wb_x4 wG_x4)))) H ∧ va_D A (WO hO aO kO hM hQ hw iO_answered iO_searched iO_searchedRelaxed iO_counted fO_countedCase gO_goalNumber gO_goalScale fO_start fO_column fO_chosen ++ (WM hM aM kM iM_stands iM_variables iM_rows iM_goals iM_differents iM_cases fM_from fM_to fM_whole fM_ways iM_plainRows fM_plainRow fM_kept fM_goalOver fM_goalUnder fM_goalMax fM_different ++ (WQ hQ aQ kQ hw fQ_inside_x4 fQ_outside_x4 fQ_shut_x4 iQ_rows iQ_allRows iQ_columns ++ (WW nW hw lw kw wl_x4 wb_x4 wG_x4)))) ∧ va_S A s.heap H locs ∧ lv_has ls 5 [(3, .int l3_x4), (2, .int l2_x4), (0, .ref (hO 0)), (1, .int p1)]) (fun join12 => ?_) ?_
          · refine lv_if_eq (tgt := 45) hx hb dX5_settle_38 (by decide) (fun c_38 => ?_) (fun c_38 => ?_)
            · have t_38 : p1.toInt = 0 := toI_eq c_38 rfl (by decide : (0 : Int32).toInt = 0)
              refine lv_aload_n hx hb dX5_settle_45 rfl (lv_at hl 2 rfl) ?_
              refine va_get (D := (dC, dI)) (ci := 5) (v := .ref (aO 5)) (C := RX5) (T := TX5) (N := 19) hx hb hts iwsMX5_settle_in5 hown hK hP 0 rfl rfl 11 (by decide) (hts _ hm_m_X5_settle_2) (fun _ h9 => h9) rfl dX5_settle_46 ?_
              refine lv_iload_n hx hb dX5_settle_49 rfl (lv_at hl 0 rfl) ?_
              refine va_iald (cA := kO 5) (n := 12) (f := fO_chosen) hx hb hK hP 6 5 rfl rfl (vp_in_iff.mpr ⟨b_l3_x4.1, (by omega)⟩) dX5_settle_50 ?_
              refine lv_topi (fun v28 hv28 => ?_)
              have b_v28 : 0 ≤ v28.toInt ∧ v28.toInt ≤ 2 := by rw [hv28]; exact b_fO_chosen _
              clear hv28
              have hl : lv_has _ _ ([(3, .int l3_x4), (2, .int l2_x4), (0, .ref (hO 0)), (1, .int p1)]) := lv_sub hl [0, 1, 2, 3] rfl
              exact join12 _ _ _ _ ⟨v28, (b_v28), rfl, hP, hD, hS, hl⟩
            · have t_38 : ¬ p1.toInt = 0 := toI_neq c_38 rfl (by decide : (0 : Int32).toInt = 0)
              refine lv_iconst (v := 0) hx hb dX5_settle_41 (by decide) ?_
              refine lv_goto (tgt := 51) hx hb dX5_settle_42 (by decide) ?_
              have hl : lv_has _ _ ([(3, .int l3_x4), (2, .int l2_x4), (0, .ref (hO 0)), (1, .int p1)]) := lv_sub hl [0, 1, 2, 3] rfl
              exact join12 _ _ _ _ ⟨0, (show 0 ≤ (0 : Int32).toInt ∧ (0 : Int32).toInt ≤ 2 from by decide), rfl, hP, hD, hS, hl⟩
          · rintro H locs ls stk ⟨k0_j12, b_k0_j12, rfl, hP, hD, hS, hl⟩
            have p9 := cj_4_1 (WO hO aO kO hM hQ hw iO_answered iO_searched iO_searchedRelaxed iO_counted fO_countedCase gO_goalNumber gO_goalScale fO_start fO_column fO_chosen) (WM hM aM kM iM_stands iM_variables iM_rows iM_goals iM_differents iM_cases fM_from fM_to fM_whole fM_ways iM_plainRows fM_plainRow fM_kept fM_goalOver fM_goalUnder fM_goalMax fM_different) (WQ hQ aQ kQ hw fQ_inside_x4 fQ_outside_x4 fQ_shut_x4 iQ_rows iQ_allRows iQ_columns) (WW nW hw lw kw wl_x4 wb_x4 wG_x4)
            have hPc := hP.mem (fun q h => p9.mem_iff.mpr (List.mem_append_left _ h))
            have hDc := (hD.perm p9).left
            have hKc : va_K (dC, dI) vwCl (tM kM) _ := hK.sub [10, 11, 12, 13, 14, 15, 16, 17, 18, 19] rfl
            have hFc := freeG p9 hD hS hA
            refine va_calli (va_runV (As := [.int l3_x4, .int k0_j12]) (rest := []) ⟨hx, hb, hml, hown, hts⟩ (m_X1_sign l dC dI hM aM kM iM_stands iM_variables iM_rows iM_goals iM_differents iM_cases fM_from fM_to fM_whole fM_ways iM_plainRows fM_plainRow fM_kept fM_goalOver fM_goalUnder fM_goalMax fM_different l3_x4 k0_j12 (b_iM_stands) (b_iM_variables) (b_iM_rows) (b_iM_goals) (b_iM_differents) (b_iM_cases) b_fM_ways (b_iM_plainRows) b_fM_plainRow (by first | with_reducible assumption | omega | assumption) (by first | exact b_l3_x4 | with_reducible assumption | exact ⟨by omega, by omega⟩ | assumption) (b_k0_j12) H.size) (cwV 2 hts gwsMX5_settle_1 rfl rfl rfl hd_yX1_sign_RX1 (by decide +kernel)) (fz_pre (va_recv hK hP (ci := 1) (q0 := 11) rfl rfl) hPc hKc hDc) rfl rfl hl.1 rfl (lv_room (Nat.le_of_ble_eq_true rfl)) dX5_settle_51 (by decide +kernel)) hS (fun q _ h => hFc q h) hFc (fun r29 u t9_ H locs ht hvm hw9 hB9 hz1 hk1 hS => ?_)
            clear hw9
            have p8 := p9
            obtain ⟨hP, hD⟩ := frameG p9 p8 hP hD hk1 hFc (fz_P ht hB9.1) hB9.2
            refine lv_istore hx hb dX5_settle_54 hl (by decide) rfl (fun ls (hl : lv_has ls _ ([(4, .int r29), (3, .int l3_x4), (2, .int l2_x4), (0, .ref (hO 0)), (1, .int p1)])) => ?_)
            refine lv_iload hx hb dX5_settle_56 (lv_at hl 0 rfl) ?_
            refine lv_iconst (v := 2) hx hb dX5_settle_58 (by decide) ?_
            refine lv_icmp_ne (tgt := 75) hx hb dX5_settle_59 (by decide) (fun c_59 => ?_) (fun c_59 => ?_)
            · have t_59 : r29.toInt ≠ 2 := toI_ne c_59 rfl (by decide : (2 : Int32).toInt = 2)
              refine lv_iinc (v := (iI (l2_x4.toInt + 1))) hx hb dX5_settle_75 hl (k := 2) rfl (iI_add2 (iI_of _) (by decide : (1 : Int32) = iI 1)) (by decide) rfl (fun ls (hl : lv_has ls _ ([(2, .int (iI (l2_x4.toInt + 1))), (4, .int r29), (3, .int l3_x4), (0, .ref (hO 0)), (1, .int p1)])) => ?_)
              refine lv_iinc (v := (iI (l3_x4.toInt + 1))) hx hb dX5_settle_78 hl (k := 2) rfl (iI_add2 (iI_of _) (by decide : (1 : Int32) = iI 1)) (by decide) rfl (fun ls (hl : lv_has ls _ ([(3, .int (iI (l3_x4.toInt + 1))), (2, .int (iI (l2_x4.toInt + 1))), (4, .int r29), (0, .ref (hO 0)), (1, .int p1)])) => ?_)
              refine lv_goto (tgt := 4) hx hb dX5_settle_81 (by decide) ?_
              have hl : lv_has _ _ ([(3, .int (iI (l3_x4.toInt + 1))), (2, .int (iI (l2_x4.toInt + 1))), (0, .ref (hO 0)), (1, .int p1)]) := lv_sub hl [0, 1, 3, 4] rfl
              exact ihx4 fQ_inside_x4 fQ_outside_x4 fQ_shut_x4 wl_x4 wb_x4 wG_x4 (iI (l3_x4.toInt + 1)) (iI (l2_x4.toInt + 1)) _ _ _ b_wl_x4 b_wb_x4 (iI_rng (Int.le_trans (by decide) (Int.add_le_add (b_l3_x4.1) (Int.le_refl _))) (by omega) (by decide) (by decide)) (iI_rng (Int.le_trans (by decide) (Int.add_le_add (b_l2_x4.1) (Int.le_refl _))) (by omega) (by decide) (by decide)) (show (iI (l2_x4.toInt + 1)).toInt ≤ (iI (l3_x4.toInt + 1)).toInt from by (try rw [iI_t (E := l2_x4.toInt + 1) (by omega) (by omega)]); rw [iI_t (E := l3_x4.toInt + 1) (by omega) (by omega)]; omega) (by have e9 : ((iI (l3_x4.toInt + 1))).toInt = (l3_x4.toInt + 1) := (iI_t (Int.le_trans (by decide) (Int.add_le_add (b_l3_x4.1) (Int.le_refl _))) (Int.le_trans (Int.add_le_add (b_l3_x4.2) (Int.le_refl _)) (by decide))); omega) hP hD hS hl
            · have t_59 : r29.toInt = 2 := toI_nne c_59 rfl (by decide : (2 : Int32).toInt = 2)
              refine lv_aload_n hx hb dX5_settle_62 rfl (lv_at hl 3 rfl) ?_
              refine va_get (D := (dC, dI)) (ci := 5) (v := .ref (hQ 0)) (C := RX5) (T := TX5) (N := 19) hx hb hts iwsMX5_settle_in5 hown hK hP 0 rfl rfl 1 (by decide) (hts _ hm_m_X5_settle_1) (fun _ h9 => h9) rfl dX5_settle_63 ?_
              refine lv_iload_n hx hb dX5_settle_66 rfl (lv_at hl 2 rfl) ?_
              have p9 := cj_4_2_3 (WO hO aO kO hM hQ hw iO_answered iO_searched iO_searchedRelaxed iO_counted fO_countedCase gO_goalNumber gO_goalScale fO_start fO_column fO_chosen) (WM hM aM kM iM_stands iM_variables iM_rows iM_goals iM_differents iM_cases fM_from fM_to fM_whole fM_ways iM_plainRows fM_plainRow fM_kept fM_goalOver fM_goalUnder fM_goalMax fM_different) (WQ hQ aQ kQ hw fQ_inside_x4 fQ_outside_x4 fQ_shut_x4 iQ_rows iQ_allRows iQ_columns) (WW nW hw lw kw wl_x4 wb_x4 wG_x4)
              have hPc := hP.mem (fun q h => p9.mem_iff.mpr (List.mem_append_left _ h))
              have hDc := (hD.perm p9).left
              have hKc : va_K (dC, dI) vwCl (tQ kQ ++ (tW kw)) _ := hK.sub [20, 21, 22, 23, 24] rfl
              have hFc := freeG p9 hD hS hA
              refine va_calli (va_runV (As := [.int l2_x4]) (rest := []) ⟨hx, hb, hml, hown, hts⟩ (m_X6_holdAtNought l dC dI hQ aQ kQ hw fQ_inside_x4 fQ_outside_x4 fQ_shut_x4 iQ_rows iQ_allRows iQ_columns nW lw kw wl_x4 wb_x4 wG_x4 l2_x4 (b_iQ_rows) (b_iQ_allRows) (b_iQ_columns) (by first | with_reducible assumption | omega | assumption) b_wl_x4 b_wb_x4 (⟨b_l2_x4.1, Int.le_trans b_l2_x4.2 (by decide)⟩) (by omega) (FitR.small (I := 39) (C := 8) (by omega) (by omega) (by omega) (by omega) (by decide)) H.size) (cwV 1 hts gwsMX5_settle_2 rfl rfl rfl hd_yX6_holdAtNought_RX6 (by decide +kernel)) (fz_pre (va_recv hK hP (ci := 6) (q0 := 22) rfl rfl) hPc hKc hDc) rfl rfl hl.1 rfl (lv_room (Nat.le_of_ble_eq_true rfl)) dX5_settle_67 (by decide +kernel)) hS (fun q _ h => hFc q h) hFc (fun r30 u t9_ H locs ht hvm hw9 hB9 hz1 hk1 hS => ?_)
              revert u hw9 hB9
              refine fz_p6 ?_
              intro fQ_inside_30 fQ_outside_30 fQ_shut_30 wl_30 wb_30 wG_30 hw9 hB9
              try dsimp only at hw9 hB9
              revert hw9
              refine fz_a3 ?_
              intro b_wl_30 b_wb_30 b_r30
              have p8 := cj_4_2_3 (WO hO aO kO hM hQ hw iO_answered iO_searched iO_searchedRelaxed iO_counted fO_countedCase gO_goalNumber gO_goalScale fO_start fO_column fO_chosen) (WM hM aM kM iM_stands iM_variables iM_rows iM_goals iM_differents iM_cases fM_from fM_to fM_whole fM_ways iM_plainRows fM_plainRow fM_kept fM_goalOver fM_goalUnder fM_goalMax fM_different) (WQ hQ aQ kQ hw fQ_inside_30 fQ_outside_30 fQ_shut_30 iQ_rows iQ_allRows iQ_columns) (WW nW hw lw kw wl_30 wb_30 wG_30)
              obtain ⟨hP, hD⟩ := frameG p9 p8 hP hD hk1 hFc (fz_P ht hB9.1) hB9.2
              refine lv_if_ne (tgt := 75) hx hb dX5_settle_70 (by decide) (fun c_70 => ?_) (fun c_70 => ?_)
              · have t_70 : r30.toInt ≠ 0 := toI_ne c_70 rfl (by decide : (0 : Int32).toInt = 0)
                refine lv_iinc (v := (iI (l2_x4.toInt + 1))) hx hb dX5_settle_75 hl (k := 2) rfl (iI_add2 (iI_of _) (by decide : (1 : Int32) = iI 1)) (by decide) rfl (fun ls (hl : lv_has ls _ ([(2, .int (iI (l2_x4.toInt + 1))), (4, .int r29), (3, .int l3_x4), (0, .ref (hO 0)), (1, .int p1)])) => ?_)
                refine lv_iinc (v := (iI (l3_x4.toInt + 1))) hx hb dX5_settle_78 hl (k := 2) rfl (iI_add2 (iI_of _) (by decide : (1 : Int32) = iI 1)) (by decide) rfl (fun ls (hl : lv_has ls _ ([(3, .int (iI (l3_x4.toInt + 1))), (2, .int (iI (l2_x4.toInt + 1))), (4, .int r29), (0, .ref (hO 0)), (1, .int p1)])) => ?_)
                refine lv_goto (tgt := 4) hx hb dX5_settle_81 (by decide) ?_
                have hl : lv_has _ _ ([(3, .int (iI (l3_x4.toInt + 1))), (2, .int (iI (l2_x4.toInt + 1))), (0, .ref (hO 0)), (1, .int p1)]) := lv_sub hl [0, 1, 3, 4] rfl
                exact ihx4 fQ_inside_30 fQ_outside_30 fQ_shut_30 wl_30 wb_30 wG_30 (iI (l3_x4.toInt + 1)) (iI (l2_x4.toInt + 1)) _ _ _ b_wl_30 b_wb_30 (iI_rng (Int.le_trans (by decide) (Int.add_le_add (b_l3_x4.1) (Int.le_refl _))) (by omega) (by decide) (by decide)) (iI_rng (Int.le_trans (by decide) (Int.add_le_add (b_l2_x4.1) (Int.le_refl _))) (by omega) (by decide) (by decide)) (show (iI (l2_x4.toInt + 1)).toInt ≤ (iI (l3_x4.toInt + 1)).toInt from by (try rw [iI_t (E := l2_x4.toInt + 1) (by omega) (by omega)]); rw [iI_t (E := l3_x4.toInt + 1) (by omega) (by omega)]; omega) (by have e9 : ((iI (l3_x4.toInt + 1))).toInt = (l3_x4.toInt + 1) := (iI_t (Int.le_trans (by decide) (Int.add_le_add (b_l3_x4.1) (Int.le_refl _))) (Int.le_trans (Int.add_le_add (b_l3_x4.2) (Int.le_refl _)) (by decide))); omega) hP hD hS hl
              · have t_70 : r30.toInt = 0 := toI_nne c_70 rfl (by decide : (0 : Int32).toInt = 0)
                refine lv_iconst (v := 0) hx hb dX5_settle_73 (by decide) ?_
                refine W.widen (k := 0) (n := 0) (by decide +kernel) (by decide +kernel) ?_
                exact W.zret (v := 0) hx hb hr rfl (fun t9_ ht hW => ⟨⟨(0 : Int32), (fQ_inside_30, fQ_outside_30, fQ_shut_30, wl_30, wb_30, wG_30), rfl, ⟨b_wl_30, b_wb_30, (show 0 ≤ (0 : Int32).toInt ∧ (0 : Int32).toInt ≤ 1 from by decide)⟩, by rw [ht]; exact hP, hD⟩, hS.F ht⟩) hS.2.2 dX5_settle_74
theorem dX5_goalRow_0 : decode cX5_goalRow 0 = .ok (.aload_n 0, 1) := dk_42 (by decide +kernel)
theorem dX5_goalRow_1 : decode cX5_goalRow 1 = .ok (.getfield 12, 3) := dk_180 (by decide +kernel)
theorem dX5_goalRow_4 : decode cX5_goalRow 4 = .ok (.invokevirtual 221, 3) := dk_182 (by decide +kernel)
theorem dX5_goalRow_7 : decode cX5_goalRow 7 = .ok (.iload_n 1, 1) := dk_27 (by decide +kernel)
theorem dX5_goalRow_8 : decode cX5_goalRow 8 = .ok (.iadd, 1) := dk_96 (by decide +kernel)
theorem dX5_goalRow_9 : decode cX5_goalRow 9 = .ok (.ireturn, 1) := dk_172 (by decide +kernel)
def wsMX5_goalRow : List Cond := .code yX5_goalRow cX5_goalRow 2 (some .int) :: ([.fieldLink RX5 12 "OptimaWorks$Solver" "tableau" "LOptimaWorks$Tableau;"] ++ wsX50 ++ (wsV RX5 221 RX6 yX6_rowCount wsMX6_rowCount))
theorem iwsMX5_goalRow_in5 : ∀ w ∈ wsX50, w ∈ wsMX5_goalRow := fun _ h => List.mem_cons_of_mem _ (List.mem_append_left _ (List.mem_append_right _ h))
theorem gwsMX5_goalRow_0 : GoodIn wsMX5_goalRow (wsV RX5 221 RX6 yX6_rowCount wsMX6_rowCount) := goodIn_sub (fun _ h => List.mem_cons_of_mem _ (List.mem_append_right _ h)) (gdV (by decide +kernel) gdwsMX6_rowCount)
theorem gdwsMX5_goalRow : wsMX5_goalRow.all goodWord = true := gdC rfl (gdA (gdA (by decide +kernel : ([.fieldLink RX5 12 "OptimaWorks$Solver" "tableau" "LOptimaWorks$Tableau;"] : List Cond).all goodWord = true) gdwsX50) (gdV (by decide +kernel) gdwsMX6_rowCount))
set_option maxHeartbeats 4000000 in
set_option maxRecDepth 100000 in
/-- the row of a goal -/
theorem m_X5_goalRow (l : Launch) (dC : Nat → ClassId) (dI : Nat → Nat → Nat) (hO : Nat → Nat) (aO : Nat → Nat) (kO : Nat → ClassId) (hM : Nat → Nat) (hQ : Nat → Nat) (hw : Nat → Nat) (iO_answered : Int32) (iO_searched : Int32) (iO_searchedRelaxed : Int32) (iO_counted : Int32) (fO_countedCase : Nat → Int32) (gO_goalNumber : Nat → Int64) (gO_goalScale : Nat → Int64) (fO_start : Nat → Int32) (fO_column : Nat → Int32) (fO_chosen : Nat → Int32) (aM : Nat → Nat) (kM : Nat → ClassId) (iM_stands : Int32) (iM_variables : Int32) (iM_rows : Int32) (iM_goals : Int32) (iM_differents : Int32) (iM_cases : Int32) (fM_from : Nat → Int32) (fM_to : Nat → Int32) (fM_whole : Nat → Int32) (fM_ways : Nat → Int32) (iM_plainRows : Int32) (fM_plainRow : Nat → Int32) (fM_kept : Nat → Int32) (fM_goalOver : Nat → Int32) (fM_goalUnder : Nat → Int32) (fM_goalMax : Nat → Int32) (fM_different : Nat → Int32) (aQ : Nat → Nat) (kQ : Nat → ClassId) (fQ_inside : Nat → Int32) (fQ_outside : Nat → Int32) (fQ_shut : Nat → Int32) (iQ_rows : Int32) (iQ_allRows : Int32) (iQ_columns : Int32) (nW : Nat) (lw : Nat → Nat) (kw : ClassId) (wl : Nat → Int32) (wb : Nat → Int32) (wG : Nat → Nat → Int64) (p1 : Int32) (b_iO_answered : 0 ≤ iO_answered.toInt ∧ iO_answered.toInt ≤ 1) (b_iO_searched : 0 ≤ iO_searched.toInt ∧ iO_searched.toInt ≤ 1) (b_iO_searchedRelaxed : 0 ≤ iO_searchedRelaxed.toInt ∧ iO_searchedRelaxed.toInt ≤ 1) (b_iO_counted : (-1) ≤ iO_counted.toInt ∧ iO_counted.toInt ≤ 64) (b_fO_countedCase : ∀ q : Nat, 0 ≤ (fO_countedCase q).toInt ∧ (fO_countedCase q).toInt ≤ 200000) (b_fO_column : ∀ q : Nat, (-1) ≤ (fO_column q).toInt ∧ (fO_column q).toInt ≤ 8) (b_fO_chosen : ∀ q : Nat, 0 ≤ (fO_chosen q).toInt ∧ (fO_chosen q).toInt ≤ 2) (b_iM_stands : 0 ≤ iM_stands.toInt ∧ iM_stands.toInt ≤ 1) (b_iM_variables : 0 ≤ iM_variables.toInt ∧ iM_variables.toInt ≤ 8) (b_iM_rows : 0 ≤ iM_rows.toInt ∧ iM_rows.toInt ≤ 12) (b_iM_goals : 0 ≤ iM_goals.toInt ∧ iM_goals.toInt ≤ 3) (b_iM_differents : 0 ≤ iM_differents.toInt ∧ iM_differents.toInt ≤ 8) (b_iM_cases : 0 ≤ iM_cases.toInt ∧ iM_cases.toInt ≤ 200000) (b_fM_ways : ∀ q : Nat, 0 ≤ (fM_ways q).toInt ∧ (fM_ways q).toInt ≤ 3) (b_iM_plainRows : 0 ≤ iM_plainRows.toInt ∧ iM_plainRows.toInt ≤ 12) (b_fM_plainRow : ∀ q : Nat, 0 ≤ (fM_plainRow q).toInt ∧ (fM_plainRow q).toInt ≤ 11) (b_pr : iM_plainRows.toInt ≤ iM_rows.toInt) (b_iQ_rows : 0 ≤ iQ_rows.toInt ∧ iQ_rows.toInt ≤ 40) (b_iQ_allRows : 0 ≤ iQ_allRows.toInt ∧ iQ_allRows.toInt ≤ 40) (b_iQ_columns : 0 ≤ iQ_columns.toInt ∧ iQ_columns.toInt ≤ 40) (b_tb : TbO iQ_rows iQ_allRows iQ_columns) (b_wl : ∀ q : Nat, 0 ≤ (wl q).toInt ∧ (wl q).toInt ≤ 14) (b_wb : ∀ q : Nat, 0 ≤ (wb q).toInt ∧ (wb q).toInt ≤ 1) (b_p1 : 0 ≤ p1.toInt ∧ p1.toInt ≤ 2) (hnW : 432 ≤ nW) (hr20 : iQ_rows.toInt ≤ 20) (sz : Nat) : Met l yX5_goalRow wsMX5_goalRow ({ frames := 1, cells := 0, slots := 0, locals := 20 }) (va_Pc [.ref (hO 0), .int p1] (fun U => U.heap.size = sz ∧ va_P (dC, dI) vwCl (WO hO aO kO hM hQ hw iO_answered iO_searched iO_searchedRelaxed iO_counted fO_countedCase gO_goalNumber gO_goalScale fO_start fO_column fO_chosen ++ (WM hM aM kM iM_stands iM_variables iM_rows iM_goals iM_differents iM_cases fM_from fM_to fM_whole fM_ways iM_plainRows fM_plainRow fM_kept fM_goalOver fM_goalUnder fM_goalMax fM_different ++ (WQ hQ aQ kQ hw fQ_inside fQ_outside fQ_shut iQ_rows iQ_allRows iQ_columns ++ (WW nW hw lw kw wl wb wG)))) U.heap ∧ va_K (dC, dI) vwCl (tO kO ++ (tM kM ++ (tQ kQ ++ (tW kw)))) U ∧ va_D (fun _ => True) (WO hO aO kO hM hQ hw iO_answered iO_searched iO_searchedRelaxed iO_counted fO_countedCase gO_goalNumber gO_goalScale fO_start fO_column fO_chosen ++ (WM hM aM kM iM_stands iM_variables iM_rows iM_goals iM_differents iM_cases fM_from fM_to fM_whole fM_ways iM_plainRows fM_plainRow fM_kept fM_goalOver fM_goalUnder fM_goalMax fM_different ++ (WQ hQ aQ kQ hw fQ_inside fQ_outside fQ_shut iQ_rows iQ_allRows iQ_columns ++ (WW nW hw lw kw wl wb wG)))))) (va_Qi (fun (r : Int32) (u : Unit) => (0 ≤ r.toInt ∧ r.toInt ≤ 22)) (fun (u : Unit) t => va_P (dC, dI) vwCl (WO hO aO kO hM hQ hw iO_answered iO_searched iO_searchedRelaxed iO_counted fO_countedCase gO_goalNumber gO_goalScale fO_start fO_column fO_chosen ++ (WM hM aM kM iM_stands iM_variables iM_rows iM_goals iM_differents iM_cases fM_from fM_to fM_whole fM_ways iM_plainRows fM_plainRow fM_kept fM_goalOver fM_goalUnder fM_goalMax fM_different ++ (WQ hQ aQ kQ hw fQ_inside fQ_outside fQ_shut iQ_rows iQ_allRows iQ_columns ++ (WW nW hw lw kw wl wb wG)))) t.heap ∧ va_D (va_A (WO hO aO kO hM hQ hw iO_answered iO_searched iO_searchedRelaxed iO_counted fO_countedCase gO_goalNumber gO_goalScale fO_start fO_column fO_chosen ++ (WM hM aM kM iM_stands iM_variables iM_rows iM_goals iM_differents iM_cases fM_from fM_to fM_whole fM_ways iM_plainRows fM_plainRow fM_kept fM_goalOver fM_goalUnder fM_goalMax fM_different ++ (WQ hQ aQ kQ hw fQ_inside fQ_outside fQ_shut iQ_rows iQ_allRows iQ_columns ++ (WW nW hw lw kw wl wb wG)))) sz) (WO hO aO kO hM hQ hw iO_answered iO_searched iO_searchedRelaxed iO_counted fO_countedCase gO_goalNumber gO_goalScale fO_start fO_column fO_chosen ++ (WM hM aM kM iM_stands iM_variables iM_rows iM_goals iM_differents iM_cases fM_from fM_to fM_whole fM_ways iM_plainRows fM_plainRow fM_kept fM_goalOver fM_goalUnder fM_goalMax fM_different ++ (WQ hQ aQ kQ hw fQ_inside fQ_outside fQ_shut iQ_rows iQ_allRows iQ_columns ++ (WW nW hw lw kw wl wb wG))))) (va_A (WO hO aO kO hM hQ hw iO_answered iO_searched iO_searchedRelaxed iO_counted fO_countedCase gO_goalNumber gO_goalScale fO_start fO_column fO_chosen ++ (WM hM aM kM iM_stands iM_variables iM_rows iM_goals iM_differents iM_cases fM_from fM_to fM_whole fM_ways iM_plainRows fM_plainRow fM_kept fM_goalOver fM_goalUnder fM_goalMax fM_different ++ (WQ hQ aQ kQ hw fQ_inside fQ_outside fQ_shut iQ_rows iQ_allRows iQ_columns ++ (WW nW hw lw kw wl wb wG)))) sz)) 0 0 (va_A (WO hO aO kO hM hQ hw iO_answered iO_searched iO_searchedRelaxed iO_counted fO_countedCase gO_goalNumber gO_goalScale fO_start fO_column fO_chosen ++ (WM hM aM kM iM_stands iM_variables iM_rows iM_goals iM_differents iM_cases fM_from fM_to fM_whole fM_ways iM_plainRows fM_plainRow fM_kept fM_goalOver fM_goalUnder fM_goalMax fM_different ++ (WQ hQ aQ kQ hw fQ_inside fQ_outside fQ_shut iQ_rows iQ_allRows iQ_columns ++ (WW nW hw lw kw wl wb wG)))) sz) := by
  refine Met.ofW (cc := cX5_goalRow) (maxL := 2) (ret := (some .int)) (by decide) rfl ?_
  intro p e s m args below meth c s₁ B hml hv
  obtain ⟨rfl, hsz, hP, hK, hD0⟩ := hv
  have hx := B.exec
  have hb := B.bytes
  have hr := B.returns
  have hts := atoms_spec (ws := wsMX5_goalRow) B.pre
  have hown : s.vm.findClass RX5 = some m.cls := findClass_of_methodNamed B.named
  have hlocks := B.notSynchronized
  subst hsz
  have hD := hD0.self (sz := s.heap.size)
  generalize hAe : va_A (WO hO aO kO hM hQ hw iO_answered iO_searched iO_searchedRelaxed iO_counted fO_countedCase gO_goalNumber gO_goalScale fO_start fO_column fO_chosen ++ (WM hM aM kM iM_stands iM_variables iM_rows iM_goals iM_differents iM_cases fM_from fM_to fM_whole fM_ways iM_plainRows fM_plainRow fM_kept fM_goalOver fM_goalUnder fM_goalMax fM_different ++ (WQ hQ aQ kQ hw fQ_inside fQ_outside fQ_shut iQ_rows iQ_allRows iQ_columns ++ (WW nW hw lw kw wl wb wG)))) s.heap.size = A at hD ⊢
  have hA : ∀ q : Nat, s.heap.size ≤ q → A q := fun q h => by rw [← hAe]; exact Or.inr h
  have hS : va_S A s.heap s.heap [] := va_S.rf
  have hl := lv_entry ([.ref (hO 0), .int p1]) (n := 2) (Nat.le_of_ble_eq_true rfl)
  rw [lg_entry_eq]
  generalize (lg_sl ([.ref (hO 0), .int p1]) ++ List.replicate (2 - (lg_sl ([.ref (hO 0), .int p1])).length) Slot.unset).toArray = ls at hl ⊢
  have hl : lv_has ls 2 [(0, .ref (hO 0)), (1, .int p1)] := hl
  refine lv_aload_n hx hb dX5_goalRow_0 rfl (lv_at hl 0 rfl) ?_
  refine va_get (D := (dC, dI)) (ci := 5) (v := .ref (hQ 0)) (C := RX5) (T := TX5) (N := 19) hx hb hts iwsMX5_goalRow_in5 hown hK hP 0 rfl rfl 1 (by decide) (hts (.fieldLink RX5 12 "OptimaWorks$Solver" "tableau" "LOptimaWorks$Tableau;") (by decide +kernel)) (fun _ h9 => h9) rfl dX5_goalRow_1 ?_
  have p9 := cj_4_2_3 (WO hO aO kO hM hQ hw iO_answered iO_searched iO_searchedRelaxed iO_counted fO_countedCase gO_goalNumber gO_goalScale fO_start fO_column fO_chosen) (WM hM aM kM iM_stands iM_variables iM_rows iM_goals iM_differents iM_cases fM_from fM_to fM_whole fM_ways iM_plainRows fM_plainRow fM_kept fM_goalOver fM_goalUnder fM_goalMax fM_different) (WQ hQ aQ kQ hw fQ_inside fQ_outside fQ_shut iQ_rows iQ_allRows iQ_columns) (WW nW hw lw kw wl wb wG)
  have hPc := hP.mem (fun q h => p9.mem_iff.mpr (List.mem_append_left _ h))
  have hDc := (hD.perm p9).left
  have hKc : va_K (dC, dI) vwCl (tQ kQ ++ (tW kw)) _ := hK.sub [20, 21, 22, 23, 24] rfl
  have hFc := freeG p9 hD hS hA
  refine va_calli (va_runV (As := []) (rest := []) ⟨hx, hb, hml, hown, hts⟩ (m_X6_rowCount l dC dI hQ aQ kQ hw fQ_inside fQ_outside fQ_shut iQ_rows iQ_allRows iQ_columns nW lw kw wl wb wG (b_iQ_rows) (b_iQ_allRows) (b_iQ_columns) (by first | with_reducible assumption | omega | assumption) b_wl b_wb (by omega) s.heap.size) (cwV 0 hts gwsMX5_goalRow_0 rfl rfl rfl hd_yX6_rowCount_RX6 (by decide +kernel)) (fz_pre (va_recv hK hP (ci := 6) (q0 := 22) rfl rfl) hPc hKc hDc) rfl rfl hl.1 rfl (lv_room (Nat.le_of_ble_eq_true rfl)) dX5_goalRow_4 (by decide +kernel)) hS (fun q _ h => hFc q h) hFc (fun r1 u t9_ H locs ht hvm hw9 hB9 hz1 hk1 hS => ?_)
  revert hw9
  refine fz_a2 ?_
  intro b_r1 f1_0
  have p8 := p9
  obtain ⟨hP, hD⟩ := frameG p9 p8 hP hD hk1 hFc (fz_P ht hB9.1) hB9.2
  refine lv_iload_n hx hb dX5_goalRow_7 rfl (lv_at hl 1 rfl) ?_
  refine lv_iadd hx hb dX5_goalRow_8 ?_
  refine lv_topi (fun y2 hy2 => ?_)
  obtain rfl : (iI (r1.toInt + p1.toInt)) = y2 := (hy2.trans (iI_add2 (iI_of _) (iI_of _))).symm
  refine W.widen (k := 0) (n := 0) (by decide +kernel) (by decide +kernel) ?_
  exact W.iret (v := (iI (r1.toInt + p1.toInt))) hx hb hr (fun t9_ ht hW => ⟨⟨(iI (r1.toInt + p1.toInt)), (), rfl, (iI_rng (by omega) (by omega) (by decide) (by decide)), by rw [ht]; exact hP, hD⟩, hS.F ht⟩) hS.2.2 dX5_goalRow_9
theorem dX5_compare_0 : decode cX5_compare 0 = .ok (.aload_n 0, 1) := dk_42 (by decide +kernel)
theorem dX5_compare_1 : decode cX5_compare 1 = .ok (.getfield 71, 3) := dk_180 (by decide +kernel)
theorem dX5_compare_4 : decode cX5_compare 4 = .ok (.iconst 0, 1) := dk_3 (by decide +kernel)
theorem dX5_compare_5 : decode cX5_compare 5 = .ok (.aaload, 1) := dk_50 (by decide +kernel)
theorem dX5_compare_6 : decode cX5_compare 6 = .ok (.aload_n 1, 1) := dk_43 (by decide +kernel)
theorem dX5_compare_7 : decode cX5_compare 7 = .ok (.aload_n 0, 1) := dk_42 (by decide +kernel)
theorem dX5_compare_8 : decode cX5_compare 8 = .ok (.getfield 58, 3) := dk_180 (by decide +kernel)
theorem dX5_compare_11 : decode cX5_compare 11 = .ok (.invokevirtual 249, 3) := dk_182 (by decide +kernel)
theorem dX5_compare_14 : decode cX5_compare 14 = .ok (.aload_n 0, 1) := dk_42 (by decide +kernel)
theorem dX5_compare_15 : decode cX5_compare 15 = .ok (.getfield 71, 3) := dk_180 (by decide +kernel)
theorem dX5_compare_18 : decode cX5_compare 18 = .ok (.iconst 1, 1) := dk_4 (by decide +kernel)
theorem dX5_compare_19 : decode cX5_compare 19 = .ok (.aaload, 1) := dk_50 (by decide +kernel)
theorem dX5_compare_20 : decode cX5_compare 20 = .ok (.aload_n 2, 1) := dk_44 (by decide +kernel)
theorem dX5_compare_21 : decode cX5_compare 21 = .ok (.aload_n 0, 1) := dk_42 (by decide +kernel)
theorem dX5_compare_22 : decode cX5_compare 22 = .ok (.getfield 12, 3) := dk_180 (by decide +kernel)
theorem dX5_compare_25 : decode cX5_compare 25 = .ok (.getfield 253, 3) := dk_180 (by decide +kernel)
theorem dX5_compare_28 : decode cX5_compare 28 = .ok (.invokevirtual 249, 3) := dk_182 (by decide +kernel)
theorem dX5_compare_31 : decode cX5_compare 31 = .ok (.aload_n 0, 1) := dk_42 (by decide +kernel)
theorem dX5_compare_32 : decode cX5_compare 32 = .ok (.getfield 71, 3) := dk_180 (by decide +kernel)
theorem dX5_compare_35 : decode cX5_compare 35 = .ok (.iconst 1, 1) := dk_4 (by decide +kernel)
theorem dX5_compare_36 : decode cX5_compare 36 = .ok (.aaload, 1) := dk_50 (by decide +kernel)
theorem dX5_compare_37 : decode cX5_compare 37 = .ok (.invokevirtual 256, 3) := dk_182 (by decide +kernel)
theorem dX5_compare_40 : decode cX5_compare 40 = .ok (.aload_n 0, 1) := dk_42 (by decide +kernel)
theorem dX5_compare_41 : decode cX5_compare 41 = .ok (.getfield 71, 3) := dk_180 (by decide +kernel)
theorem dX5_compare_44 : decode cX5_compare 44 = .ok (.iconst 0, 1) := dk_3 (by decide +kernel)
theorem dX5_compare_45 : decode cX5_compare 45 = .ok (.aaload, 1) := dk_50 (by decide +kernel)
theorem dX5_compare_46 : decode cX5_compare 46 = .ok (.aload_n 0, 1) := dk_42 (by decide +kernel)
theorem dX5_compare_47 : decode cX5_compare 47 = .ok (.getfield 71, 3) := dk_180 (by decide +kernel)
theorem dX5_compare_50 : decode cX5_compare 50 = .ok (.iconst 1, 1) := dk_4 (by decide +kernel)
theorem dX5_compare_51 : decode cX5_compare 51 = .ok (.aaload, 1) := dk_50 (by decide +kernel)
theorem dX5_compare_52 : decode cX5_compare 52 = .ok (.invokevirtual 259, 3) := dk_182 (by decide +kernel)
theorem dX5_compare_55 : decode cX5_compare 55 = .ok (.aload_n 0, 1) := dk_42 (by decide +kernel)
theorem dX5_compare_56 : decode cX5_compare 56 = .ok (.getfield 71, 3) := dk_180 (by decide +kernel)
theorem dX5_compare_59 : decode cX5_compare 59 = .ok (.iconst 0, 1) := dk_3 (by decide +kernel)
theorem dX5_compare_60 : decode cX5_compare 60 = .ok (.aaload, 1) := dk_50 (by decide +kernel)
theorem dX5_compare_61 : decode cX5_compare 61 = .ok (.invokevirtual 263, 3) := dk_182 (by decide +kernel)
theorem dX5_compare_64 : decode cX5_compare 64 = .ok (.ireturn, 1) := dk_172 (by decide +kernel)
def wsMX5_compare : List Cond := .code yX5_compare cX5_compare 3 (some .int) :: ([.fieldLink RX5 71 "OptimaWorks$Solver" "spare" "[LOptimaWorks$Whole;", .fieldLink RX5 58 "OptimaWorks$Solver" "answerUnder" "LOptimaWorks$Whole;", .fieldLink RX5 12 "OptimaWorks$Solver" "tableau" "LOptimaWorks$Tableau;", .fieldLink RX5 253 "OptimaWorks$Tableau" "under" "LOptimaWorks$Whole;"] ++ wsX50 ++ wsX60 ++ (wsV RX5 249 RX8 yX8_setProduct wsMX8_setProduct) ++ (wsV RX5 256 RX8 yX8_negate wsMX8_negate) ++ (wsV RX5 259 RX8 yX8_add wsMX8_add) ++ (wsV RX5 263 RX8 yX8_sign wsMX8_sign))
theorem iwsMX5_compare_in5 : ∀ w ∈ wsX50, w ∈ wsMX5_compare := fun _ h => List.mem_cons_of_mem _ (List.mem_append_left _ (List.mem_append_left _ (List.mem_append_left _ (List.mem_append_left _ (List.mem_append_left _ (List.mem_append_right _ h))))))
theorem iwsMX5_compare_in6 : ∀ w ∈ wsX60, w ∈ wsMX5_compare := fun _ h => List.mem_cons_of_mem _ (List.mem_append_left _ (List.mem_append_left _ (List.mem_append_left _ (List.mem_append_left _ (List.mem_append_right _ h)))))
theorem gwsMX5_compare_0 : GoodIn wsMX5_compare (wsV RX5 249 RX8 yX8_setProduct wsMX8_setProduct) := goodIn_sub (fun _ h => List.mem_cons_of_mem _ (List.mem_append_left _ (List.mem_append_left _ (List.mem_append_left _ (List.mem_append_right _ h))))) (gdV (by decide +kernel) gdwsMX8_setProduct)
theorem gwsMX5_compare_1 : GoodIn wsMX5_compare (wsV RX5 256 RX8 yX8_negate wsMX8_negate) := goodIn_sub (fun _ h => List.mem_cons_of_mem _ (List.mem_append_left _ (List.mem_append_left _ (List.mem_append_right _ h)))) (gdV (by decide +kernel) gdwsMX8_negate)
theorem gwsMX5_compare_2 : GoodIn wsMX5_compare (wsV RX5 259 RX8 yX8_add wsMX8_add) := goodIn_sub (fun _ h => List.mem_cons_of_mem _ (List.mem_append_left _ (List.mem_append_right _ h))) (gdV (by decide +kernel) gdwsMX8_add)
theorem gwsMX5_compare_3 : GoodIn wsMX5_compare (wsV RX5 263 RX8 yX8_sign wsMX8_sign) := goodIn_sub (fun _ h => List.mem_cons_of_mem _ (List.mem_append_right _ h)) (gdV (by decide +kernel) gdwsMX8_sign)
theorem gdwsMX5_compare : wsMX5_compare.all goodWord = true := gdC rfl (gdA (gdA (gdA (gdA (gdA (gdA (by decide +kernel : ([.fieldLink RX5 71 "OptimaWorks$Solver" "spare" "[LOptimaWorks$Whole;", .fieldLink RX5 58 "OptimaWorks$Solver" "answerUnder" "LOptimaWorks$Whole;", .fieldLink RX5 12 "OptimaWorks$Solver" "tableau" "LOptimaWorks$Tableau;", .fieldLink RX5 253 "OptimaWorks$Tableau" "under" "LOptimaWorks$Whole;"] : List Cond).all goodWord = true) gdwsX50) gdwsX60) (gdV (by decide +kernel) gdwsMX8_setProduct)) (gdV (by decide +kernel) gdwsMX8_negate)) (gdV (by decide +kernel) gdwsMX8_add)) (gdV (by decide +kernel) gdwsMX8_sign))
theorem hm_m_X5_compare_0 : (.fieldLink RX5 71 "OptimaWorks$Solver" "spare" "[LOptimaWorks$Whole;" : Cond) ∈ wsMX5_compare := by decide +kernel
set_option maxHeartbeats 4000000 in
set_option maxRecDepth 100000 in
/-- against the answer -/
theorem m_X5_compare (l : Launch) (dC : Nat → ClassId) (dI : Nat → Nat → Nat) (hO : Nat → Nat) (aO : Nat → Nat) (kO : Nat → ClassId) (hM : Nat → Nat) (hQ : Nat → Nat) (hw : Nat → Nat) (iO_answered : Int32) (iO_searched : Int32) (iO_searchedRelaxed : Int32) (iO_counted : Int32) (fO_countedCase : Nat → Int32) (gO_goalNumber : Nat → Int64) (gO_goalScale : Nat → Int64) (fO_start : Nat → Int32) (fO_column : Nat → Int32) (fO_chosen : Nat → Int32) (aM : Nat → Nat) (kM : Nat → ClassId) (iM_stands : Int32) (iM_variables : Int32) (iM_rows : Int32) (iM_goals : Int32) (iM_differents : Int32) (iM_cases : Int32) (fM_from : Nat → Int32) (fM_to : Nat → Int32) (fM_whole : Nat → Int32) (fM_ways : Nat → Int32) (iM_plainRows : Int32) (fM_plainRow : Nat → Int32) (fM_kept : Nat → Int32) (fM_goalOver : Nat → Int32) (fM_goalUnder : Nat → Int32) (fM_goalMax : Nat → Int32) (fM_different : Nat → Int32) (aQ : Nat → Nat) (kQ : Nat → ClassId) (fQ_inside : Nat → Int32) (fQ_outside : Nat → Int32) (fQ_shut : Nat → Int32) (iQ_rows : Int32) (iQ_allRows : Int32) (iQ_columns : Int32) (nW : Nat) (lw : Nat → Nat) (kw : ClassId) (wl : Nat → Int32) (wb : Nat → Int32) (wG : Nat → Nat → Int64) (ka : Nat) (kb : Nat) (b_iO_answered : 0 ≤ iO_answered.toInt ∧ iO_answered.toInt ≤ 1) (b_iO_searched : 0 ≤ iO_searched.toInt ∧ iO_searched.toInt ≤ 1) (b_iO_searchedRelaxed : 0 ≤ iO_searchedRelaxed.toInt ∧ iO_searchedRelaxed.toInt ≤ 1) (b_iO_counted : (-1) ≤ iO_counted.toInt ∧ iO_counted.toInt ≤ 64) (b_fO_countedCase : ∀ q : Nat, 0 ≤ (fO_countedCase q).toInt ∧ (fO_countedCase q).toInt ≤ 200000) (b_fO_column : ∀ q : Nat, (-1) ≤ (fO_column q).toInt ∧ (fO_column q).toInt ≤ 8) (b_fO_chosen : ∀ q : Nat, 0 ≤ (fO_chosen q).toInt ∧ (fO_chosen q).toInt ≤ 2) (b_iM_stands : 0 ≤ iM_stands.toInt ∧ iM_stands.toInt ≤ 1) (b_iM_variables : 0 ≤ iM_variables.toInt ∧ iM_variables.toInt ≤ 8) (b_iM_rows : 0 ≤ iM_rows.toInt ∧ iM_rows.toInt ≤ 12) (b_iM_goals : 0 ≤ iM_goals.toInt ∧ iM_goals.toInt ≤ 3) (b_iM_differents : 0 ≤ iM_differents.toInt ∧ iM_differents.toInt ≤ 8) (b_iM_cases : 0 ≤ iM_cases.toInt ∧ iM_cases.toInt ≤ 200000) (b_fM_ways : ∀ q : Nat, 0 ≤ (fM_ways q).toInt ∧ (fM_ways q).toInt ≤ 3) (b_iM_plainRows : 0 ≤ iM_plainRows.toInt ∧ iM_plainRows.toInt ≤ 12) (b_fM_plainRow : ∀ q : Nat, 0 ≤ (fM_plainRow q).toInt ∧ (fM_plainRow q).toInt ≤ 11) (b_pr : iM_plainRows.toInt ≤ iM_rows.toInt) (b_iQ_rows : 0 ≤ iQ_rows.toInt ∧ iQ_rows.toInt ≤ 40) (b_iQ_allRows : 0 ≤ iQ_allRows.toInt ∧ iQ_allRows.toInt ≤ 40) (b_iQ_columns : 0 ≤ iQ_columns.toInt ∧ iQ_columns.toInt ≤ 40) (b_tb : TbO iQ_rows iQ_allRows iQ_columns) (b_wl : ∀ q : Nat, 0 ≤ (wl q).toInt ∧ (wl q).toInt ≤ 14) (b_wb : ∀ q : Nat, 0 ≤ (wb q).toInt ∧ (wb q).toInt ≤ 1) (hnW : 432 ≤ nW) (hka : ka < nW) (hkb : kb < nW) (sz : Nat) : Met l yX5_compare wsMX5_compare ({ frames := 3, cells := 0, slots := 0, locals := 61 }) (va_Pc [.ref (hO 0), .ref (hw ka), .ref (hw kb)] (fun U => U.heap.size = sz ∧ va_P (dC, dI) vwCl (WO hO aO kO hM hQ hw iO_answered iO_searched iO_searchedRelaxed iO_counted fO_countedCase gO_goalNumber gO_goalScale fO_start fO_column fO_chosen ++ (WM hM aM kM iM_stands iM_variables iM_rows iM_goals iM_differents iM_cases fM_from fM_to fM_whole fM_ways iM_plainRows fM_plainRow fM_kept fM_goalOver fM_goalUnder fM_goalMax fM_different ++ (WQ hQ aQ kQ hw fQ_inside fQ_outside fQ_shut iQ_rows iQ_allRows iQ_columns ++ (WW nW hw lw kw wl wb wG)))) U.heap ∧ va_K (dC, dI) vwCl (tO kO ++ (tM kM ++ (tQ kQ ++ (tW kw)))) U ∧ va_D (fun _ => True) (WO hO aO kO hM hQ hw iO_answered iO_searched iO_searchedRelaxed iO_counted fO_countedCase gO_goalNumber gO_goalScale fO_start fO_column fO_chosen ++ (WM hM aM kM iM_stands iM_variables iM_rows iM_goals iM_differents iM_cases fM_from fM_to fM_whole fM_ways iM_plainRows fM_plainRow fM_kept fM_goalOver fM_goalUnder fM_goalMax fM_different ++ (WQ hQ aQ kQ hw fQ_inside fQ_outside fQ_shut iQ_rows iQ_allRows iQ_columns ++ (WW nW hw lw kw wl wb wG)))))) (va_Qi (fun (r : Int32) (u : (Nat → Int32) × (Nat → Int32) × (Nat → Nat → Int64)) => (∀ q : Nat, 0 ≤ ((u.1) q).toInt ∧ ((u.1) q).toInt ≤ 14) ∧ (∀ q : Nat, 0 ≤ ((u.2.1) q).toInt ∧ ((u.2.1) q).toInt ≤ 1) ∧ ((-1) ≤ r.toInt ∧ r.toInt ≤ 1)) (fun (u : (Nat → Int32) × (Nat → Int32) × (Nat → Nat → Int64)) t => va_P (dC, dI) vwCl (WO hO aO kO hM hQ hw iO_answered iO_searched iO_searchedRelaxed iO_counted fO_countedCase gO_goalNumber gO_goalScale fO_start fO_column fO_chosen ++ (WM hM aM kM iM_stands iM_variables iM_rows iM_goals iM_differents iM_cases fM_from fM_to fM_whole fM_ways iM_plainRows fM_plainRow fM_kept fM_goalOver fM_goalUnder fM_goalMax fM_different ++ (WQ hQ aQ kQ hw fQ_inside fQ_outside fQ_shut iQ_rows iQ_allRows iQ_columns ++ (WW nW hw lw kw (u.1) (u.2.1) (u.2.2))))) t.heap ∧ va_D (va_A (WO hO aO kO hM hQ hw iO_answered iO_searched iO_searchedRelaxed iO_counted fO_countedCase gO_goalNumber gO_goalScale fO_start fO_column fO_chosen ++ (WM hM aM kM iM_stands iM_variables iM_rows iM_goals iM_differents iM_cases fM_from fM_to fM_whole fM_ways iM_plainRows fM_plainRow fM_kept fM_goalOver fM_goalUnder fM_goalMax fM_different ++ (WQ hQ aQ kQ hw fQ_inside fQ_outside fQ_shut iQ_rows iQ_allRows iQ_columns ++ (WW nW hw lw kw wl wb wG)))) sz) (WO hO aO kO hM hQ hw iO_answered iO_searched iO_searchedRelaxed iO_counted fO_countedCase gO_goalNumber gO_goalScale fO_start fO_column fO_chosen ++ (WM hM aM kM iM_stands iM_variables iM_rows iM_goals iM_differents iM_cases fM_from fM_to fM_whole fM_ways iM_plainRows fM_plainRow fM_kept fM_goalOver fM_goalUnder fM_goalMax fM_different ++ (WQ hQ aQ kQ hw fQ_inside fQ_outside fQ_shut iQ_rows iQ_allRows iQ_columns ++ (WW nW hw lw kw (u.1) (u.2.1) (u.2.2)))))) (va_A (WO hO aO kO hM hQ hw iO_answered iO_searched iO_searchedRelaxed iO_counted fO_countedCase gO_goalNumber gO_goalScale fO_start fO_column fO_chosen ++ (WM hM aM kM iM_stands iM_variables iM_rows iM_goals iM_differents iM_cases fM_from fM_to fM_whole fM_ways iM_plainRows fM_plainRow fM_kept fM_goalOver fM_goalUnder fM_goalMax fM_different ++ (WQ hQ aQ kQ hw fQ_inside fQ_outside fQ_shut iQ_rows iQ_allRows iQ_columns ++ (WW nW hw lw kw wl wb wG)))) sz)) 0 0 (va_A (WO hO aO kO hM hQ hw iO_answered iO_searched iO_searchedRelaxed iO_counted fO_countedCase gO_goalNumber gO_goalScale fO_start fO_column fO_chosen ++ (WM hM aM kM iM_stands iM_variables iM_rows iM_goals iM_differents iM_cases fM_from fM_to fM_whole fM_ways iM_plainRows fM_plainRow fM_kept fM_goalOver fM_goalUnder fM_goalMax fM_different ++ (WQ hQ aQ kQ hw fQ_inside fQ_outside fQ_shut iQ_rows iQ_allRows iQ_columns ++ (WW nW hw lw kw wl wb wG)))) sz) := by
  refine Met.ofW (cc := cX5_compare) (maxL := 3) (ret := (some .int)) (by decide) rfl ?_
  intro p e s m args below meth c s₁ B hml hv
  obtain ⟨rfl, hsz, hP, hK, hD0⟩ := hv
  have hx := B.exec
  have hb := B.bytes
  have hr := B.returns
  have hts := atoms_spec (ws := wsMX5_compare) B.pre
  have hown : s.vm.findClass RX5 = some m.cls := findClass_of_methodNamed B.named
  have hlocks := B.notSynchronized
  subst hsz
  have hD := hD0.self (sz := s.heap.size)
  generalize hAe : va_A (WO hO aO kO hM hQ hw iO_answered iO_searched iO_searchedRelaxed iO_counted fO_countedCase gO_goalNumber gO_goalScale fO_start fO_column fO_chosen ++ (WM hM aM kM iM_stands iM_variables iM_rows iM_goals iM_differents iM_cases fM_from fM_to fM_whole fM_ways iM_plainRows fM_plainRow fM_kept fM_goalOver fM_goalUnder fM_goalMax fM_different ++ (WQ hQ aQ kQ hw fQ_inside fQ_outside fQ_shut iQ_rows iQ_allRows iQ_columns ++ (WW nW hw lw kw wl wb wG)))) s.heap.size = A at hD ⊢
  have hA : ∀ q : Nat, s.heap.size ≤ q → A q := fun q h => by rw [← hAe]; exact Or.inr h
  have hS : va_S A s.heap s.heap [] := va_S.rf
  have hl := lv_entry ([.ref (hO 0), .ref (hw ka), .ref (hw kb)]) (n := 3) (Nat.le_of_ble_eq_true rfl)
  rw [lg_entry_eq]
  generalize (lg_sl ([.ref (hO 0), .ref (hw ka), .ref (hw kb)]) ++ List.replicate (3 - (lg_sl ([.ref (hO 0), .ref (hw ka), .ref (hw kb)])).length) Slot.unset).toArray = ls at hl ⊢
  have hl : lv_has ls 3 [(0, .ref (hO 0)), (1, .ref (hw ka)), (2, .ref (hw kb))] := hl
  refine lv_aload_n hx hb dX5_compare_0 rfl (lv_at hl 0 rfl) ?_
  refine va_get (D := (dC, dI)) (ci := 5) (v := .ref (aO 9)) (C := RX5) (T := TX5) (N := 19) hx hb hts iwsMX5_compare_in5 hown hK hP 0 rfl rfl 18 (by decide) (hts _ hm_m_X5_compare_0) (fun _ h9 => h9) rfl dX5_compare_1 ?_
  refine lv_iconst (v := 0) hx hb dX5_compare_4 (by decide) ?_
  refine va_aldq (cA := kO 9) (n := 4) (f := fun q => some (hw (428 + q))) hx hb hK hP 10 9 rfl rfl (show ¬ ((0 : Int32) < 0 ∨ 4 ≤ (0 : Int32).toNatClampNeg) by decide) dX5_compare_5 ?_
  obtain ⟨k1, hk1, b_k1⟩ : ∃ k9 : Nat, k9 = 428 + (0 : Int32).toNatClampNeg ∧ (428 ≤ k9 ∧ k9 < 432 ∧ (k9 : Int) = 428 + 0) := ⟨_, rfl, ald_k (x := (0 : Int32)) (o := 428) (n := 4) (by decide : (0 : Int32).toInt = 0) (by omega) (by omega)⟩
  refine W.eq (g2 := F0 m 6 ls [.ref (hw k1)]) (by rw [hk1]; rfl) ?_
  clear hk1
  refine lv_aload_n hx hb dX5_compare_6 rfl (lv_at hl 1 rfl) ?_
  refine lv_aload_n hx hb dX5_compare_7 rfl (lv_at hl 0 rfl) ?_
  refine va_get (D := (dC, dI)) (ci := 5) (v := .ref (hw 417)) (C := RX5) (T := TX5) (N := 19) hx hb hts iwsMX5_compare_in5 hown hK hP 0 rfl rfl 14 (by decide) (hts (.fieldLink RX5 58 "OptimaWorks$Solver" "answerUnder" "LOptimaWorks$Whole;") (by decide +kernel)) (fun _ h9 => h9) rfl dX5_compare_8 ?_
  have p9 := cj_4_3 (WO hO aO kO hM hQ hw iO_answered iO_searched iO_searchedRelaxed iO_counted fO_countedCase gO_goalNumber gO_goalScale fO_start fO_column fO_chosen) (WM hM aM kM iM_stands iM_variables iM_rows iM_goals iM_differents iM_cases fM_from fM_to fM_whole fM_ways iM_plainRows fM_plainRow fM_kept fM_goalOver fM_goalUnder fM_goalMax fM_different) (WQ hQ aQ kQ hw fQ_inside fQ_outside fQ_shut iQ_rows iQ_allRows iQ_columns) (WW nW hw lw kw wl wb wG)
  have hPc := hP.mem (fun q h => p9.mem_iff.mpr (List.mem_append_left _ h))
  have hDc := (hD.perm p9).left
  have hKc : va_K (dC, dI) vwCl (tW kw) _ := hK.sub [24] rfl
  have hFc := freeG p9 hD hS hA
  refine va_callv (va_runV (As := [.ref (hw ka), .ref (hw 417)]) (rest := []) ⟨hx, hb, hml, hown, hts⟩ (m_X8_setProduct l dC dI nW hw lw kw wl wb wG k1 ka 417 b_wl b_wb (by first | with_reducible assumption | omega | (rw [iI_t (by omega) (by omega)]; omega) | decide | assumption) (by first | with_reducible assumption | omega | (rw [iI_t (by omega) (by omega)]; omega) | decide | assumption) (by first | with_reducible assumption | omega | (rw [iI_t (by omega) (by omega)]; omega) | decide | assumption) s.heap.size) (cwV 2 hts gwsMX5_compare_0 rfl rfl rfl hd_yX8_setProduct_RX8 (by decide +kernel)) (fz_pre (va_recv hK hP (ci := 8) (q0 := 11 + (11 + (5 + (k1)))) rfl (apR rfl (apR rfl (apR rfl (WW_o (by omega)))))) hPc hKc hDc) rfl rfl hl.1 rfl (lv_room (Nat.le_of_ble_eq_true rfl)) dX5_compare_11 (by decide +kernel)) hS (fun q _ h => hFc q h) hFc (fun u t9_ H locs ht hvm hw9 hB9 hz1 hk1 hS => ?_)
  revert u hw9 hB9
  refine fz_p3 ?_
  intro wl_2 wb_2 wG_2 hw9 hB9
  try dsimp only at hw9 hB9
  revert hw9
  refine fz_a2 ?_
  intro b_wl_2 b_wb_2
  have p8 := cj_4_3 (WO hO aO kO hM hQ hw iO_answered iO_searched iO_searchedRelaxed iO_counted fO_countedCase gO_goalNumber gO_goalScale fO_start fO_column fO_chosen) (WM hM aM kM iM_stands iM_variables iM_rows iM_goals iM_differents iM_cases fM_from fM_to fM_whole fM_ways iM_plainRows fM_plainRow fM_kept fM_goalOver fM_goalUnder fM_goalMax fM_different) (WQ hQ aQ kQ hw fQ_inside fQ_outside fQ_shut iQ_rows iQ_allRows iQ_columns) (WW nW hw lw kw wl_2 wb_2 wG_2)
  obtain ⟨hP, hD⟩ := frameG p9 p8 hP hD hk1 hFc (fz_P ht hB9.1) hB9.2
  refine lv_aload_n hx hb dX5_compare_14 rfl (lv_at hl 0 rfl) ?_
  refine va_get (D := (dC, dI)) (ci := 5) (v := .ref (aO 9)) (C := RX5) (T := TX5) (N := 19) hx hb hts iwsMX5_compare_in5 hown hK hP 0 rfl rfl 18 (by decide) (hts _ hm_m_X5_compare_0) (fun _ h9 => h9) rfl dX5_compare_15 ?_
  refine lv_iconst (v := 1) hx hb dX5_compare_18 (by decide) ?_
  refine va_aldq (cA := kO 9) (n := 4) (f := fun q => some (hw (428 + q))) hx hb hK hP 10 9 rfl rfl (show ¬ ((1 : Int32) < 0 ∨ 4 ≤ (1 : Int32).toNatClampNeg) by decide) dX5_compare_19 ?_
  obtain ⟨k3, hk3, b_k3⟩ : ∃ k9 : Nat, k9 = 428 + (1 : Int32).toNatClampNeg ∧ (428 ≤ k9 ∧ k9 < 432 ∧ (k9 : Int) = 428 + 1) := ⟨_, rfl, ald_k (x := (1 : Int32)) (o := 428) (n := 4) (by decide : (1 : Int32).toInt = 1) (by omega) (by omega)⟩
  refine W.eq (g2 := F0 m 20 ls [.ref (hw k3)]) (by rw [hk3]; rfl) ?_
  clear hk3
  refine lv_aload_n hx hb dX5_compare_20 rfl (lv_at hl 2 rfl) ?_
  refine lv_aload_n hx hb dX5_compare_21 rfl (lv_at hl 0 rfl) ?_
  refine va_get (D := (dC, dI)) (ci := 5) (v := .ref (hQ 0)) (C := RX5) (T := TX5) (N := 19) hx hb hts iwsMX5_compare_in5 hown hK hP 0 rfl rfl 1 (by decide) (hts (.fieldLink RX5 12 "OptimaWorks$Solver" "tableau" "LOptimaWorks$Tableau;") (by decide +kernel)) (fun _ h9 => h9) rfl dX5_compare_22 ?_
  refine va_get (D := (dC, dI)) (ci := 6) (v := .ref (hw 400)) (C := RX6) (T := TX6) (N := 13) hx hb hts iwsMX5_compare_in6 hown hK hP 22 rfl rfl 4 (by decide) (hts (.fieldLink RX5 253 "OptimaWorks$Tableau" "under" "LOptimaWorks$Whole;") (by decide +kernel)) (fun _ h9 => h9) rfl dX5_compare_25 ?_
  have p9 := cj_4_3 (WO hO aO kO hM hQ hw iO_answered iO_searched iO_searchedRelaxed iO_counted fO_countedCase gO_goalNumber gO_goalScale fO_start fO_column fO_chosen) (WM hM aM kM iM_stands iM_variables iM_rows iM_goals iM_differents iM_cases fM_from fM_to fM_whole fM_ways iM_plainRows fM_plainRow fM_kept fM_goalOver fM_goalUnder fM_goalMax fM_different) (WQ hQ aQ kQ hw fQ_inside fQ_outside fQ_shut iQ_rows iQ_allRows iQ_columns) (WW nW hw lw kw wl_2 wb_2 wG_2)
  have hPc := hP.mem (fun q h => p9.mem_iff.mpr (List.mem_append_left _ h))
  have hDc := (hD.perm p9).left
  have hKc : va_K (dC, dI) vwCl (tW kw) _ := hK.sub [24] rfl
  have hFc := freeG p9 hD hS hA
  refine va_callv (va_runV (As := [.ref (hw kb), .ref (hw 400)]) (rest := []) ⟨hx, hb, hml, hown, hts⟩ (m_X8_setProduct l dC dI nW hw lw kw wl_2 wb_2 wG_2 k3 kb 400 b_wl_2 b_wb_2 (by first | with_reducible assumption | omega | (rw [iI_t (by omega) (by omega)]; omega) | decide | assumption) (by first | with_reducible assumption | omega | (rw [iI_t (by omega) (by omega)]; omega) | decide | assumption) (by first | with_reducible assumption | omega | (rw [iI_t (by omega) (by omega)]; omega) | decide | assumption) H.size) (cwV 2 hts gwsMX5_compare_0 rfl rfl rfl hd_yX8_setProduct_RX8 (by decide +kernel)) (fz_pre (va_recv hK hP (ci := 8) (q0 := 11 + (11 + (5 + (k3)))) rfl (apR rfl (apR rfl (apR rfl (WW_o (by omega)))))) hPc hKc hDc) rfl rfl hl.1 rfl (lv_room (Nat.le_of_ble_eq_true rfl)) dX5_compare_28 (by decide +kernel)) hS (fun q _ h => hFc q h) hFc (fun u t9_ H locs ht hvm hw9 hB9 hz1 hk1 hS => ?_)
  revert u hw9 hB9
  refine fz_p3 ?_
  intro wl_4 wb_4 wG_4 hw9 hB9
  try dsimp only at hw9 hB9
  revert hw9
  refine fz_a2 ?_
  intro b_wl_4 b_wb_4
  have p8 := cj_4_3 (WO hO aO kO hM hQ hw iO_answered iO_searched iO_searchedRelaxed iO_counted fO_countedCase gO_goalNumber gO_goalScale fO_start fO_column fO_chosen) (WM hM aM kM iM_stands iM_variables iM_rows iM_goals iM_differents iM_cases fM_from fM_to fM_whole fM_ways iM_plainRows fM_plainRow fM_kept fM_goalOver fM_goalUnder fM_goalMax fM_different) (WQ hQ aQ kQ hw fQ_inside fQ_outside fQ_shut iQ_rows iQ_allRows iQ_columns) (WW nW hw lw kw wl_4 wb_4 wG_4)
  obtain ⟨hP, hD⟩ := frameG p9 p8 hP hD hk1 hFc (fz_P ht hB9.1) hB9.2
  refine lv_aload_n hx hb dX5_compare_31 rfl (lv_at hl 0 rfl) ?_
  refine va_get (D := (dC, dI)) (ci := 5) (v := .ref (aO 9)) (C := RX5) (T := TX5) (N := 19) hx hb hts iwsMX5_compare_in5 hown hK hP 0 rfl rfl 18 (by decide) (hts _ hm_m_X5_compare_0) (fun _ h9 => h9) rfl dX5_compare_32 ?_
  refine lv_iconst (v := 1) hx hb dX5_compare_35 (by decide) ?_
  refine va_aldq (cA := kO 9) (n := 4) (f := fun q => some (hw (428 + q))) hx hb hK hP 10 9 rfl rfl (show ¬ ((1 : Int32) < 0 ∨ 4 ≤ (1 : Int32).toNatClampNeg) by decide) dX5_compare_36 ?_
  obtain ⟨k5, hk5, b_k5⟩ : ∃ k9 : Nat, k9 = 428 + (1 : Int32).toNatClampNeg ∧ (428 ≤ k9 ∧ k9 < 432 ∧ (k9 : Int) = 428 + 1) := ⟨_, rfl, ald_k (x := (1 : Int32)) (o := 428) (n := 4) (by decide : (1 : Int32).toInt = 1) (by omega) (by omega)⟩
  refine W.eq (g2 := F0 m 37 ls [.ref (hw k5)]) (by rw [hk5]; rfl) ?_
  clear hk5
  have p9 := cj_4_3 (WO hO aO kO hM hQ hw iO_answered iO_searched iO_searchedRelaxed iO_counted fO_countedCase gO_goalNumber gO_goalScale fO_start fO_column fO_chosen) (WM hM aM kM iM_stands iM_variables iM_rows iM_goals iM_differents iM_cases fM_from fM_to fM_whole fM_ways iM_plainRows fM_plainRow fM_kept fM_goalOver fM_goalUnder fM_goalMax fM_different) (WQ hQ aQ kQ hw fQ_inside fQ_outside fQ_shut iQ_rows iQ_allRows iQ_columns) (WW nW hw lw kw wl_4 wb_4 wG_4)
  have hPc := hP.mem (fun q h => p9.mem_iff.mpr (List.mem_append_left _ h))
  have hDc := (hD.perm p9).left
  have hKc : va_K (dC, dI) vwCl (tW kw) _ := hK.sub [24] rfl
  have hFc := freeG p9 hD hS hA
  refine va_callv (va_runV (As := []) (rest := []) ⟨hx, hb, hml, hown, hts⟩ (m_X8_negate l dC dI nW hw lw kw wl_4 wb_4 wG_4 k5 b_wl_4 b_wb_4 (by first | with_reducible assumption | omega | (rw [iI_t (by omega) (by omega)]; omega) | decide | assumption) H.size) (cwV 0 hts gwsMX5_compare_1 rfl rfl rfl hd_yX8_negate_RX8 (by decide +kernel)) (fz_pre (va_recv hK hP (ci := 8) (q0 := 11 + (11 + (5 + (k5)))) rfl (apR rfl (apR rfl (apR rfl (WW_o (by omega)))))) hPc hKc hDc) rfl rfl hl.1 rfl (lv_room (Nat.le_of_ble_eq_true rfl)) dX5_compare_37 (by decide +kernel)) hS (fun q _ h => hFc q h) hFc (fun wb_6 t9_ H locs ht hvm hw9 hB9 hz1 hk1 hS => ?_)
  have b_wb_6 := hw9
  try dsimp only at b_wb_6
  have p8 := cj_4_3 (WO hO aO kO hM hQ hw iO_answered iO_searched iO_searchedRelaxed iO_counted fO_countedCase gO_goalNumber gO_goalScale fO_start fO_column fO_chosen) (WM hM aM kM iM_stands iM_variables iM_rows iM_goals iM_differents iM_cases fM_from fM_to fM_whole fM_ways iM_plainRows fM_plainRow fM_kept fM_goalOver fM_goalUnder fM_goalMax fM_different) (WQ hQ aQ kQ hw fQ_inside fQ_outside fQ_shut iQ_rows iQ_allRows iQ_columns) (WW nW hw lw kw wl_4 wb_6 wG_4)
  obtain ⟨hP, hD⟩ := frameG p9 p8 hP hD hk1 hFc (fz_P ht hB9.1) hB9.2
  refine lv_aload_n hx hb dX5_compare_40 rfl (lv_at hl 0 rfl) ?_
  refine va_get (D := (dC, dI)) (ci := 5) (v := .ref (aO 9)) (C := RX5) (T := TX5) (N := 19) hx hb hts iwsMX5_compare_in5 hown hK hP 0 rfl rfl 18 (by decide) (hts _ hm_m_X5_compare_0) (fun _ h9 => h9) rfl dX5_compare_41 ?_
  refine lv_iconst (v := 0) hx hb dX5_compare_44 (by decide) ?_
  refine va_aldq (cA := kO 9) (n := 4) (f := fun q => some (hw (428 + q))) hx hb hK hP 10 9 rfl rfl (show ¬ ((0 : Int32) < 0 ∨ 4 ≤ (0 : Int32).toNatClampNeg) by decide) dX5_compare_45 ?_
  obtain ⟨k7, hk7, b_k7⟩ : ∃ k9 : Nat, k9 = 428 + (0 : Int32).toNatClampNeg ∧ (428 ≤ k9 ∧ k9 < 432 ∧ (k9 : Int) = 428 + 0) := ⟨_, rfl, ald_k (x := (0 : Int32)) (o := 428) (n := 4) (by decide : (0 : Int32).toInt = 0) (by omega) (by omega)⟩
  refine W.eq (g2 := F0 m 46 ls [.ref (hw k7)]) (by rw [hk7]; rfl) ?_
  clear hk7
  refine lv_aload_n hx hb dX5_compare_46 rfl (lv_at hl 0 rfl) ?_
  refine va_get (D := (dC, dI)) (ci := 5) (v := .ref (aO 9)) (C := RX5) (T := TX5) (N := 19) hx hb hts iwsMX5_compare_in5 hown hK hP 0 rfl rfl 18 (by decide) (hts _ hm_m_X5_compare_0) (fun _ h9 => h9) rfl dX5_compare_47 ?_
  refine lv_iconst (v := 1) hx hb dX5_compare_50 (by decide) ?_
  refine va_aldq (cA := kO 9) (n := 4) (f := fun q => some (hw (428 + q))) hx hb hK hP 10 9 rfl rfl (show ¬ ((1 : Int32) < 0 ∨ 4 ≤ (1 : Int32).toNatClampNeg) by decide) dX5_compare_51 ?_
  obtain ⟨k8, hk8, b_k8⟩ : ∃ k9 : Nat, k9 = 428 + (1 : Int32).toNatClampNeg ∧ (428 ≤ k9 ∧ k9 < 432 ∧ (k9 : Int) = 428 + 1) := ⟨_, rfl, ald_k (x := (1 : Int32)) (o := 428) (n := 4) (by decide : (1 : Int32).toInt = 1) (by omega) (by omega)⟩
  refine W.eq (g2 := F0 m 52 ls [.ref (hw k8), .ref (hw k7)]) (by rw [hk8]; rfl) ?_
  clear hk8
  have p9 := cj_4_3 (WO hO aO kO hM hQ hw iO_answered iO_searched iO_searchedRelaxed iO_counted fO_countedCase gO_goalNumber gO_goalScale fO_start fO_column fO_chosen) (WM hM aM kM iM_stands iM_variables iM_rows iM_goals iM_differents iM_cases fM_from fM_to fM_whole fM_ways iM_plainRows fM_plainRow fM_kept fM_goalOver fM_goalUnder fM_goalMax fM_different) (WQ hQ aQ kQ hw fQ_inside fQ_outside fQ_shut iQ_rows iQ_allRows iQ_columns) (WW nW hw lw kw wl_4 wb_6 wG_4)
  have hPc := hP.mem (fun q h => p9.mem_iff.mpr (List.mem_append_left _ h))
  have hDc := (hD.perm p9).left
  have hKc : va_K (dC, dI) vwCl (tW kw) _ := hK.sub [24] rfl
  have hFc := freeG p9 hD hS hA
  refine va_callv (va_runV (As := [.ref (hw k8)]) (rest := []) ⟨hx, hb, hml, hown, hts⟩ (m_X8_add l dC dI nW hw lw kw wl_4 wb_6 wG_4 k7 k8 b_wl_4 b_wb_6 (by first | with_reducible assumption | omega | (rw [iI_t (by omega) (by omega)]; omega) | decide | assumption) (by first | with_reducible assumption | omega | (rw [iI_t (by omega) (by omega)]; omega) | decide | assumption) H.size) (cwV 1 hts gwsMX5_compare_2 rfl rfl rfl hd_yX8_add_RX8 (by decide +kernel)) (fz_pre (va_recv hK hP (ci := 8) (q0 := 11 + (11 + (5 + (k7)))) rfl (apR rfl (apR rfl (apR rfl (WW_o (by omega)))))) hPc hKc hDc) rfl rfl hl.1 rfl (lv_room (Nat.le_of_ble_eq_true rfl)) dX5_compare_52 (by decide +kernel)) hS (fun q _ h => hFc q h) hFc (fun u t9_ H locs ht hvm hw9 hB9 hz1 hk1 hS => ?_)
  revert u hw9 hB9
  refine fz_p3 ?_
  intro wl_9 wb_9 wG_9 hw9 hB9
  try dsimp only at hw9 hB9
  revert hw9
  refine fz_a2 ?_
  intro b_wl_9 b_wb_9
  have p8 := cj_4_3 (WO hO aO kO hM hQ hw iO_answered iO_searched iO_searchedRelaxed iO_counted fO_countedCase gO_goalNumber gO_goalScale fO_start fO_column fO_chosen) (WM hM aM kM iM_stands iM_variables iM_rows iM_goals iM_differents iM_cases fM_from fM_to fM_whole fM_ways iM_plainRows fM_plainRow fM_kept fM_goalOver fM_goalUnder fM_goalMax fM_different) (WQ hQ aQ kQ hw fQ_inside fQ_outside fQ_shut iQ_rows iQ_allRows iQ_columns) (WW nW hw lw kw wl_9 wb_9 wG_9)
  obtain ⟨hP, hD⟩ := frameG p9 p8 hP hD hk1 hFc (fz_P ht hB9.1) hB9.2
  refine lv_aload_n hx hb dX5_compare_55 rfl (lv_at hl 0 rfl) ?_
  refine va_get (D := (dC, dI)) (ci := 5) (v := .ref (aO 9)) (C := RX5) (T := TX5) (N := 19) hx hb hts iwsMX5_compare_in5 hown hK hP 0 rfl rfl 18 (by decide) (hts _ hm_m_X5_compare_0) (fun _ h9 => h9) rfl dX5_compare_56 ?_
  refine lv_iconst (v := 0) hx hb dX5_compare_59 (by decide) ?_
  refine va_aldq (cA := kO 9) (n := 4) (f := fun q => some (hw (428 + q))) hx hb hK hP 10 9 rfl rfl (show ¬ ((0 : Int32) < 0 ∨ 4 ≤ (0 : Int32).toNatClampNeg) by decide) dX5_compare_60 ?_
  obtain ⟨k10, hk10, b_k10⟩ : ∃ k9 : Nat, k9 = 428 + (0 : Int32).toNatClampNeg ∧ (428 ≤ k9 ∧ k9 < 432 ∧ (k9 : Int) = 428 + 0) := ⟨_, rfl, ald_k (x := (0 : Int32)) (o := 428) (n := 4) (by decide : (0 : Int32).toInt = 0) (by omega) (by omega)⟩
  refine W.eq (g2 := F0 m 61 ls [.ref (hw k10)]) (by rw [hk10]; rfl) ?_
  clear hk10
  have p9 := cj_4_3 (WO hO aO kO hM hQ hw iO_answered iO_searched iO_searchedRelaxed iO_counted fO_countedCase gO_goalNumber gO_goalScale fO_start fO_column fO_chosen) (WM hM aM kM iM_stands iM_variables iM_rows iM_goals iM_differents iM_cases fM_from fM_to fM_whole fM_ways iM_plainRows fM_plainRow fM_kept fM_goalOver fM_goalUnder fM_goalMax fM_different) (WQ hQ aQ kQ hw fQ_inside fQ_outside fQ_shut iQ_rows iQ_allRows iQ_columns) (WW nW hw lw kw wl_9 wb_9 wG_9)
  have hPc := hP.mem (fun q h => p9.mem_iff.mpr (List.mem_append_left _ h))
  have hDc := (hD.perm p9).left
  have hKc : va_K (dC, dI) vwCl (tW kw) _ := hK.sub [24] rfl
  have hFc := freeG p9 hD hS hA
  refine va_calli (va_runV (As := []) (rest := []) ⟨hx, hb, hml, hown, hts⟩ (m_X8_sign l dC dI nW hw lw kw wl_9 wb_9 wG_9 k10 b_wl_9 b_wb_9 (by first | with_reducible assumption | omega | (rw [iI_t (by omega) (by omega)]; omega) | decide | assumption) H.size) (cwV 0 hts gwsMX5_compare_3 rfl rfl rfl hd_yX8_sign_RX8 (by decide +kernel)) (fz_pre (va_recv hK hP (ci := 8) (q0 := 11 + (11 + (5 + (k10)))) rfl (apR rfl (apR rfl (apR rfl (WW_o (by omega)))))) hPc hKc hDc) rfl rfl hl.1 rfl (lv_room (Nat.le_of_ble_eq_true rfl)) dX5_compare_61 (by decide +kernel)) hS (fun q _ h => hFc q h) hFc (fun r11 u t9_ H locs ht hvm hw9 hB9 hz1 hk1 hS => ?_)
  have b_r11 := hw9
  try dsimp only at b_r11
  have p8 := p9
  obtain ⟨hP, hD⟩ := frameG p9 p8 hP hD hk1 hFc (fz_P ht hB9.1) hB9.2
  refine W.widen (k := 0) (n := 0) (by decide +kernel) (by decide +kernel) ?_
  exact W.iret (v := r11) hx hb hr (fun t9_ ht hW => ⟨⟨r11, (wl_9, wb_9, wG_9), rfl, ⟨b_wl_9, b_wb_9, (by first | exact b_r11 | with_reducible assumption | exact ⟨by omega, by omega⟩ | assumption)⟩, by rw [ht]; exact hP, hD⟩, hS.F ht⟩) hS.2.2 dX5_compare_64
theorem dX5_takeNumbers_0 : decode cX5_takeNumbers 0 = .ok (.iconst 0, 1) := dk_3 (by decide +kernel)
theorem dX5_takeNumbers_1 : decode cX5_takeNumbers 1 = .ok (.istore_n 2, 1) := dk_61 (by decide +kernel)
theorem dX5_takeNumbers_2 : decode cX5_takeNumbers 2 = .ok (.iload_n 2, 1) := dk_28 (by decide +kernel)
theorem dX5_takeNumbers_3 : decode cX5_takeNumbers 3 = .ok (.aload_n 0, 1) := dk_42 (by decide +kernel)
theorem dX5_takeNumbers_4 : decode cX5_takeNumbers 4 = .ok (.getfield 74, 3) := dk_180 (by decide +kernel)
theorem dX5_takeNumbers_7 : decode cX5_takeNumbers 7 = .ok (.getfield 112, 3) := dk_180 (by decide +kernel)
theorem dX5_takeNumbers_10 : decode cX5_takeNumbers 10 = .ok (.if_icmp .ge 87, 3) := dk_162 (by decide +kernel)
theorem dX5_takeNumbers_13 : decode cX5_takeNumbers 13 = .ok (.aload_n 1, 1) := dk_43 (by decide +kernel)
theorem dX5_takeNumbers_14 : decode cX5_takeNumbers 14 = .ok (.iload_n 2, 1) := dk_28 (by decide +kernel)
theorem dX5_takeNumbers_15 : decode cX5_takeNumbers 15 = .ok (.aaload, 1) := dk_50 (by decide +kernel)
theorem dX5_takeNumbers_16 : decode cX5_takeNumbers 16 = .ok (.lconst 0, 1) := dk_9 (by decide +kernel)
theorem dX5_takeNumbers_17 : decode cX5_takeNumbers 17 = .ok (.invokevirtual 184, 3) := dk_182 (by decide +kernel)
theorem dX5_takeNumbers_20 : decode cX5_takeNumbers 20 = .ok (.aload_n 0, 1) := dk_42 (by decide +kernel)
theorem dX5_takeNumbers_21 : decode cX5_takeNumbers 21 = .ok (.aload_n 1, 1) := dk_43 (by decide +kernel)
theorem dX5_takeNumbers_22 : decode cX5_takeNumbers 22 = .ok (.iload_n 2, 1) := dk_28 (by decide +kernel)
theorem dX5_takeNumbers_23 : decode cX5_takeNumbers 23 = .ok (.aaload, 1) := dk_50 (by decide +kernel)
theorem dX5_takeNumbers_24 : decode cX5_takeNumbers 24 = .ok (.aload_n 0, 1) := dk_42 (by decide +kernel)
theorem dX5_takeNumbers_25 : decode cX5_takeNumbers 25 = .ok (.getfield 12, 3) := dk_180 (by decide +kernel)
theorem dX5_takeNumbers_28 : decode cX5_takeNumbers 28 = .ok (.getfield 253, 3) := dk_180 (by decide +kernel)
theorem dX5_takeNumbers_31 : decode cX5_takeNumbers 31 = .ok (.aload_n 0, 1) := dk_42 (by decide +kernel)
theorem dX5_takeNumbers_32 : decode cX5_takeNumbers 32 = .ok (.getfield 35, 3) := dk_180 (by decide +kernel)
theorem dX5_takeNumbers_35 : decode cX5_takeNumbers 35 = .ok (.iload_n 2, 1) := dk_28 (by decide +kernel)
theorem dX5_takeNumbers_36 : decode cX5_takeNumbers 36 = .ok (.iaload, 1) := dk_46 (by decide +kernel)
theorem dX5_takeNumbers_37 : decode cX5_takeNumbers 37 = .ok (.i2l, 1) := dk_133 (by decide +kernel)
theorem dX5_takeNumbers_38 : decode cX5_takeNumbers 38 = .ok (.invokevirtual 211, 3) := dk_182 (by decide +kernel)
theorem dX5_takeNumbers_41 : decode cX5_takeNumbers 41 = .ok (.aload_n 0, 1) := dk_42 (by decide +kernel)
theorem dX5_takeNumbers_42 : decode cX5_takeNumbers 42 = .ok (.getfield 38, 3) := dk_180 (by decide +kernel)
theorem dX5_takeNumbers_45 : decode cX5_takeNumbers 45 = .ok (.iload_n 2, 1) := dk_28 (by decide +kernel)
theorem dX5_takeNumbers_46 : decode cX5_takeNumbers 46 = .ok (.iaload, 1) := dk_46 (by decide +kernel)
theorem dX5_takeNumbers_47 : decode cX5_takeNumbers 47 = .ok (.iconst (-1), 1) := dk_2 (by decide +kernel)
theorem dX5_takeNumbers_48 : decode cX5_takeNumbers 48 = .ok (.if_icmp .ne 7, 3) := dk_160 (by decide +kernel)
theorem dX5_takeNumbers_51 : decode cX5_takeNumbers 51 = .ok (.iconst (-1), 1) := dk_2 (by decide +kernel)
theorem dX5_takeNumbers_52 : decode cX5_takeNumbers 52 = .ok (.goto 18, 3) := dk_167 (by decide +kernel)
theorem dX5_takeNumbers_55 : decode cX5_takeNumbers 55 = .ok (.aload_n 0, 1) := dk_42 (by decide +kernel)
theorem dX5_takeNumbers_56 : decode cX5_takeNumbers 56 = .ok (.getfield 12, 3) := dk_180 (by decide +kernel)
theorem dX5_takeNumbers_59 : decode cX5_takeNumbers 59 = .ok (.aload_n 0, 1) := dk_42 (by decide +kernel)
theorem dX5_takeNumbers_60 : decode cX5_takeNumbers 60 = .ok (.getfield 38, 3) := dk_180 (by decide +kernel)
theorem dX5_takeNumbers_63 : decode cX5_takeNumbers 63 = .ok (.iload_n 2, 1) := dk_28 (by decide +kernel)
theorem dX5_takeNumbers_64 : decode cX5_takeNumbers 64 = .ok (.iaload, 1) := dk_46 (by decide +kernel)
theorem dX5_takeNumbers_65 : decode cX5_takeNumbers 65 = .ok (.iconst 1, 1) := dk_4 (by decide +kernel)
theorem dX5_takeNumbers_66 : decode cX5_takeNumbers 66 = .ok (.isub, 1) := dk_100 (by decide +kernel)
theorem dX5_takeNumbers_67 : decode cX5_takeNumbers 67 = .ok (.invokevirtual 265, 3) := dk_182 (by decide +kernel)
theorem dX5_takeNumbers_70 : decode cX5_takeNumbers 70 = .ok (.istore_n 3, 1) := dk_62 (by decide +kernel)
theorem dX5_takeNumbers_71 : decode cX5_takeNumbers 71 = .ok (.iload_n 3, 1) := dk_29 (by decide +kernel)
theorem dX5_takeNumbers_72 : decode cX5_takeNumbers 72 = .ok (.iconst (-1), 1) := dk_2 (by decide +kernel)
theorem dX5_takeNumbers_73 : decode cX5_takeNumbers 73 = .ok (.if_icmp .eq 18, 3) := dk_159 (by decide +kernel)
theorem dX5_takeNumbers_76 : decode cX5_takeNumbers 76 = .ok (.aload_n 1, 1) := dk_43 (by decide +kernel)
theorem dX5_takeNumbers_77 : decode cX5_takeNumbers 77 = .ok (.iload_n 2, 1) := dk_28 (by decide +kernel)
theorem dX5_takeNumbers_78 : decode cX5_takeNumbers 78 = .ok (.aaload, 1) := dk_50 (by decide +kernel)
theorem dX5_takeNumbers_79 : decode cX5_takeNumbers 79 = .ok (.aload_n 0, 1) := dk_42 (by decide +kernel)
theorem dX5_takeNumbers_80 : decode cX5_takeNumbers 80 = .ok (.getfield 12, 3) := dk_180 (by decide +kernel)
theorem dX5_takeNumbers_83 : decode cX5_takeNumbers 83 = .ok (.iload_n 3, 1) := dk_29 (by decide +kernel)
theorem dX5_takeNumbers_84 : decode cX5_takeNumbers 84 = .ok (.iconst 0, 1) := dk_3 (by decide +kernel)
theorem dX5_takeNumbers_85 : decode cX5_takeNumbers 85 = .ok (.invokevirtual 177, 3) := dk_182 (by decide +kernel)
theorem dX5_takeNumbers_88 : decode cX5_takeNumbers 88 = .ok (.invokevirtual 259, 3) := dk_182 (by decide +kernel)
theorem dX5_takeNumbers_91 : decode cX5_takeNumbers 91 = .ok (.iinc 2 1, 3) := dk_132 (by decide +kernel)
theorem dX5_takeNumbers_94 : decode cX5_takeNumbers 94 = .ok (.goto (-92), 3) := dk_167 (by decide +kernel)
theorem dX5_takeNumbers_97 : decode cX5_takeNumbers 97 = .ok (.return_, 1) := dk_177 (by decide +kernel)
def wsMX5_takeNumbers : List Cond := .code yX5_takeNumbers cX5_takeNumbers 4 none :: ([.fieldLink RX5 74 "OptimaWorks$Solver" "model" "LOptimaWorks$Model;", .fieldLink RX5 112 "OptimaWorks$Model" "variables" "I", .fieldLink RX5 12 "OptimaWorks$Solver" "tableau" "LOptimaWorks$Tableau;", .fieldLink RX5 253 "OptimaWorks$Tableau" "under" "LOptimaWorks$Whole;", .fieldLink RX5 35 "OptimaWorks$Solver" "start" "[I", .fieldLink RX5 38 "OptimaWorks$Solver" "column" "[I"] ++ wsX10 ++ wsX50 ++ wsX60 ++ (wsV RX5 184 RX8 yX8_setLong wsMX8_setLong) ++ (wsV RX5 211 RX5 yX5_addTimes wsMX5_addTimes) ++ (wsV RX5 265 RX6 yX6_rowOf wsMX6_rowOf) ++ (wsV RX5 177 RX6 yX6_cellAt wsMX6_cellAt) ++ (wsV RX5 259 RX8 yX8_add wsMX8_add))
theorem iwsMX5_takeNumbers_in1 : ∀ w ∈ wsX10, w ∈ wsMX5_takeNumbers := fun _ h => List.mem_cons_of_mem _ (List.mem_append_left _ (List.mem_append_left _ (List.mem_append_left _ (List.mem_append_left _ (List.mem_append_left _ (List.mem_append_left _ (List.mem_append_left _ (List.mem_append_right _ h))))))))
theorem iwsMX5_takeNumbers_in5 : ∀ w ∈ wsX50, w ∈ wsMX5_takeNumbers := fun _ h => List.mem_cons_of_mem _ (List.mem_append_left _ (List.mem_append_left _ (List.mem_append_left _ (List.mem_append_left _ (List.mem_append_left _ (List.mem_append_left _ (List.mem_append_right _ h)))))))
theorem iwsMX5_takeNumbers_in6 : ∀ w ∈ wsX60, w ∈ wsMX5_takeNumbers := fun _ h => List.mem_cons_of_mem _ (List.mem_append_left _ (List.mem_append_left _ (List.mem_append_left _ (List.mem_append_left _ (List.mem_append_left _ (List.mem_append_right _ h))))))
theorem gwsMX5_takeNumbers_0 : GoodIn wsMX5_takeNumbers (wsV RX5 184 RX8 yX8_setLong wsMX8_setLong) := goodIn_sub (fun _ h => List.mem_cons_of_mem _ (List.mem_append_left _ (List.mem_append_left _ (List.mem_append_left _ (List.mem_append_left _ (List.mem_append_right _ h)))))) (gdV (by decide +kernel) gdwsMX8_setLong)
theorem gwsMX5_takeNumbers_1 : GoodIn wsMX5_takeNumbers (wsV RX5 211 RX5 yX5_addTimes wsMX5_addTimes) := goodIn_sub (fun _ h => List.mem_cons_of_mem _ (List.mem_append_left _ (List.mem_append_left _ (List.mem_append_left _ (List.mem_append_right _ h))))) (gdV (by decide +kernel) gdwsMX5_addTimes)
theorem gwsMX5_takeNumbers_2 : GoodIn wsMX5_takeNumbers (wsV RX5 265 RX6 yX6_rowOf wsMX6_rowOf) := goodIn_sub (fun _ h => List.mem_cons_of_mem _ (List.mem_append_left _ (List.mem_append_left _ (List.mem_append_right _ h)))) (gdV (by decide +kernel) gdwsMX6_rowOf)
theorem gwsMX5_takeNumbers_3 : GoodIn wsMX5_takeNumbers (wsV RX5 177 RX6 yX6_cellAt wsMX6_cellAt) := goodIn_sub (fun _ h => List.mem_cons_of_mem _ (List.mem_append_left _ (List.mem_append_right _ h))) (gdV (by decide +kernel) gdwsMX6_cellAt)
theorem gwsMX5_takeNumbers_4 : GoodIn wsMX5_takeNumbers (wsV RX5 259 RX8 yX8_add wsMX8_add) := goodIn_sub (fun _ h => List.mem_cons_of_mem _ (List.mem_append_right _ h)) (gdV (by decide +kernel) gdwsMX8_add)
theorem gdwsMX5_takeNumbers : wsMX5_takeNumbers.all goodWord = true := gdC rfl (gdA (gdA (gdA (gdA (gdA (gdA (gdA (gdA (by decide +kernel : ([.fieldLink RX5 74 "OptimaWorks$Solver" "model" "LOptimaWorks$Model;", .fieldLink RX5 112 "OptimaWorks$Model" "variables" "I", .fieldLink RX5 12 "OptimaWorks$Solver" "tableau" "LOptimaWorks$Tableau;", .fieldLink RX5 253 "OptimaWorks$Tableau" "under" "LOptimaWorks$Whole;", .fieldLink RX5 35 "OptimaWorks$Solver" "start" "[I", .fieldLink RX5 38 "OptimaWorks$Solver" "column" "[I"] : List Cond).all goodWord = true) gdwsX10) gdwsX50) gdwsX60) (gdV (by decide +kernel) gdwsMX8_setLong)) (gdV (by decide +kernel) gdwsMX5_addTimes)) (gdV (by decide +kernel) gdwsMX6_rowOf)) (gdV (by decide +kernel) gdwsMX6_cellAt)) (gdV (by decide +kernel) gdwsMX8_add))
theorem hm_m_X5_takeNumbers_0 : (.fieldLink RX5 12 "OptimaWorks$Solver" "tableau" "LOptimaWorks$Tableau;" : Cond) ∈ wsMX5_takeNumbers := by decide +kernel
theorem hm_m_X5_takeNumbers_1 : (.fieldLink RX5 38 "OptimaWorks$Solver" "column" "[I" : Cond) ∈ wsMX5_takeNumbers := by decide +kernel
set_option maxHeartbeats 4000000 in
set_option maxRecDepth 100000 in
/-- the numbers are taken -/
theorem m_X5_takeNumbers (l : Launch) (dC : Nat → ClassId) (dI : Nat → Nat → Nat) (hO : Nat → Nat) (aO : Nat → Nat) (kO : Nat → ClassId) (hM : Nat → Nat) (hQ : Nat → Nat) (hw : Nat → Nat) (iO_answered : Int32) (iO_searched : Int32) (iO_searchedRelaxed : Int32) (iO_counted : Int32) (fO_countedCase : Nat → Int32) (gO_goalNumber : Nat → Int64) (gO_goalScale : Nat → Int64) (fO_start : Nat → Int32) (fO_column : Nat → Int32) (fO_chosen : Nat → Int32) (aM : Nat → Nat) (kM : Nat → ClassId) (iM_stands : Int32) (iM_variables : Int32) (iM_rows : Int32) (iM_goals : Int32) (iM_differents : Int32) (iM_cases : Int32) (fM_from : Nat → Int32) (fM_to : Nat → Int32) (fM_whole : Nat → Int32) (fM_ways : Nat → Int32) (iM_plainRows : Int32) (fM_plainRow : Nat → Int32) (fM_kept : Nat → Int32) (fM_goalOver : Nat → Int32) (fM_goalUnder : Nat → Int32) (fM_goalMax : Nat → Int32) (fM_different : Nat → Int32) (aQ : Nat → Nat) (kQ : Nat → ClassId) (fQ_inside : Nat → Int32) (fQ_outside : Nat → Int32) (fQ_shut : Nat → Int32) (iQ_rows : Int32) (iQ_allRows : Int32) (iQ_columns : Int32) (nW : Nat) (lw : Nat → Nat) (kw : ClassId) (wl : Nat → Int32) (wb : Nat → Int32) (wG : Nat → Nat → Int64) (b_iO_answered : 0 ≤ iO_answered.toInt ∧ iO_answered.toInt ≤ 1) (b_iO_searched : 0 ≤ iO_searched.toInt ∧ iO_searched.toInt ≤ 1) (b_iO_searchedRelaxed : 0 ≤ iO_searchedRelaxed.toInt ∧ iO_searchedRelaxed.toInt ≤ 1) (b_iO_counted : (-1) ≤ iO_counted.toInt ∧ iO_counted.toInt ≤ 64) (b_fO_countedCase : ∀ q : Nat, 0 ≤ (fO_countedCase q).toInt ∧ (fO_countedCase q).toInt ≤ 200000) (b_fO_column : ∀ q : Nat, (-1) ≤ (fO_column q).toInt ∧ (fO_column q).toInt ≤ 8) (b_fO_chosen : ∀ q : Nat, 0 ≤ (fO_chosen q).toInt ∧ (fO_chosen q).toInt ≤ 2) (b_iM_stands : 0 ≤ iM_stands.toInt ∧ iM_stands.toInt ≤ 1) (b_iM_variables : 0 ≤ iM_variables.toInt ∧ iM_variables.toInt ≤ 8) (b_iM_rows : 0 ≤ iM_rows.toInt ∧ iM_rows.toInt ≤ 12) (b_iM_goals : 0 ≤ iM_goals.toInt ∧ iM_goals.toInt ≤ 3) (b_iM_differents : 0 ≤ iM_differents.toInt ∧ iM_differents.toInt ≤ 8) (b_iM_cases : 0 ≤ iM_cases.toInt ∧ iM_cases.toInt ≤ 200000) (b_fM_ways : ∀ q : Nat, 0 ≤ (fM_ways q).toInt ∧ (fM_ways q).toInt ≤ 3) (b_iM_plainRows : 0 ≤ iM_plainRows.toInt ∧ iM_plainRows.toInt ≤ 12) (b_fM_plainRow : ∀ q : Nat, 0 ≤ (fM_plainRow q).toInt ∧ (fM_plainRow q).toInt ≤ 11) (b_pr : iM_plainRows.toInt ≤ iM_rows.toInt) (b_iQ_rows : 0 ≤ iQ_rows.toInt ∧ iQ_rows.toInt ≤ 40) (b_iQ_allRows : 0 ≤ iQ_allRows.toInt ∧ iQ_allRows.toInt ≤ 40) (b_iQ_columns : 0 ≤ iQ_columns.toInt ∧ iQ_columns.toInt ≤ 40) (b_tb : TbO iQ_rows iQ_allRows iQ_columns) (b_wl : ∀ q : Nat, 0 ≤ (wl q).toInt ∧ (wl q).toInt ≤ 14) (b_wb : ∀ q : Nat, 0 ≤ (wb q).toInt ∧ (wb q).toInt ≤ 1) (hnW : 432 ≤ nW) (hc8 : iQ_columns.toInt ≤ 8) (sz : Nat) : Met l yX5_takeNumbers wsMX5_takeNumbers ({ frames := 4, cells := 0, slots := 0, locals := 85 }) (va_Pc [.ref (hO 0), .ref (aO 8)] (fun U => U.heap.size = sz ∧ va_P (dC, dI) vwCl (WO hO aO kO hM hQ hw iO_answered iO_searched iO_searchedRelaxed iO_counted fO_countedCase gO_goalNumber gO_goalScale fO_start fO_column fO_chosen ++ (WM hM aM kM iM_stands iM_variables iM_rows iM_goals iM_differents iM_cases fM_from fM_to fM_whole fM_ways iM_plainRows fM_plainRow fM_kept fM_goalOver fM_goalUnder fM_goalMax fM_different ++ (WQ hQ aQ kQ hw fQ_inside fQ_outside fQ_shut iQ_rows iQ_allRows iQ_columns ++ (WW nW hw lw kw wl wb wG)))) U.heap ∧ va_K (dC, dI) vwCl (tO kO ++ (tM kM ++ (tQ kQ ++ (tW kw)))) U ∧ va_D (fun _ => True) (WO hO aO kO hM hQ hw iO_answered iO_searched iO_searchedRelaxed iO_counted fO_countedCase gO_goalNumber gO_goalScale fO_start fO_column fO_chosen ++ (WM hM aM kM iM_stands iM_variables iM_rows iM_goals iM_differents iM_cases fM_from fM_to fM_whole fM_ways iM_plainRows fM_plainRow fM_kept fM_goalOver fM_goalUnder fM_goalMax fM_different ++ (WQ hQ aQ kQ hw fQ_inside fQ_outside fQ_shut iQ_rows iQ_allRows iQ_columns ++ (WW nW hw lw kw wl wb wG)))))) (va_Qv (fun (u : (Nat → Int32) × (Nat → Int32) × (Nat → Nat → Int64)) => (∀ q : Nat, 0 ≤ ((u.1) q).toInt ∧ ((u.1) q).toInt ≤ 14) ∧ (∀ q : Nat, 0 ≤ ((u.2.1) q).toInt ∧ ((u.2.1) q).toInt ≤ 1)) (fun (u : (Nat → Int32) × (Nat → Int32) × (Nat → Nat → Int64)) t => va_P (dC, dI) vwCl (WO hO aO kO hM hQ hw iO_answered iO_searched iO_searchedRelaxed iO_counted fO_countedCase gO_goalNumber gO_goalScale fO_start fO_column fO_chosen ++ (WM hM aM kM iM_stands iM_variables iM_rows iM_goals iM_differents iM_cases fM_from fM_to fM_whole fM_ways iM_plainRows fM_plainRow fM_kept fM_goalOver fM_goalUnder fM_goalMax fM_different ++ (WQ hQ aQ kQ hw fQ_inside fQ_outside fQ_shut iQ_rows iQ_allRows iQ_columns ++ (WW nW hw lw kw (u.1) (u.2.1) (u.2.2))))) t.heap ∧ va_D (va_A (WO hO aO kO hM hQ hw iO_answered iO_searched iO_searchedRelaxed iO_counted fO_countedCase gO_goalNumber gO_goalScale fO_start fO_column fO_chosen ++ (WM hM aM kM iM_stands iM_variables iM_rows iM_goals iM_differents iM_cases fM_from fM_to fM_whole fM_ways iM_plainRows fM_plainRow fM_kept fM_goalOver fM_goalUnder fM_goalMax fM_different ++ (WQ hQ aQ kQ hw fQ_inside fQ_outside fQ_shut iQ_rows iQ_allRows iQ_columns ++ (WW nW hw lw kw wl wb wG)))) sz) (WO hO aO kO hM hQ hw iO_answered iO_searched iO_searchedRelaxed iO_counted fO_countedCase gO_goalNumber gO_goalScale fO_start fO_column fO_chosen ++ (WM hM aM kM iM_stands iM_variables iM_rows iM_goals iM_differents iM_cases fM_from fM_to fM_whole fM_ways iM_plainRows fM_plainRow fM_kept fM_goalOver fM_goalUnder fM_goalMax fM_different ++ (WQ hQ aQ kQ hw fQ_inside fQ_outside fQ_shut iQ_rows iQ_allRows iQ_columns ++ (WW nW hw lw kw (u.1) (u.2.1) (u.2.2)))))) (va_A (WO hO aO kO hM hQ hw iO_answered iO_searched iO_searchedRelaxed iO_counted fO_countedCase gO_goalNumber gO_goalScale fO_start fO_column fO_chosen ++ (WM hM aM kM iM_stands iM_variables iM_rows iM_goals iM_differents iM_cases fM_from fM_to fM_whole fM_ways iM_plainRows fM_plainRow fM_kept fM_goalOver fM_goalUnder fM_goalMax fM_different ++ (WQ hQ aQ kQ hw fQ_inside fQ_outside fQ_shut iQ_rows iQ_allRows iQ_columns ++ (WW nW hw lw kw wl wb wG)))) sz)) 0 0 (va_A (WO hO aO kO hM hQ hw iO_answered iO_searched iO_searchedRelaxed iO_counted fO_countedCase gO_goalNumber gO_goalScale fO_start fO_column fO_chosen ++ (WM hM aM kM iM_stands iM_variables iM_rows iM_goals iM_differents iM_cases fM_from fM_to fM_whole fM_ways iM_plainRows fM_plainRow fM_kept fM_goalOver fM_goalUnder fM_goalMax fM_different ++ (WQ hQ aQ kQ hw fQ_inside fQ_outside fQ_shut iQ_rows iQ_allRows iQ_columns ++ (WW nW hw lw kw wl wb wG)))) sz) := by
  refine Met.ofW (cc := cX5_takeNumbers) (maxL := 4) (ret := none) (by decide) rfl ?_
  intro p e s m args below meth c s₁ B hml hv
  obtain ⟨rfl, hsz, hP, hK, hD0⟩ := hv
  have hx := B.exec
  have hb := B.bytes
  have hr := B.returns
  have hts := atoms_spec (ws := wsMX5_takeNumbers) B.pre
  have hown : s.vm.findClass RX5 = some m.cls := findClass_of_methodNamed B.named
  have hlocks := B.notSynchronized
  subst hsz
  have hD := hD0.self (sz := s.heap.size)
  generalize hAe : va_A (WO hO aO kO hM hQ hw iO_answered iO_searched iO_searchedRelaxed iO_counted fO_countedCase gO_goalNumber gO_goalScale fO_start fO_column fO_chosen ++ (WM hM aM kM iM_stands iM_variables iM_rows iM_goals iM_differents iM_cases fM_from fM_to fM_whole fM_ways iM_plainRows fM_plainRow fM_kept fM_goalOver fM_goalUnder fM_goalMax fM_different ++ (WQ hQ aQ kQ hw fQ_inside fQ_outside fQ_shut iQ_rows iQ_allRows iQ_columns ++ (WW nW hw lw kw wl wb wG)))) s.heap.size = A at hD ⊢
  have hA : ∀ q : Nat, s.heap.size ≤ q → A q := fun q h => by rw [← hAe]; exact Or.inr h
  have hS : va_S A s.heap s.heap [] := va_S.rf
  have hl := lv_entry ([.ref (hO 0), .ref (aO 8)]) (n := 4) (Nat.le_of_ble_eq_true rfl)
  rw [lg_entry_eq]
  generalize (lg_sl ([.ref (hO 0), .ref (aO 8)]) ++ List.replicate (4 - (lg_sl ([.ref (hO 0), .ref (aO 8)])).length) Slot.unset).toArray = ls at hl ⊢
  have hl : lv_has ls 4 [(0, .ref (hO 0)), (1, .ref (aO 8))] := hl
  refine lv_iconst (v := 0) hx hb dX5_takeNumbers_0 (by decide) ?_
  refine lv_istore_n hx hb dX5_takeNumbers_1 rfl hl (by decide) rfl (fun ls (hl : lv_has ls _ ([(2, .int 0), (0, .ref (hO 0)), (1, .ref (aO 8))])) => ?_)
  have hl : lv_has _ _ ([(2, .int 0), (0, .ref (hO 0)), (1, .ref (aO 8))]) := lv_sub hl [0, 1, 2] rfl
  refine (fun (loop : ∀ (n9 : Nat) (wl_x2 : Nat → Int32) (wb_x2 : Nat → Int32) (wG_x2 : Nat → Nat → Int64) (l2_x2 : Int32) (H : Heap) (locs : List Loc) (ls : Array Slot), (∀ q : Nat, 0 ≤ (wl_x2 q).toInt ∧ (wl_x2 q).toInt ≤ 14) → (∀ q : Nat, 0 ≤ (wb_x2 q).toInt ∧ (wb_x2 q).toInt ≤ 1) → (0 ≤ l2_x2.toInt ∧ l2_x2.toInt ≤ 8) → (8 - l2_x2.toInt < ((n9 : Nat) : Int)) → va_P (dC, dI) vwCl (WO hO aO kO hM hQ hw iO_answered iO_searched iO_searchedRelaxed iO_counted fO_countedCase gO_goalNumber gO_goalScale fO_start fO_column fO_chosen ++ (WM hM aM kM iM_stands iM_variables iM_rows iM_goals iM_differents iM_cases fM_from fM_to fM_whole fM_ways iM_plainRows fM_plainRow fM_kept fM_goalOver fM_goalUnder fM_goalMax fM_different ++ (WQ hQ aQ kQ hw fQ_inside fQ_outside fQ_shut iQ_rows iQ_allRows iQ_columns ++ (WW nW hw lw kw wl_x2 wb_x2 wG_x2)))) H → va_D A (WO hO aO kO hM hQ hw iO_answered iO_searched iO_searchedRelaxed iO_counted fO_countedCase gO_goalNumber gO_goalScale fO_start fO_column fO_chosen ++ (WM hM aM kM iM_stands iM_variables iM_rows iM_goals iM_differents iM_cases fM_from fM_to fM_whole fM_ways iM_plainRows fM_plainRow fM_kept fM_goalOver fM_goalUnder fM_goalMax fM_different ++ (WQ hQ aQ kQ hw fQ_inside fQ_outside fQ_shut iQ_rows iQ_allRows iQ_columns ++ (WW nW hw lw kw wl_x2 wb_x2 wG_x2)))) → va_S A s.heap H locs → lv_has ls 4 [(2, .int l2_x2), (0, .ref (hO 0)), (1, .ref (aO 8))] → W p l e _ s m _ below meth c H locs 0 0 _ (F0 m 2 ls [])) => loop (9) wl wb wG 0 _ _ _ b_wl b_wb (show 0 ≤ (0 : Int32).toInt ∧ (0 : Int32).toInt ≤ 8 from by decide) ((by have e9 : (0 : Int32).toInt = 0 := (by decide : (0 : Int32).toInt = 0); omega)) hP hD hS hl) ?_
  intro n9
  induction n9 with
  | zero => intro wl_x2 wb_x2 wG_x2 l2_x2 H locs ls b_wl_x2 b_wb_x2 b_l2_x2 hf9; exact False.elim (by omega)
  | succ n9 ihx2 =>
    intro wl_x2 wb_x2 wG_x2 l2_x2 H locs ls b_wl_x2 b_wb_x2 b_l2_x2 hfx2 hP hD hS hl
    refine lv_iload_n hx hb dX5_takeNumbers_2 rfl (lv_at hl 0 rfl) ?_
    refine lv_aload_n hx hb dX5_takeNumbers_3 rfl (lv_at hl 1 rfl) ?_
    refine va_get (D := (dC, dI)) (ci := 5) (v := .ref (hM 0)) (C := RX5) (T := TX5) (N := 19) hx hb hts iwsMX5_takeNumbers_in5 hown hK hP 0 rfl rfl 0 (by decide) (hts (.fieldLink RX5 74 "OptimaWorks$Solver" "model" "LOptimaWorks$Model;") (by decide +kernel)) (fun _ h9 => h9) rfl dX5_takeNumbers_4 ?_
    refine va_get (D := (dC, dI)) (ci := 1) (v := .int iM_variables) (C := RX1) (T := TX1) (N := 17) hx hb hts iwsMX5_takeNumbers_in1 hown hK hP 11 rfl rfl 1 (by decide) (hts (.fieldLink RX5 112 "OptimaWorks$Model" "variables" "I") (by decide +kernel)) (fun _ h9 => h9) rfl dX5_takeNumbers_7 ?_
    refine lv_icmp_ge (tgt := 97) hx hb dX5_takeNumbers_10 (by decide) (fun c_10 => ?_) (fun c_10 => ?_)
    · have t_10 : l2_x2.toInt ≥ iM_variables.toInt := toI_ge c_10 rfl rfl
      refine W.widen (k := 0) (n := 0) (by decide +kernel) (by decide +kernel) ?_
      exact W.vret hx hb hr (fun t9_ ht hW => ⟨⟨(wl_x2, wb_x2, wG_x2), rfl, ⟨b_wl_x2, b_wb_x2⟩, by rw [ht]; exact hP, hD⟩, hS.F ht⟩) hS.2.2 dX5_takeNumbers_97
    · have t_10 : ¬ l2_x2.toInt ≥ iM_variables.toInt := toI_nge c_10 rfl rfl
      refine lv_aload_n hx hb dX5_takeNumbers_13 rfl (lv_at hl 2 rfl) ?_
      refine lv_iload_n hx hb dX5_takeNumbers_14 rfl (lv_at hl 0 rfl) ?_
      refine va_aldq (cA := kO 8) (n := 8) (f := fun q => some (hw (418 + q))) hx hb hK hP 9 8 rfl rfl (vp_in_iff.mpr ⟨b_l2_x2.1, (Int.lt_of_lt_of_le (Int.not_le.mp t_10) (Int.le_trans b_iM_variables.2 (by decide)))⟩) dX5_takeNumbers_15 ?_
      obtain ⟨k81, hk81, b_k81⟩ : ∃ k9 : Nat, k9 = 418 + (l2_x2).toNatClampNeg ∧ (418 ≤ k9 ∧ k9 < 426 ∧ (k9 : Int) = 418 + l2_x2.toInt) := ⟨_, rfl, ald_k (x := (l2_x2)) (o := 418) (n := 8) rfl (by omega) (by omega)⟩
      refine W.eq (g2 := F0 m 16 ls [.ref (hw k81)]) (by rw [hk81]; rfl) ?_
      clear hk81
      refine lv_lconst (v := 0) hx hb dX5_takeNumbers_16 (by decide) ?_
      have p9 := cj_4_3 (WO hO aO kO hM hQ hw iO_answered iO_searched iO_searchedRelaxed iO_counted fO_countedCase gO_goalNumber gO_goalScale fO_start fO_column fO_chosen) (WM hM aM kM iM_stands iM_variables iM_rows iM_goals iM_differents iM_cases fM_from fM_to fM_whole fM_ways iM_plainRows fM_plainRow fM_kept fM_goalOver fM_goalUnder fM_goalMax fM_different) (WQ hQ aQ kQ hw fQ_inside fQ_outside fQ_shut iQ_rows iQ_allRows iQ_columns) (WW nW hw lw kw wl_x2 wb_x2 wG_x2)
      have hPc := hP.mem (fun q h => p9.mem_iff.mpr (List.mem_append_left _ h))
      have hDc := (hD.perm p9).left
      have hKc : va_K (dC, dI) vwCl (tW kw) _ := hK.sub [24] rfl
      have hFc := freeG p9 hD hS hA
      refine va_callv (va_runV (As := [.long 0]) (rest := []) ⟨hx, hb, hml, hown, hts⟩ (m_X8_setLong l dC dI nW hw lw kw wl_x2 wb_x2 wG_x2 k81 0 b_wl_x2 b_wb_x2 (by first | with_reducible assumption | omega | (rw [iI_t (by omega) (by omega)]; omega) | decide | assumption) H.size) (cwV 1 hts gwsMX5_takeNumbers_0 rfl rfl rfl hd_yX8_setLong_RX8 (by decide +kernel)) (fz_pre (va_recv hK hP (ci := 8) (q0 := 11 + (11 + (5 + (k81)))) rfl (apR rfl (apR rfl (apR rfl (WW_o (by omega)))))) hPc hKc hDc) rfl rfl hl.1 rfl (lv_room (Nat.le_of_ble_eq_true rfl)) dX5_takeNumbers_17 (by decide +kernel)) hS (fun q _ h => hFc q h) hFc (fun u t9_ H locs ht hvm hw9 hB9 hz1 hk1 hS => ?_)
      revert u hw9 hB9
      refine fz_p3 ?_
      intro wl_82 wb_82 wG_82 hw9 hB9
      try dsimp only at hw9 hB9
      revert hw9
      refine fz_a2 ?_
      intro b_wl_82 b_wb_82
      have p8 := cj_4_3 (WO hO aO kO hM hQ hw iO_answered iO_searched iO_searchedRelaxed iO_counted fO_countedCase gO_goalNumber gO_goalScale fO_start fO_column fO_chosen) (WM hM aM kM iM_stands iM_variables iM_rows iM_goals iM_differents iM_cases fM_from fM_to fM_whole fM_ways iM_plainRows fM_plainRow fM_kept fM_goalOver fM_goalUnder fM_goalMax fM_different) (WQ hQ aQ kQ hw fQ_inside fQ_outside fQ_shut iQ_rows iQ_allRows iQ_columns) (WW nW hw lw kw wl_82 wb_82 wG_82)
      obtain ⟨hP, hD⟩ := frameG p9 p8 hP hD hk1 hFc (fz_P ht hB9.1) hB9.2
      refine lv_aload_n hx hb dX5_takeNumbers_20 rfl (lv_at hl 1 rfl) ?_
      refine lv_aload_n hx hb dX5_takeNumbers_21 rfl (lv_at hl 2 rfl) ?_
      refine lv_iload_n hx hb dX5_takeNumbers_22 rfl (lv_at hl 0 rfl) ?_
      refine va_aldq (cA := kO 8) (n := 8) (f := fun q => some (hw (418 + q))) hx hb hK hP 9 8 rfl rfl (vp_in_iff.mpr ⟨b_l2_x2.1, (Int.lt_of_lt_of_le (Int.not_le.mp t_10) (Int.le_trans b_iM_variables.2 (by decide)))⟩) dX5_takeNumbers_23 ?_
      obtain ⟨k83, hk83, b_k83⟩ : ∃ k9 : Nat, k9 = 418 + (l2_x2).toNatClampNeg ∧ (418 ≤ k9 ∧ k9 < 426 ∧ (k9 : Int) = 418 + l2_x2.toInt) := ⟨_, rfl, ald_k (x := (l2_x2)) (o := 418) (n := 8) rfl (by omega) (by omega)⟩
      refine W.eq (g2 := F0 m 24 ls [.ref (hw k83), .ref (hO 0)]) (by rw [hk83]; rfl) ?_
      clear hk83
      refine lv_aload_n hx hb dX5_takeNumbers_24 rfl (lv_at hl 1 rfl) ?_
      refine va_get (D := (dC, dI)) (ci := 5) (v := .ref (hQ 0)) (C := RX5) (T := TX5) (N := 19) hx hb hts iwsMX5_takeNumbers_in5 hown hK hP 0 rfl rfl 1 (by decide) (hts _ hm_m_X5_takeNumbers_0) (fun _ h9 => h9) rfl dX5_takeNumbers_25 ?_
      refine va_get (D := (dC, dI)) (ci := 6) (v := .ref (hw 400)) (C := RX6) (T := TX6) (N := 13) hx hb hts iwsMX5_takeNumbers_in6 hown hK hP 22 rfl rfl 4 (by decide) (hts (.fieldLink RX5 253 "OptimaWorks$Tableau" "under" "LOptimaWorks$Whole;") (by decide +kernel)) (fun _ h9 => h9) rfl dX5_takeNumbers_28 ?_
      refine lv_aload_n hx hb dX5_takeNumbers_31 rfl (lv_at hl 1 rfl) ?_
      refine va_get (D := (dC, dI)) (ci := 5) (v := .ref (aO 3)) (C := RX5) (T := TX5) (N := 19) hx hb hts iwsMX5_takeNumbers_in5 hown hK hP 0 rfl rfl 9 (by decide) (hts (.fieldLink RX5 35 "OptimaWorks$Solver" "start" "[I") (by decide +kernel)) (fun _ h9 => h9) rfl dX5_takeNumbers_32 ?_
      refine lv_iload_n hx hb dX5_takeNumbers_35 rfl (lv_at hl 0 rfl) ?_
      refine va_iald (cA := kO 3) (n := 8) (f := fO_start) hx hb hK hP 4 3 rfl rfl (vp_in_iff.mpr ⟨b_l2_x2.1, (Int.lt_of_lt_of_le (Int.not_le.mp t_10) (Int.le_trans b_iM_variables.2 (by decide)))⟩) dX5_takeNumbers_36 ?_
      refine lv_topi (fun v84 hv84 => ?_)
      clear hv84
      refine lv_i2l hx hb dX5_takeNumbers_37 rfl ?_
      refine lv_topl (fun v85 hv85 => ?_)
      clear hv85
      have hFc := allFree hD hS hA
      refine va_callv (va_runV (As := [.ref (hw k83), .ref (hw 400), .long v85]) (rest := []) ⟨hx, hb, hml, hown, hts⟩ (m_X5_addTimes l dC dI hO aO kO hM hQ hw iO_answered iO_searched iO_searchedRelaxed iO_counted fO_countedCase gO_goalNumber gO_goalScale fO_start fO_column fO_chosen aM kM iM_stands iM_variables iM_rows iM_goals iM_differents iM_cases fM_from fM_to fM_whole fM_ways iM_plainRows fM_plainRow fM_kept fM_goalOver fM_goalUnder fM_goalMax fM_different aQ kQ fQ_inside fQ_outside fQ_shut iQ_rows iQ_allRows iQ_columns nW lw kw wl_82 wb_82 wG_82 k83 400 v85 (b_iO_answered) (b_iO_searched) (b_iO_searchedRelaxed) (b_iO_counted) b_fO_countedCase b_fO_column b_fO_chosen (b_iM_stands) (b_iM_variables) (b_iM_rows) (b_iM_goals) (b_iM_differents) (b_iM_cases) b_fM_ways (b_iM_plainRows) b_fM_plainRow (by first | with_reducible assumption | omega | assumption) (b_iQ_rows) (b_iQ_allRows) (b_iQ_columns) (by first | with_reducible assumption | omega | assumption) b_wl_82 b_wb_82 (by omega) (by first | with_reducible assumption | omega | (rw [iI_t (by omega) (by omega)]; omega) | decide | assumption) (by first | with_reducible assumption | omega | (rw [iI_t (by omega) (by omega)]; omega) | decide | assumption) H.size) (cwV 3 hts gwsMX5_takeNumbers_1 rfl rfl rfl hd_yX5_addTimes_RX5 (by decide +kernel)) (fz_pre (va_recv hK hP (ci := 5) (q0 := 0) rfl rfl) hP hK hD) rfl rfl hl.1 rfl (lv_room (Nat.le_of_ble_eq_true rfl)) dX5_takeNumbers_38 (by decide +kernel)) hS (fun q _ h => hFc q h) hFc (fun u t9_ H locs ht hvm hw9 hB9 hz1 hk1 hS => ?_)
      revert u hw9 hB9
      refine fz_p3 ?_
      intro wl_86 wb_86 wG_86 hw9 hB9
      try dsimp only at hw9 hB9
      revert hw9
      refine fz_a2 ?_
      intro b_wl_86 b_wb_86
      have hP : va_P (dC, dI) vwCl (WO hO aO kO hM hQ hw iO_answered iO_searched iO_searchedRelaxed iO_counted fO_countedCase gO_goalNumber gO_goalScale fO_start fO_column fO_chosen ++ (WM hM aM kM iM_stands iM_variables iM_rows iM_goals iM_differents iM_cases fM_from fM_to fM_whole fM_ways iM_plainRows fM_plainRow fM_kept fM_goalOver fM_goalUnder fM_goalMax fM_different ++ (WQ hQ aQ kQ hw fQ_inside fQ_outside fQ_shut iQ_rows iQ_allRows iQ_columns ++ (WW nW hw lw kw wl_86 wb_86 wG_86)))) H := fz_P ht hB9.1
      have hD := fz_sd hP (hB9.2.weaken (fun _ q _ h => hFc q.1 h)) rfl
      refine lv_aload_n hx hb dX5_takeNumbers_41 rfl (lv_at hl 1 rfl) ?_
      refine va_get (D := (dC, dI)) (ci := 5) (v := .ref (aO 4)) (C := RX5) (T := TX5) (N := 19) hx hb hts iwsMX5_takeNumbers_in5 hown hK hP 0 rfl rfl 10 (by decide) (hts _ hm_m_X5_takeNumbers_1) (fun _ h9 => h9) rfl dX5_takeNumbers_42 ?_
      refine lv_iload_n hx hb dX5_takeNumbers_45 rfl (lv_at hl 0 rfl) ?_
      refine va_iald (cA := kO 4) (n := 8) (f := fO_column) hx hb hK hP 5 4 rfl rfl (vp_in_iff.mpr ⟨b_l2_x2.1, (Int.lt_of_lt_of_le (Int.not_le.mp t_10) (Int.le_trans b_iM_variables.2 (by decide)))⟩) dX5_takeNumbers_46 ?_
      refine lv_topi (fun v87 hv87 => ?_)
      have b_v87 : (-1) ≤ v87.toInt ∧ v87.toInt ≤ 8 := by rw [hv87]; exact b_fO_column _
      clear hv87
      refine lv_iconst (v := (-1)) hx hb dX5_takeNumbers_47 (by decide) ?_
      refine lv_icmp_ne (tgt := 55) hx hb dX5_takeNumbers_48 (by decide) (fun c_48 => ?_) (fun c_48 => ?_)
      · have t_48 : v87.toInt ≠ (-1) := toI_ne c_48 rfl (by decide : ((-1) : Int32).toInt = (-1))
        refine lv_aload_n hx hb dX5_takeNumbers_55 rfl (lv_at hl 1 rfl) ?_
        refine va_get (D := (dC, dI)) (ci := 5) (v := .ref (hQ 0)) (C := RX5) (T := TX5) (N := 19) hx hb hts iwsMX5_takeNumbers_in5 hown hK hP 0 rfl rfl 1 (by decide) (hts _ hm_m_X5_takeNumbers_0) (fun _ h9 => h9) rfl dX5_takeNumbers_56 ?_
        refine lv_aload_n hx hb dX5_takeNumbers_59 rfl (lv_at hl 1 rfl) ?_
        refine va_get (D := (dC, dI)) (ci := 5) (v := .ref (aO 4)) (C := RX5) (T := TX5) (N := 19) hx hb hts iwsMX5_takeNumbers_in5 hown hK hP 0 rfl rfl 10 (by decide) (hts _ hm_m_X5_takeNumbers_1) (fun _ h9 => h9) rfl dX5_takeNumbers_60 ?_
        refine lv_iload_n hx hb dX5_takeNumbers_63 rfl (lv_at hl 0 rfl) ?_
        refine va_iald (cA := kO 4) (n := 8) (f := fO_column) hx hb hK hP 5 4 rfl rfl (vp_in_iff.mpr ⟨b_l2_x2.1, (Int.lt_of_lt_of_le (Int.not_le.mp t_10) (Int.le_trans b_iM_variables.2 (by decide)))⟩) dX5_takeNumbers_64 ?_
        refine lv_topi (fun v88 hv88 => ?_)
        have b_v88 : (-1) ≤ v88.toInt ∧ v88.toInt ≤ 8 := by rw [hv88]; exact b_fO_column _
        clear hv88
        refine lv_iconst (v := 1) hx hb dX5_takeNumbers_65 (by decide) ?_
        refine lv_isub hx hb dX5_takeNumbers_66 ?_
        refine lv_topi (fun y89 hy89 => ?_)
        obtain rfl : (iI (v88.toInt - 1)) = y89 := (hy89.trans (iI_sub2 (iI_of _) (by decide : (1 : Int32) = iI 1))).symm
        have p9 := cj_4_2_3 (WO hO aO kO hM hQ hw iO_answered iO_searched iO_searchedRelaxed iO_counted fO_countedCase gO_goalNumber gO_goalScale fO_start fO_column fO_chosen) (WM hM aM kM iM_stands iM_variables iM_rows iM_goals iM_differents iM_cases fM_from fM_to fM_whole fM_ways iM_plainRows fM_plainRow fM_kept fM_goalOver fM_goalUnder fM_goalMax fM_different) (WQ hQ aQ kQ hw fQ_inside fQ_outside fQ_shut iQ_rows iQ_allRows iQ_columns) (WW nW hw lw kw wl_86 wb_86 wG_86)
        have hPc := hP.mem (fun q h => p9.mem_iff.mpr (List.mem_append_left _ h))
        have hDc := (hD.perm p9).left
        have hKc : va_K (dC, dI) vwCl (tQ kQ ++ (tW kw)) _ := hK.sub [20, 21, 22, 23, 24] rfl
        have hFc := freeG p9 hD hS hA
        refine va_calli (va_runV (As := [.int (iI (v88.toInt - 1))]) (rest := []) ⟨hx, hb, hml, hown, hts⟩ (m_X6_rowOf l dC dI hQ aQ kQ hw fQ_inside fQ_outside fQ_shut iQ_rows iQ_allRows iQ_columns nW lw kw wl_86 wb_86 wG_86 (iI (v88.toInt - 1)) (b_iQ_rows) (b_iQ_allRows) (b_iQ_columns) (by first | with_reducible assumption | omega | assumption) b_wl_86 b_wb_86 (by omega) H.size) (cwV 1 hts gwsMX5_takeNumbers_2 rfl rfl rfl hd_yX6_rowOf_RX6 (by decide +kernel)) (fz_pre (va_recv hK hP (ci := 6) (q0 := 22) rfl rfl) hPc hKc hDc) rfl rfl hl.1 rfl (lv_room (Nat.le_of_ble_eq_true rfl)) dX5_takeNumbers_67 (by decide +kernel)) hS (fun q _ h => hFc q h) hFc (fun r90 u t9_ H locs ht hvm hw9 hB9 hz1 hk1 hS => ?_)
        revert hw9
        refine fz_a2 ?_
        intro b_r90 f90_0
        have p8 := p9
        obtain ⟨hP, hD⟩ := frameG p9 p8 hP hD hk1 hFc (fz_P ht hB9.1) hB9.2
        refine lv_istore_n hx hb dX5_takeNumbers_70 rfl hl (by decide) rfl (fun ls (hl : lv_has ls _ ([(3, .int r90), (2, .int l2_x2), (0, .ref (hO 0)), (1, .ref (aO 8))])) => ?_)
        refine lv_iload_n hx hb dX5_takeNumbers_71 rfl (lv_at hl 0 rfl) ?_
        refine lv_iconst (v := (-1)) hx hb dX5_takeNumbers_72 (by decide) ?_
        refine W.cut (pc := 91) (fun H locs ls stk => ∃ (wl_j12 : Nat → Int32) (wb_j12 : Nat → Int32) (wG_j12 : Nat → Nat → Int64), (∀ q : Nat, 0 ≤ (wl_j12 q).toInt ∧ (wl_j12 q).toInt ≤ 14) ∧ (∀ q : Nat, 0 ≤ (wb_j12 q).toInt ∧ (wb_j12 q).toInt ≤ 1) ∧  stk = [] ∧ va_P (dC, dI) vwCl (WO hO aO kO hM hQ hw iO_answered iO_searched iO_searchedRelaxed iO_counted fO_countedCase gO_goalNumber gO_goalScale fO_start fO_column fO_chosen ++ (WM hM aM kM iM_stands iM_variables iM_rows iM_goals iM_differents iM_cases fM_from fM_to fM_whole fM_ways iM_plainRows fM_plainRow fM_kept fM_goalOver fM_goalUnder fM_goalMax fM_different ++ (WQ hQ aQ kQ hw fQ_inside fQ_outside fQ_shut iQ_rows iQ_allRows iQ_columns ++ (WW nW hw lw kw wl_j12 wb_j12 wG_j12)))) H ∧ va_D A (WO hO aO kO hM hQ hw iO_answered iO_searched iO_searchedRelaxed iO_counted fO_countedCase gO_goalNumber gO_goalScale fO_start fO_column fO_chosen ++ (WM hM aM kM iM_stands iM_variables iM_rows iM_goals iM_differents iM_cases fM_from fM_to fM_whole fM_ways iM_plainRows fM_plainRow fM_kept fM_goalOver fM_goalUnder fM_goalMax fM_different ++ (WQ hQ aQ kQ hw fQ_inside fQ_outside fQ_shut iQ_rows iQ_allRows iQ_columns ++ (WW nW hw lw kw wl_j12 wb_j12 wG_j12)))) ∧ va_S A s.heap H locs ∧ lv_has ls 4 [(3, .int r90), (2, .int l2_x2), (0, .ref (hO 0)), (1, .ref (aO 8))]) (fun join12 => ?_) ?_
        · refine lv_icmp_eq (tgt := 91) hx hb dX5_takeNumbers_73 (by decide) (fun c_73 => ?_) (fun c_73 => ?_)
          · have t_73 : r90.toInt = (-1) := toI_eq c_73 rfl (by decide : ((-1) : Int32).toInt = (-1))
            have hl : lv_has _ _ ([(3, .int r90), (2, .int l2_x2), (0, .ref (hO 0)), (1, .ref (aO 8))]) := lv_sub hl [0, 1, 2, 3] rfl
            exact join12 _ _ _ _ ⟨wl_86, wb_86, wG_86, b_wl_86, b_wb_86, rfl, hP, hD, hS, hl⟩
          · have t_73 : ¬ r90.toInt = (-1) := toI_neq c_73 rfl (by decide : ((-1) : Int32).toInt = (-1))
            refine lv_aload_n hx hb dX5_takeNumbers_76 rfl (lv_at hl 3 rfl) ?_
            refine lv_iload_n hx hb dX5_takeNumbers_77 rfl (lv_at hl 1 rfl) ?_
            refine va_aldq (cA := kO 8) (n := 8) (f := fun q => some (hw (418 + q))) hx hb hK hP 9 8 rfl rfl (vp_in_iff.mpr ⟨b_l2_x2.1, (by omega)⟩) dX5_takeNumbers_78 ?_
            obtain ⟨k94, hk94, b_k94⟩ : ∃ k9 : Nat, k9 = 418 + (l2_x2).toNatClampNeg ∧ (418 ≤ k9 ∧ k9 < 426 ∧ (k9 : Int) = 418 + l2_x2.toInt) := ⟨_, rfl, ald_k (x := (l2_x2)) (o := 418) (n := 8) rfl (by omega) (by omega)⟩
            refine W.eq (g2 := F0 m 79 ls [.ref (hw k94)]) (by rw [hk94]; rfl) ?_
            clear hk94
            refine lv_aload_n hx hb dX5_takeNumbers_79 rfl (lv_at hl 2 rfl) ?_
            refine va_get (D := (dC, dI)) (ci := 5) (v := .ref (hQ 0)) (C := RX5) (T := TX5) (N := 19) hx hb hts iwsMX5_takeNumbers_in5 hown hK hP 0 rfl rfl 1 (by decide) (hts _ hm_m_X5_takeNumbers_0) (fun _ h9 => h9) rfl dX5_takeNumbers_80 ?_
            refine lv_iload_n hx hb dX5_takeNumbers_83 rfl (lv_at hl 0 rfl) ?_
            refine lv_iconst (v := 0) hx hb dX5_takeNumbers_84 (by decide) ?_
            have p9 := cj_4_2_3 (WO hO aO kO hM hQ hw iO_answered iO_searched iO_searchedRelaxed iO_counted fO_countedCase gO_goalNumber gO_goalScale fO_start fO_column fO_chosen) (WM hM aM kM iM_stands iM_variables iM_rows iM_goals iM_differents iM_cases fM_from fM_to fM_whole fM_ways iM_plainRows fM_plainRow fM_kept fM_goalOver fM_goalUnder fM_goalMax fM_different) (WQ hQ aQ kQ hw fQ_inside fQ_outside fQ_shut iQ_rows iQ_allRows iQ_columns) (WW nW hw lw kw wl_86 wb_86 wG_86)
            have hPc := hP.mem (fun q h => p9.mem_iff.mpr (List.mem_append_left _ h))
            have hDc := (hD.perm p9).left
            have hKc : va_K (dC, dI) vwCl (tQ kQ ++ (tW kw)) _ := hK.sub [20, 21, 22, 23, 24] rfl
            have hFc := freeG p9 hD hS hA
            refine va_callr (va_runV (As := [.int r90, .int 0]) (rest := [.ref (hw k94)]) ⟨hx, hb, hml, hown, hts⟩ (m_X6_cellAt l dC dI hQ aQ kQ hw fQ_inside fQ_outside fQ_shut iQ_rows iQ_allRows iQ_columns nW lw kw wl_86 wb_86 wG_86 r90 0 (b_iQ_rows) (b_iQ_allRows) (b_iQ_columns) (by first | with_reducible assumption | omega | assumption) b_wl_86 b_wb_86 (by first | exact b_r90 | with_reducible assumption | exact ⟨by omega, by omega⟩ | assumption) (show 0 ≤ (0 : Int32).toInt ∧ (0 : Int32).toInt ≤ 40 from by decide) (by omega) (cell_ix0 b_tb (by omega) (by have h9 := b_tb.1; omega) (by omega)) H.size) (cwV 2 hts gwsMX5_takeNumbers_3 rfl rfl rfl hd_yX6_cellAt_RX6 (by decide +kernel)) (fz_pre (va_recv hK hP (ci := 6) (q0 := 22) rfl rfl) hPc hKc hDc) rfl rfl hl.1 rfl (lv_room (Nat.le_of_ble_eq_true rfl)) dX5_takeNumbers_85 (by decide +kernel)) hS (fun q _ h => hFc q h) hFc (fun kR_95 ra95 t9_ H locs ht hvm hw9 hB9 hz1 hk1 hS => ?_)
            revert hB9
            refine fz_a2 ?_
            intro hra hB9
            subst hra
            have f95_0 := hw9
            try dsimp only at f95_0
            have p8 := p9
            obtain ⟨hP, hD⟩ := frameG p9 p8 hP hD hk1 hFc (fz_P ht hB9.1) hB9.2
            have p9 := cj_4_3 (WO hO aO kO hM hQ hw iO_answered iO_searched iO_searchedRelaxed iO_counted fO_countedCase gO_goalNumber gO_goalScale fO_start fO_column fO_chosen) (WM hM aM kM iM_stands iM_variables iM_rows iM_goals iM_differents iM_cases fM_from fM_to fM_whole fM_ways iM_plainRows fM_plainRow fM_kept fM_goalOver fM_goalUnder fM_goalMax fM_different) (WQ hQ aQ kQ hw fQ_inside fQ_outside fQ_shut iQ_rows iQ_allRows iQ_columns) (WW nW hw lw kw wl_86 wb_86 wG_86)
            have hPc := hP.mem (fun q h => p9.mem_iff.mpr (List.mem_append_left _ h))
            have hDc := (hD.perm p9).left
            have hKc : va_K (dC, dI) vwCl (tW kw) _ := hK.sub [24] rfl
            have hFc := freeG p9 hD hS hA
            refine va_callv (va_runV (As := [.ref (hw kR_95)]) (rest := []) ⟨hx, hb, hml, hown, hts⟩ (m_X8_add l dC dI nW hw lw kw wl_86 wb_86 wG_86 k94 kR_95 b_wl_86 b_wb_86 (by first | with_reducible assumption | omega | (rw [iI_t (by omega) (by omega)]; omega) | decide | assumption) (by first | with_reducible assumption | omega | (rw [iI_t (by omega) (by omega)]; omega) | decide | assumption) H.size) (cwV 1 hts gwsMX5_takeNumbers_4 rfl rfl rfl hd_yX8_add_RX8 (by decide +kernel)) (fz_pre (va_recv hK hP (ci := 8) (q0 := 11 + (11 + (5 + (k94)))) rfl (apR rfl (apR rfl (apR rfl (WW_o (by omega)))))) hPc hKc hDc) rfl rfl hl.1 rfl (lv_room (Nat.le_of_ble_eq_true rfl)) dX5_takeNumbers_88 (by decide +kernel)) hS (fun q _ h => hFc q h) hFc (fun u t9_ H locs ht hvm hw9 hB9 hz1 hk1 hS => ?_)
            revert u hw9 hB9
            refine fz_p3 ?_
            intro wl_96 wb_96 wG_96 hw9 hB9
            try dsimp only at hw9 hB9
            revert hw9
            refine fz_a2 ?_
            intro b_wl_96 b_wb_96
            have p8 := cj_4_3 (WO hO aO kO hM hQ hw iO_answered iO_searched iO_searchedRelaxed iO_counted fO_countedCase gO_goalNumber gO_goalScale fO_start fO_column fO_chosen) (WM hM aM kM iM_stands iM_variables iM_rows iM_goals iM_differents iM_cases fM_from fM_to fM_whole fM_ways iM_plainRows fM_plainRow fM_kept fM_goalOver fM_goalUnder fM_goalMax fM_different) (WQ hQ aQ kQ hw fQ_inside fQ_outside fQ_shut iQ_rows iQ_allRows iQ_columns) (WW nW hw lw kw wl_96 wb_96 wG_96)
            obtain ⟨hP, hD⟩ := frameG p9 p8 hP hD hk1 hFc (fz_P ht hB9.1) hB9.2
            have hl : lv_has _ _ ([(3, .int r90), (2, .int l2_x2), (0, .ref (hO 0)), (1, .ref (aO 8))]) := lv_sub hl [0, 1, 2, 3] rfl
            exact join12 _ _ _ _ ⟨wl_96, wb_96, wG_96, b_wl_96, b_wb_96, rfl, hP, hD, hS, hl⟩
        · intro H locs ls stk
          refine fz_e3 ?_
          intro wl_j12 wb_j12 wG_j12
          refine fz_a7 ?_
          intro b_wl_j12 b_wb_j12 hst9_2 hP hD hS hl
          subst hst9_2
          refine lv_iinc (v := (iI (l2_x2.toInt + 1))) hx hb dX5_takeNumbers_91 hl (k := 1) rfl (iI_add2 (iI_of _) (by decide : (1 : Int32) = iI 1)) (by decide) rfl (fun ls (hl : lv_has ls _ ([(2, .int (iI (l2_x2.toInt + 1))), (3, .int r90), (0, .ref (hO 0)), (1, .ref (aO 8))])) => ?_)
          refine lv_goto (tgt := 2) hx hb dX5_takeNumbers_94 (by decide) ?_
          have hl : lv_has _ _ ([(2, .int (iI (l2_x2.toInt + 1))), (0, .ref (hO 0)), (1, .ref (aO 8))]) := lv_sub hl [0, 2, 3] rfl
          exact ihx2 wl_j12 wb_j12 wG_j12 (iI (l2_x2.toInt + 1)) _ _ _ b_wl_j12 b_wb_j12 (iI_rng (Int.le_trans (by decide) (Int.add_le_add (b_l2_x2.1) (Int.le_refl _))) (by omega) (by decide) (by decide)) (by have e9 : ((iI (l2_x2.toInt + 1))).toInt = (l2_x2.toInt + 1) := (iI_t (Int.le_trans (by decide) (Int.add_le_add (b_l2_x2.1) (Int.le_refl _))) (Int.le_trans (Int.add_le_add (b_l2_x2.2) (Int.le_refl _)) (by decide))); omega) hP hD hS hl
      · have t_48 : v87.toInt = (-1) := toI_nne c_48 rfl (by decide : ((-1) : Int32).toInt = (-1))
        refine lv_iconst (v := (-1)) hx hb dX5_takeNumbers_51 (by decide) ?_
        refine lv_goto (tgt := 70) hx hb dX5_takeNumbers_52 (by decide) ?_
        refine lv_istore_n hx hb dX5_takeNumbers_70 rfl hl (by decide) rfl (fun ls (hl : lv_has ls _ ([(3, .int (-1)), (2, .int l2_x2), (0, .ref (hO 0)), (1, .ref (aO 8))])) => ?_)
        refine lv_iload_n hx hb dX5_takeNumbers_71 rfl (lv_at hl 0 rfl) ?_
        refine lv_iconst (v := (-1)) hx hb dX5_takeNumbers_72 (by decide) ?_
        refine lv_icmp_eq (tgt := 91) hx hb dX5_takeNumbers_73 (by decide) (fun _ => ?_) (fun c9 => absurd (by decide) c9)
        refine lv_iinc (v := (iI (l2_x2.toInt + 1))) hx hb dX5_takeNumbers_91 hl (k := 1) rfl (iI_add2 (iI_of _) (by decide : (1 : Int32) = iI 1)) (by decide) rfl (fun ls (hl : lv_has ls _ ([(2, .int (iI (l2_x2.toInt + 1))), (3, .int (-1)), (0, .ref (hO 0)), (1, .ref (aO 8))])) => ?_)
        refine lv_goto (tgt := 2) hx hb dX5_takeNumbers_94 (by decide) ?_
        have hl : lv_has _ _ ([(2, .int (iI (l2_x2.toInt + 1))), (0, .ref (hO 0)), (1, .ref (aO 8))]) := lv_sub hl [0, 2, 3] rfl
        exact ihx2 wl_86 wb_86 wG_86 (iI (l2_x2.toInt + 1)) _ _ _ b_wl_86 b_wb_86 (iI_rng (Int.le_trans (by decide) (Int.add_le_add (b_l2_x2.1) (Int.le_refl _))) (by omega) (by decide) (by decide)) (by have e9 : ((iI (l2_x2.toInt + 1))).toInt = (l2_x2.toInt + 1) := (iI_t (Int.le_trans (by decide) (Int.add_le_add (b_l2_x2.1) (Int.le_refl _))) (Int.le_trans (Int.add_le_add (b_l2_x2.2) (Int.le_refl _)) (by decide))); omega) hP hD hS hl
theorem dX5_keepAnswer_0 : decode cX5_keepAnswer 0 = .ok (.aload_n 0, 1) := dk_42 (by decide +kernel)
theorem dX5_keepAnswer_1 : decode cX5_keepAnswer 1 = .ok (.iconst 1, 1) := dk_4 (by decide +kernel)
theorem dX5_keepAnswer_2 : decode cX5_keepAnswer 2 = .ok (.putfield 78, 3) := dk_181 (by decide +kernel)
theorem dX5_keepAnswer_5 : decode cX5_keepAnswer 5 = .ok (.aload_n 0, 1) := dk_42 (by decide +kernel)
theorem dX5_keepAnswer_6 : decode cX5_keepAnswer 6 = .ok (.getfield 58, 3) := dk_180 (by decide +kernel)
theorem dX5_keepAnswer_9 : decode cX5_keepAnswer 9 = .ok (.aload_n 0, 1) := dk_42 (by decide +kernel)
theorem dX5_keepAnswer_10 : decode cX5_keepAnswer 10 = .ok (.getfield 12, 3) := dk_180 (by decide +kernel)
theorem dX5_keepAnswer_13 : decode cX5_keepAnswer 13 = .ok (.getfield 253, 3) := dk_180 (by decide +kernel)
theorem dX5_keepAnswer_16 : decode cX5_keepAnswer 16 = .ok (.invokevirtual 268, 3) := dk_182 (by decide +kernel)
theorem dX5_keepAnswer_19 : decode cX5_keepAnswer 19 = .ok (.iconst 0, 1) := dk_3 (by decide +kernel)
theorem dX5_keepAnswer_20 : decode cX5_keepAnswer 20 = .ok (.istore_n 1, 1) := dk_60 (by decide +kernel)
theorem dX5_keepAnswer_21 : decode cX5_keepAnswer 21 = .ok (.iload_n 1, 1) := dk_27 (by decide +kernel)
theorem dX5_keepAnswer_22 : decode cX5_keepAnswer 22 = .ok (.aload_n 0, 1) := dk_42 (by decide +kernel)
theorem dX5_keepAnswer_23 : decode cX5_keepAnswer 23 = .ok (.getfield 74, 3) := dk_180 (by decide +kernel)
theorem dX5_keepAnswer_26 : decode cX5_keepAnswer 26 = .ok (.getfield 112, 3) := dk_180 (by decide +kernel)
theorem dX5_keepAnswer_29 : decode cX5_keepAnswer 29 = .ok (.if_icmp .ge 24, 3) := dk_162 (by decide +kernel)
theorem dX5_keepAnswer_32 : decode cX5_keepAnswer 32 = .ok (.aload_n 0, 1) := dk_42 (by decide +kernel)
theorem dX5_keepAnswer_33 : decode cX5_keepAnswer 33 = .ok (.getfield 48, 3) := dk_180 (by decide +kernel)
theorem dX5_keepAnswer_36 : decode cX5_keepAnswer 36 = .ok (.iload_n 1, 1) := dk_27 (by decide +kernel)
theorem dX5_keepAnswer_37 : decode cX5_keepAnswer 37 = .ok (.aaload, 1) := dk_50 (by decide +kernel)
theorem dX5_keepAnswer_38 : decode cX5_keepAnswer 38 = .ok (.aload_n 0, 1) := dk_42 (by decide +kernel)
theorem dX5_keepAnswer_39 : decode cX5_keepAnswer 39 = .ok (.getfield 62, 3) := dk_180 (by decide +kernel)
theorem dX5_keepAnswer_42 : decode cX5_keepAnswer 42 = .ok (.iload_n 1, 1) := dk_27 (by decide +kernel)
theorem dX5_keepAnswer_43 : decode cX5_keepAnswer 43 = .ok (.aaload, 1) := dk_50 (by decide +kernel)
theorem dX5_keepAnswer_44 : decode cX5_keepAnswer 44 = .ok (.invokevirtual 268, 3) := dk_182 (by decide +kernel)
theorem dX5_keepAnswer_47 : decode cX5_keepAnswer 47 = .ok (.iinc 1 1, 3) := dk_132 (by decide +kernel)
theorem dX5_keepAnswer_50 : decode cX5_keepAnswer 50 = .ok (.goto (-29), 3) := dk_167 (by decide +kernel)
theorem dX5_keepAnswer_53 : decode cX5_keepAnswer 53 = .ok (.iconst 0, 1) := dk_3 (by decide +kernel)
theorem dX5_keepAnswer_54 : decode cX5_keepAnswer 54 = .ok (.istore_n 1, 1) := dk_60 (by decide +kernel)
theorem dX5_keepAnswer_55 : decode cX5_keepAnswer 55 = .ok (.iload_n 1, 1) := dk_27 (by decide +kernel)
theorem dX5_keepAnswer_56 : decode cX5_keepAnswer 56 = .ok (.aload_n 0, 1) := dk_42 (by decide +kernel)
theorem dX5_keepAnswer_57 : decode cX5_keepAnswer 57 = .ok (.getfield 74, 3) := dk_180 (by decide +kernel)
theorem dX5_keepAnswer_60 : decode cX5_keepAnswer 60 = .ok (.getfield 98, 3) := dk_180 (by decide +kernel)
theorem dX5_keepAnswer_63 : decode cX5_keepAnswer 63 = .ok (.if_icmp .ge 31, 3) := dk_162 (by decide +kernel)
theorem dX5_keepAnswer_66 : decode cX5_keepAnswer 66 = .ok (.aload_n 0, 1) := dk_42 (by decide +kernel)
theorem dX5_keepAnswer_67 : decode cX5_keepAnswer 67 = .ok (.getfield 52, 3) := dk_180 (by decide +kernel)
theorem dX5_keepAnswer_70 : decode cX5_keepAnswer 70 = .ok (.iload_n 1, 1) := dk_27 (by decide +kernel)
theorem dX5_keepAnswer_71 : decode cX5_keepAnswer 71 = .ok (.aaload, 1) := dk_50 (by decide +kernel)
theorem dX5_keepAnswer_72 : decode cX5_keepAnswer 72 = .ok (.aload_n 0, 1) := dk_42 (by decide +kernel)
theorem dX5_keepAnswer_73 : decode cX5_keepAnswer 73 = .ok (.getfield 12, 3) := dk_180 (by decide +kernel)
theorem dX5_keepAnswer_76 : decode cX5_keepAnswer 76 = .ok (.aload_n 0, 1) := dk_42 (by decide +kernel)
theorem dX5_keepAnswer_77 : decode cX5_keepAnswer 77 = .ok (.iload_n 1, 1) := dk_27 (by decide +kernel)
theorem dX5_keepAnswer_78 : decode cX5_keepAnswer 78 = .ok (.invokevirtual 225, 3) := dk_182 (by decide +kernel)
theorem dX5_keepAnswer_81 : decode cX5_keepAnswer 81 = .ok (.iconst 0, 1) := dk_3 (by decide +kernel)
theorem dX5_keepAnswer_82 : decode cX5_keepAnswer 82 = .ok (.invokevirtual 177, 3) := dk_182 (by decide +kernel)
theorem dX5_keepAnswer_85 : decode cX5_keepAnswer 85 = .ok (.invokevirtual 268, 3) := dk_182 (by decide +kernel)
theorem dX5_keepAnswer_88 : decode cX5_keepAnswer 88 = .ok (.iinc 1 1, 3) := dk_132 (by decide +kernel)
theorem dX5_keepAnswer_91 : decode cX5_keepAnswer 91 = .ok (.goto (-36), 3) := dk_167 (by decide +kernel)
theorem dX5_keepAnswer_94 : decode cX5_keepAnswer 94 = .ok (.return_, 1) := dk_177 (by decide +kernel)
def wsMX5_keepAnswer : List Cond := .code yX5_keepAnswer cX5_keepAnswer 2 none :: ([.fieldLink RX5 78 "OptimaWorks$Solver" "answered" "Z", .fieldLink RX5 58 "OptimaWorks$Solver" "answerUnder" "LOptimaWorks$Whole;", .fieldLink RX5 12 "OptimaWorks$Solver" "tableau" "LOptimaWorks$Tableau;", .fieldLink RX5 253 "OptimaWorks$Tableau" "under" "LOptimaWorks$Whole;", .fieldLink RX5 74 "OptimaWorks$Solver" "model" "LOptimaWorks$Model;", .fieldLink RX5 112 "OptimaWorks$Model" "variables" "I", .fieldLink RX5 48 "OptimaWorks$Solver" "answer" "[LOptimaWorks$Whole;", .fieldLink RX5 62 "OptimaWorks$Solver" "trial" "[LOptimaWorks$Whole;", .fieldLink RX5 98 "OptimaWorks$Model" "goals" "I", .fieldLink RX5 52 "OptimaWorks$Solver" "answerGoal" "[LOptimaWorks$Whole;"] ++ wsX10 ++ wsX50 ++ wsX60 ++ (wsV RX5 268 RX8 yX8_copy wsMX8_copy) ++ (wsV RX5 225 RX5 yX5_goalRow wsMX5_goalRow) ++ (wsV RX5 177 RX6 yX6_cellAt wsMX6_cellAt))
theorem iwsMX5_keepAnswer_in1 : ∀ w ∈ wsX10, w ∈ wsMX5_keepAnswer := fun _ h => List.mem_cons_of_mem _ (List.mem_append_left _ (List.mem_append_left _ (List.mem_append_left _ (List.mem_append_left _ (List.mem_append_left _ (List.mem_append_right _ h))))))
theorem iwsMX5_keepAnswer_in5 : ∀ w ∈ wsX50, w ∈ wsMX5_keepAnswer := fun _ h => List.mem_cons_of_mem _ (List.mem_append_left _ (List.mem_append_left _ (List.mem_append_left _ (List.mem_append_left _ (List.mem_append_right _ h)))))
theorem iwsMX5_keepAnswer_in6 : ∀ w ∈ wsX60, w ∈ wsMX5_keepAnswer := fun _ h => List.mem_cons_of_mem _ (List.mem_append_left _ (List.mem_append_left _ (List.mem_append_left _ (List.mem_append_right _ h))))
theorem gwsMX5_keepAnswer_0 : GoodIn wsMX5_keepAnswer (wsV RX5 268 RX8 yX8_copy wsMX8_copy) := goodIn_sub (fun _ h => List.mem_cons_of_mem _ (List.mem_append_left _ (List.mem_append_left _ (List.mem_append_right _ h)))) (gdV (by decide +kernel) gdwsMX8_copy)
theorem gwsMX5_keepAnswer_1 : GoodIn wsMX5_keepAnswer (wsV RX5 225 RX5 yX5_goalRow wsMX5_goalRow) := goodIn_sub (fun _ h => List.mem_cons_of_mem _ (List.mem_append_left _ (List.mem_append_right _ h))) (gdV (by decide +kernel) gdwsMX5_goalRow)
theorem gwsMX5_keepAnswer_2 : GoodIn wsMX5_keepAnswer (wsV RX5 177 RX6 yX6_cellAt wsMX6_cellAt) := goodIn_sub (fun _ h => List.mem_cons_of_mem _ (List.mem_append_right _ h)) (gdV (by decide +kernel) gdwsMX6_cellAt)
theorem gdwsMX5_keepAnswer : wsMX5_keepAnswer.all goodWord = true := gdC rfl (gdA (gdA (gdA (gdA (gdA (gdA (by decide +kernel : ([.fieldLink RX5 78 "OptimaWorks$Solver" "answered" "Z", .fieldLink RX5 58 "OptimaWorks$Solver" "answerUnder" "LOptimaWorks$Whole;", .fieldLink RX5 12 "OptimaWorks$Solver" "tableau" "LOptimaWorks$Tableau;", .fieldLink RX5 253 "OptimaWorks$Tableau" "under" "LOptimaWorks$Whole;", .fieldLink RX5 74 "OptimaWorks$Solver" "model" "LOptimaWorks$Model;", .fieldLink RX5 112 "OptimaWorks$Model" "variables" "I", .fieldLink RX5 48 "OptimaWorks$Solver" "answer" "[LOptimaWorks$Whole;", .fieldLink RX5 62 "OptimaWorks$Solver" "trial" "[LOptimaWorks$Whole;", .fieldLink RX5 98 "OptimaWorks$Model" "goals" "I", .fieldLink RX5 52 "OptimaWorks$Solver" "answerGoal" "[LOptimaWorks$Whole;"] : List Cond).all goodWord = true) gdwsX10) gdwsX50) gdwsX60) (gdV (by decide +kernel) gdwsMX8_copy)) (gdV (by decide +kernel) gdwsMX5_goalRow)) (gdV (by decide +kernel) gdwsMX6_cellAt))
theorem hm_m_X5_keepAnswer_0 : (.fieldLink RX5 12 "OptimaWorks$Solver" "tableau" "LOptimaWorks$Tableau;" : Cond) ∈ wsMX5_keepAnswer := by decide +kernel
theorem hm_m_X5_keepAnswer_1 : (.fieldLink RX5 74 "OptimaWorks$Solver" "model" "LOptimaWorks$Model;" : Cond) ∈ wsMX5_keepAnswer := by decide +kernel
set_option maxHeartbeats 4000000 in
set_option maxRecDepth 100000 in
/-- the answer is kept -/
theorem m_X5_keepAnswer (l : Launch) (dC : Nat → ClassId) (dI : Nat → Nat → Nat) (hO : Nat → Nat) (aO : Nat → Nat) (kO : Nat → ClassId) (hM : Nat → Nat) (hQ : Nat → Nat) (hw : Nat → Nat) (iO_answered : Int32) (iO_searched : Int32) (iO_searchedRelaxed : Int32) (iO_counted : Int32) (fO_countedCase : Nat → Int32) (gO_goalNumber : Nat → Int64) (gO_goalScale : Nat → Int64) (fO_start : Nat → Int32) (fO_column : Nat → Int32) (fO_chosen : Nat → Int32) (aM : Nat → Nat) (kM : Nat → ClassId) (iM_stands : Int32) (iM_variables : Int32) (iM_rows : Int32) (iM_goals : Int32) (iM_differents : Int32) (iM_cases : Int32) (fM_from : Nat → Int32) (fM_to : Nat → Int32) (fM_whole : Nat → Int32) (fM_ways : Nat → Int32) (iM_plainRows : Int32) (fM_plainRow : Nat → Int32) (fM_kept : Nat → Int32) (fM_goalOver : Nat → Int32) (fM_goalUnder : Nat → Int32) (fM_goalMax : Nat → Int32) (fM_different : Nat → Int32) (aQ : Nat → Nat) (kQ : Nat → ClassId) (fQ_inside : Nat → Int32) (fQ_outside : Nat → Int32) (fQ_shut : Nat → Int32) (iQ_rows : Int32) (iQ_allRows : Int32) (iQ_columns : Int32) (nW : Nat) (lw : Nat → Nat) (kw : ClassId) (wl : Nat → Int32) (wb : Nat → Int32) (wG : Nat → Nat → Int64) (b_iO_answered : 0 ≤ iO_answered.toInt ∧ iO_answered.toInt ≤ 1) (b_iO_searched : 0 ≤ iO_searched.toInt ∧ iO_searched.toInt ≤ 1) (b_iO_searchedRelaxed : 0 ≤ iO_searchedRelaxed.toInt ∧ iO_searchedRelaxed.toInt ≤ 1) (b_iO_counted : (-1) ≤ iO_counted.toInt ∧ iO_counted.toInt ≤ 64) (b_fO_countedCase : ∀ q : Nat, 0 ≤ (fO_countedCase q).toInt ∧ (fO_countedCase q).toInt ≤ 200000) (b_fO_column : ∀ q : Nat, (-1) ≤ (fO_column q).toInt ∧ (fO_column q).toInt ≤ 8) (b_fO_chosen : ∀ q : Nat, 0 ≤ (fO_chosen q).toInt ∧ (fO_chosen q).toInt ≤ 2) (b_iM_stands : 0 ≤ iM_stands.toInt ∧ iM_stands.toInt ≤ 1) (b_iM_variables : 0 ≤ iM_variables.toInt ∧ iM_variables.toInt ≤ 8) (b_iM_rows : 0 ≤ iM_rows.toInt ∧ iM_rows.toInt ≤ 12) (b_iM_goals : 0 ≤ iM_goals.toInt ∧ iM_goals.toInt ≤ 3) (b_iM_differents : 0 ≤ iM_differents.toInt ∧ iM_differents.toInt ≤ 8) (b_iM_cases : 0 ≤ iM_cases.toInt ∧ iM_cases.toInt ≤ 200000) (b_fM_ways : ∀ q : Nat, 0 ≤ (fM_ways q).toInt ∧ (fM_ways q).toInt ≤ 3) (b_iM_plainRows : 0 ≤ iM_plainRows.toInt ∧ iM_plainRows.toInt ≤ 12) (b_fM_plainRow : ∀ q : Nat, 0 ≤ (fM_plainRow q).toInt ∧ (fM_plainRow q).toInt ≤ 11) (b_pr : iM_plainRows.toInt ≤ iM_rows.toInt) (b_iQ_rows : 0 ≤ iQ_rows.toInt ∧ iQ_rows.toInt ≤ 40) (b_iQ_allRows : 0 ≤ iQ_allRows.toInt ∧ iQ_allRows.toInt ≤ 40) (b_iQ_columns : 0 ≤ iQ_columns.toInt ∧ iQ_columns.toInt ≤ 40) (b_tb : TbO iQ_rows iQ_allRows iQ_columns) (b_wl : ∀ q : Nat, 0 ≤ (wl q).toInt ∧ (wl q).toInt ≤ 14) (b_wb : ∀ q : Nat, 0 ≤ (wb q).toInt ∧ (wb q).toInt ≤ 1) (hnW : 432 ≤ nW) (hc8 : iQ_columns.toInt ≤ 8) (hr20 : iQ_rows.toInt ≤ 20) (sz : Nat) : Met l yX5_keepAnswer wsMX5_keepAnswer ({ frames := 2, cells := 0, slots := 0, locals := 41 }) (va_Pc [.ref (hO 0)] (fun U => U.heap.size = sz ∧ va_P (dC, dI) vwCl (WO hO aO kO hM hQ hw iO_answered iO_searched iO_searchedRelaxed iO_counted fO_countedCase gO_goalNumber gO_goalScale fO_start fO_column fO_chosen ++ (WM hM aM kM iM_stands iM_variables iM_rows iM_goals iM_differents iM_cases fM_from fM_to fM_whole fM_ways iM_plainRows fM_plainRow fM_kept fM_goalOver fM_goalUnder fM_goalMax fM_different ++ (WQ hQ aQ kQ hw fQ_inside fQ_outside fQ_shut iQ_rows iQ_allRows iQ_columns ++ (WW nW hw lw kw wl wb wG)))) U.heap ∧ va_K (dC, dI) vwCl (tO kO ++ (tM kM ++ (tQ kQ ++ (tW kw)))) U ∧ va_D (fun _ => True) (WO hO aO kO hM hQ hw iO_answered iO_searched iO_searchedRelaxed iO_counted fO_countedCase gO_goalNumber gO_goalScale fO_start fO_column fO_chosen ++ (WM hM aM kM iM_stands iM_variables iM_rows iM_goals iM_differents iM_cases fM_from fM_to fM_whole fM_ways iM_plainRows fM_plainRow fM_kept fM_goalOver fM_goalUnder fM_goalMax fM_different ++ (WQ hQ aQ kQ hw fQ_inside fQ_outside fQ_shut iQ_rows iQ_allRows iQ_columns ++ (WW nW hw lw kw wl wb wG)))))) (va_Qv (fun (u : (Int32) × (Nat → Int32) × (Nat → Int32) × (Nat → Nat → Int64)) => (0 ≤ (u.1).toInt ∧ (u.1).toInt ≤ 1) ∧ (∀ q : Nat, 0 ≤ ((u.2.1) q).toInt ∧ ((u.2.1) q).toInt ≤ 14) ∧ (∀ q : Nat, 0 ≤ ((u.2.2.1) q).toInt ∧ ((u.2.2.1) q).toInt ≤ 1)) (fun (u : (Int32) × (Nat → Int32) × (Nat → Int32) × (Nat → Nat → Int64)) t => va_P (dC, dI) vwCl (WO hO aO kO hM hQ hw (u.1) iO_searched iO_searchedRelaxed iO_counted fO_countedCase gO_goalNumber gO_goalScale fO_start fO_column fO_chosen ++ (WM hM aM kM iM_stands iM_variables iM_rows iM_goals iM_differents iM_cases fM_from fM_to fM_whole fM_ways iM_plainRows fM_plainRow fM_kept fM_goalOver fM_goalUnder fM_goalMax fM_different ++ (WQ hQ aQ kQ hw fQ_inside fQ_outside fQ_shut iQ_rows iQ_allRows iQ_columns ++ (WW nW hw lw kw (u.2.1) (u.2.2.1) (u.2.2.2))))) t.heap ∧ va_D (va_A (WO hO aO kO hM hQ hw iO_answered iO_searched iO_searchedRelaxed iO_counted fO_countedCase gO_goalNumber gO_goalScale fO_start fO_column fO_chosen ++ (WM hM aM kM iM_stands iM_variables iM_rows iM_goals iM_differents iM_cases fM_from fM_to fM_whole fM_ways iM_plainRows fM_plainRow fM_kept fM_goalOver fM_goalUnder fM_goalMax fM_different ++ (WQ hQ aQ kQ hw fQ_inside fQ_outside fQ_shut iQ_rows iQ_allRows iQ_columns ++ (WW nW hw lw kw wl wb wG)))) sz) (WO hO aO kO hM hQ hw (u.1) iO_searched iO_searchedRelaxed iO_counted fO_countedCase gO_goalNumber gO_goalScale fO_start fO_column fO_chosen ++ (WM hM aM kM iM_stands iM_variables iM_rows iM_goals iM_differents iM_cases fM_from fM_to fM_whole fM_ways iM_plainRows fM_plainRow fM_kept fM_goalOver fM_goalUnder fM_goalMax fM_different ++ (WQ hQ aQ kQ hw fQ_inside fQ_outside fQ_shut iQ_rows iQ_allRows iQ_columns ++ (WW nW hw lw kw (u.2.1) (u.2.2.1) (u.2.2.2)))))) (va_A (WO hO aO kO hM hQ hw iO_answered iO_searched iO_searchedRelaxed iO_counted fO_countedCase gO_goalNumber gO_goalScale fO_start fO_column fO_chosen ++ (WM hM aM kM iM_stands iM_variables iM_rows iM_goals iM_differents iM_cases fM_from fM_to fM_whole fM_ways iM_plainRows fM_plainRow fM_kept fM_goalOver fM_goalUnder fM_goalMax fM_different ++ (WQ hQ aQ kQ hw fQ_inside fQ_outside fQ_shut iQ_rows iQ_allRows iQ_columns ++ (WW nW hw lw kw wl wb wG)))) sz)) 0 0 (va_A (WO hO aO kO hM hQ hw iO_answered iO_searched iO_searchedRelaxed iO_counted fO_countedCase gO_goalNumber gO_goalScale fO_start fO_column fO_chosen ++ (WM hM aM kM iM_stands iM_variables iM_rows iM_goals iM_differents iM_cases fM_from fM_to fM_whole fM_ways iM_plainRows fM_plainRow fM_kept fM_goalOver fM_goalUnder fM_goalMax fM_different ++ (WQ hQ aQ kQ hw fQ_inside fQ_outside fQ_shut iQ_rows iQ_allRows iQ_columns ++ (WW nW hw lw kw wl wb wG)))) sz) := by
  refine Met.ofW (cc := cX5_keepAnswer) (maxL := 2) (ret := none) (by decide) rfl ?_
  intro p e s m args below meth c s₁ B hml hv
  obtain ⟨rfl, hsz, hP, hK, hD0⟩ := hv
  have hx := B.exec
  have hb := B.bytes
  have hr := B.returns
  have hts := atoms_spec (ws := wsMX5_keepAnswer) B.pre
  have hown : s.vm.findClass RX5 = some m.cls := findClass_of_methodNamed B.named
  have hlocks := B.notSynchronized
  subst hsz
  have hD := hD0.self (sz := s.heap.size)
  generalize hAe : va_A (WO hO aO kO hM hQ hw iO_answered iO_searched iO_searchedRelaxed iO_counted fO_countedCase gO_goalNumber gO_goalScale fO_start fO_column fO_chosen ++ (WM hM aM kM iM_stands iM_variables iM_rows iM_goals iM_differents iM_cases fM_from fM_to fM_whole fM_ways iM_plainRows fM_plainRow fM_kept fM_goalOver fM_goalUnder fM_goalMax fM_different ++ (WQ hQ aQ kQ hw fQ_inside fQ_outside fQ_shut iQ_rows iQ_allRows iQ_columns ++ (WW nW hw lw kw wl wb wG)))) s.heap.size = A at hD ⊢
  have hA : ∀ q : Nat, s.heap.size ≤ q → A q := fun q h => by rw [← hAe]; exact Or.inr h
  have hS : va_S A s.heap s.heap [] := va_S.rf
  have hl := lv_entry ([.ref (hO 0)]) (n := 2) (Nat.le_of_ble_eq_true rfl)
  rw [lg_entry_eq]
  generalize (lg_sl ([.ref (hO 0)]) ++ List.replicate (2 - (lg_sl ([.ref (hO 0)])).length) Slot.unset).toArray = ls at hl ⊢
  have hl : lv_has ls 2 [(0, .ref (hO 0))] := hl
  refine lv_aload_n hx hb dX5_keepAnswer_0 rfl (lv_at hl 0 rfl) ?_
  refine lv_iconst (v := 1) hx hb dX5_keepAnswer_1 (by decide) ?_
  refine va_put (D := (dC, dI)) (ci := 5) (v := .int 1) (ty := .boolean) (C := RX5) (T := TX5) (N := 19) hx hb hts iwsMX5_keepAnswer_in5 tyX5 tyX5_ok nmX5 hown hK hP hD hS 0 rfl rfl 2 (by decide) (hts (.fieldLink RX5 78 "OptimaWorks$Solver" "answered" "Z") (by decide +kernel)) (fun _ h9 => h9) rfl (by decide +kernel) rfl rfl (Nat.le_of_ble_eq_true rfl) dX5_keepAnswer_2 (fun H locs hP hD hS => ?_)
  have hP : va_P (dC, dI) vwCl (WO hO aO kO hM hQ hw 1 iO_searched iO_searchedRelaxed iO_counted fO_countedCase gO_goalNumber gO_goalScale fO_start fO_column fO_chosen ++ (WM hM aM kM iM_stands iM_variables iM_rows iM_goals iM_differents iM_cases fM_from fM_to fM_whole fM_ways iM_plainRows fM_plainRow fM_kept fM_goalOver fM_goalUnder fM_goalMax fM_different ++ (WQ hQ aQ kQ hw fQ_inside fQ_outside fQ_shut iQ_rows iQ_allRows iQ_columns ++ (WW nW hw lw kw wl wb wG)))) H := hP
  have hD := fz_sd hP (hD) rfl
  refine lv_aload_n hx hb dX5_keepAnswer_5 rfl (lv_at hl 0 rfl) ?_
  refine va_get (D := (dC, dI)) (ci := 5) (v := .ref (hw 417)) (C := RX5) (T := TX5) (N := 19) hx hb hts iwsMX5_keepAnswer_in5 hown hK hP 0 rfl rfl 14 (by decide) (hts (.fieldLink RX5 58 "OptimaWorks$Solver" "answerUnder" "LOptimaWorks$Whole;") (by decide +kernel)) (fun _ h9 => h9) rfl dX5_keepAnswer_6 ?_
  refine lv_aload_n hx hb dX5_keepAnswer_9 rfl (lv_at hl 0 rfl) ?_
  refine va_get (D := (dC, dI)) (ci := 5) (v := .ref (hQ 0)) (C := RX5) (T := TX5) (N := 19) hx hb hts iwsMX5_keepAnswer_in5 hown hK hP 0 rfl rfl 1 (by decide) (hts _ hm_m_X5_keepAnswer_0) (fun _ h9 => h9) rfl dX5_keepAnswer_10 ?_
  refine va_get (D := (dC, dI)) (ci := 6) (v := .ref (hw 400)) (C := RX6) (T := TX6) (N := 13) hx hb hts iwsMX5_keepAnswer_in6 hown hK hP 22 rfl rfl 4 (by decide) (hts (.fieldLink RX5 253 "OptimaWorks$Tableau" "under" "LOptimaWorks$Whole;") (by decide +kernel)) (fun _ h9 => h9) rfl dX5_keepAnswer_13 ?_
  have p9 := cj_4_3 (WO hO aO kO hM hQ hw 1 iO_searched iO_searchedRelaxed iO_counted fO_countedCase gO_goalNumber gO_goalScale fO_start fO_column fO_chosen) (WM hM aM kM iM_stands iM_variables iM_rows iM_goals iM_differents iM_cases fM_from fM_to fM_whole fM_ways iM_plainRows fM_plainRow fM_kept fM_goalOver fM_goalUnder fM_goalMax fM_different) (WQ hQ aQ kQ hw fQ_inside fQ_outside fQ_shut iQ_rows iQ_allRows iQ_columns) (WW nW hw lw kw wl wb wG)
  have hPc := hP.mem (fun q h => p9.mem_iff.mpr (List.mem_append_left _ h))
  have hDc := (hD.perm p9).left
  have hKc : va_K (dC, dI) vwCl (tW kw) _ := hK.sub [24] rfl
  have hFc := freeG p9 hD hS hA
  refine va_callv (va_runV (As := [.ref (hw 400)]) (rest := []) ⟨hx, hb, hml, hown, hts⟩ (m_X8_copy l dC dI nW hw lw kw wl wb wG 417 400 b_wl b_wb (by first | with_reducible assumption | omega | (rw [iI_t (by omega) (by omega)]; omega) | decide | assumption) (by first | with_reducible assumption | omega | (rw [iI_t (by omega) (by omega)]; omega) | decide | assumption) H.size) (cwV 1 hts gwsMX5_keepAnswer_0 rfl rfl rfl hd_yX8_copy_RX8 (by decide +kernel)) (fz_pre (va_recv hK hP (ci := 8) (q0 := 11 + (11 + (5 + (417)))) rfl (apR rfl (apR rfl (apR rfl (WW_o (by omega)))))) hPc hKc hDc) rfl rfl hl.1 rfl (lv_room (Nat.le_of_ble_eq_true rfl)) dX5_keepAnswer_16 (by decide +kernel)) hS (fun q _ h => hFc q h) hFc (fun u t9_ H locs ht hvm hw9 hB9 hz1 hk1 hS => ?_)
  revert u hw9 hB9
  refine fz_p3 ?_
  intro wl_1 wb_1 wG_1 hw9 hB9
  try dsimp only at hw9 hB9
  revert hw9
  refine fz_a2 ?_
  intro b_wl_1 b_wb_1
  have p8 := cj_4_3 (WO hO aO kO hM hQ hw 1 iO_searched iO_searchedRelaxed iO_counted fO_countedCase gO_goalNumber gO_goalScale fO_start fO_column fO_chosen) (WM hM aM kM iM_stands iM_variables iM_rows iM_goals iM_differents iM_cases fM_from fM_to fM_whole fM_ways iM_plainRows fM_plainRow fM_kept fM_goalOver fM_goalUnder fM_goalMax fM_different) (WQ hQ aQ kQ hw fQ_inside fQ_outside fQ_shut iQ_rows iQ_allRows iQ_columns) (WW nW hw lw kw wl_1 wb_1 wG_1)
  obtain ⟨hP, hD⟩ := frameG p9 p8 hP hD hk1 hFc (fz_P ht hB9.1) hB9.2
  refine lv_iconst (v := 0) hx hb dX5_keepAnswer_19 (by decide) ?_
  refine lv_istore_n hx hb dX5_keepAnswer_20 rfl hl (by decide) rfl (fun ls (hl : lv_has ls _ ([(1, .int 0), (0, .ref (hO 0))])) => ?_)
  have hl : lv_has _ _ ([(1, .int 0), (0, .ref (hO 0))]) := lv_sub hl [0, 1] rfl
  refine (fun (loop : ∀ (n9 : Nat) (wl_x21 : Nat → Int32) (wb_x21 : Nat → Int32) (wG_x21 : Nat → Nat → Int64) (l1_x21 : Int32) (H : Heap) (locs : List Loc) (ls : Array Slot), (∀ q : Nat, 0 ≤ (wl_x21 q).toInt ∧ (wl_x21 q).toInt ≤ 14) → (∀ q : Nat, 0 ≤ (wb_x21 q).toInt ∧ (wb_x21 q).toInt ≤ 1) → (0 ≤ l1_x21.toInt ∧ l1_x21.toInt ≤ 8) → (8 - l1_x21.toInt < ((n9 : Nat) : Int)) → va_P (dC, dI) vwCl (WO hO aO kO hM hQ hw 1 iO_searched iO_searchedRelaxed iO_counted fO_countedCase gO_goalNumber gO_goalScale fO_start fO_column fO_chosen ++ (WM hM aM kM iM_stands iM_variables iM_rows iM_goals iM_differents iM_cases fM_from fM_to fM_whole fM_ways iM_plainRows fM_plainRow fM_kept fM_goalOver fM_goalUnder fM_goalMax fM_different ++ (WQ hQ aQ kQ hw fQ_inside fQ_outside fQ_shut iQ_rows iQ_allRows iQ_columns ++ (WW nW hw lw kw wl_x21 wb_x21 wG_x21)))) H → va_D A (WO hO aO kO hM hQ hw 1 iO_searched iO_searchedRelaxed iO_counted fO_countedCase gO_goalNumber gO_goalScale fO_start fO_column fO_chosen ++ (WM hM aM kM iM_stands iM_variables iM_rows iM_goals iM_differents iM_cases fM_from fM_to fM_whole fM_ways iM_plainRows fM_plainRow fM_kept fM_goalOver fM_goalUnder fM_goalMax fM_different ++ (WQ hQ aQ kQ hw fQ_inside fQ_outside fQ_shut iQ_rows iQ_allRows iQ_columns ++ (WW nW hw lw kw wl_x21 wb_x21 wG_x21)))) → va_S A s.heap H locs → lv_has ls 2 [(1, .int l1_x21), (0, .ref (hO 0))] → W p l e _ s m _ below meth c H locs 0 0 _ (F0 m 21 ls [])) => loop (9) wl_1 wb_1 wG_1 0 _ _ _ b_wl_1 b_wb_1 (show 0 ≤ (0 : Int32).toInt ∧ (0 : Int32).toInt ≤ 8 from by decide) ((by have e9 : (0 : Int32).toInt = 0 := (by decide : (0 : Int32).toInt = 0); omega)) hP hD hS hl) ?_
  intro n9
  induction n9 with
  | zero => intro wl_x21 wb_x21 wG_x21 l1_x21 H locs ls b_wl_x21 b_wb_x21 b_l1_x21 hf9; exact False.elim (by omega)
  | succ n9 ihx21 =>
    intro wl_x21 wb_x21 wG_x21 l1_x21 H locs ls b_wl_x21 b_wb_x21 b_l1_x21 hfx21 hP hD hS hl
    refine lv_iload_n hx hb dX5_keepAnswer_21 rfl (lv_at hl 0 rfl) ?_
    refine lv_aload_n hx hb dX5_keepAnswer_22 rfl (lv_at hl 1 rfl) ?_
    refine va_get (D := (dC, dI)) (ci := 5) (v := .ref (hM 0)) (C := RX5) (T := TX5) (N := 19) hx hb hts iwsMX5_keepAnswer_in5 hown hK hP 0 rfl rfl 0 (by decide) (hts _ hm_m_X5_keepAnswer_1) (fun _ h9 => h9) rfl dX5_keepAnswer_23 ?_
    refine va_get (D := (dC, dI)) (ci := 1) (v := .int iM_variables) (C := RX1) (T := TX1) (N := 17) hx hb hts iwsMX5_keepAnswer_in1 hown hK hP 11 rfl rfl 1 (by decide) (hts (.fieldLink RX5 112 "OptimaWorks$Model" "variables" "I") (by decide +kernel)) (fun _ h9 => h9) rfl dX5_keepAnswer_26 ?_
    refine lv_icmp_ge (tgt := 53) hx hb dX5_keepAnswer_29 (by decide) (fun c_29 => ?_) (fun c_29 => ?_)
    · have t_29 : l1_x21.toInt ≥ iM_variables.toInt := toI_ge c_29 rfl rfl
      refine lv_iconst (v := 0) hx hb dX5_keepAnswer_53 (by decide) ?_
      refine lv_istore_n hx hb dX5_keepAnswer_54 rfl hl (by decide) rfl (fun ls (hl : lv_has ls _ ([(1, .int 0), (0, .ref (hO 0))])) => ?_)
      have hl : lv_has _ _ ([(1, .int 0), (0, .ref (hO 0))]) := lv_sub hl [0, 1] rfl
      refine (fun (loop : ∀ (n9 : Nat) (wl_x55 : Nat → Int32) (wb_x55 : Nat → Int32) (wG_x55 : Nat → Nat → Int64) (l1_x55 : Int32) (H : Heap) (locs : List Loc) (ls : Array Slot), (∀ q : Nat, 0 ≤ (wl_x55 q).toInt ∧ (wl_x55 q).toInt ≤ 14) → (∀ q : Nat, 0 ≤ (wb_x55 q).toInt ∧ (wb_x55 q).toInt ≤ 1) → (0 ≤ l1_x55.toInt ∧ l1_x55.toInt ≤ 3) → (3 - l1_x55.toInt < ((n9 : Nat) : Int)) → va_P (dC, dI) vwCl (WO hO aO kO hM hQ hw 1 iO_searched iO_searchedRelaxed iO_counted fO_countedCase gO_goalNumber gO_goalScale fO_start fO_column fO_chosen ++ (WM hM aM kM iM_stands iM_variables iM_rows iM_goals iM_differents iM_cases fM_from fM_to fM_whole fM_ways iM_plainRows fM_plainRow fM_kept fM_goalOver fM_goalUnder fM_goalMax fM_different ++ (WQ hQ aQ kQ hw fQ_inside fQ_outside fQ_shut iQ_rows iQ_allRows iQ_columns ++ (WW nW hw lw kw wl_x55 wb_x55 wG_x55)))) H → va_D A (WO hO aO kO hM hQ hw 1 iO_searched iO_searchedRelaxed iO_counted fO_countedCase gO_goalNumber gO_goalScale fO_start fO_column fO_chosen ++ (WM hM aM kM iM_stands iM_variables iM_rows iM_goals iM_differents iM_cases fM_from fM_to fM_whole fM_ways iM_plainRows fM_plainRow fM_kept fM_goalOver fM_goalUnder fM_goalMax fM_different ++ (WQ hQ aQ kQ hw fQ_inside fQ_outside fQ_shut iQ_rows iQ_allRows iQ_columns ++ (WW nW hw lw kw wl_x55 wb_x55 wG_x55)))) → va_S A s.heap H locs → lv_has ls 2 [(1, .int l1_x55), (0, .ref (hO 0))] → W p l e _ s m _ below meth c H locs 0 0 _ (F0 m 55 ls [])) => loop (4) wl_x21 wb_x21 wG_x21 0 _ _ _ b_wl_x21 b_wb_x21 (show 0 ≤ (0 : Int32).toInt ∧ (0 : Int32).toInt ≤ 3 from by decide) ((by have e9 : (0 : Int32).toInt = 0 := (by decide : (0 : Int32).toInt = 0); omega)) hP hD hS hl) ?_
      intro n9
      induction n9 with
      | zero => intro wl_x55 wb_x55 wG_x55 l1_x55 H locs ls b_wl_x55 b_wb_x55 b_l1_x55 hf9; exact False.elim (by omega)
      | succ n9 ihx55 =>
        intro wl_x55 wb_x55 wG_x55 l1_x55 H locs ls b_wl_x55 b_wb_x55 b_l1_x55 hfx55 hP hD hS hl
        refine lv_iload_n hx hb dX5_keepAnswer_55 rfl (lv_at hl 0 rfl) ?_
        refine lv_aload_n hx hb dX5_keepAnswer_56 rfl (lv_at hl 1 rfl) ?_
        refine va_get (D := (dC, dI)) (ci := 5) (v := .ref (hM 0)) (C := RX5) (T := TX5) (N := 19) hx hb hts iwsMX5_keepAnswer_in5 hown hK hP 0 rfl rfl 0 (by decide) (hts _ hm_m_X5_keepAnswer_1) (fun _ h9 => h9) rfl dX5_keepAnswer_57 ?_
        refine va_get (D := (dC, dI)) (ci := 1) (v := .int iM_goals) (C := RX1) (T := TX1) (N := 17) hx hb hts iwsMX5_keepAnswer_in1 hown hK hP 11 rfl rfl 3 (by decide) (hts (.fieldLink RX5 98 "OptimaWorks$Model" "goals" "I") (by decide +kernel)) (fun _ h9 => h9) rfl dX5_keepAnswer_60 ?_
        refine lv_icmp_ge (tgt := 94) hx hb dX5_keepAnswer_63 (by decide) (fun c_63 => ?_) (fun c_63 => ?_)
        · have t_63 : l1_x55.toInt ≥ iM_goals.toInt := toI_ge c_63 rfl rfl
          refine W.widen (k := 0) (n := 0) (by decide +kernel) (by decide +kernel) ?_
          exact W.vret hx hb hr (fun t9_ ht hW => ⟨⟨(1, wl_x55, wb_x55, wG_x55), rfl, ⟨(by (try dsimp only); exact (show 0 ≤ (1 : Int32).toInt ∧ (1 : Int32).toInt ≤ 1 from by decide)), b_wl_x55, b_wb_x55⟩, by rw [ht]; exact hP, hD⟩, hS.F ht⟩) hS.2.2 dX5_keepAnswer_94
        · have t_63 : ¬ l1_x55.toInt ≥ iM_goals.toInt := toI_nge c_63 rfl rfl
          refine lv_aload_n hx hb dX5_keepAnswer_66 rfl (lv_at hl 1 rfl) ?_
          refine va_get (D := (dC, dI)) (ci := 5) (v := .ref (aO 7)) (C := RX5) (T := TX5) (N := 19) hx hb hts iwsMX5_keepAnswer_in5 hown hK hP 0 rfl rfl 13 (by decide) (hts (.fieldLink RX5 52 "OptimaWorks$Solver" "answerGoal" "[LOptimaWorks$Whole;") (by decide +kernel)) (fun _ h9 => h9) rfl dX5_keepAnswer_67 ?_
          refine lv_iload_n hx hb dX5_keepAnswer_70 rfl (lv_at hl 0 rfl) ?_
          refine va_aldq (cA := kO 7) (n := 3) (f := fun q => some (hw (414 + q))) hx hb hK hP 8 7 rfl rfl (vp_in_iff.mpr ⟨b_l1_x55.1, (Int.lt_of_lt_of_le (Int.not_le.mp t_63) (Int.le_trans b_iM_goals.2 (by decide)))⟩) dX5_keepAnswer_71 ?_
          obtain ⟨k85, hk85, b_k85⟩ : ∃ k9 : Nat, k9 = 414 + (l1_x55).toNatClampNeg ∧ (414 ≤ k9 ∧ k9 < 417 ∧ (k9 : Int) = 414 + l1_x55.toInt) := ⟨_, rfl, ald_k (x := (l1_x55)) (o := 414) (n := 3) rfl (by omega) (by omega)⟩
          refine W.eq (g2 := F0 m 72 ls [.ref (hw k85)]) (by rw [hk85]; rfl) ?_
          clear hk85
          refine lv_aload_n hx hb dX5_keepAnswer_72 rfl (lv_at hl 1 rfl) ?_
          refine va_get (D := (dC, dI)) (ci := 5) (v := .ref (hQ 0)) (C := RX5) (T := TX5) (N := 19) hx hb hts iwsMX5_keepAnswer_in5 hown hK hP 0 rfl rfl 1 (by decide) (hts _ hm_m_X5_keepAnswer_0) (fun _ h9 => h9) rfl dX5_keepAnswer_73 ?_
          refine lv_aload_n hx hb dX5_keepAnswer_76 rfl (lv_at hl 1 rfl) ?_
          refine lv_iload_n hx hb dX5_keepAnswer_77 rfl (lv_at hl 0 rfl) ?_
          have hFc := allFree hD hS hA
          refine va_calli (va_runV (As := [.int l1_x55]) (rest := [.ref (hQ 0), .ref (hw k85)]) ⟨hx, hb, hml, hown, hts⟩ (m_X5_goalRow l dC dI hO aO kO hM hQ hw 1 iO_searched iO_searchedRelaxed iO_counted fO_countedCase gO_goalNumber gO_goalScale fO_start fO_column fO_chosen aM kM iM_stands iM_variables iM_rows iM_goals iM_differents iM_cases fM_from fM_to fM_whole fM_ways iM_plainRows fM_plainRow fM_kept fM_goalOver fM_goalUnder fM_goalMax fM_different aQ kQ fQ_inside fQ_outside fQ_shut iQ_rows iQ_allRows iQ_columns nW lw kw wl_x55 wb_x55 wG_x55 l1_x55 (show 0 ≤ (1 : Int32).toInt ∧ (1 : Int32).toInt ≤ 1 from by decide) (b_iO_searched) (b_iO_searchedRelaxed) (b_iO_counted) b_fO_countedCase b_fO_column b_fO_chosen (b_iM_stands) (b_iM_variables) (b_iM_rows) (b_iM_goals) (b_iM_differents) (b_iM_cases) b_fM_ways (b_iM_plainRows) b_fM_plainRow (by first | with_reducible assumption | omega | assumption) (b_iQ_rows) (b_iQ_allRows) (b_iQ_columns) (by first | with_reducible assumption | omega | assumption) b_wl_x55 b_wb_x55 (by first | exact b_l1_x55 | with_reducible assumption | exact ⟨by omega, by omega⟩ | assumption) (by omega) (by first | with_reducible assumption | omega | (rw [iI_t (by omega) (by omega)]; omega) | decide | assumption) H.size) (cwV 1 hts gwsMX5_keepAnswer_1 rfl rfl rfl hd_yX5_goalRow_RX5 (by decide +kernel)) (fz_pre (va_recv hK hP (ci := 5) (q0 := 0) rfl rfl) hP hK hD) rfl rfl hl.1 rfl (lv_room (Nat.le_of_ble_eq_true rfl)) dX5_keepAnswer_78 (by decide +kernel)) hS (fun q _ h => hFc q h) hFc (fun r86 u t9_ H locs ht hvm hw9 hB9 hz1 hk1 hS => ?_)
          have b_r86 := hw9
          try dsimp only at b_r86
          have hP : va_P (dC, dI) vwCl (WO hO aO kO hM hQ hw 1 iO_searched iO_searchedRelaxed iO_counted fO_countedCase gO_goalNumber gO_goalScale fO_start fO_column fO_chosen ++ (WM hM aM kM iM_stands iM_variables iM_rows iM_goals iM_differents iM_cases fM_from fM_to fM_whole fM_ways iM_plainRows fM_plainRow fM_kept fM_goalOver fM_goalUnder fM_goalMax fM_different ++ (WQ hQ aQ kQ hw fQ_inside fQ_outside fQ_shut iQ_rows iQ_allRows iQ_columns ++ (WW nW hw lw kw wl_x55 wb_x55 wG_x55)))) H := fz_P ht hB9.1
          have hD := fz_sd hP (hB9.2.weaken (fun _ q _ h => hFc q.1 h)) rfl
          refine lv_iconst (v := 0) hx hb dX5_keepAnswer_81 (by decide) ?_
          have p9 := cj_4_2_3 (WO hO aO kO hM hQ hw 1 iO_searched iO_searchedRelaxed iO_counted fO_countedCase gO_goalNumber gO_goalScale fO_start fO_column fO_chosen) (WM hM aM kM iM_stands iM_variables iM_rows iM_goals iM_differents iM_cases fM_from fM_to fM_whole fM_ways iM_plainRows fM_plainRow fM_kept fM_goalOver fM_goalUnder fM_goalMax fM_different) (WQ hQ aQ kQ hw fQ_inside fQ_outside fQ_shut iQ_rows iQ_allRows iQ_columns) (WW nW hw lw kw wl_x55 wb_x55 wG_x55)
          have hPc := hP.mem (fun q h => p9.mem_iff.mpr (List.mem_append_left _ h))
          have hDc := (hD.perm p9).left
          have hKc : va_K (dC, dI) vwCl (tQ kQ ++ (tW kw)) _ := hK.sub [20, 21, 22, 23, 24] rfl
          have hFc := freeG p9 hD hS hA
          refine va_callr (va_runV (As := [.int r86, .int 0]) (rest := [.ref (hw k85)]) ⟨hx, hb, hml, hown, hts⟩ (m_X6_cellAt l dC dI hQ aQ kQ hw fQ_inside fQ_outside fQ_shut iQ_rows iQ_allRows iQ_columns nW lw kw wl_x55 wb_x55 wG_x55 r86 0 (b_iQ_rows) (b_iQ_allRows) (b_iQ_columns) (by first | with_reducible assumption | omega | assumption) b_wl_x55 b_wb_x55 (by first | exact b_r86 | with_reducible assumption | exact ⟨by omega, by omega⟩ | assumption) (show 0 ≤ (0 : Int32).toInt ∧ (0 : Int32).toInt ≤ 40 from by decide) (by omega) ((by have h9 := ix_small (i := r86.toInt) (j := 0) (c := iQ_columns.toInt) (by omega) (by omega) (by omega) (by omega) (by omega) (by omega); have h8 : (0 : Int32).toInt = 0 := (by decide); rw [h8]; exact h9)) H.size) (cwV 2 hts gwsMX5_keepAnswer_2 rfl rfl rfl hd_yX6_cellAt_RX6 (by decide +kernel)) (fz_pre (va_recv hK hP (ci := 6) (q0 := 22) rfl rfl) hPc hKc hDc) rfl rfl hl.1 rfl (lv_room (Nat.le_of_ble_eq_true rfl)) dX5_keepAnswer_82 (by decide +kernel)) hS (fun q _ h => hFc q h) hFc (fun kR_87 ra87 t9_ H locs ht hvm hw9 hB9 hz1 hk1 hS => ?_)
          revert hB9
          refine fz_a2 ?_
          intro hra hB9
          subst hra
          have f87_0 := hw9
          try dsimp only at f87_0
          have p8 := p9
          obtain ⟨hP, hD⟩ := frameG p9 p8 hP hD hk1 hFc (fz_P ht hB9.1) hB9.2
          have p9 := cj_4_3 (WO hO aO kO hM hQ hw 1 iO_searched iO_searchedRelaxed iO_counted fO_countedCase gO_goalNumber gO_goalScale fO_start fO_column fO_chosen) (WM hM aM kM iM_stands iM_variables iM_rows iM_goals iM_differents iM_cases fM_from fM_to fM_whole fM_ways iM_plainRows fM_plainRow fM_kept fM_goalOver fM_goalUnder fM_goalMax fM_different) (WQ hQ aQ kQ hw fQ_inside fQ_outside fQ_shut iQ_rows iQ_allRows iQ_columns) (WW nW hw lw kw wl_x55 wb_x55 wG_x55)
          have hPc := hP.mem (fun q h => p9.mem_iff.mpr (List.mem_append_left _ h))
          have hDc := (hD.perm p9).left
          have hKc : va_K (dC, dI) vwCl (tW kw) _ := hK.sub [24] rfl
          have hFc := freeG p9 hD hS hA
          refine va_callv (va_runV (As := [.ref (hw kR_87)]) (rest := []) ⟨hx, hb, hml, hown, hts⟩ (m_X8_copy l dC dI nW hw lw kw wl_x55 wb_x55 wG_x55 k85 kR_87 b_wl_x55 b_wb_x55 (by first | with_reducible assumption | omega | (rw [iI_t (by omega) (by omega)]; omega) | decide | assumption) (by first | with_reducible assumption | omega | (rw [iI_t (by omega) (by omega)]; omega) | decide | assumption) H.size) (cwV 1 hts gwsMX5_keepAnswer_0 rfl rfl rfl hd_yX8_copy_RX8 (by decide +kernel)) (fz_pre (va_recv hK hP (ci := 8) (q0 := 11 + (11 + (5 + (k85)))) rfl (apR rfl (apR rfl (apR rfl (WW_o (by omega)))))) hPc hKc hDc) rfl rfl hl.1 rfl (lv_room (Nat.le_of_ble_eq_true rfl)) dX5_keepAnswer_85 (by decide +kernel)) hS (fun q _ h => hFc q h) hFc (fun u t9_ H locs ht hvm hw9 hB9 hz1 hk1 hS => ?_)
          revert u hw9 hB9
          refine fz_p3 ?_
          intro wl_88 wb_88 wG_88 hw9 hB9
          try dsimp only at hw9 hB9
          revert hw9
          refine fz_a2 ?_
          intro b_wl_88 b_wb_88
          have p8 := cj_4_3 (WO hO aO kO hM hQ hw 1 iO_searched iO_searchedRelaxed iO_counted fO_countedCase gO_goalNumber gO_goalScale fO_start fO_column fO_chosen) (WM hM aM kM iM_stands iM_variables iM_rows iM_goals iM_differents iM_cases fM_from fM_to fM_whole fM_ways iM_plainRows fM_plainRow fM_kept fM_goalOver fM_goalUnder fM_goalMax fM_different) (WQ hQ aQ kQ hw fQ_inside fQ_outside fQ_shut iQ_rows iQ_allRows iQ_columns) (WW nW hw lw kw wl_88 wb_88 wG_88)
          obtain ⟨hP, hD⟩ := frameG p9 p8 hP hD hk1 hFc (fz_P ht hB9.1) hB9.2
          refine lv_iinc (v := (iI (l1_x55.toInt + 1))) hx hb dX5_keepAnswer_88 hl (k := 0) rfl (iI_add2 (iI_of _) (by decide : (1 : Int32) = iI 1)) (by decide) rfl (fun ls (hl : lv_has ls _ ([(1, .int (iI (l1_x55.toInt + 1))), (0, .ref (hO 0))])) => ?_)
          refine lv_goto (tgt := 55) hx hb dX5_keepAnswer_91 (by decide) ?_
          have hl : lv_has _ _ ([(1, .int (iI (l1_x55.toInt + 1))), (0, .ref (hO 0))]) := lv_sub hl [0, 1] rfl
          exact ihx55 wl_88 wb_88 wG_88 (iI (l1_x55.toInt + 1)) _ _ _ b_wl_88 b_wb_88 (iI_rng (Int.le_trans (by decide) (Int.add_le_add (b_l1_x55.1) (Int.le_refl _))) (by omega) (by decide) (by decide)) (by have e9 : ((iI (l1_x55.toInt + 1))).toInt = (l1_x55.toInt + 1) := (iI_t (Int.le_trans (by decide) (Int.add_le_add (b_l1_x55.1) (Int.le_refl _))) (Int.le_trans (Int.add_le_add (b_l1_x55.2) (Int.le_refl _)) (by decide))); omega) hP hD hS hl
    · have t_29 : ¬ l1_x21.toInt ≥ iM_variables.toInt := toI_nge c_29 rfl rfl
      refine lv_aload_n hx hb dX5_keepAnswer_32 rfl (lv_at hl 1 rfl) ?_
      refine va_get (D := (dC, dI)) (ci := 5) (v := .ref (aO 6)) (C := RX5) (T := TX5) (N := 19) hx hb hts iwsMX5_keepAnswer_in5 hown hK hP 0 rfl rfl 12 (by decide) (hts (.fieldLink RX5 48 "OptimaWorks$Solver" "answer" "[LOptimaWorks$Whole;") (by decide +kernel)) (fun _ h9 => h9) rfl dX5_keepAnswer_33 ?_
      refine lv_iload_n hx hb dX5_keepAnswer_36 rfl (lv_at hl 0 rfl) ?_
      refine va_aldq (cA := kO 6) (n := 8) (f := fun q => some (hw (406 + q))) hx hb hK hP 7 6 rfl rfl (vp_in_iff.mpr ⟨b_l1_x21.1, (Int.lt_of_lt_of_le (Int.not_le.mp t_29) (Int.le_trans b_iM_variables.2 (by decide)))⟩) dX5_keepAnswer_37 ?_
      obtain ⟨k89, hk89, b_k89⟩ : ∃ k9 : Nat, k9 = 406 + (l1_x21).toNatClampNeg ∧ (406 ≤ k9 ∧ k9 < 414 ∧ (k9 : Int) = 406 + l1_x21.toInt) := ⟨_, rfl, ald_k (x := (l1_x21)) (o := 406) (n := 8) rfl (by omega) (by omega)⟩
      refine W.eq (g2 := F0 m 38 ls [.ref (hw k89)]) (by rw [hk89]; rfl) ?_
      clear hk89
      refine lv_aload_n hx hb dX5_keepAnswer_38 rfl (lv_at hl 1 rfl) ?_
      refine va_get (D := (dC, dI)) (ci := 5) (v := .ref (aO 8)) (C := RX5) (T := TX5) (N := 19) hx hb hts iwsMX5_keepAnswer_in5 hown hK hP 0 rfl rfl 15 (by decide) (hts (.fieldLink RX5 62 "OptimaWorks$Solver" "trial" "[LOptimaWorks$Whole;") (by decide +kernel)) (fun _ h9 => h9) rfl dX5_keepAnswer_39 ?_
      refine lv_iload_n hx hb dX5_keepAnswer_42 rfl (lv_at hl 0 rfl) ?_
      refine va_aldq (cA := kO 8) (n := 8) (f := fun q => some (hw (418 + q))) hx hb hK hP 9 8 rfl rfl (vp_in_iff.mpr ⟨b_l1_x21.1, (Int.lt_of_lt_of_le (Int.not_le.mp t_29) (Int.le_trans b_iM_variables.2 (by decide)))⟩) dX5_keepAnswer_43 ?_
      obtain ⟨k90, hk90, b_k90⟩ : ∃ k9 : Nat, k9 = 418 + (l1_x21).toNatClampNeg ∧ (418 ≤ k9 ∧ k9 < 426 ∧ (k9 : Int) = 418 + l1_x21.toInt) := ⟨_, rfl, ald_k (x := (l1_x21)) (o := 418) (n := 8) rfl (by omega) (by omega)⟩
      refine W.eq (g2 := F0 m 44 ls [.ref (hw k90), .ref (hw k89)]) (by rw [hk90]; rfl) ?_
      clear hk90
      have p9 := cj_4_3 (WO hO aO kO hM hQ hw 1 iO_searched iO_searchedRelaxed iO_counted fO_countedCase gO_goalNumber gO_goalScale fO_start fO_column fO_chosen) (WM hM aM kM iM_stands iM_variables iM_rows iM_goals iM_differents iM_cases fM_from fM_to fM_whole fM_ways iM_plainRows fM_plainRow fM_kept fM_goalOver fM_goalUnder fM_goalMax fM_different) (WQ hQ aQ kQ hw fQ_inside fQ_outside fQ_shut iQ_rows iQ_allRows iQ_columns) (WW nW hw lw kw wl_x21 wb_x21 wG_x21)
      have hPc := hP.mem (fun q h => p9.mem_iff.mpr (List.mem_append_left _ h))
      have hDc := (hD.perm p9).left
      have hKc : va_K (dC, dI) vwCl (tW kw) _ := hK.sub [24] rfl
      have hFc := freeG p9 hD hS hA
      refine va_callv (va_runV (As := [.ref (hw k90)]) (rest := []) ⟨hx, hb, hml, hown, hts⟩ (m_X8_copy l dC dI nW hw lw kw wl_x21 wb_x21 wG_x21 k89 k90 b_wl_x21 b_wb_x21 (by first | with_reducible assumption | omega | (rw [iI_t (by omega) (by omega)]; omega) | decide | assumption) (by first | with_reducible assumption | omega | (rw [iI_t (by omega) (by omega)]; omega) | decide | assumption) H.size) (cwV 1 hts gwsMX5_keepAnswer_0 rfl rfl rfl hd_yX8_copy_RX8 (by decide +kernel)) (fz_pre (va_recv hK hP (ci := 8) (q0 := 11 + (11 + (5 + (k89)))) rfl (apR rfl (apR rfl (apR rfl (WW_o (by omega)))))) hPc hKc hDc) rfl rfl hl.1 rfl (lv_room (Nat.le_of_ble_eq_true rfl)) dX5_keepAnswer_44 (by decide +kernel)) hS (fun q _ h => hFc q h) hFc (fun u t9_ H locs ht hvm hw9 hB9 hz1 hk1 hS => ?_)
      revert u hw9 hB9
      refine fz_p3 ?_
      intro wl_91 wb_91 wG_91 hw9 hB9
      try dsimp only at hw9 hB9
      revert hw9
      refine fz_a2 ?_
      intro b_wl_91 b_wb_91
      have p8 := cj_4_3 (WO hO aO kO hM hQ hw 1 iO_searched iO_searchedRelaxed iO_counted fO_countedCase gO_goalNumber gO_goalScale fO_start fO_column fO_chosen) (WM hM aM kM iM_stands iM_variables iM_rows iM_goals iM_differents iM_cases fM_from fM_to fM_whole fM_ways iM_plainRows fM_plainRow fM_kept fM_goalOver fM_goalUnder fM_goalMax fM_different) (WQ hQ aQ kQ hw fQ_inside fQ_outside fQ_shut iQ_rows iQ_allRows iQ_columns) (WW nW hw lw kw wl_91 wb_91 wG_91)
      obtain ⟨hP, hD⟩ := frameG p9 p8 hP hD hk1 hFc (fz_P ht hB9.1) hB9.2
      refine lv_iinc (v := (iI (l1_x21.toInt + 1))) hx hb dX5_keepAnswer_47 hl (k := 0) rfl (iI_add2 (iI_of _) (by decide : (1 : Int32) = iI 1)) (by decide) rfl (fun ls (hl : lv_has ls _ ([(1, .int (iI (l1_x21.toInt + 1))), (0, .ref (hO 0))])) => ?_)
      refine lv_goto (tgt := 21) hx hb dX5_keepAnswer_50 (by decide) ?_
      have hl : lv_has _ _ ([(1, .int (iI (l1_x21.toInt + 1))), (0, .ref (hO 0))]) := lv_sub hl [0, 1] rfl
      exact ihx21 wl_91 wb_91 wG_91 (iI (l1_x21.toInt + 1)) _ _ _ b_wl_91 b_wb_91 (iI_rng (Int.le_trans (by decide) (Int.add_le_add (b_l1_x21.1) (Int.le_refl _))) (by omega) (by decide) (by decide)) (by have e9 : ((iI (l1_x21.toInt + 1))).toInt = (l1_x21.toInt + 1) := (iI_t (Int.le_trans (by decide) (Int.add_le_add (b_l1_x21.1) (Int.le_refl _))) (Int.le_trans (Int.add_le_add (b_l1_x21.2) (Int.le_refl _)) (by decide))); omega) hP hD hS hl
theorem dX5_tryAnswer_0 : decode cX5_tryAnswer 0 = .ok (.iconst 0, 1) := dk_3 (by decide +kernel)
theorem dX5_tryAnswer_1 : decode cX5_tryAnswer 1 = .ok (.istore_n 1, 1) := dk_60 (by decide +kernel)
theorem dX5_tryAnswer_2 : decode cX5_tryAnswer 2 = .ok (.iconst 0, 1) := dk_3 (by decide +kernel)
theorem dX5_tryAnswer_3 : decode cX5_tryAnswer 3 = .ok (.istore_n 2, 1) := dk_61 (by decide +kernel)
theorem dX5_tryAnswer_4 : decode cX5_tryAnswer 4 = .ok (.iload_n 2, 1) := dk_28 (by decide +kernel)
theorem dX5_tryAnswer_5 : decode cX5_tryAnswer 5 = .ok (.aload_n 0, 1) := dk_42 (by decide +kernel)
theorem dX5_tryAnswer_6 : decode cX5_tryAnswer 6 = .ok (.getfield 74, 3) := dk_180 (by decide +kernel)
theorem dX5_tryAnswer_9 : decode cX5_tryAnswer 9 = .ok (.getfield 98, 3) := dk_180 (by decide +kernel)
theorem dX5_tryAnswer_12 : decode cX5_tryAnswer 12 = .ok (.if_icmp .ge 61, 3) := dk_162 (by decide +kernel)
theorem dX5_tryAnswer_15 : decode cX5_tryAnswer 15 = .ok (.aload_n 0, 1) := dk_42 (by decide +kernel)
theorem dX5_tryAnswer_16 : decode cX5_tryAnswer 16 = .ok (.getfield 12, 3) := dk_180 (by decide +kernel)
theorem dX5_tryAnswer_19 : decode cX5_tryAnswer 19 = .ok (.aload_n 0, 1) := dk_42 (by decide +kernel)
theorem dX5_tryAnswer_20 : decode cX5_tryAnswer 20 = .ok (.iload_n 2, 1) := dk_28 (by decide +kernel)
theorem dX5_tryAnswer_21 : decode cX5_tryAnswer 21 = .ok (.invokevirtual 225, 3) := dk_182 (by decide +kernel)
theorem dX5_tryAnswer_24 : decode cX5_tryAnswer 24 = .ok (.invokevirtual 228, 3) := dk_182 (by decide +kernel)
theorem dX5_tryAnswer_27 : decode cX5_tryAnswer 27 = .ok (.aload_n 0, 1) := dk_42 (by decide +kernel)
theorem dX5_tryAnswer_28 : decode cX5_tryAnswer 28 = .ok (.getfield 78, 3) := dk_180 (by decide +kernel)
theorem dX5_tryAnswer_31 : decode cX5_tryAnswer 31 = .ok (.ifCond .eq 36, 3) := dk_153 (by decide +kernel)
theorem dX5_tryAnswer_34 : decode cX5_tryAnswer 34 = .ok (.iload_n 1, 1) := dk_27 (by decide +kernel)
theorem dX5_tryAnswer_35 : decode cX5_tryAnswer 35 = .ok (.ifCond .ne 32, 3) := dk_154 (by decide +kernel)
theorem dX5_tryAnswer_38 : decode cX5_tryAnswer 38 = .ok (.aload_n 0, 1) := dk_42 (by decide +kernel)
theorem dX5_tryAnswer_39 : decode cX5_tryAnswer 39 = .ok (.aload_n 0, 1) := dk_42 (by decide +kernel)
theorem dX5_tryAnswer_40 : decode cX5_tryAnswer 40 = .ok (.getfield 12, 3) := dk_180 (by decide +kernel)
theorem dX5_tryAnswer_43 : decode cX5_tryAnswer 43 = .ok (.aload_n 0, 1) := dk_42 (by decide +kernel)
theorem dX5_tryAnswer_44 : decode cX5_tryAnswer 44 = .ok (.iload_n 2, 1) := dk_28 (by decide +kernel)
theorem dX5_tryAnswer_45 : decode cX5_tryAnswer 45 = .ok (.invokevirtual 225, 3) := dk_182 (by decide +kernel)
theorem dX5_tryAnswer_48 : decode cX5_tryAnswer 48 = .ok (.iconst 0, 1) := dk_3 (by decide +kernel)
theorem dX5_tryAnswer_49 : decode cX5_tryAnswer 49 = .ok (.invokevirtual 177, 3) := dk_182 (by decide +kernel)
theorem dX5_tryAnswer_52 : decode cX5_tryAnswer 52 = .ok (.aload_n 0, 1) := dk_42 (by decide +kernel)
theorem dX5_tryAnswer_53 : decode cX5_tryAnswer 53 = .ok (.getfield 52, 3) := dk_180 (by decide +kernel)
theorem dX5_tryAnswer_56 : decode cX5_tryAnswer 56 = .ok (.iload_n 2, 1) := dk_28 (by decide +kernel)
theorem dX5_tryAnswer_57 : decode cX5_tryAnswer 57 = .ok (.aaload, 1) := dk_50 (by decide +kernel)
theorem dX5_tryAnswer_58 : decode cX5_tryAnswer 58 = .ok (.invokevirtual 232, 3) := dk_182 (by decide +kernel)
theorem dX5_tryAnswer_61 : decode cX5_tryAnswer 61 = .ok (.istore_n 1, 1) := dk_60 (by decide +kernel)
theorem dX5_tryAnswer_62 : decode cX5_tryAnswer 62 = .ok (.iload_n 1, 1) := dk_27 (by decide +kernel)
theorem dX5_tryAnswer_63 : decode cX5_tryAnswer 63 = .ok (.ifCond .le 4, 3) := dk_158 (by decide +kernel)
theorem dX5_tryAnswer_66 : decode cX5_tryAnswer 66 = .ok (.return_, 1) := dk_177 (by decide +kernel)
theorem dX5_tryAnswer_67 : decode cX5_tryAnswer 67 = .ok (.iinc 2 1, 3) := dk_132 (by decide +kernel)
theorem dX5_tryAnswer_70 : decode cX5_tryAnswer 70 = .ok (.goto (-66), 3) := dk_167 (by decide +kernel)
theorem dX5_tryAnswer_73 : decode cX5_tryAnswer 73 = .ok (.iconst 0, 1) := dk_3 (by decide +kernel)
theorem dX5_tryAnswer_74 : decode cX5_tryAnswer 74 = .ok (.istore_n 2, 1) := dk_61 (by decide +kernel)
theorem dX5_tryAnswer_75 : decode cX5_tryAnswer 75 = .ok (.iload_n 2, 1) := dk_28 (by decide +kernel)
theorem dX5_tryAnswer_76 : decode cX5_tryAnswer 76 = .ok (.aload_n 0, 1) := dk_42 (by decide +kernel)
theorem dX5_tryAnswer_77 : decode cX5_tryAnswer 77 = .ok (.getfield 74, 3) := dk_180 (by decide +kernel)
theorem dX5_tryAnswer_80 : decode cX5_tryAnswer 80 = .ok (.getfield 112, 3) := dk_180 (by decide +kernel)
theorem dX5_tryAnswer_83 : decode cX5_tryAnswer 83 = .ok (.if_icmp .ge 50, 3) := dk_162 (by decide +kernel)
theorem dX5_tryAnswer_86 : decode cX5_tryAnswer 86 = .ok (.aload_n 0, 1) := dk_42 (by decide +kernel)
theorem dX5_tryAnswer_87 : decode cX5_tryAnswer 87 = .ok (.getfield 38, 3) := dk_180 (by decide +kernel)
theorem dX5_tryAnswer_90 : decode cX5_tryAnswer 90 = .ok (.iload_n 2, 1) := dk_28 (by decide +kernel)
theorem dX5_tryAnswer_91 : decode cX5_tryAnswer 91 = .ok (.iaload, 1) := dk_46 (by decide +kernel)
theorem dX5_tryAnswer_92 : decode cX5_tryAnswer 92 = .ok (.iconst (-1), 1) := dk_2 (by decide +kernel)
theorem dX5_tryAnswer_93 : decode cX5_tryAnswer 93 = .ok (.if_icmp .eq 34, 3) := dk_159 (by decide +kernel)
theorem dX5_tryAnswer_96 : decode cX5_tryAnswer 96 = .ok (.aload_n 0, 1) := dk_42 (by decide +kernel)
theorem dX5_tryAnswer_97 : decode cX5_tryAnswer 97 = .ok (.getfield 12, 3) := dk_180 (by decide +kernel)
theorem dX5_tryAnswer_100 : decode cX5_tryAnswer 100 = .ok (.aload_n 0, 1) := dk_42 (by decide +kernel)
theorem dX5_tryAnswer_101 : decode cX5_tryAnswer 101 = .ok (.getfield 38, 3) := dk_180 (by decide +kernel)
theorem dX5_tryAnswer_104 : decode cX5_tryAnswer 104 = .ok (.iload_n 2, 1) := dk_28 (by decide +kernel)
theorem dX5_tryAnswer_105 : decode cX5_tryAnswer 105 = .ok (.iaload, 1) := dk_46 (by decide +kernel)
theorem dX5_tryAnswer_106 : decode cX5_tryAnswer 106 = .ok (.iconst 1, 1) := dk_4 (by decide +kernel)
theorem dX5_tryAnswer_107 : decode cX5_tryAnswer 107 = .ok (.isub, 1) := dk_100 (by decide +kernel)
theorem dX5_tryAnswer_108 : decode cX5_tryAnswer 108 = .ok (.invokevirtual 236, 3) := dk_182 (by decide +kernel)
theorem dX5_tryAnswer_111 : decode cX5_tryAnswer 111 = .ok (.pop, 1) := dk_87 (by decide +kernel)
theorem dX5_tryAnswer_112 : decode cX5_tryAnswer 112 = .ok (.aload_n 0, 1) := dk_42 (by decide +kernel)
theorem dX5_tryAnswer_113 : decode cX5_tryAnswer 113 = .ok (.getfield 12, 3) := dk_180 (by decide +kernel)
theorem dX5_tryAnswer_116 : decode cX5_tryAnswer 116 = .ok (.aload_n 0, 1) := dk_42 (by decide +kernel)
theorem dX5_tryAnswer_117 : decode cX5_tryAnswer 117 = .ok (.getfield 38, 3) := dk_180 (by decide +kernel)
theorem dX5_tryAnswer_120 : decode cX5_tryAnswer 120 = .ok (.iload_n 2, 1) := dk_28 (by decide +kernel)
theorem dX5_tryAnswer_121 : decode cX5_tryAnswer 121 = .ok (.iaload, 1) := dk_46 (by decide +kernel)
theorem dX5_tryAnswer_122 : decode cX5_tryAnswer 122 = .ok (.iconst 1, 1) := dk_4 (by decide +kernel)
theorem dX5_tryAnswer_123 : decode cX5_tryAnswer 123 = .ok (.isub, 1) := dk_100 (by decide +kernel)
theorem dX5_tryAnswer_124 : decode cX5_tryAnswer 124 = .ok (.invokevirtual 239, 3) := dk_182 (by decide +kernel)
theorem dX5_tryAnswer_127 : decode cX5_tryAnswer 127 = .ok (.iinc 2 1, 3) := dk_132 (by decide +kernel)
theorem dX5_tryAnswer_130 : decode cX5_tryAnswer 130 = .ok (.goto (-55), 3) := dk_167 (by decide +kernel)
theorem dX5_tryAnswer_133 : decode cX5_tryAnswer 133 = .ok (.aload_n 0, 1) := dk_42 (by decide +kernel)
theorem dX5_tryAnswer_134 : decode cX5_tryAnswer 134 = .ok (.aload_n 0, 1) := dk_42 (by decide +kernel)
theorem dX5_tryAnswer_135 : decode cX5_tryAnswer 135 = .ok (.getfield 62, 3) := dk_180 (by decide +kernel)
theorem dX5_tryAnswer_138 : decode cX5_tryAnswer 138 = .ok (.invokevirtual 242, 3) := dk_182 (by decide +kernel)
theorem dX5_tryAnswer_141 : decode cX5_tryAnswer 141 = .ok (.iconst 0, 1) := dk_3 (by decide +kernel)
theorem dX5_tryAnswer_142 : decode cX5_tryAnswer 142 = .ok (.istore_n 2, 1) := dk_61 (by decide +kernel)
theorem dX5_tryAnswer_143 : decode cX5_tryAnswer 143 = .ok (.iload_n 2, 1) := dk_28 (by decide +kernel)
theorem dX5_tryAnswer_144 : decode cX5_tryAnswer 144 = .ok (.aload_n 0, 1) := dk_42 (by decide +kernel)
theorem dX5_tryAnswer_145 : decode cX5_tryAnswer 145 = .ok (.getfield 74, 3) := dk_180 (by decide +kernel)
theorem dX5_tryAnswer_148 : decode cX5_tryAnswer 148 = .ok (.getfield 112, 3) := dk_180 (by decide +kernel)
theorem dX5_tryAnswer_151 : decode cX5_tryAnswer 151 = .ok (.if_icmp .ge 37, 3) := dk_162 (by decide +kernel)
theorem dX5_tryAnswer_154 : decode cX5_tryAnswer 154 = .ok (.aload_n 0, 1) := dk_42 (by decide +kernel)
theorem dX5_tryAnswer_155 : decode cX5_tryAnswer 155 = .ok (.getfield 78, 3) := dk_180 (by decide +kernel)
theorem dX5_tryAnswer_158 : decode cX5_tryAnswer 158 = .ok (.ifCond .eq 30, 3) := dk_153 (by decide +kernel)
theorem dX5_tryAnswer_161 : decode cX5_tryAnswer 161 = .ok (.iload_n 1, 1) := dk_27 (by decide +kernel)
theorem dX5_tryAnswer_162 : decode cX5_tryAnswer 162 = .ok (.ifCond .ne 26, 3) := dk_154 (by decide +kernel)
theorem dX5_tryAnswer_165 : decode cX5_tryAnswer 165 = .ok (.aload_n 0, 1) := dk_42 (by decide +kernel)
theorem dX5_tryAnswer_166 : decode cX5_tryAnswer 166 = .ok (.aload_n 0, 1) := dk_42 (by decide +kernel)
theorem dX5_tryAnswer_167 : decode cX5_tryAnswer 167 = .ok (.getfield 62, 3) := dk_180 (by decide +kernel)
theorem dX5_tryAnswer_170 : decode cX5_tryAnswer 170 = .ok (.iload_n 2, 1) := dk_28 (by decide +kernel)
theorem dX5_tryAnswer_171 : decode cX5_tryAnswer 171 = .ok (.aaload, 1) := dk_50 (by decide +kernel)
theorem dX5_tryAnswer_172 : decode cX5_tryAnswer 172 = .ok (.aload_n 0, 1) := dk_42 (by decide +kernel)
theorem dX5_tryAnswer_173 : decode cX5_tryAnswer 173 = .ok (.getfield 48, 3) := dk_180 (by decide +kernel)
theorem dX5_tryAnswer_176 : decode cX5_tryAnswer 176 = .ok (.iload_n 2, 1) := dk_28 (by decide +kernel)
theorem dX5_tryAnswer_177 : decode cX5_tryAnswer 177 = .ok (.aaload, 1) := dk_50 (by decide +kernel)
theorem dX5_tryAnswer_178 : decode cX5_tryAnswer 178 = .ok (.invokevirtual 232, 3) := dk_182 (by decide +kernel)
theorem dX5_tryAnswer_181 : decode cX5_tryAnswer 181 = .ok (.istore_n 1, 1) := dk_60 (by decide +kernel)
theorem dX5_tryAnswer_182 : decode cX5_tryAnswer 182 = .ok (.iinc 2 1, 3) := dk_132 (by decide +kernel)
theorem dX5_tryAnswer_185 : decode cX5_tryAnswer 185 = .ok (.goto (-42), 3) := dk_167 (by decide +kernel)
theorem dX5_tryAnswer_188 : decode cX5_tryAnswer 188 = .ok (.aload_n 0, 1) := dk_42 (by decide +kernel)
theorem dX5_tryAnswer_189 : decode cX5_tryAnswer 189 = .ok (.getfield 78, 3) := dk_180 (by decide +kernel)
theorem dX5_tryAnswer_192 : decode cX5_tryAnswer 192 = .ok (.ifCond .eq 7, 3) := dk_153 (by decide +kernel)
theorem dX5_tryAnswer_195 : decode cX5_tryAnswer 195 = .ok (.iload_n 1, 1) := dk_27 (by decide +kernel)
theorem dX5_tryAnswer_196 : decode cX5_tryAnswer 196 = .ok (.ifCond .ge 7, 3) := dk_156 (by decide +kernel)
theorem dX5_tryAnswer_199 : decode cX5_tryAnswer 199 = .ok (.aload_n 0, 1) := dk_42 (by decide +kernel)
theorem dX5_tryAnswer_200 : decode cX5_tryAnswer 200 = .ok (.invokevirtual 246, 3) := dk_182 (by decide +kernel)
theorem dX5_tryAnswer_203 : decode cX5_tryAnswer 203 = .ok (.return_, 1) := dk_177 (by decide +kernel)
def wsMX5_tryAnswer : List Cond := .code yX5_tryAnswer cX5_tryAnswer 3 none :: ([.fieldLink RX5 74 "OptimaWorks$Solver" "model" "LOptimaWorks$Model;", .fieldLink RX5 98 "OptimaWorks$Model" "goals" "I", .fieldLink RX5 112 "OptimaWorks$Model" "variables" "I", .fieldLink RX5 38 "OptimaWorks$Solver" "column" "[I", .fieldLink RX5 12 "OptimaWorks$Solver" "tableau" "LOptimaWorks$Tableau;", .fieldLink RX5 62 "OptimaWorks$Solver" "trial" "[LOptimaWorks$Whole;", .fieldLink RX5 78 "OptimaWorks$Solver" "answered" "Z", .fieldLink RX5 48 "OptimaWorks$Solver" "answer" "[LOptimaWorks$Whole;", .fieldLink RX5 52 "OptimaWorks$Solver" "answerGoal" "[LOptimaWorks$Whole;"] ++ wsX10 ++ wsX50 ++ (wsV RX5 236 RX6 yX6_sink wsMX6_sink) ++ (wsV RX5 239 RX6 yX6_keepSunk wsMX6_keepSunk) ++ (wsV RX5 242 RX5 yX5_takeNumbers wsMX5_takeNumbers) ++ (wsV RX5 232 RX5 yX5_compare wsMX5_compare) ++ (wsV RX5 246 RX5 yX5_keepAnswer wsMX5_keepAnswer) ++ (wsV RX5 225 RX5 yX5_goalRow wsMX5_goalRow) ++ (wsV RX5 228 RX6 yX6_makeLeast wsMX6_makeLeast) ++ (wsV RX5 177 RX6 yX6_cellAt wsMX6_cellAt))
theorem iwsMX5_tryAnswer_in1 : ∀ w ∈ wsX10, w ∈ wsMX5_tryAnswer := fun _ h => List.mem_cons_of_mem _ (List.mem_append_left _ (List.mem_append_left _ (List.mem_append_left _ (List.mem_append_left _ (List.mem_append_left _ (List.mem_append_left _ (List.mem_append_left _ (List.mem_append_left _ (List.mem_append_left _ (List.mem_append_right _ h))))))))))
theorem iwsMX5_tryAnswer_in5 : ∀ w ∈ wsX50, w ∈ wsMX5_tryAnswer := fun _ h => List.mem_cons_of_mem _ (List.mem_append_left _ (List.mem_append_left _ (List.mem_append_left _ (List.mem_append_left _ (List.mem_append_left _ (List.mem_append_left _ (List.mem_append_left _ (List.mem_append_left _ (List.mem_append_right _ h)))))))))
theorem gwsMX5_tryAnswer_0 : GoodIn wsMX5_tryAnswer (wsV RX5 236 RX6 yX6_sink wsMX6_sink) := goodIn_sub (fun _ h => List.mem_cons_of_mem _ (List.mem_append_left _ (List.mem_append_left _ (List.mem_append_left _ (List.mem_append_left _ (List.mem_append_left _ (List.mem_append_left _ (List.mem_append_left _ (List.mem_append_right _ h))))))))) (gdV (by decide +kernel) gdwsMX6_sink)
theorem gwsMX5_tryAnswer_1 : GoodIn wsMX5_tryAnswer (wsV RX5 239 RX6 yX6_keepSunk wsMX6_keepSunk) := goodIn_sub (fun _ h => List.mem_cons_of_mem _ (List.mem_append_left _ (List.mem_append_left _ (List.mem_append_left _ (List.mem_append_left _ (List.mem_append_left _ (List.mem_append_left _ (List.mem_append_right _ h)))))))) (gdV (by decide +kernel) gdwsMX6_keepSunk)
theorem gwsMX5_tryAnswer_2 : GoodIn wsMX5_tryAnswer (wsV RX5 242 RX5 yX5_takeNumbers wsMX5_takeNumbers) := goodIn_sub (fun _ h => List.mem_cons_of_mem _ (List.mem_append_left _ (List.mem_append_left _ (List.mem_append_left _ (List.mem_append_left _ (List.mem_append_left _ (List.mem_append_right _ h))))))) (gdV (by decide +kernel) gdwsMX5_takeNumbers)
theorem gwsMX5_tryAnswer_3 : GoodIn wsMX5_tryAnswer (wsV RX5 232 RX5 yX5_compare wsMX5_compare) := goodIn_sub (fun _ h => List.mem_cons_of_mem _ (List.mem_append_left _ (List.mem_append_left _ (List.mem_append_left _ (List.mem_append_left _ (List.mem_append_right _ h)))))) (gdV (by decide +kernel) gdwsMX5_compare)
theorem gwsMX5_tryAnswer_4 : GoodIn wsMX5_tryAnswer (wsV RX5 246 RX5 yX5_keepAnswer wsMX5_keepAnswer) := goodIn_sub (fun _ h => List.mem_cons_of_mem _ (List.mem_append_left _ (List.mem_append_left _ (List.mem_append_left _ (List.mem_append_right _ h))))) (gdV (by decide +kernel) gdwsMX5_keepAnswer)
theorem gwsMX5_tryAnswer_5 : GoodIn wsMX5_tryAnswer (wsV RX5 225 RX5 yX5_goalRow wsMX5_goalRow) := goodIn_sub (fun _ h => List.mem_cons_of_mem _ (List.mem_append_left _ (List.mem_append_left _ (List.mem_append_right _ h)))) (gdV (by decide +kernel) gdwsMX5_goalRow)
theorem gwsMX5_tryAnswer_6 : GoodIn wsMX5_tryAnswer (wsV RX5 228 RX6 yX6_makeLeast wsMX6_makeLeast) := goodIn_sub (fun _ h => List.mem_cons_of_mem _ (List.mem_append_left _ (List.mem_append_right _ h))) (gdV (by decide +kernel) gdwsMX6_makeLeast)
theorem gwsMX5_tryAnswer_7 : GoodIn wsMX5_tryAnswer (wsV RX5 177 RX6 yX6_cellAt wsMX6_cellAt) := goodIn_sub (fun _ h => List.mem_cons_of_mem _ (List.mem_append_right _ h)) (gdV (by decide +kernel) gdwsMX6_cellAt)
theorem gdwsMX5_tryAnswer : wsMX5_tryAnswer.all goodWord = true := gdC rfl (gdA (gdA (gdA (gdA (gdA (gdA (gdA (gdA (gdA (gdA (by decide +kernel : ([.fieldLink RX5 74 "OptimaWorks$Solver" "model" "LOptimaWorks$Model;", .fieldLink RX5 98 "OptimaWorks$Model" "goals" "I", .fieldLink RX5 112 "OptimaWorks$Model" "variables" "I", .fieldLink RX5 38 "OptimaWorks$Solver" "column" "[I", .fieldLink RX5 12 "OptimaWorks$Solver" "tableau" "LOptimaWorks$Tableau;", .fieldLink RX5 62 "OptimaWorks$Solver" "trial" "[LOptimaWorks$Whole;", .fieldLink RX5 78 "OptimaWorks$Solver" "answered" "Z", .fieldLink RX5 48 "OptimaWorks$Solver" "answer" "[LOptimaWorks$Whole;", .fieldLink RX5 52 "OptimaWorks$Solver" "answerGoal" "[LOptimaWorks$Whole;"] : List Cond).all goodWord = true) gdwsX10) gdwsX50) (gdV (by decide +kernel) gdwsMX6_sink)) (gdV (by decide +kernel) gdwsMX6_keepSunk)) (gdV (by decide +kernel) gdwsMX5_takeNumbers)) (gdV (by decide +kernel) gdwsMX5_compare)) (gdV (by decide +kernel) gdwsMX5_keepAnswer)) (gdV (by decide +kernel) gdwsMX5_goalRow)) (gdV (by decide +kernel) gdwsMX6_makeLeast)) (gdV (by decide +kernel) gdwsMX6_cellAt))
theorem hm_m_X5_tryAnswer_0 : (.fieldLink RX5 74 "OptimaWorks$Solver" "model" "LOptimaWorks$Model;" : Cond) ∈ wsMX5_tryAnswer := by decide +kernel
theorem hm_m_X5_tryAnswer_1 : (.fieldLink RX5 112 "OptimaWorks$Model" "variables" "I" : Cond) ∈ wsMX5_tryAnswer := by decide +kernel
theorem hm_m_X5_tryAnswer_2 : (.fieldLink RX5 62 "OptimaWorks$Solver" "trial" "[LOptimaWorks$Whole;" : Cond) ∈ wsMX5_tryAnswer := by decide +kernel
theorem hm_m_X5_tryAnswer_3 : (.fieldLink RX5 78 "OptimaWorks$Solver" "answered" "Z" : Cond) ∈ wsMX5_tryAnswer := by decide +kernel
theorem hm_m_X5_tryAnswer_4 : (.fieldLink RX5 38 "OptimaWorks$Solver" "column" "[I" : Cond) ∈ wsMX5_tryAnswer := by decide +kernel
theorem hm_m_X5_tryAnswer_5 : (.fieldLink RX5 12 "OptimaWorks$Solver" "tableau" "LOptimaWorks$Tableau;" : Cond) ∈ wsMX5_tryAnswer := by decide +kernel
set_option maxHeartbeats 4000000 in
set_option maxRecDepth 100000 in
/-- is it better -/
theorem m_X5_tryAnswer (l : Launch) (dC : Nat → ClassId) (dI : Nat → Nat → Nat) (hO : Nat → Nat) (aO : Nat → Nat) (kO : Nat → ClassId) (hM : Nat → Nat) (hQ : Nat → Nat) (hw : Nat → Nat) (iO_answered : Int32) (iO_searched : Int32) (iO_searchedRelaxed : Int32) (iO_counted : Int32) (fO_countedCase : Nat → Int32) (gO_goalNumber : Nat → Int64) (gO_goalScale : Nat → Int64) (fO_start : Nat → Int32) (fO_column : Nat → Int32) (fO_chosen : Nat → Int32) (aM : Nat → Nat) (kM : Nat → ClassId) (iM_stands : Int32) (iM_variables : Int32) (iM_rows : Int32) (iM_goals : Int32) (iM_differents : Int32) (iM_cases : Int32) (fM_from : Nat → Int32) (fM_to : Nat → Int32) (fM_whole : Nat → Int32) (fM_ways : Nat → Int32) (iM_plainRows : Int32) (fM_plainRow : Nat → Int32) (fM_kept : Nat → Int32) (fM_goalOver : Nat → Int32) (fM_goalUnder : Nat → Int32) (fM_goalMax : Nat → Int32) (fM_different : Nat → Int32) (aQ : Nat → Nat) (kQ : Nat → ClassId) (fQ_inside : Nat → Int32) (fQ_outside : Nat → Int32) (fQ_shut : Nat → Int32) (iQ_rows : Int32) (iQ_allRows : Int32) (iQ_columns : Int32) (nW : Nat) (lw : Nat → Nat) (kw : ClassId) (wl : Nat → Int32) (wb : Nat → Int32) (wG : Nat → Nat → Int64) (b_iO_answered : 0 ≤ iO_answered.toInt ∧ iO_answered.toInt ≤ 1) (b_iO_searched : 0 ≤ iO_searched.toInt ∧ iO_searched.toInt ≤ 1) (b_iO_searchedRelaxed : 0 ≤ iO_searchedRelaxed.toInt ∧ iO_searchedRelaxed.toInt ≤ 1) (b_iO_counted : (-1) ≤ iO_counted.toInt ∧ iO_counted.toInt ≤ 64) (b_fO_countedCase : ∀ q : Nat, 0 ≤ (fO_countedCase q).toInt ∧ (fO_countedCase q).toInt ≤ 200000) (b_fO_column : ∀ q : Nat, (-1) ≤ (fO_column q).toInt ∧ (fO_column q).toInt ≤ 8) (b_fO_chosen : ∀ q : Nat, 0 ≤ (fO_chosen q).toInt ∧ (fO_chosen q).toInt ≤ 2) (b_iM_stands : 0 ≤ iM_stands.toInt ∧ iM_stands.toInt ≤ 1) (b_iM_variables : 0 ≤ iM_variables.toInt ∧ iM_variables.toInt ≤ 8) (b_iM_rows : 0 ≤ iM_rows.toInt ∧ iM_rows.toInt ≤ 12) (b_iM_goals : 0 ≤ iM_goals.toInt ∧ iM_goals.toInt ≤ 3) (b_iM_differents : 0 ≤ iM_differents.toInt ∧ iM_differents.toInt ≤ 8) (b_iM_cases : 0 ≤ iM_cases.toInt ∧ iM_cases.toInt ≤ 200000) (b_fM_ways : ∀ q : Nat, 0 ≤ (fM_ways q).toInt ∧ (fM_ways q).toInt ≤ 3) (b_iM_plainRows : 0 ≤ iM_plainRows.toInt ∧ iM_plainRows.toInt ≤ 12) (b_fM_plainRow : ∀ q : Nat, 0 ≤ (fM_plainRow q).toInt ∧ (fM_plainRow q).toInt ≤ 11) (b_pr : iM_plainRows.toInt ≤ iM_rows.toInt) (b_iQ_rows : 0 ≤ iQ_rows.toInt ∧ iQ_rows.toInt ≤ 40) (b_iQ_allRows : 0 ≤ iQ_allRows.toInt ∧ iQ_allRows.toInt ≤ 40) (b_iQ_columns : 0 ≤ iQ_columns.toInt ∧ iQ_columns.toInt ≤ 40) (b_tb : TbO iQ_rows iQ_allRows iQ_columns) (b_wl : ∀ q : Nat, 0 ≤ (wl q).toInt ∧ (wl q).toInt ≤ 14) (b_wb : ∀ q : Nat, 0 ≤ (wb q).toInt ∧ (wb q).toInt ≤ 1) (hnW : 432 ≤ nW) (hc8 : iQ_columns.toInt ≤ 8) (hr20 : iQ_rows.toInt ≤ 20) (sz : Nat) : Met l yX5_tryAnswer wsMX5_tryAnswer ({ frames := 6, cells := 0, slots := 0, locals := 156 }) (va_Pc [.ref (hO 0)] (fun U => U.heap.size = sz ∧ va_P (dC, dI) vwCl (WO hO aO kO hM hQ hw iO_answered iO_searched iO_searchedRelaxed iO_counted fO_countedCase gO_goalNumber gO_goalScale fO_start fO_column fO_chosen ++ (WM hM aM kM iM_stands iM_variables iM_rows iM_goals iM_differents iM_cases fM_from fM_to fM_whole fM_ways iM_plainRows fM_plainRow fM_kept fM_goalOver fM_goalUnder fM_goalMax fM_different ++ (WQ hQ aQ kQ hw fQ_inside fQ_outside fQ_shut iQ_rows iQ_allRows iQ_columns ++ (WW nW hw lw kw wl wb wG)))) U.heap ∧ va_K (dC, dI) vwCl (tO kO ++ (tM kM ++ (tQ kQ ++ (tW kw)))) U ∧ va_D (fun _ => True) (WO hO aO kO hM hQ hw iO_answered iO_searched iO_searchedRelaxed iO_counted fO_countedCase gO_goalNumber gO_goalScale fO_start fO_column fO_chosen ++ (WM hM aM kM iM_stands iM_variables iM_rows iM_goals iM_differents iM_cases fM_from fM_to fM_whole fM_ways iM_plainRows fM_plainRow fM_kept fM_goalOver fM_goalUnder fM_goalMax fM_different ++ (WQ hQ aQ kQ hw fQ_inside fQ_outside fQ_shut iQ_rows iQ_allRows iQ_columns ++ (WW nW hw lw kw wl wb wG)))))) (va_Qv (fun (u : (Int32) × (Nat → Int32) × (Nat → Int32) × (Nat → Int32) × (Nat → Int32) × (Nat → Int32) × (Nat → Nat → Int64)) => (0 ≤ (u.1).toInt ∧ (u.1).toInt ≤ 1) ∧ (∀ q : Nat, 0 ≤ ((u.2.2.2.2.1) q).toInt ∧ ((u.2.2.2.2.1) q).toInt ≤ 14) ∧ (∀ q : Nat, 0 ≤ ((u.2.2.2.2.2.1) q).toInt ∧ ((u.2.2.2.2.2.1) q).toInt ≤ 1)) (fun (u : (Int32) × (Nat → Int32) × (Nat → Int32) × (Nat → Int32) × (Nat → Int32) × (Nat → Int32) × (Nat → Nat → Int64)) t => va_P (dC, dI) vwCl (WO hO aO kO hM hQ hw (u.1) iO_searched iO_searchedRelaxed iO_counted fO_countedCase gO_goalNumber gO_goalScale fO_start fO_column fO_chosen ++ (WM hM aM kM iM_stands iM_variables iM_rows iM_goals iM_differents iM_cases fM_from fM_to fM_whole fM_ways iM_plainRows fM_plainRow fM_kept fM_goalOver fM_goalUnder fM_goalMax fM_different ++ (WQ hQ aQ kQ hw (u.2.1) (u.2.2.1) (u.2.2.2.1) iQ_rows iQ_allRows iQ_columns ++ (WW nW hw lw kw (u.2.2.2.2.1) (u.2.2.2.2.2.1) (u.2.2.2.2.2.2))))) t.heap ∧ va_D (va_A (WO hO aO kO hM hQ hw iO_answered iO_searched iO_searchedRelaxed iO_counted fO_countedCase gO_goalNumber gO_goalScale fO_start fO_column fO_chosen ++ (WM hM aM kM iM_stands iM_variables iM_rows iM_goals iM_differents iM_cases fM_from fM_to fM_whole fM_ways iM_plainRows fM_plainRow fM_kept fM_goalOver fM_goalUnder fM_goalMax fM_different ++ (WQ hQ aQ kQ hw fQ_inside fQ_outside fQ_shut iQ_rows iQ_allRows iQ_columns ++ (WW nW hw lw kw wl wb wG)))) sz) (WO hO aO kO hM hQ hw (u.1) iO_searched iO_searchedRelaxed iO_counted fO_countedCase gO_goalNumber gO_goalScale fO_start fO_column fO_chosen ++ (WM hM aM kM iM_stands iM_variables iM_rows iM_goals iM_differents iM_cases fM_from fM_to fM_whole fM_ways iM_plainRows fM_plainRow fM_kept fM_goalOver fM_goalUnder fM_goalMax fM_different ++ (WQ hQ aQ kQ hw (u.2.1) (u.2.2.1) (u.2.2.2.1) iQ_rows iQ_allRows iQ_columns ++ (WW nW hw lw kw (u.2.2.2.2.1) (u.2.2.2.2.2.1) (u.2.2.2.2.2.2)))))) (va_A (WO hO aO kO hM hQ hw iO_answered iO_searched iO_searchedRelaxed iO_counted fO_countedCase gO_goalNumber gO_goalScale fO_start fO_column fO_chosen ++ (WM hM aM kM iM_stands iM_variables iM_rows iM_goals iM_differents iM_cases fM_from fM_to fM_whole fM_ways iM_plainRows fM_plainRow fM_kept fM_goalOver fM_goalUnder fM_goalMax fM_different ++ (WQ hQ aQ kQ hw fQ_inside fQ_outside fQ_shut iQ_rows iQ_allRows iQ_columns ++ (WW nW hw lw kw wl wb wG)))) sz)) 0 0 (va_A (WO hO aO kO hM hQ hw iO_answered iO_searched iO_searchedRelaxed iO_counted fO_countedCase gO_goalNumber gO_goalScale fO_start fO_column fO_chosen ++ (WM hM aM kM iM_stands iM_variables iM_rows iM_goals iM_differents iM_cases fM_from fM_to fM_whole fM_ways iM_plainRows fM_plainRow fM_kept fM_goalOver fM_goalUnder fM_goalMax fM_different ++ (WQ hQ aQ kQ hw fQ_inside fQ_outside fQ_shut iQ_rows iQ_allRows iQ_columns ++ (WW nW hw lw kw wl wb wG)))) sz) := by
  refine Met.ofW (cc := cX5_tryAnswer) (maxL := 3) (ret := none) (by decide) rfl ?_
  intro p e s m args below meth c s₁ B hml hv
  obtain ⟨rfl, hsz, hP, hK, hD0⟩ := hv
  have hx := B.exec
  have hb := B.bytes
  have hr := B.returns
  have hts := atoms_spec (ws := wsMX5_tryAnswer) B.pre
  have hown : s.vm.findClass RX5 = some m.cls := findClass_of_methodNamed B.named
  have hlocks := B.notSynchronized
  subst hsz
  have hD := hD0.self (sz := s.heap.size)
  generalize hAe : va_A (WO hO aO kO hM hQ hw iO_answered iO_searched iO_searchedRelaxed iO_counted fO_countedCase gO_goalNumber gO_goalScale fO_start fO_column fO_chosen ++ (WM hM aM kM iM_stands iM_variables iM_rows iM_goals iM_differents iM_cases fM_from fM_to fM_whole fM_ways iM_plainRows fM_plainRow fM_kept fM_goalOver fM_goalUnder fM_goalMax fM_different ++ (WQ hQ aQ kQ hw fQ_inside fQ_outside fQ_shut iQ_rows iQ_allRows iQ_columns ++ (WW nW hw lw kw wl wb wG)))) s.heap.size = A at hD ⊢
  have hA : ∀ q : Nat, s.heap.size ≤ q → A q := fun q h => by rw [← hAe]; exact Or.inr h
  have hS : va_S A s.heap s.heap [] := va_S.rf
  have hl := lv_entry ([.ref (hO 0)]) (n := 3) (Nat.le_of_ble_eq_true rfl)
  rw [lg_entry_eq]
  generalize (lg_sl ([.ref (hO 0)]) ++ List.replicate (3 - (lg_sl ([.ref (hO 0)])).length) Slot.unset).toArray = ls at hl ⊢
  have hl : lv_has ls 3 [(0, .ref (hO 0))] := hl
  refine lv_iconst (v := 0) hx hb dX5_tryAnswer_0 (by decide) ?_
  refine lv_istore_n hx hb dX5_tryAnswer_1 rfl hl (by decide) rfl (fun ls (hl : lv_has ls _ ([(1, .int 0), (0, .ref (hO 0))])) => ?_)
  refine lv_iconst (v := 0) hx hb dX5_tryAnswer_2 (by decide) ?_
  refine lv_istore_n hx hb dX5_tryAnswer_3 rfl hl (by decide) rfl (fun ls (hl : lv_has ls _ ([(2, .int 0), (1, .int 0), (0, .ref (hO 0))])) => ?_)
  have hl : lv_has _ _ ([(2, .int 0), (1, .int 0), (0, .ref (hO 0))]) := lv_sub hl [0, 1, 2] rfl
  refine (fun (loop : ∀ (n9 : Nat) (fQ_inside_x4 : Nat → Int32) (fQ_outside_x4 : Nat → Int32) (fQ_shut_x4 : Nat → Int32) (wl_x4 : Nat → Int32) (wb_x4 : Nat → Int32) (wG_x4 : Nat → Nat → Int64) (l2_x4 : Int32) (l1_x4 : Int32) (H : Heap) (locs : List Loc) (ls : Array Slot), (∀ q : Nat, 0 ≤ (wl_x4 q).toInt ∧ (wl_x4 q).toInt ≤ 14) → (∀ q : Nat, 0 ≤ (wb_x4 q).toInt ∧ (wb_x4 q).toInt ≤ 1) → (0 ≤ l2_x4.toInt ∧ l2_x4.toInt ≤ 3) → ((-1) ≤ l1_x4.toInt ∧ l1_x4.toInt ≤ 1) → (3 - l2_x4.toInt < ((n9 : Nat) : Int)) → va_P (dC, dI) vwCl (WO hO aO kO hM hQ hw iO_answered iO_searched iO_searchedRelaxed iO_counted fO_countedCase gO_goalNumber gO_goalScale fO_start fO_column fO_chosen ++ (WM hM aM kM iM_stands iM_variables iM_rows iM_goals iM_differents iM_cases fM_from fM_to fM_whole fM_ways iM_plainRows fM_plainRow fM_kept fM_goalOver fM_goalUnder fM_goalMax fM_different ++ (WQ hQ aQ kQ hw fQ_inside_x4 fQ_outside_x4 fQ_shut_x4 iQ_rows iQ_allRows iQ_columns ++ (WW nW hw lw kw wl_x4 wb_x4 wG_x4)))) H → va_D A (WO hO aO kO hM hQ hw iO_answered iO_searched iO_searchedRelaxed iO_counted fO_countedCase gO_goalNumber gO_goalScale fO_start fO_column fO_chosen ++ (WM hM aM kM iM_stands iM_variables iM_rows iM_goals iM_differents iM_cases fM_from fM_to fM_whole fM_ways iM_plainRows fM_plainRow fM_kept fM_goalOver fM_goalUnder fM_goalMax fM_different ++ (WQ hQ aQ kQ hw fQ_inside_x4 fQ_outside_x4 fQ_shut_x4 iQ_rows iQ_allRows iQ_columns ++ (WW nW hw lw kw wl_x4 wb_x4 wG_x4)))) → va_S A s.heap H locs → lv_has ls 3 [(2, .int l2_x4), (1, .int l1_x4), (0, .ref (hO 0))] → W p l e _ s m _ below meth c H locs 0 0 _ (F0 m 4 ls [])) => loop (4) fQ_inside fQ_outside fQ_shut wl wb wG 0 0 _ _ _ b_wl b_wb (show 0 ≤ (0 : Int32).toInt ∧ (0 : Int32).toInt ≤ 3 from by decide) (show (-1) ≤ (0 : Int32).toInt ∧ (0 : Int32).toInt ≤ 1 from by decide) ((by have e9 : (0 : Int32).toInt = 0 := (by decide : (0 : Int32).toInt = 0); omega)) hP hD hS hl) ?_
  intro n9
  induction n9 with
  | zero => intro fQ_inside_x4 fQ_outside_x4 fQ_shut_x4 wl_x4 wb_x4 wG_x4 l2_x4 l1_x4 H locs ls b_wl_x4 b_wb_x4 b_l2_x4 b_l1_x4 hf9; exact False.elim (by omega)
  | succ n9 ihx4 =>
    intro fQ_inside_x4 fQ_outside_x4 fQ_shut_x4 wl_x4 wb_x4 wG_x4 l2_x4 l1_x4 H locs ls b_wl_x4 b_wb_x4 b_l2_x4 b_l1_x4 hfx4 hP hD hS hl
    refine lv_iload_n hx hb dX5_tryAnswer_4 rfl (lv_at hl 0 rfl) ?_
    refine lv_aload_n hx hb dX5_tryAnswer_5 rfl (lv_at hl 2 rfl) ?_
    refine va_get (D := (dC, dI)) (ci := 5) (v := .ref (hM 0)) (C := RX5) (T := TX5) (N := 19) hx hb hts iwsMX5_tryAnswer_in5 hown hK hP 0 rfl rfl 0 (by decide) (hts _ hm_m_X5_tryAnswer_0) (fun _ h9 => h9) rfl dX5_tryAnswer_6 ?_
    refine va_get (D := (dC, dI)) (ci := 1) (v := .int iM_goals) (C := RX1) (T := TX1) (N := 17) hx hb hts iwsMX5_tryAnswer_in1 hown hK hP 11 rfl rfl 3 (by decide) (hts (.fieldLink RX5 98 "OptimaWorks$Model" "goals" "I") (by decide +kernel)) (fun _ h9 => h9) rfl dX5_tryAnswer_9 ?_
    refine lv_icmp_ge (tgt := 73) hx hb dX5_tryAnswer_12 (by decide) (fun c_12 => ?_) (fun c_12 => ?_)
    · have t_12 : l2_x4.toInt ≥ iM_goals.toInt := toI_ge c_12 rfl rfl
      refine lv_iconst (v := 0) hx hb dX5_tryAnswer_73 (by decide) ?_
      refine lv_istore_n hx hb dX5_tryAnswer_74 rfl hl (by decide) rfl (fun ls (hl : lv_has ls _ ([(2, .int 0), (1, .int l1_x4), (0, .ref (hO 0))])) => ?_)
      have hl : lv_has _ _ ([(2, .int 0), (1, .int l1_x4), (0, .ref (hO 0))]) := lv_sub hl [0, 1, 2] rfl
      refine (fun (loop : ∀ (n9 : Nat) (fQ_inside_x75 : Nat → Int32) (fQ_outside_x75 : Nat → Int32) (fQ_shut_x75 : Nat → Int32) (wl_x75 : Nat → Int32) (wb_x75 : Nat → Int32) (wG_x75 : Nat → Nat → Int64) (l2_x75 : Int32) (H : Heap) (locs : List Loc) (ls : Array Slot), (∀ q : Nat, 0 ≤ (wl_x75 q).toInt ∧ (wl_x75 q).toInt ≤ 14) → (∀ q : Nat, 0 ≤ (wb_x75 q).toInt ∧ (wb_x75 q).toInt ≤ 1) → (0 ≤ l2_x75.toInt ∧ l2_x75.toInt ≤ 8) → (8 - l2_x75.toInt < ((n9 : Nat) : Int)) → va_P (dC, dI) vwCl (WO hO aO kO hM hQ hw iO_answered iO_searched iO_searchedRelaxed iO_counted fO_countedCase gO_goalNumber gO_goalScale fO_start fO_column fO_chosen ++ (WM hM aM kM iM_stands iM_variables iM_rows iM_goals iM_differents iM_cases fM_from fM_to fM_whole fM_ways iM_plainRows fM_plainRow fM_kept fM_goalOver fM_goalUnder fM_goalMax fM_different ++ (WQ hQ aQ kQ hw fQ_inside_x75 fQ_outside_x75 fQ_shut_x75 iQ_rows iQ_allRows iQ_columns ++ (WW nW hw lw kw wl_x75 wb_x75 wG_x75)))) H → va_D A (WO hO aO kO hM hQ hw iO_answered iO_searched iO_searchedRelaxed iO_counted fO_countedCase gO_goalNumber gO_goalScale fO_start fO_column fO_chosen ++ (WM hM aM kM iM_stands iM_variables iM_rows iM_goals iM_differents iM_cases fM_from fM_to fM_whole fM_ways iM_plainRows fM_plainRow fM_kept fM_goalOver fM_goalUnder fM_goalMax fM_different ++ (WQ hQ aQ kQ hw fQ_inside_x75 fQ_outside_x75 fQ_shut_x75 iQ_rows iQ_allRows iQ_columns ++ (WW nW hw lw kw wl_x75 wb_x75 wG_x75)))) → va_S A s.heap H locs → lv_has ls 3 [(2, .int l2_x75), (1, .int l1_x4), (0, .ref (hO 0))] → W p l e _ s m _ below meth c H locs 0 0 _ (F0 m 75 ls [])) => loop (9) fQ_inside_x4 fQ_outside_x4 fQ_shut_x4 wl_x4 wb_x4 wG_x4 0 _ _ _ b_wl_x4 b_wb_x4 (show 0 ≤ (0 : Int32).toInt ∧ (0 : Int32).toInt ≤ 8 from by decide) ((by have e9 : (0 : Int32).toInt = 0 := (by decide : (0 : Int32).toInt = 0); omega)) hP hD hS hl) ?_
      intro n9
      induction n9 with
      | zero => intro fQ_inside_x75 fQ_outside_x75 fQ_shut_x75 wl_x75 wb_x75 wG_x75 l2_x75 H locs ls b_wl_x75 b_wb_x75 b_l2_x75 hf9; exact False.elim (by omega)
      | succ n9 ihx75 =>
        intro fQ_inside_x75 fQ_outside_x75 fQ_shut_x75 wl_x75 wb_x75 wG_x75 l2_x75 H locs ls b_wl_x75 b_wb_x75 b_l2_x75 hfx75 hP hD hS hl
        refine lv_iload_n hx hb dX5_tryAnswer_75 rfl (lv_at hl 0 rfl) ?_
        refine lv_aload_n hx hb dX5_tryAnswer_76 rfl (lv_at hl 2 rfl) ?_
        refine va_get (D := (dC, dI)) (ci := 5) (v := .ref (hM 0)) (C := RX5) (T := TX5) (N := 19) hx hb hts iwsMX5_tryAnswer_in5 hown hK hP 0 rfl rfl 0 (by decide) (hts _ hm_m_X5_tryAnswer_0) (fun _ h9 => h9) rfl dX5_tryAnswer_77 ?_
        refine va_get (D := (dC, dI)) (ci := 1) (v := .int iM_variables) (C := RX1) (T := TX1) (N := 17) hx hb hts iwsMX5_tryAnswer_in1 hown hK hP 11 rfl rfl 1 (by decide) (hts _ hm_m_X5_tryAnswer_1) (fun _ h9 => h9) rfl dX5_tryAnswer_80 ?_
        refine lv_icmp_ge (tgt := 133) hx hb dX5_tryAnswer_83 (by decide) (fun c_83 => ?_) (fun c_83 => ?_)
        · have t_83 : l2_x75.toInt ≥ iM_variables.toInt := toI_ge c_83 rfl rfl
          refine lv_aload_n hx hb dX5_tryAnswer_133 rfl (lv_at hl 2 rfl) ?_
          refine lv_aload_n hx hb dX5_tryAnswer_134 rfl (lv_at hl 2 rfl) ?_
          refine va_get (D := (dC, dI)) (ci := 5) (v := .ref (aO 8)) (C := RX5) (T := TX5) (N := 19) hx hb hts iwsMX5_tryAnswer_in5 hown hK hP 0 rfl rfl 15 (by decide) (hts _ hm_m_X5_tryAnswer_2) (fun _ h9 => h9) rfl dX5_tryAnswer_135 ?_
          have hFc := allFree hD hS hA
          refine va_callv (va_runV (As := [.ref (aO 8)]) (rest := []) ⟨hx, hb, hml, hown, hts⟩ (m_X5_takeNumbers l dC dI hO aO kO hM hQ hw iO_answered iO_searched iO_searchedRelaxed iO_counted fO_countedCase gO_goalNumber gO_goalScale fO_start fO_column fO_chosen aM kM iM_stands iM_variables iM_rows iM_goals iM_differents iM_cases fM_from fM_to fM_whole fM_ways iM_plainRows fM_plainRow fM_kept fM_goalOver fM_goalUnder fM_goalMax fM_different aQ kQ fQ_inside_x75 fQ_outside_x75 fQ_shut_x75 iQ_rows iQ_allRows iQ_columns nW lw kw wl_x75 wb_x75 wG_x75 (b_iO_answered) (b_iO_searched) (b_iO_searchedRelaxed) (b_iO_counted) b_fO_countedCase b_fO_column b_fO_chosen (b_iM_stands) (b_iM_variables) (b_iM_rows) (b_iM_goals) (b_iM_differents) (b_iM_cases) b_fM_ways (b_iM_plainRows) b_fM_plainRow (by first | with_reducible assumption | omega | assumption) (b_iQ_rows) (b_iQ_allRows) (b_iQ_columns) (by first | with_reducible assumption | omega | assumption) b_wl_x75 b_wb_x75 (by omega) (by first | with_reducible assumption | omega | (rw [iI_t (by omega) (by omega)]; omega) | decide | assumption) H.size) (cwV 1 hts gwsMX5_tryAnswer_2 rfl rfl rfl hd_yX5_takeNumbers_RX5 (by decide +kernel)) (fz_pre (va_recv hK hP (ci := 5) (q0 := 0) rfl rfl) hP hK hD) rfl rfl hl.1 rfl (lv_room (Nat.le_of_ble_eq_true rfl)) dX5_tryAnswer_138 (by decide +kernel)) hS (fun q _ h => hFc q h) hFc (fun u t9_ H locs ht hvm hw9 hB9 hz1 hk1 hS => ?_)
          revert u hw9 hB9
          refine fz_p3 ?_
          intro wl_476 wb_476 wG_476 hw9 hB9
          try dsimp only at hw9 hB9
          revert hw9
          refine fz_a2 ?_
          intro b_wl_476 b_wb_476
          have hP : va_P (dC, dI) vwCl (WO hO aO kO hM hQ hw iO_answered iO_searched iO_searchedRelaxed iO_counted fO_countedCase gO_goalNumber gO_goalScale fO_start fO_column fO_chosen ++ (WM hM aM kM iM_stands iM_variables iM_rows iM_goals iM_differents iM_cases fM_from fM_to fM_whole fM_ways iM_plainRows fM_plainRow fM_kept fM_goalOver fM_goalUnder fM_goalMax fM_different ++ (WQ hQ aQ kQ hw fQ_inside_x75 fQ_outside_x75 fQ_shut_x75 iQ_rows iQ_allRows iQ_columns ++ (WW nW hw lw kw wl_476 wb_476 wG_476)))) H := fz_P ht hB9.1
          have hD := fz_sd hP (hB9.2.weaken (fun _ q _ h => hFc q.1 h)) rfl
          refine lv_iconst (v := 0) hx hb dX5_tryAnswer_141 (by decide) ?_
          refine lv_istore_n hx hb dX5_tryAnswer_142 rfl hl (by decide) rfl (fun ls (hl : lv_has ls _ ([(2, .int 0), (1, .int l1_x4), (0, .ref (hO 0))])) => ?_)
          have hl : lv_has _ _ ([(2, .int 0), (1, .int l1_x4), (0, .ref (hO 0))]) := lv_sub hl [0, 1, 2] rfl
          refine (fun (loop : ∀ (n9 : Nat) (wl_x143 : Nat → Int32) (wb_x143 : Nat → Int32) (wG_x143 : Nat → Nat → Int64) (l2_x143 : Int32) (l1_x143 : Int32) (H : Heap) (locs : List Loc) (ls : Array Slot), (∀ q : Nat, 0 ≤ (wl_x143 q).toInt ∧ (wl_x143 q).toInt ≤ 14) → (∀ q : Nat, 0 ≤ (wb_x143 q).toInt ∧ (wb_x143 q).toInt ≤ 1) → (0 ≤ l2_x143.toInt ∧ l2_x143.toInt ≤ 8) → ((-1) ≤ l1_x143.toInt ∧ l1_x143.toInt ≤ 1) → (8 - l2_x143.toInt < ((n9 : Nat) : Int)) → va_P (dC, dI) vwCl (WO hO aO kO hM hQ hw iO_answered iO_searched iO_searchedRelaxed iO_counted fO_countedCase gO_goalNumber gO_goalScale fO_start fO_column fO_chosen ++ (WM hM aM kM iM_stands iM_variables iM_rows iM_goals iM_differents iM_cases fM_from fM_to fM_whole fM_ways iM_plainRows fM_plainRow fM_kept fM_goalOver fM_goalUnder fM_goalMax fM_different ++ (WQ hQ aQ kQ hw fQ_inside_x75 fQ_outside_x75 fQ_shut_x75 iQ_rows iQ_allRows iQ_columns ++ (WW nW hw lw kw wl_x143 wb_x143 wG_x143)))) H → va_D A (WO hO aO kO hM hQ hw iO_answered iO_searched iO_searchedRelaxed iO_counted fO_countedCase gO_goalNumber gO_goalScale fO_start fO_column fO_chosen ++ (WM hM aM kM iM_stands iM_variables iM_rows iM_goals iM_differents iM_cases fM_from fM_to fM_whole fM_ways iM_plainRows fM_plainRow fM_kept fM_goalOver fM_goalUnder fM_goalMax fM_different ++ (WQ hQ aQ kQ hw fQ_inside_x75 fQ_outside_x75 fQ_shut_x75 iQ_rows iQ_allRows iQ_columns ++ (WW nW hw lw kw wl_x143 wb_x143 wG_x143)))) → va_S A s.heap H locs → lv_has ls 3 [(2, .int l2_x143), (1, .int l1_x143), (0, .ref (hO 0))] → W p l e _ s m _ below meth c H locs 0 0 _ (F0 m 143 ls [])) => loop (9) wl_476 wb_476 wG_476 0 l1_x4 _ _ _ b_wl_476 b_wb_476 (show 0 ≤ (0 : Int32).toInt ∧ (0 : Int32).toInt ≤ 8 from by decide) (b_l1_x4) ((by have e9 : (0 : Int32).toInt = 0 := (by decide : (0 : Int32).toInt = 0); omega)) hP hD hS hl) ?_
          intro n9
          induction n9 with
          | zero => intro wl_x143 wb_x143 wG_x143 l2_x143 l1_x143 H locs ls b_wl_x143 b_wb_x143 b_l2_x143 b_l1_x143 hf9; exact False.elim (by omega)
          | succ n9 ihx143 =>
            intro wl_x143 wb_x143 wG_x143 l2_x143 l1_x143 H locs ls b_wl_x143 b_wb_x143 b_l2_x143 b_l1_x143 hfx143 hP hD hS hl
            refine lv_iload_n hx hb dX5_tryAnswer_143 rfl (lv_at hl 0 rfl) ?_
            refine lv_aload_n hx hb dX5_tryAnswer_144 rfl (lv_at hl 2 rfl) ?_
            refine va_get (D := (dC, dI)) (ci := 5) (v := .ref (hM 0)) (C := RX5) (T := TX5) (N := 19) hx hb hts iwsMX5_tryAnswer_in5 hown hK hP 0 rfl rfl 0 (by decide) (hts _ hm_m_X5_tryAnswer_0) (fun _ h9 => h9) rfl dX5_tryAnswer_145 ?_
            refine va_get (D := (dC, dI)) (ci := 1) (v := .int iM_variables) (C := RX1) (T := TX1) (N := 17) hx hb hts iwsMX5_tryAnswer_in1 hown hK hP 11 rfl rfl 1 (by decide) (hts _ hm_m_X5_tryAnswer_1) (fun _ h9 => h9) rfl dX5_tryAnswer_148 ?_
            refine W.cut (pc := 188) (fun H locs ls stk =>  stk = [] ∧ va_P (dC, dI) vwCl (WO hO aO kO hM hQ hw iO_answered iO_searched iO_searchedRelaxed iO_counted fO_countedCase gO_goalNumber gO_goalScale fO_start fO_column fO_chosen ++ (WM hM aM kM iM_stands iM_variables iM_rows iM_goals iM_differents iM_cases fM_from fM_to fM_whole fM_ways iM_plainRows fM_plainRow fM_kept fM_goalOver fM_goalUnder fM_goalMax fM_different ++ (WQ hQ aQ kQ hw fQ_inside_x75 fQ_outside_x75 fQ_shut_x75 iQ_rows iQ_allRows iQ_columns ++ (WW nW hw lw kw wl_x143 wb_x143 wG_x143)))) H ∧ va_D A (WO hO aO kO hM hQ hw iO_answered iO_searched iO_searchedRelaxed iO_counted fO_countedCase gO_goalNumber gO_goalScale fO_start fO_column fO_chosen ++ (WM hM aM kM iM_stands iM_variables iM_rows iM_goals iM_differents iM_cases fM_from fM_to fM_whole fM_ways iM_plainRows fM_plainRow fM_kept fM_goalOver fM_goalUnder fM_goalMax fM_different ++ (WQ hQ aQ kQ hw fQ_inside_x75 fQ_outside_x75 fQ_shut_x75 iQ_rows iQ_allRows iQ_columns ++ (WW nW hw lw kw wl_x143 wb_x143 wG_x143)))) ∧ va_S A s.heap H locs ∧ lv_has ls 3 [(2, .int l2_x143), (1, .int l1_x143), (0, .ref (hO 0))]) (fun join142 => ?_) ?_
            · refine lv_icmp_ge (tgt := 188) hx hb dX5_tryAnswer_151 (by decide) (fun c_151 => ?_) (fun c_151 => ?_)
              · have t_151 : l2_x143.toInt ≥ iM_variables.toInt := toI_ge c_151 rfl rfl
                have hl : lv_has _ _ ([(2, .int l2_x143), (1, .int l1_x143), (0, .ref (hO 0))]) := lv_sub hl [0, 1, 2] rfl
                exact join142 _ _ _ _ ⟨rfl, hP, hD, hS, hl⟩
              · have t_151 : ¬ l2_x143.toInt ≥ iM_variables.toInt := toI_nge c_151 rfl rfl
                refine lv_aload_n hx hb dX5_tryAnswer_154 rfl (lv_at hl 2 rfl) ?_
                refine va_get (D := (dC, dI)) (ci := 5) (v := .int iO_answered) (C := RX5) (T := TX5) (N := 19) hx hb hts iwsMX5_tryAnswer_in5 hown hK hP 0 rfl rfl 2 (by decide) (hts _ hm_m_X5_tryAnswer_3) (fun _ h9 => h9) rfl dX5_tryAnswer_155 ?_
                refine lv_if_eq (tgt := 188) hx hb dX5_tryAnswer_158 (by decide) (fun c_158 => ?_) (fun c_158 => ?_)
                · have t_158 : iO_answered.toInt = 0 := toI_eq c_158 rfl (by decide : (0 : Int32).toInt = 0)
                  have hl : lv_has _ _ ([(2, .int l2_x143), (1, .int l1_x143), (0, .ref (hO 0))]) := lv_sub hl [0, 1, 2] rfl
                  exact join142 _ _ _ _ ⟨rfl, hP, hD, hS, hl⟩
                · have t_158 : ¬ iO_answered.toInt = 0 := toI_neq c_158 rfl (by decide : (0 : Int32).toInt = 0)
                  refine lv_iload_n hx hb dX5_tryAnswer_161 rfl (lv_at hl 1 rfl) ?_
                  refine lv_if_ne (tgt := 188) hx hb dX5_tryAnswer_162 (by decide) (fun c_162 => ?_) (fun c_162 => ?_)
                  · have t_162 : l1_x143.toInt ≠ 0 := toI_ne c_162 rfl (by decide : (0 : Int32).toInt = 0)
                    have hl : lv_has _ _ ([(2, .int l2_x143), (1, .int l1_x143), (0, .ref (hO 0))]) := lv_sub hl [0, 1, 2] rfl
                    exact join142 _ _ _ _ ⟨rfl, hP, hD, hS, hl⟩
                  · have t_162 : l1_x143.toInt = 0 := toI_nne c_162 rfl (by decide : (0 : Int32).toInt = 0)
                    refine lv_aload_n hx hb dX5_tryAnswer_165 rfl (lv_at hl 2 rfl) ?_
                    refine lv_aload_n hx hb dX5_tryAnswer_166 rfl (lv_at hl 2 rfl) ?_
                    refine va_get (D := (dC, dI)) (ci := 5) (v := .ref (aO 8)) (C := RX5) (T := TX5) (N := 19) hx hb hts iwsMX5_tryAnswer_in5 hown hK hP 0 rfl rfl 15 (by decide) (hts _ hm_m_X5_tryAnswer_2) (fun _ h9 => h9) rfl dX5_tryAnswer_167 ?_
                    refine lv_iload_n hx hb dX5_tryAnswer_170 rfl (lv_at hl 0 rfl) ?_
                    refine va_aldq (cA := kO 8) (n := 8) (f := fun q => some (hw (418 + q))) hx hb hK hP 9 8 rfl rfl (vp_in_iff.mpr ⟨b_l2_x143.1, (Int.lt_of_lt_of_le (Int.not_le.mp t_151) (Int.le_trans b_iM_variables.2 (by decide)))⟩) dX5_tryAnswer_171 ?_
                    obtain ⟨k500, hk500, b_k500⟩ : ∃ k9 : Nat, k9 = 418 + (l2_x143).toNatClampNeg ∧ (418 ≤ k9 ∧ k9 < 426 ∧ (k9 : Int) = 418 + l2_x143.toInt) := ⟨_, rfl, ald_k (x := (l2_x143)) (o := 418) (n := 8) rfl (by omega) (by omega)⟩
                    refine W.eq (g2 := F0 m 172 ls [.ref (hw k500), .ref (hO 0)]) (by rw [hk500]; rfl) ?_
                    clear hk500
                    refine lv_aload_n hx hb dX5_tryAnswer_172 rfl (lv_at hl 2 rfl) ?_
                    refine va_get (D := (dC, dI)) (ci := 5) (v := .ref (aO 6)) (C := RX5) (T := TX5) (N := 19) hx hb hts iwsMX5_tryAnswer_in5 hown hK hP 0 rfl rfl 12 (by decide) (hts (.fieldLink RX5 48 "OptimaWorks$Solver" "answer" "[LOptimaWorks$Whole;") (by decide +kernel)) (fun _ h9 => h9) rfl dX5_tryAnswer_173 ?_
                    refine lv_iload_n hx hb dX5_tryAnswer_176 rfl (lv_at hl 0 rfl) ?_
                    refine va_aldq (cA := kO 6) (n := 8) (f := fun q => some (hw (406 + q))) hx hb hK hP 7 6 rfl rfl (vp_in_iff.mpr ⟨b_l2_x143.1, (Int.lt_of_lt_of_le (Int.not_le.mp t_151) (Int.le_trans b_iM_variables.2 (by decide)))⟩) dX5_tryAnswer_177 ?_
                    obtain ⟨k501, hk501, b_k501⟩ : ∃ k9 : Nat, k9 = 406 + (l2_x143).toNatClampNeg ∧ (406 ≤ k9 ∧ k9 < 414 ∧ (k9 : Int) = 406 + l2_x143.toInt) := ⟨_, rfl, ald_k (x := (l2_x143)) (o := 406) (n := 8) rfl (by omega) (by omega)⟩
                    refine W.eq (g2 := F0 m 178 ls [.ref (hw k501), .ref (hw k500), .ref (hO 0)]) (by rw [hk501]; rfl) ?_
                    clear hk501
                    have hFc := allFree hD hS hA
                    refine va_calli (va_runV (As := [.ref (hw k500), .ref (hw k501)]) (rest := []) ⟨hx, hb, hml, hown, hts⟩ (m_X5_compare l dC dI hO aO kO hM hQ hw iO_answered iO_searched iO_searchedRelaxed iO_counted fO_countedCase gO_goalNumber gO_goalScale fO_start fO_column fO_chosen aM kM iM_stands iM_variables iM_rows iM_goals iM_differents iM_cases fM_from fM_to fM_whole fM_ways iM_plainRows fM_plainRow fM_kept fM_goalOver fM_goalUnder fM_goalMax fM_different aQ kQ fQ_inside_x75 fQ_outside_x75 fQ_shut_x75 iQ_rows iQ_allRows iQ_columns nW lw kw wl_x143 wb_x143 wG_x143 k500 k501 (b_iO_answered) (b_iO_searched) (b_iO_searchedRelaxed) (b_iO_counted) b_fO_countedCase b_fO_column b_fO_chosen (b_iM_stands) (b_iM_variables) (b_iM_rows) (b_iM_goals) (b_iM_differents) (b_iM_cases) b_fM_ways (b_iM_plainRows) b_fM_plainRow (by first | with_reducible assumption | omega | assumption) (b_iQ_rows) (b_iQ_allRows) (b_iQ_columns) (by first | with_reducible assumption | omega | assumption) b_wl_x143 b_wb_x143 (by omega) (by first | with_reducible assumption | omega | (rw [iI_t (by omega) (by omega)]; omega) | decide | assumption) (by first | with_reducible assumption | omega | (rw [iI_t (by omega) (by omega)]; omega) | decide | assumption) H.size) (cwV 2 hts gwsMX5_tryAnswer_3 rfl rfl rfl hd_yX5_compare_RX5 (by decide +kernel)) (fz_pre (va_recv hK hP (ci := 5) (q0 := 0) rfl rfl) hP hK hD) rfl rfl hl.1 rfl (lv_room (Nat.le_of_ble_eq_true rfl)) dX5_tryAnswer_178 (by decide +kernel)) hS (fun q _ h => hFc q h) hFc (fun r502 u t9_ H locs ht hvm hw9 hB9 hz1 hk1 hS => ?_)
                    revert u hw9 hB9
                    refine fz_p3 ?_
                    intro wl_502 wb_502 wG_502 hw9 hB9
                    try dsimp only at hw9 hB9
                    revert hw9
                    refine fz_a3 ?_
                    intro b_wl_502 b_wb_502 b_r502
                    have hP : va_P (dC, dI) vwCl (WO hO aO kO hM hQ hw iO_answered iO_searched iO_searchedRelaxed iO_counted fO_countedCase gO_goalNumber gO_goalScale fO_start fO_column fO_chosen ++ (WM hM aM kM iM_stands iM_variables iM_rows iM_goals iM_differents iM_cases fM_from fM_to fM_whole fM_ways iM_plainRows fM_plainRow fM_kept fM_goalOver fM_goalUnder fM_goalMax fM_different ++ (WQ hQ aQ kQ hw fQ_inside_x75 fQ_outside_x75 fQ_shut_x75 iQ_rows iQ_allRows iQ_columns ++ (WW nW hw lw kw wl_502 wb_502 wG_502)))) H := fz_P ht hB9.1
                    have hD := fz_sd hP (hB9.2.weaken (fun _ q _ h => hFc q.1 h)) rfl
                    refine lv_istore_n hx hb dX5_tryAnswer_181 rfl hl (by decide) rfl (fun ls (hl : lv_has ls _ ([(1, .int r502), (2, .int l2_x143), (0, .ref (hO 0))])) => ?_)
                    refine lv_iinc (v := (iI (l2_x143.toInt + 1))) hx hb dX5_tryAnswer_182 hl (k := 1) rfl (iI_add2 (iI_of _) (by decide : (1 : Int32) = iI 1)) (by decide) rfl (fun ls (hl : lv_has ls _ ([(2, .int (iI (l2_x143.toInt + 1))), (1, .int r502), (0, .ref (hO 0))])) => ?_)
                    refine lv_goto (tgt := 143) hx hb dX5_tryAnswer_185 (by decide) ?_
                    have hl : lv_has _ _ ([(2, .int (iI (l2_x143.toInt + 1))), (1, .int r502), (0, .ref (hO 0))]) := lv_sub hl [0, 1, 2] rfl
                    exact ihx143 wl_502 wb_502 wG_502 (iI (l2_x143.toInt + 1)) r502 _ _ _ b_wl_502 b_wb_502 (iI_rng (Int.le_trans (by decide) (Int.add_le_add (b_l2_x143.1) (Int.le_refl _))) (by omega) (by decide) (by decide)) (by first | exact b_r502 | with_reducible assumption | exact ⟨by omega, by omega⟩ | assumption) (by have e9 : ((iI (l2_x143.toInt + 1))).toInt = (l2_x143.toInt + 1) := (iI_t (Int.le_trans (by decide) (Int.add_le_add (b_l2_x143.1) (Int.le_refl _))) (Int.le_trans (Int.add_le_add (b_l2_x143.2) (Int.le_refl _)) (by decide))); omega) hP hD hS hl
            · rintro H locs ls stk ⟨rfl, hP, hD, hS, hl⟩
              refine lv_aload_n hx hb dX5_tryAnswer_188 rfl (lv_at hl 2 rfl) ?_
              refine va_get (D := (dC, dI)) (ci := 5) (v := .int iO_answered) (C := RX5) (T := TX5) (N := 19) hx hb hts iwsMX5_tryAnswer_in5 hown hK hP 0 rfl rfl 2 (by decide) (hts _ hm_m_X5_tryAnswer_3) (fun _ h9 => h9) rfl dX5_tryAnswer_189 ?_
              refine W.cut (pc := 203) (fun H locs ls stk => ∃ (iO_answered_j143 : Int32) (wl_j143 : Nat → Int32) (wb_j143 : Nat → Int32) (wG_j143 : Nat → Nat → Int64), (0 ≤ iO_answered_j143.toInt ∧ iO_answered_j143.toInt ≤ 1) ∧ (∀ q : Nat, 0 ≤ (wl_j143 q).toInt ∧ (wl_j143 q).toInt ≤ 14) ∧ (∀ q : Nat, 0 ≤ (wb_j143 q).toInt ∧ (wb_j143 q).toInt ≤ 1) ∧  stk = [] ∧ va_P (dC, dI) vwCl (WO hO aO kO hM hQ hw iO_answered_j143 iO_searched iO_searchedRelaxed iO_counted fO_countedCase gO_goalNumber gO_goalScale fO_start fO_column fO_chosen ++ (WM hM aM kM iM_stands iM_variables iM_rows iM_goals iM_differents iM_cases fM_from fM_to fM_whole fM_ways iM_plainRows fM_plainRow fM_kept fM_goalOver fM_goalUnder fM_goalMax fM_different ++ (WQ hQ aQ kQ hw fQ_inside_x75 fQ_outside_x75 fQ_shut_x75 iQ_rows iQ_allRows iQ_columns ++ (WW nW hw lw kw wl_j143 wb_j143 wG_j143)))) H ∧ va_D A (WO hO aO kO hM hQ hw iO_answered_j143 iO_searched iO_searchedRelaxed iO_counted fO_countedCase gO_goalNumber gO_goalScale fO_start fO_column fO_chosen ++ (WM hM aM kM iM_stands iM_variables iM_rows iM_goals iM_differents iM_cases fM_from fM_to fM_whole fM_ways iM_plainRows fM_plainRow fM_kept fM_goalOver fM_goalUnder fM_goalMax fM_different ++ (WQ hQ aQ kQ hw fQ_inside_x75 fQ_outside_x75 fQ_shut_x75 iQ_rows iQ_allRows iQ_columns ++ (WW nW hw lw kw wl_j143 wb_j143 wG_j143)))) ∧ va_S A s.heap H locs ∧ lv_has ls 3 [(2, .int l2_x143), (1, .int l1_x143), (0, .ref (hO 0))]) (fun join143 => ?_) ?_
              · refine lv_if_eq (tgt := 199) hx hb dX5_tryAnswer_192 (by decide) (fun c_192 => ?_) (fun c_192 => ?_)
                · have t_192 : iO_answered.toInt = 0 := toI_eq c_192 rfl (by decide : (0 : Int32).toInt = 0)
                  refine lv_aload_n hx hb dX5_tryAnswer_199 rfl (lv_at hl 2 rfl) ?_
                  have hFc := allFree hD hS hA
                  refine va_callv (va_runV (As := []) (rest := []) ⟨hx, hb, hml, hown, hts⟩ (m_X5_keepAnswer l dC dI hO aO kO hM hQ hw iO_answered iO_searched iO_searchedRelaxed iO_counted fO_countedCase gO_goalNumber gO_goalScale fO_start fO_column fO_chosen aM kM iM_stands iM_variables iM_rows iM_goals iM_differents iM_cases fM_from fM_to fM_whole fM_ways iM_plainRows fM_plainRow fM_kept fM_goalOver fM_goalUnder fM_goalMax fM_different aQ kQ fQ_inside_x75 fQ_outside_x75 fQ_shut_x75 iQ_rows iQ_allRows iQ_columns nW lw kw wl_x143 wb_x143 wG_x143 (b_iO_answered) (b_iO_searched) (b_iO_searchedRelaxed) (b_iO_counted) b_fO_countedCase b_fO_column b_fO_chosen (b_iM_stands) (b_iM_variables) (b_iM_rows) (b_iM_goals) (b_iM_differents) (b_iM_cases) b_fM_ways (b_iM_plainRows) b_fM_plainRow (by first | with_reducible assumption | omega | assumption) (b_iQ_rows) (b_iQ_allRows) (b_iQ_columns) (by first | with_reducible assumption | omega | assumption) b_wl_x143 b_wb_x143 (by omega) (by first | with_reducible assumption | omega | (rw [iI_t (by omega) (by omega)]; omega) | decide | assumption) (by first | with_reducible assumption | omega | (rw [iI_t (by omega) (by omega)]; omega) | decide | assumption) H.size) (cwV 0 hts gwsMX5_tryAnswer_4 rfl rfl rfl hd_yX5_keepAnswer_RX5 (by decide +kernel)) (fz_pre (va_recv hK hP (ci := 5) (q0 := 0) rfl rfl) hP hK hD) rfl rfl hl.1 rfl (lv_room (Nat.le_of_ble_eq_true rfl)) dX5_tryAnswer_200 (by decide +kernel)) hS (fun q _ h => hFc q h) hFc (fun u t9_ H locs ht hvm hw9 hB9 hz1 hk1 hS => ?_)
                  revert u hw9 hB9
                  refine fz_p4 ?_
                  intro iO_answered_505 wl_505 wb_505 wG_505 hw9 hB9
                  try dsimp only at hw9 hB9
                  revert hw9
                  refine fz_a3 ?_
                  intro b_iO_answered_505 b_wl_505 b_wb_505
                  have hP : va_P (dC, dI) vwCl (WO hO aO kO hM hQ hw iO_answered_505 iO_searched iO_searchedRelaxed iO_counted fO_countedCase gO_goalNumber gO_goalScale fO_start fO_column fO_chosen ++ (WM hM aM kM iM_stands iM_variables iM_rows iM_goals iM_differents iM_cases fM_from fM_to fM_whole fM_ways iM_plainRows fM_plainRow fM_kept fM_goalOver fM_goalUnder fM_goalMax fM_different ++ (WQ hQ aQ kQ hw fQ_inside_x75 fQ_outside_x75 fQ_shut_x75 iQ_rows iQ_allRows iQ_columns ++ (WW nW hw lw kw wl_505 wb_505 wG_505)))) H := fz_P ht hB9.1
                  have hD := fz_sd hP (hB9.2.weaken (fun _ q _ h => hFc q.1 h)) rfl
                  have hl : lv_has _ _ ([(2, .int l2_x143), (1, .int l1_x143), (0, .ref (hO 0))]) := lv_sub hl [0, 1, 2] rfl
                  exact join143 _ _ _ _ ⟨iO_answered_505, wl_505, wb_505, wG_505, (b_iO_answered_505), b_wl_505, b_wb_505, rfl, hP, hD, hS, hl⟩
                · have t_192 : ¬ iO_answered.toInt = 0 := toI_neq c_192 rfl (by decide : (0 : Int32).toInt = 0)
                  refine lv_iload_n hx hb dX5_tryAnswer_195 rfl (lv_at hl 1 rfl) ?_
                  refine lv_if_ge (tgt := 203) hx hb dX5_tryAnswer_196 (by decide) (fun c_196 => ?_) (fun c_196 => ?_)
                  · have t_196 : l1_x143.toInt ≥ 0 := toI_ge c_196 rfl (by decide : (0 : Int32).toInt = 0)
                    have hl : lv_has _ _ ([(2, .int l2_x143), (1, .int l1_x143), (0, .ref (hO 0))]) := lv_sub hl [0, 1, 2] rfl
                    exact join143 _ _ _ _ ⟨iO_answered, wl_x143, wb_x143, wG_x143, (b_iO_answered), b_wl_x143, b_wb_x143, rfl, hP, hD, hS, hl⟩
                  · have t_196 : ¬ l1_x143.toInt ≥ 0 := toI_nge c_196 rfl (by decide : (0 : Int32).toInt = 0)
                    refine lv_aload_n hx hb dX5_tryAnswer_199 rfl (lv_at hl 2 rfl) ?_
                    have hFc := allFree hD hS hA
                    refine va_callv (va_runV (As := []) (rest := []) ⟨hx, hb, hml, hown, hts⟩ (m_X5_keepAnswer l dC dI hO aO kO hM hQ hw iO_answered iO_searched iO_searchedRelaxed iO_counted fO_countedCase gO_goalNumber gO_goalScale fO_start fO_column fO_chosen aM kM iM_stands iM_variables iM_rows iM_goals iM_differents iM_cases fM_from fM_to fM_whole fM_ways iM_plainRows fM_plainRow fM_kept fM_goalOver fM_goalUnder fM_goalMax fM_different aQ kQ fQ_inside_x75 fQ_outside_x75 fQ_shut_x75 iQ_rows iQ_allRows iQ_columns nW lw kw wl_x143 wb_x143 wG_x143 (b_iO_answered) (b_iO_searched) (b_iO_searchedRelaxed) (b_iO_counted) b_fO_countedCase b_fO_column b_fO_chosen (b_iM_stands) (b_iM_variables) (b_iM_rows) (b_iM_goals) (b_iM_differents) (b_iM_cases) b_fM_ways (b_iM_plainRows) b_fM_plainRow (by first | with_reducible assumption | omega | assumption) (b_iQ_rows) (b_iQ_allRows) (b_iQ_columns) (by first | with_reducible assumption | omega | assumption) b_wl_x143 b_wb_x143 (by omega) (by first | with_reducible assumption | omega | (rw [iI_t (by omega) (by omega)]; omega) | decide | assumption) (by first | with_reducible assumption | omega | (rw [iI_t (by omega) (by omega)]; omega) | decide | assumption) H.size) (cwV 0 hts gwsMX5_tryAnswer_4 rfl rfl rfl hd_yX5_keepAnswer_RX5 (by decide +kernel)) (fz_pre (va_recv hK hP (ci := 5) (q0 := 0) rfl rfl) hP hK hD) rfl rfl hl.1 rfl (lv_room (Nat.le_of_ble_eq_true rfl)) dX5_tryAnswer_200 (by decide +kernel)) hS (fun q _ h => hFc q h) hFc (fun u t9_ H locs ht hvm hw9 hB9 hz1 hk1 hS => ?_)
                    revert u hw9 hB9
                    refine fz_p4 ?_
                    intro iO_answered_506 wl_506 wb_506 wG_506 hw9 hB9
                    try dsimp only at hw9 hB9
                    revert hw9
                    refine fz_a3 ?_
                    intro b_iO_answered_506 b_wl_506 b_wb_506
                    have hP : va_P (dC, dI) vwCl (WO hO aO kO hM hQ hw iO_answered_506 iO_searched iO_searchedRelaxed iO_counted fO_countedCase gO_goalNumber gO_goalScale fO_start fO_column fO_chosen ++ (WM hM aM kM iM_stands iM_variables iM_rows iM_goals iM_differents iM_cases fM_from fM_to fM_whole fM_ways iM_plainRows fM_plainRow fM_kept fM_goalOver fM_goalUnder fM_goalMax fM_different ++ (WQ hQ aQ kQ hw fQ_inside_x75 fQ_outside_x75 fQ_shut_x75 iQ_rows iQ_allRows iQ_columns ++ (WW nW hw lw kw wl_506 wb_506 wG_506)))) H := fz_P ht hB9.1
                    have hD := fz_sd hP (hB9.2.weaken (fun _ q _ h => hFc q.1 h)) rfl
                    have hl : lv_has _ _ ([(2, .int l2_x143), (1, .int l1_x143), (0, .ref (hO 0))]) := lv_sub hl [0, 1, 2] rfl
                    exact join143 _ _ _ _ ⟨iO_answered_506, wl_506, wb_506, wG_506, (b_iO_answered_506), b_wl_506, b_wb_506, rfl, hP, hD, hS, hl⟩
              · intro H locs ls stk
                refine fz_e4 ?_
                intro iO_answered_j143 wl_j143 wb_j143 wG_j143
                refine fz_a8 ?_
                intro b_iO_answered_j143 b_wl_j143 b_wb_j143 hst9_3 hP hD hS hl
                subst hst9_3
                refine W.widen (k := 0) (n := 0) (by decide +kernel) (by decide +kernel) ?_
                exact W.vret hx hb hr (fun t9_ ht hW => ⟨⟨(iO_answered_j143, fQ_inside_x75, fQ_outside_x75, fQ_shut_x75, wl_j143, wb_j143, wG_j143), rfl, ⟨b_iO_answered_j143, b_wl_j143, b_wb_j143⟩, by rw [ht]; exact hP, hD⟩, hS.F ht⟩) hS.2.2 dX5_tryAnswer_203
        · have t_83 : ¬ l2_x75.toInt ≥ iM_variables.toInt := toI_nge c_83 rfl rfl
          refine lv_aload_n hx hb dX5_tryAnswer_86 rfl (lv_at hl 2 rfl) ?_
          refine va_get (D := (dC, dI)) (ci := 5) (v := .ref (aO 4)) (C := RX5) (T := TX5) (N := 19) hx hb hts iwsMX5_tryAnswer_in5 hown hK hP 0 rfl rfl 10 (by decide) (hts _ hm_m_X5_tryAnswer_4) (fun _ h9 => h9) rfl dX5_tryAnswer_87 ?_
          refine lv_iload_n hx hb dX5_tryAnswer_90 rfl (lv_at hl 0 rfl) ?_
          refine va_iald (cA := kO 4) (n := 8) (f := fO_column) hx hb hK hP 5 4 rfl rfl (vp_in_iff.mpr ⟨b_l2_x75.1, (Int.lt_of_lt_of_le (Int.not_le.mp t_83) (Int.le_trans b_iM_variables.2 (by decide)))⟩) dX5_tryAnswer_91 ?_
          refine lv_topi (fun v507 hv507 => ?_)
          have b_v507 : (-1) ≤ v507.toInt ∧ v507.toInt ≤ 8 := by rw [hv507]; exact b_fO_column _
          clear hv507
          refine lv_iconst (v := (-1)) hx hb dX5_tryAnswer_92 (by decide) ?_
          refine W.cut (pc := 127) (fun H locs ls stk => ∃ (fQ_inside_j144 : Nat → Int32) (fQ_outside_j144 : Nat → Int32) (fQ_shut_j144 : Nat → Int32) (wl_j144 : Nat → Int32) (wb_j144 : Nat → Int32) (wG_j144 : Nat → Nat → Int64), (∀ q : Nat, 0 ≤ (wl_j144 q).toInt ∧ (wl_j144 q).toInt ≤ 14) ∧ (∀ q : Nat, 0 ≤ (wb_j144 q).toInt ∧ (wb_j144 q).toInt ≤ 1) ∧  stk = [] ∧ va_P (dC, dI) vwCl (WO hO aO kO hM hQ hw iO_answered iO_searched iO_searchedRelaxed iO_counted fO_countedCase gO_goalNumber gO_goalScale fO_start fO_column fO_chosen ++ (WM hM aM kM iM_stands iM_variables iM_rows iM_goals iM_differents iM_cases fM_from fM_to fM_whole fM_ways iM_plainRows fM_plainRow fM_kept fM_goalOver fM_goalUnder fM_goalMax fM_different ++ (WQ hQ aQ kQ hw fQ_inside_j144 fQ_outside_j144 fQ_shut_j144 iQ_rows iQ_allRows iQ_columns ++ (WW nW hw lw kw wl_j144 wb_j144 wG_j144)))) H ∧ va_D A (WO hO aO kO hM hQ hw iO_answered iO_searched iO_searchedRelaxed iO_counted fO_countedCase gO_goalNumber gO_goalScale fO_start fO_column fO_chosen ++ (WM hM aM kM iM_stands iM_variables iM_rows iM_goals iM_differents iM_cases fM_from fM_to fM_whole fM_ways iM_plainRows fM_plainRow fM_kept fM_goalOver fM_goalUnder fM_goalMax fM_different ++ (WQ hQ aQ kQ hw fQ_inside_j144 fQ_outside_j144 fQ_shut_j144 iQ_rows iQ_allRows iQ_columns ++ (WW nW hw lw kw wl_j144 wb_j144 wG_j144)))) ∧ va_S A s.heap H locs ∧ lv_has ls 3 [(2, .int l2_x75), (1, .int l1_x4), (0, .ref (hO 0))]) (fun join144 => ?_) ?_
          · refine lv_icmp_eq (tgt := 127) hx hb dX5_tryAnswer_93 (by decide) (fun c_93 => ?_) (fun c_93 => ?_)
            · have t_93 : v507.toInt = (-1) := toI_eq c_93 rfl (by decide : ((-1) : Int32).toInt = (-1))
              have hl : lv_has _ _ ([(2, .int l2_x75), (1, .int l1_x4), (0, .ref (hO 0))]) := lv_sub hl [0, 1, 2] rfl
              exact join144 _ _ _ _ ⟨fQ_inside_x75, fQ_outside_x75, fQ_shut_x75, wl_x75, wb_x75, wG_x75, b_wl_x75, b_wb_x75, rfl, hP, hD, hS, hl⟩
            · have t_93 : ¬ v507.toInt = (-1) := toI_neq c_93 rfl (by decide : ((-1) : Int32).toInt = (-1))
              refine lv_aload_n hx hb dX5_tryAnswer_96 rfl (lv_at hl 2 rfl) ?_
              refine va_get (D := (dC, dI)) (ci := 5) (v := .ref (hQ 0)) (C := RX5) (T := TX5) (N := 19) hx hb hts iwsMX5_tryAnswer_in5 hown hK hP 0 rfl rfl 1 (by decide) (hts _ hm_m_X5_tryAnswer_5) (fun _ h9 => h9) rfl dX5_tryAnswer_97 ?_
              refine lv_aload_n hx hb dX5_tryAnswer_100 rfl (lv_at hl 2 rfl) ?_
              refine va_get (D := (dC, dI)) (ci := 5) (v := .ref (aO 4)) (C := RX5) (T := TX5) (N := 19) hx hb hts iwsMX5_tryAnswer_in5 hown hK hP 0 rfl rfl 10 (by decide) (hts _ hm_m_X5_tryAnswer_4) (fun _ h9 => h9) rfl dX5_tryAnswer_101 ?_
              refine lv_iload_n hx hb dX5_tryAnswer_104 rfl (lv_at hl 0 rfl) ?_
              refine va_iald (cA := kO 4) (n := 8) (f := fO_column) hx hb hK hP 5 4 rfl rfl (vp_in_iff.mpr ⟨b_l2_x75.1, (by omega)⟩) dX5_tryAnswer_105 ?_
              refine lv_topi (fun v514 hv514 => ?_)
              have b_v514 : (-1) ≤ v514.toInt ∧ v514.toInt ≤ 8 := by rw [hv514]; exact b_fO_column _
              clear hv514
              refine lv_iconst (v := 1) hx hb dX5_tryAnswer_106 (by decide) ?_
              refine lv_isub hx hb dX5_tryAnswer_107 ?_
              refine lv_topi (fun y515 hy515 => ?_)
              obtain rfl : (iI (v514.toInt - 1)) = y515 := (hy515.trans (iI_sub2 (iI_of _) (by decide : (1 : Int32) = iI 1))).symm
              have p9 := cj_4_2_3 (WO hO aO kO hM hQ hw iO_answered iO_searched iO_searchedRelaxed iO_counted fO_countedCase gO_goalNumber gO_goalScale fO_start fO_column fO_chosen) (WM hM aM kM iM_stands iM_variables iM_rows iM_goals iM_differents iM_cases fM_from fM_to fM_whole fM_ways iM_plainRows fM_plainRow fM_kept fM_goalOver fM_goalUnder fM_goalMax fM_different) (WQ hQ aQ kQ hw fQ_inside_x75 fQ_outside_x75 fQ_shut_x75 iQ_rows iQ_allRows iQ_columns) (WW nW hw lw kw wl_x75 wb_x75 wG_x75)
              have hPc := hP.mem (fun q h => p9.mem_iff.mpr (List.mem_append_left _ h))
              have hDc := (hD.perm p9).left
              have hKc : va_K (dC, dI) vwCl (tQ kQ ++ (tW kw)) _ := hK.sub [20, 21, 22, 23, 24] rfl
              have hFc := freeG p9 hD hS hA
              refine va_calli (va_runV (As := [.int (iI (v514.toInt - 1))]) (rest := []) ⟨hx, hb, hml, hown, hts⟩ (m_X6_sink l dC dI hQ aQ kQ hw fQ_inside_x75 fQ_outside_x75 fQ_shut_x75 iQ_rows iQ_allRows iQ_columns nW lw kw wl_x75 wb_x75 wG_x75 (iI (v514.toInt - 1)) (b_iQ_rows) (b_iQ_allRows) (b_iQ_columns) (by first | with_reducible assumption | omega | assumption) b_wl_x75 b_wb_x75 (by omega) H.size) (cwV 1 hts gwsMX5_tryAnswer_0 rfl rfl rfl hd_yX6_sink_RX6 (by decide +kernel)) (fz_pre (va_recv hK hP (ci := 6) (q0 := 22) rfl rfl) hPc hKc hDc) rfl rfl hl.1 rfl (lv_room (Nat.le_of_ble_eq_true rfl)) dX5_tryAnswer_108 (by decide +kernel)) hS (fun q _ h => hFc q h) hFc (fun r516 u t9_ H locs ht hvm hw9 hB9 hz1 hk1 hS => ?_)
              revert u hw9 hB9
              refine fz_p5 ?_
              intro fQ_inside_516 fQ_outside_516 wl_516 wb_516 wG_516 hw9 hB9
              try dsimp only at hw9 hB9
              revert hw9
              refine fz_a3 ?_
              intro b_wl_516 b_wb_516 b_r516
              have p8 := cj_4_2_3 (WO hO aO kO hM hQ hw iO_answered iO_searched iO_searchedRelaxed iO_counted fO_countedCase gO_goalNumber gO_goalScale fO_start fO_column fO_chosen) (WM hM aM kM iM_stands iM_variables iM_rows iM_goals iM_differents iM_cases fM_from fM_to fM_whole fM_ways iM_plainRows fM_plainRow fM_kept fM_goalOver fM_goalUnder fM_goalMax fM_different) (WQ hQ aQ kQ hw fQ_inside_516 fQ_outside_516 fQ_shut_x75 iQ_rows iQ_allRows iQ_columns) (WW nW hw lw kw wl_516 wb_516 wG_516)
              obtain ⟨hP, hD⟩ := frameG p9 p8 hP hD hk1 hFc (fz_P ht hB9.1) hB9.2
              refine lv_pop hx hb dX5_tryAnswer_111 rfl ?_
              refine lv_aload_n hx hb dX5_tryAnswer_112 rfl (lv_at hl 2 rfl) ?_
              refine va_get (D := (dC, dI)) (ci := 5) (v := .ref (hQ 0)) (C := RX5) (T := TX5) (N := 19) hx hb hts iwsMX5_tryAnswer_in5 hown hK hP 0 rfl rfl 1 (by decide) (hts _ hm_m_X5_tryAnswer_5) (fun _ h9 => h9) rfl dX5_tryAnswer_113 ?_
              refine lv_aload_n hx hb dX5_tryAnswer_116 rfl (lv_at hl 2 rfl) ?_
              refine va_get (D := (dC, dI)) (ci := 5) (v := .ref (aO 4)) (C := RX5) (T := TX5) (N := 19) hx hb hts iwsMX5_tryAnswer_in5 hown hK hP 0 rfl rfl 10 (by decide) (hts _ hm_m_X5_tryAnswer_4) (fun _ h9 => h9) rfl dX5_tryAnswer_117 ?_
              refine lv_iload_n hx hb dX5_tryAnswer_120 rfl (lv_at hl 0 rfl) ?_
              refine va_iald (cA := kO 4) (n := 8) (f := fO_column) hx hb hK hP 5 4 rfl rfl (vp_in_iff.mpr ⟨b_l2_x75.1, (by omega)⟩) dX5_tryAnswer_121 ?_
              refine lv_topi (fun v517 hv517 => ?_)
              have b_v517 : (-1) ≤ v517.toInt ∧ v517.toInt ≤ 8 := by rw [hv517]; exact b_fO_column _
              clear hv517
              refine lv_iconst (v := 1) hx hb dX5_tryAnswer_122 (by decide) ?_
              refine lv_isub hx hb dX5_tryAnswer_123 ?_
              refine lv_topi (fun y518 hy518 => ?_)
              obtain rfl : (iI (v517.toInt - 1)) = y518 := (hy518.trans (iI_sub2 (iI_of _) (by decide : (1 : Int32) = iI 1))).symm
              have p9 := cj_4_2_3 (WO hO aO kO hM hQ hw iO_answered iO_searched iO_searchedRelaxed iO_counted fO_countedCase gO_goalNumber gO_goalScale fO_start fO_column fO_chosen) (WM hM aM kM iM_stands iM_variables iM_rows iM_goals iM_differents iM_cases fM_from fM_to fM_whole fM_ways iM_plainRows fM_plainRow fM_kept fM_goalOver fM_goalUnder fM_goalMax fM_different) (WQ hQ aQ kQ hw fQ_inside_516 fQ_outside_516 fQ_shut_x75 iQ_rows iQ_allRows iQ_columns) (WW nW hw lw kw wl_516 wb_516 wG_516)
              have hPc := hP.mem (fun q h => p9.mem_iff.mpr (List.mem_append_left _ h))
              have hDc := (hD.perm p9).left
              have hKc : va_K (dC, dI) vwCl (tQ kQ ++ (tW kw)) _ := hK.sub [20, 21, 22, 23, 24] rfl
              have hFc := freeG p9 hD hS hA
              refine va_callv (va_runV (As := [.int (iI (v517.toInt - 1))]) (rest := []) ⟨hx, hb, hml, hown, hts⟩ (m_X6_keepSunk l dC dI hQ aQ kQ hw fQ_inside_516 fQ_outside_516 fQ_shut_x75 iQ_rows iQ_allRows iQ_columns nW lw kw wl_516 wb_516 wG_516 (iI (v517.toInt - 1)) (b_iQ_rows) (b_iQ_allRows) (b_iQ_columns) (by first | with_reducible assumption | omega | assumption) b_wl_516 b_wb_516 (by omega) H.size) (cwV 1 hts gwsMX5_tryAnswer_1 rfl rfl rfl hd_yX6_keepSunk_RX6 (by decide +kernel)) (fz_pre (va_recv hK hP (ci := 6) (q0 := 22) rfl rfl) hPc hKc hDc) rfl rfl hl.1 rfl (lv_room (Nat.le_of_ble_eq_true rfl)) dX5_tryAnswer_124 (by decide +kernel)) hS (fun q _ h => hFc q h) hFc (fun fQ_shut_519 t9_ H locs ht hvm hw9 hB9 hz1 hk1 hS => ?_)
              clear hw9
              have p8 := cj_4_2_3 (WO hO aO kO hM hQ hw iO_answered iO_searched iO_searchedRelaxed iO_counted fO_countedCase gO_goalNumber gO_goalScale fO_start fO_column fO_chosen) (WM hM aM kM iM_stands iM_variables iM_rows iM_goals iM_differents iM_cases fM_from fM_to fM_whole fM_ways iM_plainRows fM_plainRow fM_kept fM_goalOver fM_goalUnder fM_goalMax fM_different) (WQ hQ aQ kQ hw fQ_inside_516 fQ_outside_516 fQ_shut_519 iQ_rows iQ_allRows iQ_columns) (WW nW hw lw kw wl_516 wb_516 wG_516)
              obtain ⟨hP, hD⟩ := frameG p9 p8 hP hD hk1 hFc (fz_P ht hB9.1) hB9.2
              have hl : lv_has _ _ ([(2, .int l2_x75), (1, .int l1_x4), (0, .ref (hO 0))]) := lv_sub hl [0, 1, 2] rfl
              exact join144 _ _ _ _ ⟨fQ_inside_516, fQ_outside_516, fQ_shut_519, wl_516, wb_516, wG_516, b_wl_516, b_wb_516, rfl, hP, hD, hS, hl⟩
          · intro H locs ls stk
            refine fz_e6 ?_
            intro fQ_inside_j144 fQ_outside_j144 fQ_shut_j144 wl_j144 wb_j144 wG_j144
            refine fz_a7 ?_
            intro b_wl_j144 b_wb_j144 hst9_2 hP hD hS hl
            subst hst9_2
            refine lv_iinc (v := (iI (l2_x75.toInt + 1))) hx hb dX5_tryAnswer_127 hl (k := 0) rfl (iI_add2 (iI_of _) (by decide : (1 : Int32) = iI 1)) (by decide) rfl (fun ls (hl : lv_has ls _ ([(2, .int (iI (l2_x75.toInt + 1))), (1, .int l1_x4), (0, .ref (hO 0))])) => ?_)
            refine lv_goto (tgt := 75) hx hb dX5_tryAnswer_130 (by decide) ?_
            have hl : lv_has _ _ ([(2, .int (iI (l2_x75.toInt + 1))), (1, .int l1_x4), (0, .ref (hO 0))]) := lv_sub hl [0, 1, 2] rfl
            exact ihx75 fQ_inside_j144 fQ_outside_j144 fQ_shut_j144 wl_j144 wb_j144 wG_j144 (iI (l2_x75.toInt + 1)) _ _ _ b_wl_j144 b_wb_j144 (iI_rng (Int.le_trans (by decide) (Int.add_le_add (b_l2_x75.1) (Int.le_refl _))) (by omega) (by decide) (by decide)) (by have e9 : ((iI (l2_x75.toInt + 1))).toInt = (l2_x75.toInt + 1) := (iI_t (Int.le_trans (by decide) (Int.add_le_add (b_l2_x75.1) (Int.le_refl _))) (Int.le_trans (Int.add_le_add (b_l2_x75.2) (Int.le_refl _)) (by decide))); omega) hP hD hS hl
    · have t_12 : ¬ l2_x4.toInt ≥ iM_goals.toInt := toI_nge c_12 rfl rfl
      refine lv_aload_n hx hb dX5_tryAnswer_15 rfl (lv_at hl 2 rfl) ?_
      refine va_get (D := (dC, dI)) (ci := 5) (v := .ref (hQ 0)) (C := RX5) (T := TX5) (N := 19) hx hb hts iwsMX5_tryAnswer_in5 hown hK hP 0 rfl rfl 1 (by decide) (hts _ hm_m_X5_tryAnswer_5) (fun _ h9 => h9) rfl dX5_tryAnswer_16 ?_
      refine lv_aload_n hx hb dX5_tryAnswer_19 rfl (lv_at hl 2 rfl) ?_
      refine lv_iload_n hx hb dX5_tryAnswer_20 rfl (lv_at hl 0 rfl) ?_
      have hFc := allFree hD hS hA
      refine va_calli (va_runV (As := [.int l2_x4]) (rest := [.ref (hQ 0)]) ⟨hx, hb, hml, hown, hts⟩ (m_X5_goalRow l dC dI hO aO kO hM hQ hw iO_answered iO_searched iO_searchedRelaxed iO_counted fO_countedCase gO_goalNumber gO_goalScale fO_start fO_column fO_chosen aM kM iM_stands iM_variables iM_rows iM_goals iM_differents iM_cases fM_from fM_to fM_whole fM_ways iM_plainRows fM_plainRow fM_kept fM_goalOver fM_goalUnder fM_goalMax fM_different aQ kQ fQ_inside_x4 fQ_outside_x4 fQ_shut_x4 iQ_rows iQ_allRows iQ_columns nW lw kw wl_x4 wb_x4 wG_x4 l2_x4 (b_iO_answered) (b_iO_searched) (b_iO_searchedRelaxed) (b_iO_counted) b_fO_countedCase b_fO_column b_fO_chosen (b_iM_stands) (b_iM_variables) (b_iM_rows) (b_iM_goals) (b_iM_differents) (b_iM_cases) b_fM_ways (b_iM_plainRows) b_fM_plainRow (by first | with_reducible assumption | omega | assumption) (b_iQ_rows) (b_iQ_allRows) (b_iQ_columns) (by first | with_reducible assumption | omega | assumption) b_wl_x4 b_wb_x4 (by first | exact b_l2_x4 | with_reducible assumption | exact ⟨by omega, by omega⟩ | assumption) (by omega) (by first | with_reducible assumption | omega | (rw [iI_t (by omega) (by omega)]; omega) | decide | assumption) H.size) (cwV 1 hts gwsMX5_tryAnswer_5 rfl rfl rfl hd_yX5_goalRow_RX5 (by decide +kernel)) (fz_pre (va_recv hK hP (ci := 5) (q0 := 0) rfl rfl) hP hK hD) rfl rfl hl.1 rfl (lv_room (Nat.le_of_ble_eq_true rfl)) dX5_tryAnswer_21 (by decide +kernel)) hS (fun q _ h => hFc q h) hFc (fun r520 u t9_ H locs ht hvm hw9 hB9 hz1 hk1 hS => ?_)
      have b_r520 := hw9
      try dsimp only at b_r520
      have hP : va_P (dC, dI) vwCl (WO hO aO kO hM hQ hw iO_answered iO_searched iO_searchedRelaxed iO_counted fO_countedCase gO_goalNumber gO_goalScale fO_start fO_column fO_chosen ++ (WM hM aM kM iM_stands iM_variables iM_rows iM_goals iM_differents iM_cases fM_from fM_to fM_whole fM_ways iM_plainRows fM_plainRow fM_kept fM_goalOver fM_goalUnder fM_goalMax fM_different ++ (WQ hQ aQ kQ hw fQ_inside_x4 fQ_outside_x4 fQ_shut_x4 iQ_rows iQ_allRows iQ_columns ++ (WW nW hw lw kw wl_x4 wb_x4 wG_x4)))) H := fz_P ht hB9.1
      have hD := fz_sd hP (hB9.2.weaken (fun _ q _ h => hFc q.1 h)) rfl
      have p9 := cj_4_2_3 (WO hO aO kO hM hQ hw iO_answered iO_searched iO_searchedRelaxed iO_counted fO_countedCase gO_goalNumber gO_goalScale fO_start fO_column fO_chosen) (WM hM aM kM iM_stands iM_variables iM_rows iM_goals iM_differents iM_cases fM_from fM_to fM_whole fM_ways iM_plainRows fM_plainRow fM_kept fM_goalOver fM_goalUnder fM_goalMax fM_different) (WQ hQ aQ kQ hw fQ_inside_x4 fQ_outside_x4 fQ_shut_x4 iQ_rows iQ_allRows iQ_columns) (WW nW hw lw kw wl_x4 wb_x4 wG_x4)
      have hPc := hP.mem (fun q h => p9.mem_iff.mpr (List.mem_append_left _ h))
      have hDc := (hD.perm p9).left
      have hKc : va_K (dC, dI) vwCl (tQ kQ ++ (tW kw)) _ := hK.sub [20, 21, 22, 23, 24] rfl
      have hFc := freeG p9 hD hS hA
      refine va_callv (va_runV (As := [.int r520]) (rest := []) ⟨hx, hb, hml, hown, hts⟩ (m_X6_makeLeast l dC dI hQ aQ kQ hw fQ_inside_x4 fQ_outside_x4 fQ_shut_x4 iQ_rows iQ_allRows iQ_columns nW lw kw wl_x4 wb_x4 wG_x4 r520 (b_iQ_rows) (b_iQ_allRows) (b_iQ_columns) (by first | with_reducible assumption | omega | assumption) b_wl_x4 b_wb_x4 (by first | exact b_r520 | with_reducible assumption | exact ⟨by omega, by omega⟩ | assumption) (by omega) (FitR.small (I := 39) (C := 8) (by omega) (by omega) (by omega) (by omega) (by decide)) H.size) (cwV 1 hts gwsMX5_tryAnswer_6 rfl rfl rfl hd_yX6_makeLeast_RX6 (by decide +kernel)) (fz_pre (va_recv hK hP (ci := 6) (q0 := 22) rfl rfl) hPc hKc hDc) rfl rfl hl.1 rfl (lv_room (Nat.le_of_ble_eq_true rfl)) dX5_tryAnswer_24 (by decide +kernel)) hS (fun q _ h => hFc q h) hFc (fun u t9_ H locs ht hvm hw9 hB9 hz1 hk1 hS => ?_)
      revert u hw9 hB9
      refine fz_p6 ?_
      intro fQ_inside_521 fQ_outside_521 fQ_shut_521 wl_521 wb_521 wG_521 hw9 hB9
      try dsimp only at hw9 hB9
      revert hw9
      refine fz_a2 ?_
      intro b_wl_521 b_wb_521
      have p8 := cj_4_2_3 (WO hO aO kO hM hQ hw iO_answered iO_searched iO_searchedRelaxed iO_counted fO_countedCase gO_goalNumber gO_goalScale fO_start fO_column fO_chosen) (WM hM aM kM iM_stands iM_variables iM_rows iM_goals iM_differents iM_cases fM_from fM_to fM_whole fM_ways iM_plainRows fM_plainRow fM_kept fM_goalOver fM_goalUnder fM_goalMax fM_different) (WQ hQ aQ kQ hw fQ_inside_521 fQ_outside_521 fQ_shut_521 iQ_rows iQ_allRows iQ_columns) (WW nW hw lw kw wl_521 wb_521 wG_521)
      obtain ⟨hP, hD⟩ := frameG p9 p8 hP hD hk1 hFc (fz_P ht hB9.1) hB9.2
      refine lv_aload_n hx hb dX5_tryAnswer_27 rfl (lv_at hl 2 rfl) ?_
      refine va_get (D := (dC, dI)) (ci := 5) (v := .int iO_answered) (C := RX5) (T := TX5) (N := 19) hx hb hts iwsMX5_tryAnswer_in5 hown hK hP 0 rfl rfl 2 (by decide) (hts _ hm_m_X5_tryAnswer_3) (fun _ h9 => h9) rfl dX5_tryAnswer_28 ?_
      refine lv_if_eq (tgt := 67) hx hb dX5_tryAnswer_31 (by decide) (fun c_31 => ?_) (fun c_31 => ?_)
      · have t_31 : iO_answered.toInt = 0 := toI_eq c_31 rfl (by decide : (0 : Int32).toInt = 0)
        refine lv_iinc (v := (iI (l2_x4.toInt + 1))) hx hb dX5_tryAnswer_67 hl (k := 0) rfl (iI_add2 (iI_of _) (by decide : (1 : Int32) = iI 1)) (by decide) rfl (fun ls (hl : lv_has ls _ ([(2, .int (iI (l2_x4.toInt + 1))), (1, .int l1_x4), (0, .ref (hO 0))])) => ?_)
        refine lv_goto (tgt := 4) hx hb dX5_tryAnswer_70 (by decide) ?_
        have hl : lv_has _ _ ([(2, .int (iI (l2_x4.toInt + 1))), (1, .int l1_x4), (0, .ref (hO 0))]) := lv_sub hl [0, 1, 2] rfl
        exact ihx4 fQ_inside_521 fQ_outside_521 fQ_shut_521 wl_521 wb_521 wG_521 (iI (l2_x4.toInt + 1)) l1_x4 _ _ _ b_wl_521 b_wb_521 (iI_rng (Int.le_trans (by decide) (Int.add_le_add (b_l2_x4.1) (Int.le_refl _))) (by omega) (by decide) (by decide)) (b_l1_x4) (by have e9 : ((iI (l2_x4.toInt + 1))).toInt = (l2_x4.toInt + 1) := (iI_t (Int.le_trans (by decide) (Int.add_le_add (b_l2_x4.1) (Int.le_refl _))) (Int.le_trans (Int.add_le_add (b_l2_x4.2) (Int.le_refl _)) (by decide))); omega) hP hD hS hl
      · have t_31 : ¬ iO_answered.toInt = 0 := toI_neq c_31 rfl (by decide : (0 : Int32).toInt = 0)
        refine lv_iload_n hx hb dX5_tryAnswer_34 rfl (lv_at hl 1 rfl) ?_
        refine lv_if_ne (tgt := 67) hx hb dX5_tryAnswer_35 (by decide) (fun c_35 => ?_) (fun c_35 => ?_)
        · have t_35 : l1_x4.toInt ≠ 0 := toI_ne c_35 rfl (by decide : (0 : Int32).toInt = 0)
          refine lv_iinc (v := (iI (l2_x4.toInt + 1))) hx hb dX5_tryAnswer_67 hl (k := 0) rfl (iI_add2 (iI_of _) (by decide : (1 : Int32) = iI 1)) (by decide) rfl (fun ls (hl : lv_has ls _ ([(2, .int (iI (l2_x4.toInt + 1))), (1, .int l1_x4), (0, .ref (hO 0))])) => ?_)
          refine lv_goto (tgt := 4) hx hb dX5_tryAnswer_70 (by decide) ?_
          have hl : lv_has _ _ ([(2, .int (iI (l2_x4.toInt + 1))), (1, .int l1_x4), (0, .ref (hO 0))]) := lv_sub hl [0, 1, 2] rfl
          exact ihx4 fQ_inside_521 fQ_outside_521 fQ_shut_521 wl_521 wb_521 wG_521 (iI (l2_x4.toInt + 1)) l1_x4 _ _ _ b_wl_521 b_wb_521 (iI_rng (Int.le_trans (by decide) (Int.add_le_add (b_l2_x4.1) (Int.le_refl _))) (by omega) (by decide) (by decide)) (b_l1_x4) (by have e9 : ((iI (l2_x4.toInt + 1))).toInt = (l2_x4.toInt + 1) := (iI_t (Int.le_trans (by decide) (Int.add_le_add (b_l2_x4.1) (Int.le_refl _))) (Int.le_trans (Int.add_le_add (b_l2_x4.2) (Int.le_refl _)) (by decide))); omega) hP hD hS hl
        · have t_35 : l1_x4.toInt = 0 := toI_nne c_35 rfl (by decide : (0 : Int32).toInt = 0)
          refine lv_aload_n hx hb dX5_tryAnswer_38 rfl (lv_at hl 2 rfl) ?_
          refine lv_aload_n hx hb dX5_tryAnswer_39 rfl (lv_at hl 2 rfl) ?_
          refine va_get (D := (dC, dI)) (ci := 5) (v := .ref (hQ 0)) (C := RX5) (T := TX5) (N := 19) hx hb hts iwsMX5_tryAnswer_in5 hown hK hP 0 rfl rfl 1 (by decide) (hts _ hm_m_X5_tryAnswer_5) (fun _ h9 => h9) rfl dX5_tryAnswer_40 ?_
          refine lv_aload_n hx hb dX5_tryAnswer_43 rfl (lv_at hl 2 rfl) ?_
          refine lv_iload_n hx hb dX5_tryAnswer_44 rfl (lv_at hl 0 rfl) ?_
          have hFc := allFree hD hS hA
          refine va_calli (va_runV (As := [.int l2_x4]) (rest := [.ref (hQ 0), .ref (hO 0)]) ⟨hx, hb, hml, hown, hts⟩ (m_X5_goalRow l dC dI hO aO kO hM hQ hw iO_answered iO_searched iO_searchedRelaxed iO_counted fO_countedCase gO_goalNumber gO_goalScale fO_start fO_column fO_chosen aM kM iM_stands iM_variables iM_rows iM_goals iM_differents iM_cases fM_from fM_to fM_whole fM_ways iM_plainRows fM_plainRow fM_kept fM_goalOver fM_goalUnder fM_goalMax fM_different aQ kQ fQ_inside_521 fQ_outside_521 fQ_shut_521 iQ_rows iQ_allRows iQ_columns nW lw kw wl_521 wb_521 wG_521 l2_x4 (b_iO_answered) (b_iO_searched) (b_iO_searchedRelaxed) (b_iO_counted) b_fO_countedCase b_fO_column b_fO_chosen (b_iM_stands) (b_iM_variables) (b_iM_rows) (b_iM_goals) (b_iM_differents) (b_iM_cases) b_fM_ways (b_iM_plainRows) b_fM_plainRow (by first | with_reducible assumption | omega | assumption) (b_iQ_rows) (b_iQ_allRows) (b_iQ_columns) (by first | with_reducible assumption | omega | assumption) b_wl_521 b_wb_521 (by first | exact b_l2_x4 | with_reducible assumption | exact ⟨by omega, by omega⟩ | assumption) (by omega) (by first | with_reducible assumption | omega | (rw [iI_t (by omega) (by omega)]; omega) | decide | assumption) H.size) (cwV 1 hts gwsMX5_tryAnswer_5 rfl rfl rfl hd_yX5_goalRow_RX5 (by decide +kernel)) (fz_pre (va_recv hK hP (ci := 5) (q0 := 0) rfl rfl) hP hK hD) rfl rfl hl.1 rfl (lv_room (Nat.le_of_ble_eq_true rfl)) dX5_tryAnswer_45 (by decide +kernel)) hS (fun q _ h => hFc q h) hFc (fun r522 u t9_ H locs ht hvm hw9 hB9 hz1 hk1 hS => ?_)
          have b_r522 := hw9
          try dsimp only at b_r522
          have hP : va_P (dC, dI) vwCl (WO hO aO kO hM hQ hw iO_answered iO_searched iO_searchedRelaxed iO_counted fO_countedCase gO_goalNumber gO_goalScale fO_start fO_column fO_chosen ++ (WM hM aM kM iM_stands iM_variables iM_rows iM_goals iM_differents iM_cases fM_from fM_to fM_whole fM_ways iM_plainRows fM_plainRow fM_kept fM_goalOver fM_goalUnder fM_goalMax fM_different ++ (WQ hQ aQ kQ hw fQ_inside_521 fQ_outside_521 fQ_shut_521 iQ_rows iQ_allRows iQ_columns ++ (WW nW hw lw kw wl_521 wb_521 wG_521)))) H := fz_P ht hB9.1
          have hD := fz_sd hP (hB9.2.weaken (fun _ q _ h => hFc q.1 h)) rfl
          refine lv_iconst (v := 0) hx hb dX5_tryAnswer_48 (by decide) ?_
          have p9 := cj_4_2_3 (WO hO aO kO hM hQ hw iO_answered iO_searched iO_searchedRelaxed iO_counted fO_countedCase gO_goalNumber gO_goalScale fO_start fO_column fO_chosen) (WM hM aM kM iM_stands iM_variables iM_rows iM_goals iM_differents iM_cases fM_from fM_to fM_whole fM_ways iM_plainRows fM_plainRow fM_kept fM_goalOver fM_goalUnder fM_goalMax fM_different) (WQ hQ aQ kQ hw fQ_inside_521 fQ_outside_521 fQ_shut_521 iQ_rows iQ_allRows iQ_columns) (WW nW hw lw kw wl_521 wb_521 wG_521)
          have hPc := hP.mem (fun q h => p9.mem_iff.mpr (List.mem_append_left _ h))
          have hDc := (hD.perm p9).left
          have hKc : va_K (dC, dI) vwCl (tQ kQ ++ (tW kw)) _ := hK.sub [20, 21, 22, 23, 24] rfl
          have hFc := freeG p9 hD hS hA
          refine va_callr (va_runV (As := [.int r522, .int 0]) (rest := [.ref (hO 0)]) ⟨hx, hb, hml, hown, hts⟩ (m_X6_cellAt l dC dI hQ aQ kQ hw fQ_inside_521 fQ_outside_521 fQ_shut_521 iQ_rows iQ_allRows iQ_columns nW lw kw wl_521 wb_521 wG_521 r522 0 (b_iQ_rows) (b_iQ_allRows) (b_iQ_columns) (by first | with_reducible assumption | omega | assumption) b_wl_521 b_wb_521 (by first | exact b_r522 | with_reducible assumption | exact ⟨by omega, by omega⟩ | assumption) (show 0 ≤ (0 : Int32).toInt ∧ (0 : Int32).toInt ≤ 40 from by decide) (by omega) ((by have h9 := ix_small (i := r522.toInt) (j := 0) (c := iQ_columns.toInt) (by omega) (by omega) (by omega) (by omega) (by omega) (by omega); have h8 : (0 : Int32).toInt = 0 := (by decide); rw [h8]; exact h9)) H.size) (cwV 2 hts gwsMX5_tryAnswer_7 rfl rfl rfl hd_yX6_cellAt_RX6 (by decide +kernel)) (fz_pre (va_recv hK hP (ci := 6) (q0 := 22) rfl rfl) hPc hKc hDc) rfl rfl hl.1 rfl (lv_room (Nat.le_of_ble_eq_true rfl)) dX5_tryAnswer_49 (by decide +kernel)) hS (fun q _ h => hFc q h) hFc (fun kR_523 ra523 t9_ H locs ht hvm hw9 hB9 hz1 hk1 hS => ?_)
          revert hB9
          refine fz_a2 ?_
          intro hra hB9
          subst hra
          have f523_0 := hw9
          try dsimp only at f523_0
          have p8 := p9
          obtain ⟨hP, hD⟩ := frameG p9 p8 hP hD hk1 hFc (fz_P ht hB9.1) hB9.2
          refine lv_aload_n hx hb dX5_tryAnswer_52 rfl (lv_at hl 2 rfl) ?_
          refine va_get (D := (dC, dI)) (ci := 5) (v := .ref (aO 7)) (C := RX5) (T := TX5) (N := 19) hx hb hts iwsMX5_tryAnswer_in5 hown hK hP 0 rfl rfl 13 (by decide) (hts (.fieldLink RX5 52 "OptimaWorks$Solver" "answerGoal" "[LOptimaWorks$Whole;") (by decide +kernel)) (fun _ h9 => h9) rfl dX5_tryAnswer_53 ?_
          refine lv_iload_n hx hb dX5_tryAnswer_56 rfl (lv_at hl 0 rfl) ?_
          refine va_aldq (cA := kO 7) (n := 3) (f := fun q => some (hw (414 + q))) hx hb hK hP 8 7 rfl rfl (vp_in_iff.mpr ⟨b_l2_x4.1, (Int.lt_of_lt_of_le (Int.not_le.mp t_12) (Int.le_trans b_iM_goals.2 (by decide)))⟩) dX5_tryAnswer_57 ?_
          obtain ⟨k524, hk524, b_k524⟩ : ∃ k9 : Nat, k9 = 414 + (l2_x4).toNatClampNeg ∧ (414 ≤ k9 ∧ k9 < 417 ∧ (k9 : Int) = 414 + l2_x4.toInt) := ⟨_, rfl, ald_k (x := (l2_x4)) (o := 414) (n := 3) rfl (by omega) (by omega)⟩
          refine W.eq (g2 := F0 m 58 ls [.ref (hw k524), .ref (hw kR_523), .ref (hO 0)]) (by rw [hk524]; rfl) ?_
          clear hk524
          have hFc := allFree hD hS hA
          refine va_calli (va_runV (As := [.ref (hw kR_523), .ref (hw k524)]) (rest := []) ⟨hx, hb, hml, hown, hts⟩ (m_X5_compare l dC dI hO aO kO hM hQ hw iO_answered iO_searched iO_searchedRelaxed iO_counted fO_countedCase gO_goalNumber gO_goalScale fO_start fO_column fO_chosen aM kM iM_stands iM_variables iM_rows iM_goals iM_differents iM_cases fM_from fM_to fM_whole fM_ways iM_plainRows fM_plainRow fM_kept fM_goalOver fM_goalUnder fM_goalMax fM_different aQ kQ fQ_inside_521 fQ_outside_521 fQ_shut_521 iQ_rows iQ_allRows iQ_columns nW lw kw wl_521 wb_521 wG_521 kR_523 k524 (b_iO_answered) (b_iO_searched) (b_iO_searchedRelaxed) (b_iO_counted) b_fO_countedCase b_fO_column b_fO_chosen (b_iM_stands) (b_iM_variables) (b_iM_rows) (b_iM_goals) (b_iM_differents) (b_iM_cases) b_fM_ways (b_iM_plainRows) b_fM_plainRow (by first | with_reducible assumption | omega | assumption) (b_iQ_rows) (b_iQ_allRows) (b_iQ_columns) (by first | with_reducible assumption | omega | assumption) b_wl_521 b_wb_521 (by omega) (by first | with_reducible assumption | omega | (rw [iI_t (by omega) (by omega)]; omega) | decide | assumption) (by first | with_reducible assumption | omega | (rw [iI_t (by omega) (by omega)]; omega) | decide | assumption) H.size) (cwV 2 hts gwsMX5_tryAnswer_3 rfl rfl rfl hd_yX5_compare_RX5 (by decide +kernel)) (fz_pre (va_recv hK hP (ci := 5) (q0 := 0) rfl rfl) hP hK hD) rfl rfl hl.1 rfl (lv_room (Nat.le_of_ble_eq_true rfl)) dX5_tryAnswer_58 (by decide +kernel)) hS (fun q _ h => hFc q h) hFc (fun r525 u t9_ H locs ht hvm hw9 hB9 hz1 hk1 hS => ?_)
          revert u hw9 hB9
          refine fz_p3 ?_
          intro wl_525 wb_525 wG_525 hw9 hB9
          try dsimp only at hw9 hB9
          revert hw9
          refine fz_a3 ?_
          intro b_wl_525 b_wb_525 b_r525
          have hP : va_P (dC, dI) vwCl (WO hO aO kO hM hQ hw iO_answered iO_searched iO_searchedRelaxed iO_counted fO_countedCase gO_goalNumber gO_goalScale fO_start fO_column fO_chosen ++ (WM hM aM kM iM_stands iM_variables iM_rows iM_goals iM_differents iM_cases fM_from fM_to fM_whole fM_ways iM_plainRows fM_plainRow fM_kept fM_goalOver fM_goalUnder fM_goalMax fM_different ++ (WQ hQ aQ kQ hw fQ_inside_521 fQ_outside_521 fQ_shut_521 iQ_rows iQ_allRows iQ_columns ++ (WW nW hw lw kw wl_525 wb_525 wG_525)))) H := fz_P ht hB9.1
          have hD := fz_sd hP (hB9.2.weaken (fun _ q _ h => hFc q.1 h)) rfl
          refine lv_istore_n hx hb dX5_tryAnswer_61 rfl hl (by decide) rfl (fun ls (hl : lv_has ls _ ([(1, .int r525), (2, .int l2_x4), (0, .ref (hO 0))])) => ?_)
          refine lv_iload_n hx hb dX5_tryAnswer_62 rfl (lv_at hl 0 rfl) ?_
          refine lv_if_le (tgt := 67) hx hb dX5_tryAnswer_63 (by decide) (fun c_63 => ?_) (fun c_63 => ?_)
          · have t_63 : r525.toInt ≤ 0 := toI_le c_63 rfl (by decide : (0 : Int32).toInt = 0)
            refine lv_iinc (v := (iI (l2_x4.toInt + 1))) hx hb dX5_tryAnswer_67 hl (k := 1) rfl (iI_add2 (iI_of _) (by decide : (1 : Int32) = iI 1)) (by decide) rfl (fun ls (hl : lv_has ls _ ([(2, .int (iI (l2_x4.toInt + 1))), (1, .int r525), (0, .ref (hO 0))])) => ?_)
            refine lv_goto (tgt := 4) hx hb dX5_tryAnswer_70 (by decide) ?_
            have hl : lv_has _ _ ([(2, .int (iI (l2_x4.toInt + 1))), (1, .int r525), (0, .ref (hO 0))]) := lv_sub hl [0, 1, 2] rfl
            exact ihx4 fQ_inside_521 fQ_outside_521 fQ_shut_521 wl_525 wb_525 wG_525 (iI (l2_x4.toInt + 1)) r525 _ _ _ b_wl_525 b_wb_525 (iI_rng (Int.le_trans (by decide) (Int.add_le_add (b_l2_x4.1) (Int.le_refl _))) (by omega) (by decide) (by decide)) (by first | exact b_r525 | with_reducible assumption | exact ⟨by omega, by omega⟩ | assumption) (by have e9 : ((iI (l2_x4.toInt + 1))).toInt = (l2_x4.toInt + 1) := (iI_t (Int.le_trans (by decide) (Int.add_le_add (b_l2_x4.1) (Int.le_refl _))) (Int.le_trans (Int.add_le_add (b_l2_x4.2) (Int.le_refl _)) (by decide))); omega) hP hD hS hl
          · have t_63 : ¬ r525.toInt ≤ 0 := toI_nle c_63 rfl (by decide : (0 : Int32).toInt = 0)
            refine W.widen (k := 0) (n := 0) (by decide +kernel) (by decide +kernel) ?_
            exact W.vret hx hb hr (fun t9_ ht hW => ⟨⟨(iO_answered, fQ_inside_521, fQ_outside_521, fQ_shut_521, wl_525, wb_525, wG_525), rfl, ⟨b_iO_answered, b_wl_525, b_wb_525⟩, by rw [ht]; exact hP, hD⟩, hS.F ht⟩) hS.2.2 dX5_tryAnswer_66
end

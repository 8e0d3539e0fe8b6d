section
theorem hd_yX1_needBound_RX1 : yX1_needBound.cls = RX1 ∧ yX1_needBound.cls ≠ "java/lang/invoke/MethodHandle" ∧ yX1_needBound.cls ≠ "java/lang/invoke/VarHandle" ∧ (parseMethodDescriptor yX1_needBound.desc).map (fun d => d.parameters.length) = some 1 := by decide +kernel
theorem hd_yX1_needNumber_RX1 : yX1_needNumber.cls = RX1 ∧ yX1_needNumber.cls ≠ "java/lang/invoke/MethodHandle" ∧ yX1_needNumber.cls ≠ "java/lang/invoke/VarHandle" ∧ (parseMethodDescriptor yX1_needNumber.desc).map (fun d => d.parameters.length) = some 2 := by decide +kernel
theorem hd_yX6_isInside_RX6 : yX6_isInside.cls = RX6 ∧ yX6_isInside.cls ≠ "java/lang/invoke/MethodHandle" ∧ yX6_isInside.cls ≠ "java/lang/invoke/VarHandle" ∧ (parseMethodDescriptor yX6_isInside.desc).map (fun d => d.parameters.length) = some 1 := by decide +kernel
theorem hd_yX6_drop_RX6 : yX6_drop.cls = RX6 ∧ yX6_drop.cls ≠ "java/lang/invoke/MethodHandle" ∧ yX6_drop.cls ≠ "java/lang/invoke/VarHandle" ∧ (parseMethodDescriptor yX6_drop.desc).map (fun d => d.parameters.length) = some 1 := by decide +kernel
theorem hd_yX1_needs_RX1 : yX1_needs.cls = RX1 ∧ yX1_needs.cls ≠ "java/lang/invoke/MethodHandle" ∧ yX1_needs.cls ≠ "java/lang/invoke/VarHandle" ∧ (parseMethodDescriptor yX1_needs.desc).map (fun d => d.parameters.length) = some 0 := by decide +kernel
def WG (hG : Nat → Nat) (aG : Nat → Nat) (kG : Nat → ClassId) (hM : Nat → Nat) (hO : Nat → Nat) (hQ : Nat → Nat) (hw : Nat → Nat) (iG_made : Int32) (iG_keptNeeds : Int32) (fG_kept : Nat → Int32) (fG_need : Nat → Int32) (fG_turn : Nat → Int32) (iG_columns : Int32) : va_W := [(hG 0, .inr (3, [.ref (hM 0), .ref (hO 0), .ref (hQ 0), .int iG_made, .int iG_keptNeeds, .ref (aG 0), .ref (aG 1), .ref (hw 460), .ref (hw 461), .ref (hw 462), .ref (aG 2), .ref (hw 471), .ref (hw 472), .ref (hw 473), .ref (aG 3), .ref (aG 4), .int iG_columns])), (aG 0, .inl (kG 0, 28, .inl fG_kept)), (aG 1, .inl (kG 1, 28, .inr (.inr (.inr (.inr (fun q => some (hw (432 + q)))))))), (aG 2, .inl (kG 2, 8, .inr (.inr (.inr (.inr (fun q => some (hw (463 + q)))))))), (aG 3, .inl (kG 3, 40, .inl fG_need)), (aG 4, .inl (kG 4, 40, .inl fG_turn))]
def tG (kG : Nat → ClassId) : List (ClassId × FieldType) := [(kG 0, .boolean), (kG 1, .object "OptimaWorks$Whole"), (kG 2, .object "OptimaWorks$Whole"), (kG 3, .int), (kG 4, .int)]
theorem dX3_forget_0 : decode cX3_forget 0 = .ok (.aload_n 0, 1) := dk_42 (by decide +kernel)
theorem dX3_forget_1 : decode cX3_forget 1 = .ok (.iconst 0, 1) := dk_3 (by decide +kernel)
theorem dX3_forget_2 : decode cX3_forget 2 = .ok (.putfield 72, 3) := dk_181 (by decide +kernel)
theorem dX3_forget_5 : decode cX3_forget 5 = .ok (.return_, 1) := dk_177 (by decide +kernel)
def wsMX3_forget : List Cond := .code yX3_forget cX3_forget 1 none :: ([.fieldLink RX3 72 "OptimaWorks$Prover" "made" "Z"] ++ wsX30)
theorem iwsMX3_forget_in3 : ∀ w ∈ wsX30, w ∈ wsMX3_forget := fun _ h => List.mem_cons_of_mem _ (List.mem_append_right _ h)
theorem gdwsMX3_forget : wsMX3_forget.all goodWord = true := gdC rfl (gdA (by decide +kernel : ([.fieldLink RX3 72 "OptimaWorks$Prover" "made" "Z"] : List Cond).all goodWord = true) gdwsX30)
set_option maxHeartbeats 4000000 in
set_option maxRecDepth 100000 in
/-- forgotten -/
theorem m_X3_forget (l : Launch) (dC : Nat → ClassId) (dI : Nat → Nat → Nat) (hG : Nat → Nat) (aG : Nat → Nat) (kG : Nat → ClassId) (hM : Nat → Nat) (hO : Nat → Nat) (hQ : Nat → Nat) (hw : Nat → Nat) (iG_made : Int32) (iG_keptNeeds : Int32) (fG_kept : Nat → Int32) (fG_need : Nat → Int32) (fG_turn : Nat → Int32) (iG_columns : Int32) (aO : Nat → Nat) (kO : Nat → ClassId) (iO_answered : Int32) (iO_searched : Int32) (iO_searchedRelaxed : Int32) (iO_counted : Int32) (fO_countedCase : Nat → Int32) (gO_goalNumber : Nat → Int64) (gO_goalScale : Nat → Int64) (fO_start : Nat → Int32) (fO_column : Nat → Int32) (fO_chosen : Nat → Int32) (aM : Nat → Nat) (kM : Nat → ClassId) (iM_stands : Int32) (iM_variables : Int32) (iM_rows : Int32) (iM_goals : Int32) (iM_differents : Int32) (iM_cases : Int32) (fM_from : Nat → Int32) (fM_to : Nat → Int32) (fM_whole : Nat → Int32) (fM_ways : Nat → Int32) (iM_plainRows : Int32) (fM_plainRow : Nat → Int32) (fM_kept : Nat → Int32) (fM_goalOver : Nat → Int32) (fM_goalUnder : Nat → Int32) (fM_goalMax : Nat → Int32) (fM_different : Nat → Int32) (aQ : Nat → Nat) (kQ : Nat → ClassId) (fQ_inside : Nat → Int32) (fQ_outside : Nat → Int32) (fQ_shut : Nat → Int32) (iQ_rows : Int32) (iQ_allRows : Int32) (iQ_columns : Int32) (nW : Nat) (lw : Nat → Nat) (kw : ClassId) (wl : Nat → Int32) (wb : Nat → Int32) (wG : Nat → Nat → Int64) (b_iG_made : 0 ≤ iG_made.toInt ∧ iG_made.toInt ≤ 1) (b_fG_need : ∀ q : Nat, 0 ≤ (fG_need q).toInt ∧ (fG_need q).toInt ≤ 27) (b_iG_columns : 0 ≤ iG_columns.toInt ∧ iG_columns.toInt ≤ 40) (b_iO_answered : 0 ≤ iO_answered.toInt ∧ iO_answered.toInt ≤ 1) (b_iO_searched : 0 ≤ iO_searched.toInt ∧ iO_searched.toInt ≤ 1) (b_iO_searchedRelaxed : 0 ≤ iO_searchedRelaxed.toInt ∧ iO_searchedRelaxed.toInt ≤ 1) (b_iO_counted : (-1) ≤ iO_counted.toInt ∧ iO_counted.toInt ≤ 64) (b_fO_countedCase : ∀ q : Nat, 0 ≤ (fO_countedCase q).toInt ∧ (fO_countedCase q).toInt ≤ 200000) (b_fO_column : ∀ q : Nat, (-1) ≤ (fO_column q).toInt ∧ (fO_column q).toInt ≤ 8) (b_fO_chosen : ∀ q : Nat, 0 ≤ (fO_chosen q).toInt ∧ (fO_chosen q).toInt ≤ 2) (b_iM_stands : 0 ≤ iM_stands.toInt ∧ iM_stands.toInt ≤ 1) (b_iM_variables : 0 ≤ iM_variables.toInt ∧ iM_variables.toInt ≤ 8) (b_iM_rows : 0 ≤ iM_rows.toInt ∧ iM_rows.toInt ≤ 12) (b_iM_goals : 0 ≤ iM_goals.toInt ∧ iM_goals.toInt ≤ 3) (b_iM_differents : 0 ≤ iM_differents.toInt ∧ iM_differents.toInt ≤ 8) (b_iM_cases : 0 ≤ iM_cases.toInt ∧ iM_cases.toInt ≤ 200000) (b_fM_ways : ∀ q : Nat, 0 ≤ (fM_ways q).toInt ∧ (fM_ways q).toInt ≤ 3) (b_iM_plainRows : 0 ≤ iM_plainRows.toInt ∧ iM_plainRows.toInt ≤ 12) (b_fM_plainRow : ∀ q : Nat, 0 ≤ (fM_plainRow q).toInt ∧ (fM_plainRow q).toInt ≤ 11) (b_pr : iM_plainRows.toInt ≤ iM_rows.toInt) (b_iQ_rows : 0 ≤ iQ_rows.toInt ∧ iQ_rows.toInt ≤ 40) (b_iQ_allRows : 0 ≤ iQ_allRows.toInt ∧ iQ_allRows.toInt ≤ 40) (b_iQ_columns : 0 ≤ iQ_columns.toInt ∧ iQ_columns.toInt ≤ 40) (b_tb : TbO iQ_rows iQ_allRows iQ_columns) (b_wl : ∀ q : Nat, 0 ≤ (wl q).toInt ∧ (wl q).toInt ≤ 14) (b_wb : ∀ q : Nat, 0 ≤ (wb q).toInt ∧ (wb q).toInt ≤ 1) (hnW : 474 ≤ nW) (sz : Nat) : Met l yX3_forget wsMX3_forget ({ frames := 0, cells := 0, slots := 0, locals := 0 }) (va_Pc [.ref (hG 0)] (fun U => U.heap.size = sz ∧ va_P (dC, dI) vwCl (WG hG aG kG hM hO hQ hw iG_made iG_keptNeeds fG_kept fG_need fG_turn iG_columns ++ (WO hO aO kO hM hQ hw iO_answered iO_searched iO_searchedRelaxed iO_counted fO_countedCase gO_goalNumber gO_goalScale fO_start fO_column fO_chosen ++ (WM hM aM kM iM_stands iM_variables iM_rows iM_goals iM_differents iM_cases fM_from fM_to fM_whole fM_ways iM_plainRows fM_plainRow fM_kept fM_goalOver fM_goalUnder fM_goalMax fM_different ++ (WQ hQ aQ kQ hw fQ_inside fQ_outside fQ_shut iQ_rows iQ_allRows iQ_columns ++ (WW nW hw lw kw wl wb wG))))) U.heap ∧ va_K (dC, dI) vwCl (tG kG ++ (tO kO ++ (tM kM ++ (tQ kQ ++ (tW kw))))) U ∧ va_D (fun _ => True) (WG hG aG kG hM hO hQ hw iG_made iG_keptNeeds fG_kept fG_need fG_turn iG_columns ++ (WO hO aO kO hM hQ hw iO_answered iO_searched iO_searchedRelaxed iO_counted fO_countedCase gO_goalNumber gO_goalScale fO_start fO_column fO_chosen ++ (WM hM aM kM iM_stands iM_variables iM_rows iM_goals iM_differents iM_cases fM_from fM_to fM_whole fM_ways iM_plainRows fM_plainRow fM_kept fM_goalOver fM_goalUnder fM_goalMax fM_different ++ (WQ hQ aQ kQ hw fQ_inside fQ_outside fQ_shut iQ_rows iQ_allRows iQ_columns ++ (WW nW hw lw kw wl wb wG))))))) (va_Qv (fun (u : Int32) => (0 ≤ u.toInt ∧ u.toInt ≤ 1)) (fun (u : Int32) t => va_P (dC, dI) vwCl (WG hG aG kG hM hO hQ hw u iG_keptNeeds fG_kept fG_need fG_turn iG_columns ++ (WO hO aO kO hM hQ hw iO_answered iO_searched iO_searchedRelaxed iO_counted fO_countedCase gO_goalNumber gO_goalScale fO_start fO_column fO_chosen ++ (WM hM aM kM iM_stands iM_variables iM_rows iM_goals iM_differents iM_cases fM_from fM_to fM_whole fM_ways iM_plainRows fM_plainRow fM_kept fM_goalOver fM_goalUnder fM_goalMax fM_different ++ (WQ hQ aQ kQ hw fQ_inside fQ_outside fQ_shut iQ_rows iQ_allRows iQ_columns ++ (WW nW hw lw kw wl wb wG))))) t.heap ∧ va_D (va_A (WG hG aG kG hM hO hQ hw iG_made iG_keptNeeds fG_kept fG_need fG_turn iG_columns ++ (WO hO aO kO hM hQ hw iO_answered iO_searched iO_searchedRelaxed iO_counted fO_countedCase gO_goalNumber gO_goalScale fO_start fO_column fO_chosen ++ (WM hM aM kM iM_stands iM_variables iM_rows iM_goals iM_differents iM_cases fM_from fM_to fM_whole fM_ways iM_plainRows fM_plainRow fM_kept fM_goalOver fM_goalUnder fM_goalMax fM_different ++ (WQ hQ aQ kQ hw fQ_inside fQ_outside fQ_shut iQ_rows iQ_allRows iQ_columns ++ (WW nW hw lw kw wl wb wG))))) sz) (WG hG aG kG hM hO hQ hw u iG_keptNeeds fG_kept fG_need fG_turn iG_columns ++ (WO hO aO kO hM hQ hw iO_answered iO_searched iO_searchedRelaxed iO_counted fO_countedCase gO_goalNumber gO_goalScale fO_start fO_column fO_chosen ++ (WM hM aM kM iM_stands iM_variables iM_rows iM_goals iM_differents iM_cases fM_from fM_to fM_whole fM_ways iM_plainRows fM_plainRow fM_kept fM_goalOver fM_goalUnder fM_goalMax fM_different ++ (WQ hQ aQ kQ hw fQ_inside fQ_outside fQ_shut iQ_rows iQ_allRows iQ_columns ++ (WW nW hw lw kw wl wb wG)))))) (va_A (WG hG aG kG hM hO hQ hw iG_made iG_keptNeeds fG_kept fG_need fG_turn iG_columns ++ (WO hO aO kO hM hQ hw iO_answered iO_searched iO_searchedRelaxed iO_counted fO_countedCase gO_goalNumber gO_goalScale fO_start fO_column fO_chosen ++ (WM hM aM kM iM_stands iM_variables iM_rows iM_goals iM_differents iM_cases fM_from fM_to fM_whole fM_ways iM_plainRows fM_plainRow fM_kept fM_goalOver fM_goalUnder fM_goalMax fM_different ++ (WQ hQ aQ kQ hw fQ_inside fQ_outside fQ_shut iQ_rows iQ_allRows iQ_columns ++ (WW nW hw lw kw wl wb wG))))) sz)) 0 0 (va_A (WG hG aG kG hM hO hQ hw iG_made iG_keptNeeds fG_kept fG_need fG_turn iG_columns ++ (WO hO aO kO hM hQ hw iO_answered iO_searched iO_searchedRelaxed iO_counted fO_countedCase gO_goalNumber gO_goalScale fO_start fO_column fO_chosen ++ (WM hM aM kM iM_stands iM_variables iM_rows iM_goals iM_differents iM_cases fM_from fM_to fM_whole fM_ways iM_plainRows fM_plainRow fM_kept fM_goalOver fM_goalUnder fM_goalMax fM_different ++ (WQ hQ aQ kQ hw fQ_inside fQ_outside fQ_shut iQ_rows iQ_allRows iQ_columns ++ (WW nW hw lw kw wl wb wG))))) sz) := by
  refine Met.ofW (cc := cX3_forget) (maxL := 1) (ret := none) (by decide) rfl ?_
  intro p e s m args below meth c s₁ B hml hv
  obtain ⟨rfl, hsz, hP, hK, hD0⟩ := hv
  have hx := B.exec
  have hb := B.bytes
  have hr := B.returns
  have hts := atoms_spec (ws := wsMX3_forget) B.pre
  have hown : s.vm.findClass RX3 = some m.cls := findClass_of_methodNamed B.named
  have hlocks := B.notSynchronized
  subst hsz
  have hD := hD0.self (sz := s.heap.size)
  generalize hAe : va_A (WG hG aG kG hM hO hQ hw iG_made iG_keptNeeds fG_kept fG_need fG_turn iG_columns ++ (WO hO aO kO hM hQ hw iO_answered iO_searched iO_searchedRelaxed iO_counted fO_countedCase gO_goalNumber gO_goalScale fO_start fO_column fO_chosen ++ (WM hM aM kM iM_stands iM_variables iM_rows iM_goals iM_differents iM_cases fM_from fM_to fM_whole fM_ways iM_plainRows fM_plainRow fM_kept fM_goalOver fM_goalUnder fM_goalMax fM_different ++ (WQ hQ aQ kQ hw fQ_inside fQ_outside fQ_shut iQ_rows iQ_allRows iQ_columns ++ (WW nW hw lw kw wl wb wG))))) s.heap.size = A at hD ⊢
  have hA : ∀ q : Nat, s.heap.size ≤ q → A q := fun q h => by rw [← hAe]; exact Or.inr h
  have hS : va_S A s.heap s.heap [] := va_S.rf
  have hl := lv_entry ([.ref (hG 0)]) (n := 1) (Nat.le_of_ble_eq_true rfl)
  rw [lg_entry_eq]
  generalize (lg_sl ([.ref (hG 0)]) ++ List.replicate (1 - (lg_sl ([.ref (hG 0)])).length) Slot.unset).toArray = ls at hl ⊢
  have hl : lv_has ls 1 [(0, .ref (hG 0))] := hl
  refine lv_aload_n hx hb dX3_forget_0 rfl (lv_at hl 0 rfl) ?_
  refine lv_iconst (v := 0) hx hb dX3_forget_1 (by decide) ?_
  refine va_put (D := (dC, dI)) (ci := 3) (v := .int 0) (ty := .boolean) (C := RX3) (T := TX3) (N := 17) hx hb hts iwsMX3_forget_in3 tyX3 tyX3_ok nmX3 hown hK hP hD hS 0 rfl rfl 3 (by decide) (hts (.fieldLink RX3 72 "OptimaWorks$Prover" "made" "Z") (by decide +kernel)) (fun _ h9 => h9) rfl (by decide +kernel) rfl rfl (Nat.le_of_ble_eq_true rfl) dX3_forget_2 (fun H locs hP hD hS => ?_)
  have hP : va_P (dC, dI) vwCl (WG hG aG kG hM hO hQ hw 0 iG_keptNeeds fG_kept fG_need fG_turn iG_columns ++ (WO hO aO kO hM hQ hw iO_answered iO_searched iO_searchedRelaxed iO_counted fO_countedCase gO_goalNumber gO_goalScale fO_start fO_column fO_chosen ++ (WM hM aM kM iM_stands iM_variables iM_rows iM_goals iM_differents iM_cases fM_from fM_to fM_whole fM_ways iM_plainRows fM_plainRow fM_kept fM_goalOver fM_goalUnder fM_goalMax fM_different ++ (WQ hQ aQ kQ hw fQ_inside fQ_outside fQ_shut iQ_rows iQ_allRows iQ_columns ++ (WW nW hw lw kw wl wb wG))))) H := hP
  have hD := fz_sd hP (hD) rfl
  refine W.widen (k := 0) (n := 0) (by decide +kernel) (by decide +kernel) ?_
  exact W.vret hx hb hr (fun t9_ ht hW => ⟨⟨0, rfl, (by (try dsimp only); exact (show 0 ≤ (0 : Int32).toInt ∧ (0 : Int32).toInt ≤ 1 from by decide)), by rw [ht]; exact hP, hD⟩, hS.F ht⟩) hS.2.2 dX3_forget_5
theorem dX3_takeColumn_0 : decode cX3_takeColumn 0 = .ok (.aload_n 0, 1) := dk_42 (by decide +kernel)
theorem dX3_takeColumn_1 : decode cX3_takeColumn 1 = .ok (.getfield 71, 3) := dk_180 (by decide +kernel)
theorem dX3_takeColumn_4 : decode cX3_takeColumn 4 = .ok (.iload_n 2, 1) := dk_28 (by decide +kernel)
theorem dX3_takeColumn_5 : decode cX3_takeColumn 5 = .ok (.invokevirtual 219, 3) := dk_182 (by decide +kernel)
theorem dX3_takeColumn_8 : decode cX3_takeColumn 8 = .ok (.istore_n 3, 1) := dk_62 (by decide +kernel)
theorem dX3_takeColumn_9 : decode cX3_takeColumn 9 = .ok (.iload_n 3, 1) := dk_29 (by decide +kernel)
theorem dX3_takeColumn_10 : decode cX3_takeColumn 10 = .ok (.iconst (-1), 1) := dk_2 (by decide +kernel)
theorem dX3_takeColumn_11 : decode cX3_takeColumn 11 = .ok (.if_icmp .ne 11, 3) := dk_160 (by decide +kernel)
theorem dX3_takeColumn_14 : decode cX3_takeColumn 14 = .ok (.aload_n 1, 1) := dk_43 (by decide +kernel)
theorem dX3_takeColumn_15 : decode cX3_takeColumn 15 = .ok (.lconst 0, 1) := dk_9 (by decide +kernel)
theorem dX3_takeColumn_16 : decode cX3_takeColumn 16 = .ok (.invokevirtual 128, 3) := dk_182 (by decide +kernel)
theorem dX3_takeColumn_19 : decode cX3_takeColumn 19 = .ok (.goto 16, 3) := dk_167 (by decide +kernel)
theorem dX3_takeColumn_22 : decode cX3_takeColumn 22 = .ok (.aload_n 1, 1) := dk_43 (by decide +kernel)
theorem dX3_takeColumn_23 : decode cX3_takeColumn 23 = .ok (.aload_n 0, 1) := dk_42 (by decide +kernel)
theorem dX3_takeColumn_24 : decode cX3_takeColumn 24 = .ok (.getfield 71, 3) := dk_180 (by decide +kernel)
theorem dX3_takeColumn_27 : decode cX3_takeColumn 27 = .ok (.iload_n 3, 1) := dk_29 (by decide +kernel)
theorem dX3_takeColumn_28 : decode cX3_takeColumn 28 = .ok (.iconst 0, 1) := dk_3 (by decide +kernel)
theorem dX3_takeColumn_29 : decode cX3_takeColumn 29 = .ok (.invokevirtual 140, 3) := dk_182 (by decide +kernel)
theorem dX3_takeColumn_32 : decode cX3_takeColumn 32 = .ok (.invokevirtual 152, 3) := dk_182 (by decide +kernel)
theorem dX3_takeColumn_35 : decode cX3_takeColumn 35 = .ok (.return_, 1) := dk_177 (by decide +kernel)
def wsMX3_takeColumn : List Cond := .code yX3_takeColumn cX3_takeColumn 4 none :: ([.fieldLink RX3 71 "OptimaWorks$Prover" "tableau" "LOptimaWorks$Tableau;"] ++ wsX30 ++ (wsV RX3 219 RX6 yX6_rowOf wsMX6_rowOf) ++ (wsV RX3 140 RX6 yX6_cellAt wsMX6_cellAt) ++ (wsV RX3 152 RX8 yX8_copy wsMX8_copy) ++ (wsV RX3 128 RX8 yX8_setLong wsMX8_setLong))
theorem iwsMX3_takeColumn_in3 : ∀ w ∈ wsX30, w ∈ wsMX3_takeColumn := fun _ h => List.mem_cons_of_mem _ (List.mem_append_left _ (List.mem_append_left _ (List.mem_append_left _ (List.mem_append_left _ (List.mem_append_right _ h)))))
theorem gwsMX3_takeColumn_0 : GoodIn wsMX3_takeColumn (wsV RX3 219 RX6 yX6_rowOf wsMX6_rowOf) := goodIn_sub (fun _ h => List.mem_cons_of_mem _ (List.mem_append_left _ (List.mem_append_left _ (List.mem_append_left _ (List.mem_append_right _ h))))) (gdV (by decide +kernel) gdwsMX6_rowOf)
theorem gwsMX3_takeColumn_1 : GoodIn wsMX3_takeColumn (wsV RX3 140 RX6 yX6_cellAt wsMX6_cellAt) := goodIn_sub (fun _ h => List.mem_cons_of_mem _ (List.mem_append_left _ (List.mem_append_left _ (List.mem_append_right _ h)))) (gdV (by decide +kernel) gdwsMX6_cellAt)
theorem gwsMX3_takeColumn_2 : GoodIn wsMX3_takeColumn (wsV RX3 152 RX8 yX8_copy wsMX8_copy) := goodIn_sub (fun _ h => List.mem_cons_of_mem _ (List.mem_append_left _ (List.mem_append_right _ h))) (gdV (by decide +kernel) gdwsMX8_copy)
theorem gwsMX3_takeColumn_3 : GoodIn wsMX3_takeColumn (wsV RX3 128 RX8 yX8_setLong wsMX8_setLong) := goodIn_sub (fun _ h => List.mem_cons_of_mem _ (List.mem_append_right _ h)) (gdV (by decide +kernel) gdwsMX8_setLong)
theorem gdwsMX3_takeColumn : wsMX3_takeColumn.all goodWord = true := gdC rfl (gdA (gdA (gdA (gdA (gdA (by decide +kernel : ([.fieldLink RX3 71 "OptimaWorks$Prover" "tableau" "LOptimaWorks$Tableau;"] : List Cond).all goodWord = true) gdwsX30) (gdV (by decide +kernel) gdwsMX6_rowOf)) (gdV (by decide +kernel) gdwsMX6_cellAt)) (gdV (by decide +kernel) gdwsMX8_copy)) (gdV (by decide +kernel) gdwsMX8_setLong))
theorem hm_m_X3_takeColumn_0 : (.fieldLink RX3 71 "OptimaWorks$Prover" "tableau" "LOptimaWorks$Tableau;" : Cond) ∈ wsMX3_takeColumn := by decide +kernel
set_option maxHeartbeats 4000000 in
set_option maxRecDepth 100000 in
/-- a column is taken -/
theorem m_X3_takeColumn (l : Launch) (dC : Nat → ClassId) (dI : Nat → Nat → Nat) (hG : Nat → Nat) (aG : Nat → Nat) (kG : Nat → ClassId) (hM : Nat → Nat) (hO : Nat → Nat) (hQ : Nat → Nat) (hw : Nat → Nat) (iG_made : Int32) (iG_keptNeeds : Int32) (fG_kept : Nat → Int32) (fG_need : Nat → Int32) (fG_turn : Nat → Int32) (iG_columns : Int32) (aO : Nat → Nat) (kO : Nat → ClassId) (iO_answered : Int32) (iO_searched : Int32) (iO_searchedRelaxed : Int32) (iO_counted : Int32) (fO_countedCase : Nat → Int32) (gO_goalNumber : Nat → Int64) (gO_goalScale : Nat → Int64) (fO_start : Nat → Int32) (fO_column : Nat → Int32) (fO_chosen : Nat → Int32) (aM : Nat → Nat) (kM : Nat → ClassId) (iM_stands : Int32) (iM_variables : Int32) (iM_rows : Int32) (iM_goals : Int32) (iM_differents : Int32) (iM_cases : Int32) (fM_from : Nat → Int32) (fM_to : Nat → Int32) (fM_whole : Nat → Int32) (fM_ways : Nat → Int32) (iM_plainRows : Int32) (fM_plainRow : Nat → Int32) (fM_kept : Nat → Int32) (fM_goalOver : Nat → Int32) (fM_goalUnder : Nat → Int32) (fM_goalMax : Nat → Int32) (fM_different : Nat → Int32) (aQ : Nat → Nat) (kQ : Nat → ClassId) (fQ_inside : Nat → Int32) (fQ_outside : Nat → Int32) (fQ_shut : Nat → Int32) (iQ_rows : Int32) (iQ_allRows : Int32) (iQ_columns : Int32) (nW : Nat) (lw : Nat → Nat) (kw : ClassId) (wl : Nat → Int32) (wb : Nat → Int32) (wG : Nat → Nat → Int64) (ka : Nat) (p2 : Int32) (b_iG_made : 0 ≤ iG_made.toInt ∧ iG_made.toInt ≤ 1) (b_fG_need : ∀ q : Nat, 0 ≤ (fG_need q).toInt ∧ (fG_need q).toInt ≤ 27) (b_iG_columns : 0 ≤ iG_columns.toInt ∧ iG_columns.toInt ≤ 40) (b_iO_answered : 0 ≤ iO_answered.toInt ∧ iO_answered.toInt ≤ 1) (b_iO_searched : 0 ≤ iO_searched.toInt ∧ iO_searched.toInt ≤ 1) (b_iO_searchedRelaxed : 0 ≤ iO_searchedRelaxed.toInt ∧ iO_searchedRelaxed.toInt ≤ 1) (b_iO_counted : (-1) ≤ iO_counted.toInt ∧ iO_counted.toInt ≤ 64) (b_fO_countedCase : ∀ q : Nat, 0 ≤ (fO_countedCase q).toInt ∧ (fO_countedCase q).toInt ≤ 200000) (b_fO_column : ∀ q : Nat, (-1) ≤ (fO_column q).toInt ∧ (fO_column q).toInt ≤ 8) (b_fO_chosen : ∀ q : Nat, 0 ≤ (fO_chosen q).toInt ∧ (fO_chosen q).toInt ≤ 2) (b_iM_stands : 0 ≤ iM_stands.toInt ∧ iM_stands.toInt ≤ 1) (b_iM_variables : 0 ≤ iM_variables.toInt ∧ iM_variables.toInt ≤ 8) (b_iM_rows : 0 ≤ iM_rows.toInt ∧ iM_rows.toInt ≤ 12) (b_iM_goals : 0 ≤ iM_goals.toInt ∧ iM_goals.toInt ≤ 3) (b_iM_differents : 0 ≤ iM_differents.toInt ∧ iM_differents.toInt ≤ 8) (b_iM_cases : 0 ≤ iM_cases.toInt ∧ iM_cases.toInt ≤ 200000) (b_fM_ways : ∀ q : Nat, 0 ≤ (fM_ways q).toInt ∧ (fM_ways q).toInt ≤ 3) (b_iM_plainRows : 0 ≤ iM_plainRows.toInt ∧ iM_plainRows.toInt ≤ 12) (b_fM_plainRow : ∀ q : Nat, 0 ≤ (fM_plainRow q).toInt ∧ (fM_plainRow q).toInt ≤ 11) (b_pr : iM_plainRows.toInt ≤ iM_rows.toInt) (b_iQ_rows : 0 ≤ iQ_rows.toInt ∧ iQ_rows.toInt ≤ 40) (b_iQ_allRows : 0 ≤ iQ_allRows.toInt ∧ iQ_allRows.toInt ≤ 40) (b_iQ_columns : 0 ≤ iQ_columns.toInt ∧ iQ_columns.toInt ≤ 40) (b_tb : TbO iQ_rows iQ_allRows iQ_columns) (b_wl : ∀ q : Nat, 0 ≤ (wl q).toInt ∧ (wl q).toInt ≤ 14) (b_wb : ∀ q : Nat, 0 ≤ (wb q).toInt ∧ (wb q).toInt ≤ 1) (hnW : 474 ≤ nW) (hka : ka < nW) (sz : Nat) : Met l yX3_takeColumn wsMX3_takeColumn ({ frames := 2, cells := 0, slots := 0, locals := 39 }) (va_Pc [.ref (hG 0), .ref (hw ka), .int p2] (fun U => U.heap.size = sz ∧ va_P (dC, dI) vwCl (WG hG aG kG hM hO hQ hw iG_made iG_keptNeeds fG_kept fG_need fG_turn iG_columns ++ (WO hO aO kO hM hQ hw iO_answered iO_searched iO_searchedRelaxed iO_counted fO_countedCase gO_goalNumber gO_goalScale fO_start fO_column fO_chosen ++ (WM hM aM kM iM_stands iM_variables iM_rows iM_goals iM_differents iM_cases fM_from fM_to fM_whole fM_ways iM_plainRows fM_plainRow fM_kept fM_goalOver fM_goalUnder fM_goalMax fM_different ++ (WQ hQ aQ kQ hw fQ_inside fQ_outside fQ_shut iQ_rows iQ_allRows iQ_columns ++ (WW nW hw lw kw wl wb wG))))) U.heap ∧ va_K (dC, dI) vwCl (tG kG ++ (tO kO ++ (tM kM ++ (tQ kQ ++ (tW kw))))) U ∧ va_D (fun _ => True) (WG hG aG kG hM hO hQ hw iG_made iG_keptNeeds fG_kept fG_need fG_turn iG_columns ++ (WO hO aO kO hM hQ hw iO_answered iO_searched iO_searchedRelaxed iO_counted fO_countedCase gO_goalNumber gO_goalScale fO_start fO_column fO_chosen ++ (WM hM aM kM iM_stands iM_variables iM_rows iM_goals iM_differents iM_cases fM_from fM_to fM_whole fM_ways iM_plainRows fM_plainRow fM_kept fM_goalOver fM_goalUnder fM_goalMax fM_different ++ (WQ hQ aQ kQ hw fQ_inside fQ_outside fQ_shut iQ_rows iQ_allRows iQ_columns ++ (WW nW hw lw kw wl wb wG))))))) (va_Qv (fun (u : (Nat → Int32) × (Nat → Int32) × (Nat → Nat → Int64)) => (∀ q : Nat, 0 ≤ ((u.1) q).toInt ∧ ((u.1) q).toInt ≤ 14) ∧ (∀ q : Nat, 0 ≤ ((u.2.1) q).toInt ∧ ((u.2.1) q).toInt ≤ 1)) (fun (u : (Nat → Int32) × (Nat → Int32) × (Nat → Nat → Int64)) t => va_P (dC, dI) vwCl (WG hG aG kG hM hO hQ hw iG_made iG_keptNeeds fG_kept fG_need fG_turn iG_columns ++ (WO hO aO kO hM hQ hw iO_answered iO_searched iO_searchedRelaxed iO_counted fO_countedCase gO_goalNumber gO_goalScale fO_start fO_column fO_chosen ++ (WM hM aM kM iM_stands iM_variables iM_rows iM_goals iM_differents iM_cases fM_from fM_to fM_whole fM_ways iM_plainRows fM_plainRow fM_kept fM_goalOver fM_goalUnder fM_goalMax fM_different ++ (WQ hQ aQ kQ hw fQ_inside fQ_outside fQ_shut iQ_rows iQ_allRows iQ_columns ++ (WW nW hw lw kw (u.1) (u.2.1) (u.2.2)))))) t.heap ∧ va_D (va_A (WG hG aG kG hM hO hQ hw iG_made iG_keptNeeds fG_kept fG_need fG_turn iG_columns ++ (WO hO aO kO hM hQ hw iO_answered iO_searched iO_searchedRelaxed iO_counted fO_countedCase gO_goalNumber gO_goalScale fO_start fO_column fO_chosen ++ (WM hM aM kM iM_stands iM_variables iM_rows iM_goals iM_differents iM_cases fM_from fM_to fM_whole fM_ways iM_plainRows fM_plainRow fM_kept fM_goalOver fM_goalUnder fM_goalMax fM_different ++ (WQ hQ aQ kQ hw fQ_inside fQ_outside fQ_shut iQ_rows iQ_allRows iQ_columns ++ (WW nW hw lw kw wl wb wG))))) sz) (WG hG aG kG hM hO hQ hw iG_made iG_keptNeeds fG_kept fG_need fG_turn iG_columns ++ (WO hO aO kO hM hQ hw iO_answered iO_searched iO_searchedRelaxed iO_counted fO_countedCase gO_goalNumber gO_goalScale fO_start fO_column fO_chosen ++ (WM hM aM kM iM_stands iM_variables iM_rows iM_goals iM_differents iM_cases fM_from fM_to fM_whole fM_ways iM_plainRows fM_plainRow fM_kept fM_goalOver fM_goalUnder fM_goalMax fM_different ++ (WQ hQ aQ kQ hw fQ_inside fQ_outside fQ_shut iQ_rows iQ_allRows iQ_columns ++ (WW nW hw lw kw (u.1) (u.2.1) (u.2.2))))))) (va_A (WG hG aG kG hM hO hQ hw iG_made iG_keptNeeds fG_kept fG_need fG_turn iG_columns ++ (WO hO aO kO hM hQ hw iO_answered iO_searched iO_searchedRelaxed iO_counted fO_countedCase gO_goalNumber gO_goalScale fO_start fO_column fO_chosen ++ (WM hM aM kM iM_stands iM_variables iM_rows iM_goals iM_differents iM_cases fM_from fM_to fM_whole fM_ways iM_plainRows fM_plainRow fM_kept fM_goalOver fM_goalUnder fM_goalMax fM_different ++ (WQ hQ aQ kQ hw fQ_inside fQ_outside fQ_shut iQ_rows iQ_allRows iQ_columns ++ (WW nW hw lw kw wl wb wG))))) sz)) 0 0 (va_A (WG hG aG kG hM hO hQ hw iG_made iG_keptNeeds fG_kept fG_need fG_turn iG_columns ++ (WO hO aO kO hM hQ hw iO_answered iO_searched iO_searchedRelaxed iO_counted fO_countedCase gO_goalNumber gO_goalScale fO_start fO_column fO_chosen ++ (WM hM aM kM iM_stands iM_variables iM_rows iM_goals iM_differents iM_cases fM_from fM_to fM_whole fM_ways iM_plainRows fM_plainRow fM_kept fM_goalOver fM_goalUnder fM_goalMax fM_different ++ (WQ hQ aQ kQ hw fQ_inside fQ_outside fQ_shut iQ_rows iQ_allRows iQ_columns ++ (WW nW hw lw kw wl wb wG))))) sz) := by
  refine Met.ofW (cc := cX3_takeColumn) (maxL := 4) (ret := none) (by decide) rfl ?_
  intro p e s m args below meth c s₁ B hml hv
  obtain ⟨rfl, hsz, hP, hK, hD0⟩ := hv
  have hx := B.exec
  have hb := B.bytes
  have hr := B.returns
  have hts := atoms_spec (ws := wsMX3_takeColumn) B.pre
  have hown : s.vm.findClass RX3 = some m.cls := findClass_of_methodNamed B.named
  have hlocks := B.notSynchronized
  subst hsz
  have hD := hD0.self (sz := s.heap.size)
  generalize hAe : va_A (WG hG aG kG hM hO hQ hw iG_made iG_keptNeeds fG_kept fG_need fG_turn iG_columns ++ (WO hO aO kO hM hQ hw iO_answered iO_searched iO_searchedRelaxed iO_counted fO_countedCase gO_goalNumber gO_goalScale fO_start fO_column fO_chosen ++ (WM hM aM kM iM_stands iM_variables iM_rows iM_goals iM_differents iM_cases fM_from fM_to fM_whole fM_ways iM_plainRows fM_plainRow fM_kept fM_goalOver fM_goalUnder fM_goalMax fM_different ++ (WQ hQ aQ kQ hw fQ_inside fQ_outside fQ_shut iQ_rows iQ_allRows iQ_columns ++ (WW nW hw lw kw wl wb wG))))) s.heap.size = A at hD ⊢
  have hA : ∀ q : Nat, s.heap.size ≤ q → A q := fun q h => by rw [← hAe]; exact Or.inr h
  have hS : va_S A s.heap s.heap [] := va_S.rf
  have hl := lv_entry ([.ref (hG 0), .ref (hw ka), .int p2]) (n := 4) (Nat.le_of_ble_eq_true rfl)
  rw [lg_entry_eq]
  generalize (lg_sl ([.ref (hG 0), .ref (hw ka), .int p2]) ++ List.replicate (4 - (lg_sl ([.ref (hG 0), .ref (hw ka), .int p2])).length) Slot.unset).toArray = ls at hl ⊢
  have hl : lv_has ls 4 [(0, .ref (hG 0)), (1, .ref (hw ka)), (2, .int p2)] := hl
  refine lv_aload_n hx hb dX3_takeColumn_0 rfl (lv_at hl 0 rfl) ?_
  refine va_get (D := (dC, dI)) (ci := 3) (v := .ref (hQ 0)) (C := RX3) (T := TX3) (N := 17) hx hb hts iwsMX3_takeColumn_in3 hown hK hP 0 rfl rfl 2 (by decide) (hts _ hm_m_X3_takeColumn_0) (fun _ h9 => h9) rfl dX3_takeColumn_1 ?_
  refine lv_iload_n hx hb dX3_takeColumn_4 rfl (lv_at hl 2 rfl) ?_
  have p9 := cj_5_3_4 (WG hG aG kG hM hO hQ hw iG_made iG_keptNeeds fG_kept fG_need fG_turn iG_columns) (WO hO aO kO hM hQ hw iO_answered iO_searched iO_searchedRelaxed iO_counted fO_countedCase gO_goalNumber gO_goalScale fO_start fO_column fO_chosen) (WM hM aM kM iM_stands iM_variables iM_rows iM_goals iM_differents iM_cases fM_from fM_to fM_whole fM_ways iM_plainRows fM_plainRow fM_kept fM_goalOver fM_goalUnder fM_goalMax fM_different) (WQ hQ aQ kQ hw fQ_inside fQ_outside fQ_shut iQ_rows iQ_allRows iQ_columns) (WW nW hw lw kw wl wb wG)
  have hPc := hP.mem (fun q h => p9.mem_iff.mpr (List.mem_append_left _ h))
  have hDc := (hD.perm p9).left
  have hKc : va_K (dC, dI) vwCl (tQ kQ ++ (tW kw)) _ := hK.sub [25, 26, 27, 28, 29] rfl
  have hFc := freeG p9 hD hS hA
  refine va_calli (va_runV (As := [.int p2]) (rest := []) ⟨hx, hb, hml, hown, hts⟩ (m_X6_rowOf l dC dI hQ aQ kQ hw fQ_inside fQ_outside fQ_shut iQ_rows iQ_allRows iQ_columns nW lw kw wl wb wG p2 (b_iQ_rows) (b_iQ_allRows) (b_iQ_columns) (by first | with_reducible assumption | omega | assumption) b_wl b_wb (by omega) s.heap.size) (cwV 1 hts gwsMX3_takeColumn_0 rfl rfl rfl hd_yX6_rowOf_RX6 (by decide +kernel)) (fz_pre (va_recv hK hP (ci := 6) (q0 := 28) rfl rfl) hPc hKc hDc) rfl rfl hl.1 rfl (lv_room (Nat.le_of_ble_eq_true rfl)) dX3_takeColumn_5 (by decide +kernel)) hS (fun q _ h => hFc q h) hFc (fun r1 u t9_ H locs ht hvm hw9 hB9 hz1 hk1 hS => ?_)
  revert hw9
  refine fz_a2 ?_
  intro b_r1 f1_0
  have p8 := p9
  obtain ⟨hP, hD⟩ := frameG p9 p8 hP hD hk1 hFc (fz_P ht hB9.1) hB9.2
  refine lv_istore_n hx hb dX3_takeColumn_8 rfl hl (by decide) rfl (fun ls (hl : lv_has ls _ ([(3, .int r1), (0, .ref (hG 0)), (1, .ref (hw ka)), (2, .int p2)])) => ?_)
  refine lv_iload_n hx hb dX3_takeColumn_9 rfl (lv_at hl 0 rfl) ?_
  refine lv_iconst (v := (-1)) hx hb dX3_takeColumn_10 (by decide) ?_
  refine W.cut (pc := 35) (fun H locs ls stk => ∃ (wl_j2 : Nat → Int32) (wb_j2 : Nat → Int32) (wG_j2 : Nat → Nat → Int64), (∀ q : Nat, 0 ≤ (wl_j2 q).toInt ∧ (wl_j2 q).toInt ≤ 14) ∧ (∀ q : Nat, 0 ≤ (wb_j2 q).toInt ∧ (wb_j2 q).toInt ≤ 1) ∧  stk = [] ∧ va_P (dC, dI) vwCl (WG hG aG kG hM hO hQ hw iG_made iG_keptNeeds fG_kept fG_need fG_turn iG_columns ++ (WO hO aO kO hM hQ hw iO_answered iO_searched iO_searchedRelaxed iO_counted fO_countedCase gO_goalNumber gO_goalScale fO_start fO_column fO_chosen ++ (WM hM aM kM iM_stands iM_variables iM_rows iM_goals iM_differents iM_cases fM_from fM_to fM_whole fM_ways iM_plainRows fM_plainRow fM_kept fM_goalOver fM_goalUnder fM_goalMax fM_different ++ (WQ hQ aQ kQ hw fQ_inside fQ_outside fQ_shut iQ_rows iQ_allRows iQ_columns ++ (WW nW hw lw kw wl_j2 wb_j2 wG_j2))))) H ∧ va_D A (WG hG aG kG hM hO hQ hw iG_made iG_keptNeeds fG_kept fG_need fG_turn iG_columns ++ (WO hO aO kO hM hQ hw iO_answered iO_searched iO_searchedRelaxed iO_counted fO_countedCase gO_goalNumber gO_goalScale fO_start fO_column fO_chosen ++ (WM hM aM kM iM_stands iM_variables iM_rows iM_goals iM_differents iM_cases fM_from fM_to fM_whole fM_ways iM_plainRows fM_plainRow fM_kept fM_goalOver fM_goalUnder fM_goalMax fM_different ++ (WQ hQ aQ kQ hw fQ_inside fQ_outside fQ_shut iQ_rows iQ_allRows iQ_columns ++ (WW nW hw lw kw wl_j2 wb_j2 wG_j2))))) ∧ va_S A s.heap H locs ∧ lv_has ls 4 [(3, .int r1), (0, .ref (hG 0)), (1, .ref (hw ka)), (2, .int p2)]) (fun join2 => ?_) ?_
  · refine lv_icmp_ne (tgt := 22) hx hb dX3_takeColumn_11 (by decide) (fun c_11 => ?_) (fun c_11 => ?_)
    · have t_11 : r1.toInt ≠ (-1) := toI_ne c_11 rfl (by decide : ((-1) : Int32).toInt = (-1))
      refine lv_aload_n hx hb dX3_takeColumn_22 rfl (lv_at hl 2 rfl) ?_
      refine lv_aload_n hx hb dX3_takeColumn_23 rfl (lv_at hl 1 rfl) ?_
      refine va_get (D := (dC, dI)) (ci := 3) (v := .ref (hQ 0)) (C := RX3) (T := TX3) (N := 17) hx hb hts iwsMX3_takeColumn_in3 hown hK hP 0 rfl rfl 2 (by decide) (hts _ hm_m_X3_takeColumn_0) (fun _ h9 => h9) rfl dX3_takeColumn_24 ?_
      refine lv_iload_n hx hb dX3_takeColumn_27 rfl (lv_at hl 0 rfl) ?_
      refine lv_iconst (v := 0) hx hb dX3_takeColumn_28 (by decide) ?_
      have p9 := cj_5_3_4 (WG hG aG kG hM hO hQ hw iG_made iG_keptNeeds fG_kept fG_need fG_turn iG_columns) (WO hO aO kO hM hQ hw iO_answered iO_searched iO_searchedRelaxed iO_counted fO_countedCase gO_goalNumber gO_goalScale fO_start fO_column fO_chosen) (WM hM aM kM iM_stands iM_variables iM_rows iM_goals iM_differents iM_cases fM_from fM_to fM_whole fM_ways iM_plainRows fM_plainRow fM_kept fM_goalOver fM_goalUnder fM_goalMax fM_different) (WQ hQ aQ kQ hw fQ_inside fQ_outside fQ_shut iQ_rows iQ_allRows iQ_columns) (WW nW hw lw kw wl wb wG)
      have hPc := hP.mem (fun q h => p9.mem_iff.mpr (List.mem_append_left _ h))
      have hDc := (hD.perm p9).left
      have hKc : va_K (dC, dI) vwCl (tQ kQ ++ (tW kw)) _ := hK.sub [25, 26, 27, 28, 29] rfl
      have hFc := freeG p9 hD hS hA
      refine va_callr (va_runV (As := [.int r1, .int 0]) (rest := [.ref (hw ka)]) ⟨hx, hb, hml, hown, hts⟩ (m_X6_cellAt l dC dI hQ aQ kQ hw fQ_inside fQ_outside fQ_shut iQ_rows iQ_allRows iQ_columns nW lw kw wl wb wG r1 0 (b_iQ_rows) (b_iQ_allRows) (b_iQ_columns) (by first | with_reducible assumption | omega | assumption) b_wl b_wb (by first | exact b_r1 | with_reducible assumption | exact ⟨by omega, by omega⟩ | assumption) (show 0 ≤ (0 : Int32).toInt ∧ (0 : Int32).toInt ≤ 40 from by decide) (by omega) (cell_ix0 b_tb (by omega) (by have h9 := b_tb.1; omega) (by omega)) H.size) (cwV 2 hts gwsMX3_takeColumn_1 rfl rfl rfl hd_yX6_cellAt_RX6 (by decide +kernel)) (fz_pre (va_recv hK hP (ci := 6) (q0 := 28) rfl rfl) hPc hKc hDc) rfl rfl hl.1 rfl (lv_room (Nat.le_of_ble_eq_true rfl)) dX3_takeColumn_29 (by decide +kernel)) hS (fun q _ h => hFc q h) hFc (fun kR_5 ra5 t9_ H locs ht hvm hw9 hB9 hz1 hk1 hS => ?_)
      revert hB9
      refine fz_a2 ?_
      intro hra hB9
      subst hra
      have f5_0 := hw9
      try dsimp only at f5_0
      have p8 := p9
      obtain ⟨hP, hD⟩ := frameG p9 p8 hP hD hk1 hFc (fz_P ht hB9.1) hB9.2
      have p9 := cj_5_4 (WG hG aG kG hM hO hQ hw iG_made iG_keptNeeds fG_kept fG_need fG_turn iG_columns) (WO hO aO kO hM hQ hw iO_answered iO_searched iO_searchedRelaxed iO_counted fO_countedCase gO_goalNumber gO_goalScale fO_start fO_column fO_chosen) (WM hM aM kM iM_stands iM_variables iM_rows iM_goals iM_differents iM_cases fM_from fM_to fM_whole fM_ways iM_plainRows fM_plainRow fM_kept fM_goalOver fM_goalUnder fM_goalMax fM_different) (WQ hQ aQ kQ hw fQ_inside fQ_outside fQ_shut iQ_rows iQ_allRows iQ_columns) (WW nW hw lw kw wl wb wG)
      have hPc := hP.mem (fun q h => p9.mem_iff.mpr (List.mem_append_left _ h))
      have hDc := (hD.perm p9).left
      have hKc : va_K (dC, dI) vwCl (tW kw) _ := hK.sub [29] rfl
      have hFc := freeG p9 hD hS hA
      refine va_callv (va_runV (As := [.ref (hw kR_5)]) (rest := []) ⟨hx, hb, hml, hown, hts⟩ (m_X8_copy l dC dI nW hw lw kw wl wb wG ka kR_5 b_wl b_wb (by first | with_reducible assumption | omega | (rw [iI_t (by omega) (by omega)]; omega) | decide | assumption) (by first | with_reducible assumption | omega | (rw [iI_t (by omega) (by omega)]; omega) | decide | assumption) H.size) (cwV 1 hts gwsMX3_takeColumn_2 rfl rfl rfl hd_yX8_copy_RX8 (by decide +kernel)) (fz_pre (va_recv hK hP (ci := 8) (q0 := 6 + (11 + (11 + (5 + (ka))))) rfl (apR rfl (apR rfl (apR rfl (apR rfl (WW_o (by omega))))))) hPc hKc hDc) rfl rfl hl.1 rfl (lv_room (Nat.le_of_ble_eq_true rfl)) dX3_takeColumn_32 (by decide +kernel)) hS (fun q _ h => hFc q h) hFc (fun u t9_ H locs ht hvm hw9 hB9 hz1 hk1 hS => ?_)
      revert u hw9 hB9
      refine fz_p3 ?_
      intro wl_6 wb_6 wG_6 hw9 hB9
      try dsimp only at hw9 hB9
      revert hw9
      refine fz_a2 ?_
      intro b_wl_6 b_wb_6
      have p8 := cj_5_4 (WG hG aG kG hM hO hQ hw iG_made iG_keptNeeds fG_kept fG_need fG_turn iG_columns) (WO hO aO kO hM hQ hw iO_answered iO_searched iO_searchedRelaxed iO_counted fO_countedCase gO_goalNumber gO_goalScale fO_start fO_column fO_chosen) (WM hM aM kM iM_stands iM_variables iM_rows iM_goals iM_differents iM_cases fM_from fM_to fM_whole fM_ways iM_plainRows fM_plainRow fM_kept fM_goalOver fM_goalUnder fM_goalMax fM_different) (WQ hQ aQ kQ hw fQ_inside fQ_outside fQ_shut iQ_rows iQ_allRows iQ_columns) (WW nW hw lw kw wl_6 wb_6 wG_6)
      obtain ⟨hP, hD⟩ := frameG p9 p8 hP hD hk1 hFc (fz_P ht hB9.1) hB9.2
      have hl : lv_has _ _ ([(3, .int r1), (0, .ref (hG 0)), (1, .ref (hw ka)), (2, .int p2)]) := lv_sub hl [0, 1, 2, 3] rfl
      exact join2 _ _ _ _ ⟨wl_6, wb_6, wG_6, b_wl_6, b_wb_6, rfl, hP, hD, hS, hl⟩
    · have t_11 : r1.toInt = (-1) := toI_nne c_11 rfl (by decide : ((-1) : Int32).toInt = (-1))
      refine lv_aload_n hx hb dX3_takeColumn_14 rfl (lv_at hl 2 rfl) ?_
      refine lv_lconst (v := 0) hx hb dX3_takeColumn_15 (by decide) ?_
      have p9 := cj_5_4 (WG hG aG kG hM hO hQ hw iG_made iG_keptNeeds fG_kept fG_need fG_turn iG_columns) (WO hO aO kO hM hQ hw iO_answered iO_searched iO_searchedRelaxed iO_counted fO_countedCase gO_goalNumber gO_goalScale fO_start fO_column fO_chosen) (WM hM aM kM iM_stands iM_variables iM_rows iM_goals iM_differents iM_cases fM_from fM_to fM_whole fM_ways iM_plainRows fM_plainRow fM_kept fM_goalOver fM_goalUnder fM_goalMax fM_different) (WQ hQ aQ kQ hw fQ_inside fQ_outside fQ_shut iQ_rows iQ_allRows iQ_columns) (WW nW hw lw kw wl wb wG)
      have hPc := hP.mem (fun q h => p9.mem_iff.mpr (List.mem_append_left _ h))
      have hDc := (hD.perm p9).left
      have hKc : va_K (dC, dI) vwCl (tW kw) _ := hK.sub [29] rfl
      have hFc := freeG p9 hD hS hA
      refine va_callv (va_runV (As := [.long 0]) (rest := []) ⟨hx, hb, hml, hown, hts⟩ (m_X8_setLong l dC dI nW hw lw kw wl wb wG ka 0 b_wl b_wb (by first | with_reducible assumption | omega | (rw [iI_t (by omega) (by omega)]; omega) | decide | assumption) H.size) (cwV 1 hts gwsMX3_takeColumn_3 rfl rfl rfl hd_yX8_setLong_RX8 (by decide +kernel)) (fz_pre (va_recv hK hP (ci := 8) (q0 := 6 + (11 + (11 + (5 + (ka))))) rfl (apR rfl (apR rfl (apR rfl (apR rfl (WW_o (by omega))))))) hPc hKc hDc) rfl rfl hl.1 rfl (lv_room (Nat.le_of_ble_eq_true rfl)) dX3_takeColumn_16 (by decide +kernel)) hS (fun q _ h => hFc q h) hFc (fun u t9_ H locs ht hvm hw9 hB9 hz1 hk1 hS => ?_)
      revert u hw9 hB9
      refine fz_p3 ?_
      intro wl_7 wb_7 wG_7 hw9 hB9
      try dsimp only at hw9 hB9
      revert hw9
      refine fz_a2 ?_
      intro b_wl_7 b_wb_7
      have p8 := cj_5_4 (WG hG aG kG hM hO hQ hw iG_made iG_keptNeeds fG_kept fG_need fG_turn iG_columns) (WO hO aO kO hM hQ hw iO_answered iO_searched iO_searchedRelaxed iO_counted fO_countedCase gO_goalNumber gO_goalScale fO_start fO_column fO_chosen) (WM hM aM kM iM_stands iM_variables iM_rows iM_goals iM_differents iM_cases fM_from fM_to fM_whole fM_ways iM_plainRows fM_plainRow fM_kept fM_goalOver fM_goalUnder fM_goalMax fM_different) (WQ hQ aQ kQ hw fQ_inside fQ_outside fQ_shut iQ_rows iQ_allRows iQ_columns) (WW nW hw lw kw wl_7 wb_7 wG_7)
      obtain ⟨hP, hD⟩ := frameG p9 p8 hP hD hk1 hFc (fz_P ht hB9.1) hB9.2
      refine lv_goto (tgt := 35) hx hb dX3_takeColumn_19 (by decide) ?_
      have hl : lv_has _ _ ([(3, .int r1), (0, .ref (hG 0)), (1, .ref (hw ka)), (2, .int p2)]) := lv_sub hl [0, 1, 2, 3] rfl
      exact join2 _ _ _ _ ⟨wl_7, wb_7, wG_7, b_wl_7, b_wb_7, rfl, hP, hD, hS, hl⟩
  · rintro H locs ls stk ⟨wl_j2, wb_j2, wG_j2, b_wl_j2, b_wb_j2, rfl, hP, hD, hS, hl⟩
    refine W.widen (k := 0) (n := 0) (by decide +kernel) (by decide +kernel) ?_
    exact W.vret hx hb hr (fun t9_ ht hW => ⟨⟨(wl_j2, wb_j2, wG_j2), rfl, ⟨b_wl_j2, b_wb_j2⟩, by rw [ht]; exact hP, hD⟩, hS.F ht⟩) hS.2.2 dX3_takeColumn_35
theorem dX3_layNeed_0 : decode cX3_layNeed 0 = .ok (.iload_n 3, 1) := dk_29 (by decide +kernel)
theorem dX3_layNeed_1 : decode cX3_layNeed 1 = .ok (.ineg, 1) := dk_116 (by decide +kernel)
theorem dX3_layNeed_2 : decode cX3_layNeed 2 = .ok (.aload_n 0, 1) := dk_42 (by decide +kernel)
theorem dX3_layNeed_3 : decode cX3_layNeed 3 = .ok (.getfield 59, 3) := dk_180 (by decide +kernel)
theorem dX3_layNeed_6 : decode cX3_layNeed 6 = .ok (.iload_n 2, 1) := dk_28 (by decide +kernel)
theorem dX3_layNeed_7 : decode cX3_layNeed 7 = .ok (.invokevirtual 213, 3) := dk_182 (by decide +kernel)
theorem dX3_layNeed_10 : decode cX3_layNeed 10 = .ok (.imul, 1) := dk_104 (by decide +kernel)
theorem dX3_layNeed_11 : decode cX3_layNeed 11 = .ok (.istore 4, 2) := dk_54 (by decide +kernel)
theorem dX3_layNeed_13 : decode cX3_layNeed 13 = .ok (.iconst 1, 1) := dk_4 (by decide +kernel)
theorem dX3_layNeed_14 : decode cX3_layNeed 14 = .ok (.istore 5, 2) := dk_54 (by decide +kernel)
theorem dX3_layNeed_16 : decode cX3_layNeed 16 = .ok (.iconst 0, 1) := dk_3 (by decide +kernel)
theorem dX3_layNeed_17 : decode cX3_layNeed 17 = .ok (.istore 6, 2) := dk_54 (by decide +kernel)
theorem dX3_layNeed_19 : decode cX3_layNeed 19 = .ok (.iload 6, 2) := dk_21 (by decide +kernel)
theorem dX3_layNeed_21 : decode cX3_layNeed 21 = .ok (.aload_n 0, 1) := dk_42 (by decide +kernel)
theorem dX3_layNeed_22 : decode cX3_layNeed 22 = .ok (.getfield 59, 3) := dk_180 (by decide +kernel)
theorem dX3_layNeed_25 : decode cX3_layNeed 25 = .ok (.getfield 173, 3) := dk_180 (by decide +kernel)
theorem dX3_layNeed_28 : decode cX3_layNeed 28 = .ok (.if_icmp .ge 66, 3) := dk_162 (by decide +kernel)
theorem dX3_layNeed_31 : decode cX3_layNeed 31 = .ok (.iload_n 3, 1) := dk_29 (by decide +kernel)
theorem dX3_layNeed_32 : decode cX3_layNeed 32 = .ok (.aload_n 0, 1) := dk_42 (by decide +kernel)
theorem dX3_layNeed_33 : decode cX3_layNeed 33 = .ok (.getfield 59, 3) := dk_180 (by decide +kernel)
theorem dX3_layNeed_36 : decode cX3_layNeed 36 = .ok (.iload_n 2, 1) := dk_28 (by decide +kernel)
theorem dX3_layNeed_37 : decode cX3_layNeed 37 = .ok (.iload 6, 2) := dk_21 (by decide +kernel)
theorem dX3_layNeed_39 : decode cX3_layNeed 39 = .ok (.invokevirtual 216, 3) := dk_182 (by decide +kernel)
theorem dX3_layNeed_42 : decode cX3_layNeed 42 = .ok (.imul, 1) := dk_104 (by decide +kernel)
theorem dX3_layNeed_43 : decode cX3_layNeed 43 = .ok (.istore 7, 2) := dk_54 (by decide +kernel)
theorem dX3_layNeed_45 : decode cX3_layNeed 45 = .ok (.aload_n 0, 1) := dk_42 (by decide +kernel)
theorem dX3_layNeed_46 : decode cX3_layNeed 46 = .ok (.getfield 71, 3) := dk_180 (by decide +kernel)
theorem dX3_layNeed_49 : decode cX3_layNeed 49 = .ok (.iload_n 1, 1) := dk_27 (by decide +kernel)
theorem dX3_layNeed_50 : decode cX3_layNeed 50 = .ok (.iload 6, 2) := dk_21 (by decide +kernel)
theorem dX3_layNeed_52 : decode cX3_layNeed 52 = .ok (.iconst 1, 1) := dk_4 (by decide +kernel)
theorem dX3_layNeed_53 : decode cX3_layNeed 53 = .ok (.iadd, 1) := dk_96 (by decide +kernel)
theorem dX3_layNeed_54 : decode cX3_layNeed 54 = .ok (.invokevirtual 140, 3) := dk_182 (by decide +kernel)
theorem dX3_layNeed_57 : decode cX3_layNeed 57 = .ok (.iload 7, 2) := dk_21 (by decide +kernel)
theorem dX3_layNeed_59 : decode cX3_layNeed 59 = .ok (.i2l, 1) := dk_133 (by decide +kernel)
theorem dX3_layNeed_60 : decode cX3_layNeed 60 = .ok (.invokevirtual 128, 3) := dk_182 (by decide +kernel)
theorem dX3_layNeed_63 : decode cX3_layNeed 63 = .ok (.iload 4, 2) := dk_21 (by decide +kernel)
theorem dX3_layNeed_65 : decode cX3_layNeed 65 = .ok (.iload 7, 2) := dk_21 (by decide +kernel)
theorem dX3_layNeed_67 : decode cX3_layNeed 67 = .ok (.aload_n 0, 1) := dk_42 (by decide +kernel)
theorem dX3_layNeed_68 : decode cX3_layNeed 68 = .ok (.getfield 59, 3) := dk_180 (by decide +kernel)
theorem dX3_layNeed_71 : decode cX3_layNeed 71 = .ok (.getfield 204, 3) := dk_180 (by decide +kernel)
theorem dX3_layNeed_74 : decode cX3_layNeed 74 = .ok (.iload 6, 2) := dk_21 (by decide +kernel)
theorem dX3_layNeed_76 : decode cX3_layNeed 76 = .ok (.iaload, 1) := dk_46 (by decide +kernel)
theorem dX3_layNeed_77 : decode cX3_layNeed 77 = .ok (.imul, 1) := dk_104 (by decide +kernel)
theorem dX3_layNeed_78 : decode cX3_layNeed 78 = .ok (.iadd, 1) := dk_96 (by decide +kernel)
theorem dX3_layNeed_79 : decode cX3_layNeed 79 = .ok (.istore 4, 2) := dk_54 (by decide +kernel)
theorem dX3_layNeed_81 : decode cX3_layNeed 81 = .ok (.iload 5, 2) := dk_21 (by decide +kernel)
theorem dX3_layNeed_83 : decode cX3_layNeed 83 = .ok (.iload 7, 2) := dk_21 (by decide +kernel)
theorem dX3_layNeed_85 : decode cX3_layNeed 85 = .ok (.isub, 1) := dk_100 (by decide +kernel)
theorem dX3_layNeed_86 : decode cX3_layNeed 86 = .ok (.istore 5, 2) := dk_54 (by decide +kernel)
theorem dX3_layNeed_88 : decode cX3_layNeed 88 = .ok (.iinc 6 1, 3) := dk_132 (by decide +kernel)
theorem dX3_layNeed_91 : decode cX3_layNeed 91 = .ok (.goto (-72), 3) := dk_167 (by decide +kernel)
theorem dX3_layNeed_94 : decode cX3_layNeed 94 = .ok (.aload_n 0, 1) := dk_42 (by decide +kernel)
theorem dX3_layNeed_95 : decode cX3_layNeed 95 = .ok (.getfield 71, 3) := dk_180 (by decide +kernel)
theorem dX3_layNeed_98 : decode cX3_layNeed 98 = .ok (.iload_n 1, 1) := dk_27 (by decide +kernel)
theorem dX3_layNeed_99 : decode cX3_layNeed 99 = .ok (.iconst 0, 1) := dk_3 (by decide +kernel)
theorem dX3_layNeed_100 : decode cX3_layNeed 100 = .ok (.invokevirtual 140, 3) := dk_182 (by decide +kernel)
theorem dX3_layNeed_103 : decode cX3_layNeed 103 = .ok (.iload 4, 2) := dk_21 (by decide +kernel)
theorem dX3_layNeed_105 : decode cX3_layNeed 105 = .ok (.i2l, 1) := dk_133 (by decide +kernel)
theorem dX3_layNeed_106 : decode cX3_layNeed 106 = .ok (.invokevirtual 128, 3) := dk_182 (by decide +kernel)
theorem dX3_layNeed_109 : decode cX3_layNeed 109 = .ok (.aload_n 0, 1) := dk_42 (by decide +kernel)
theorem dX3_layNeed_110 : decode cX3_layNeed 110 = .ok (.getfield 71, 3) := dk_180 (by decide +kernel)
theorem dX3_layNeed_113 : decode cX3_layNeed 113 = .ok (.iload_n 1, 1) := dk_27 (by decide +kernel)
theorem dX3_layNeed_114 : decode cX3_layNeed 114 = .ok (.aload_n 0, 1) := dk_42 (by decide +kernel)
theorem dX3_layNeed_115 : decode cX3_layNeed 115 = .ok (.getfield 59, 3) := dk_180 (by decide +kernel)
theorem dX3_layNeed_118 : decode cX3_layNeed 118 = .ok (.getfield 173, 3) := dk_180 (by decide +kernel)
theorem dX3_layNeed_121 : decode cX3_layNeed 121 = .ok (.iconst 1, 1) := dk_4 (by decide +kernel)
theorem dX3_layNeed_122 : decode cX3_layNeed 122 = .ok (.iadd, 1) := dk_96 (by decide +kernel)
theorem dX3_layNeed_123 : decode cX3_layNeed 123 = .ok (.invokevirtual 140, 3) := dk_182 (by decide +kernel)
theorem dX3_layNeed_126 : decode cX3_layNeed 126 = .ok (.iload 5, 2) := dk_21 (by decide +kernel)
theorem dX3_layNeed_128 : decode cX3_layNeed 128 = .ok (.i2l, 1) := dk_133 (by decide +kernel)
theorem dX3_layNeed_129 : decode cX3_layNeed 129 = .ok (.invokevirtual 128, 3) := dk_182 (by decide +kernel)
theorem dX3_layNeed_132 : decode cX3_layNeed 132 = .ok (.return_, 1) := dk_177 (by decide +kernel)
def wsMX3_layNeed : List Cond := .code yX3_layNeed cX3_layNeed 8 none :: ([.fieldLink RX3 59 "OptimaWorks$Prover" "model" "LOptimaWorks$Model;", .fieldLink RX3 173 "OptimaWorks$Model" "variables" "I", .fieldLink RX3 71 "OptimaWorks$Prover" "tableau" "LOptimaWorks$Tableau;", .fieldLink RX3 204 "OptimaWorks$Model" "from" "[I"] ++ wsX10 ++ wsX30 ++ (wsV RX3 213 RX1 yX1_needBound wsMX1_needBound) ++ (wsV RX3 216 RX1 yX1_needNumber wsMX1_needNumber) ++ (wsV RX3 140 RX6 yX6_cellAt wsMX6_cellAt) ++ (wsV RX3 128 RX8 yX8_setLong wsMX8_setLong))
theorem iwsMX3_layNeed_in1 : ∀ w ∈ wsX10, w ∈ wsMX3_layNeed := fun _ h => List.mem_cons_of_mem _ (List.mem_append_left _ (List.mem_append_left _ (List.mem_append_left _ (List.mem_append_left _ (List.mem_append_left _ (List.mem_append_right _ h))))))
theorem iwsMX3_layNeed_in3 : ∀ w ∈ wsX30, w ∈ wsMX3_layNeed := fun _ h => List.mem_cons_of_mem _ (List.mem_append_left _ (List.mem_append_left _ (List.mem_append_left _ (List.mem_append_left _ (List.mem_append_right _ h)))))
theorem gwsMX3_layNeed_0 : GoodIn wsMX3_layNeed (wsV RX3 213 RX1 yX1_needBound wsMX1_needBound) := goodIn_sub (fun _ h => List.mem_cons_of_mem _ (List.mem_append_left _ (List.mem_append_left _ (List.mem_append_left _ (List.mem_append_right _ h))))) (gdV (by decide +kernel) gdwsMX1_needBound)
theorem gwsMX3_layNeed_1 : GoodIn wsMX3_layNeed (wsV RX3 216 RX1 yX1_needNumber wsMX1_needNumber) := goodIn_sub (fun _ h => List.mem_cons_of_mem _ (List.mem_append_left _ (List.mem_append_left _ (List.mem_append_right _ h)))) (gdV (by decide +kernel) gdwsMX1_needNumber)
theorem gwsMX3_layNeed_2 : GoodIn wsMX3_layNeed (wsV RX3 140 RX6 yX6_cellAt wsMX6_cellAt) := goodIn_sub (fun _ h => List.mem_cons_of_mem _ (List.mem_append_left _ (List.mem_append_right _ h))) (gdV (by decide +kernel) gdwsMX6_cellAt)
theorem gwsMX3_layNeed_3 : GoodIn wsMX3_layNeed (wsV RX3 128 RX8 yX8_setLong wsMX8_setLong) := goodIn_sub (fun _ h => List.mem_cons_of_mem _ (List.mem_append_right _ h)) (gdV (by decide +kernel) gdwsMX8_setLong)
theorem gdwsMX3_layNeed : wsMX3_layNeed.all goodWord = true := gdC rfl (gdA (gdA (gdA (gdA (gdA (gdA (by decide +kernel : ([.fieldLink RX3 59 "OptimaWorks$Prover" "model" "LOptimaWorks$Model;", .fieldLink RX3 173 "OptimaWorks$Model" "variables" "I", .fieldLink RX3 71 "OptimaWorks$Prover" "tableau" "LOptimaWorks$Tableau;", .fieldLink RX3 204 "OptimaWorks$Model" "from" "[I"] : List Cond).all goodWord = true) gdwsX10) gdwsX30) (gdV (by decide +kernel) gdwsMX1_needBound)) (gdV (by decide +kernel) gdwsMX1_needNumber)) (gdV (by decide +kernel) gdwsMX6_cellAt)) (gdV (by decide +kernel) gdwsMX8_setLong))
theorem hm_m_X3_layNeed_0 : (.fieldLink RX3 59 "OptimaWorks$Prover" "model" "LOptimaWorks$Model;" : Cond) ∈ wsMX3_layNeed := by decide +kernel
theorem hm_m_X3_layNeed_1 : (.fieldLink RX3 173 "OptimaWorks$Model" "variables" "I" : Cond) ∈ wsMX3_layNeed := by decide +kernel
theorem hm_m_X3_layNeed_2 : (.fieldLink RX3 71 "OptimaWorks$Prover" "tableau" "LOptimaWorks$Tableau;" : Cond) ∈ wsMX3_layNeed := by decide +kernel
set_option maxHeartbeats 4000000 in
set_option maxRecDepth 100000 in
/-- a need is laid out -/
theorem m_X3_layNeed (l : Launch) (dC : Nat → ClassId) (dI : Nat → Nat → Nat) (hG : Nat → Nat) (aG : Nat → Nat) (kG : Nat → ClassId) (hM : Nat → Nat) (hO : Nat → Nat) (hQ : Nat → Nat) (hw : Nat → Nat) (iG_made : Int32) (iG_keptNeeds : Int32) (fG_kept : Nat → Int32) (fG_need : Nat → Int32) (fG_turn : Nat → Int32) (iG_columns : Int32) (aO : Nat → Nat) (kO : Nat → ClassId) (iO_answered : Int32) (iO_searched : Int32) (iO_searchedRelaxed : Int32) (iO_counted : Int32) (fO_countedCase : Nat → Int32) (gO_goalNumber : Nat → Int64) (gO_goalScale : Nat → Int64) (fO_start : Nat → Int32) (fO_column : Nat → Int32) (fO_chosen : Nat → Int32) (aM : Nat → Nat) (kM : Nat → ClassId) (iM_stands : Int32) (iM_variables : Int32) (iM_rows : Int32) (iM_goals : Int32) (iM_differents : Int32) (iM_cases : Int32) (fM_from : Nat → Int32) (fM_to : Nat → Int32) (fM_whole : Nat → Int32) (fM_ways : Nat → Int32) (iM_plainRows : Int32) (fM_plainRow : Nat → Int32) (fM_kept : Nat → Int32) (fM_goalOver : Nat → Int32) (fM_goalUnder : Nat → Int32) (fM_goalMax : Nat → Int32) (fM_different : Nat → Int32) (aQ : Nat → Nat) (kQ : Nat → ClassId) (fQ_inside : Nat → Int32) (fQ_outside : Nat → Int32) (fQ_shut : Nat → Int32) (iQ_rows : Int32) (iQ_allRows : Int32) (iQ_columns : Int32) (nW : Nat) (lw : Nat → Nat) (kw : ClassId) (wl : Nat → Int32) (wb : Nat → Int32) (wG : Nat → Nat → Int64) (p1 : Int32) (p2 : Int32) (p3 : Int32) (b_iG_made : 0 ≤ iG_made.toInt ∧ iG_made.toInt ≤ 1) (b_fG_need : ∀ q : Nat, 0 ≤ (fG_need q).toInt ∧ (fG_need q).toInt ≤ 27) (b_iG_columns : 0 ≤ iG_columns.toInt ∧ iG_columns.toInt ≤ 40) (b_iO_answered : 0 ≤ iO_answered.toInt ∧ iO_answered.toInt ≤ 1) (b_iO_searched : 0 ≤ iO_searched.toInt ∧ iO_searched.toInt ≤ 1) (b_iO_searchedRelaxed : 0 ≤ iO_searchedRelaxed.toInt ∧ iO_searchedRelaxed.toInt ≤ 1) (b_iO_counted : (-1) ≤ iO_counted.toInt ∧ iO_counted.toInt ≤ 64) (b_fO_countedCase : ∀ q : Nat, 0 ≤ (fO_countedCase q).toInt ∧ (fO_countedCase q).toInt ≤ 200000) (b_fO_column : ∀ q : Nat, (-1) ≤ (fO_column q).toInt ∧ (fO_column q).toInt ≤ 8) (b_fO_chosen : ∀ q : Nat, 0 ≤ (fO_chosen q).toInt ∧ (fO_chosen q).toInt ≤ 2) (b_iM_stands : 0 ≤ iM_stands.toInt ∧ iM_stands.toInt ≤ 1) (b_iM_variables : 0 ≤ iM_variables.toInt ∧ iM_variables.toInt ≤ 8) (b_iM_rows : 0 ≤ iM_rows.toInt ∧ iM_rows.toInt ≤ 12) (b_iM_goals : 0 ≤ iM_goals.toInt ∧ iM_goals.toInt ≤ 3) (b_iM_differents : 0 ≤ iM_differents.toInt ∧ iM_differents.toInt ≤ 8) (b_iM_cases : 0 ≤ iM_cases.toInt ∧ iM_cases.toInt ≤ 200000) (b_fM_ways : ∀ q : Nat, 0 ≤ (fM_ways q).toInt ∧ (fM_ways q).toInt ≤ 3) (b_iM_plainRows : 0 ≤ iM_plainRows.toInt ∧ iM_plainRows.toInt ≤ 12) (b_fM_plainRow : ∀ q : Nat, 0 ≤ (fM_plainRow q).toInt ∧ (fM_plainRow q).toInt ≤ 11) (b_pr : iM_plainRows.toInt ≤ iM_rows.toInt) (b_iQ_rows : 0 ≤ iQ_rows.toInt ∧ iQ_rows.toInt ≤ 40) (b_iQ_allRows : 0 ≤ iQ_allRows.toInt ∧ iQ_allRows.toInt ≤ 40) (b_iQ_columns : 0 ≤ iQ_columns.toInt ∧ iQ_columns.toInt ≤ 40) (b_tb : TbO iQ_rows iQ_allRows iQ_columns) (b_wl : ∀ q : Nat, 0 ≤ (wl q).toInt ∧ (wl q).toInt ≤ 14) (b_wb : ∀ q : Nat, 0 ≤ (wb q).toInt ∧ (wb q).toInt ≤ 1) (b_p1 : 0 ≤ p1.toInt ∧ p1.toInt ≤ 39) (b_p2 : 0 ≤ p2.toInt ∧ p2.toInt ≤ 27) (hnW : 474 ≤ nW) (hc9 : iQ_columns.toInt ≤ 9) (hni : p2.toInt < iM_plainRows.toInt + 2 * iM_variables.toInt) (sz : Nat) : Met l yX3_layNeed wsMX3_layNeed ({ frames := 3, cells := 0, slots := 0, locals := 68 }) (va_Pc [.ref (hG 0), .int p1, .int p2, .int p3] (fun U => U.heap.size = sz ∧ va_P (dC, dI) vwCl (WG hG aG kG hM hO hQ hw iG_made iG_keptNeeds fG_kept fG_need fG_turn iG_columns ++ (WO hO aO kO hM hQ hw iO_answered iO_searched iO_searchedRelaxed iO_counted fO_countedCase gO_goalNumber gO_goalScale fO_start fO_column fO_chosen ++ (WM hM aM kM iM_stands iM_variables iM_rows iM_goals iM_differents iM_cases fM_from fM_to fM_whole fM_ways iM_plainRows fM_plainRow fM_kept fM_goalOver fM_goalUnder fM_goalMax fM_different ++ (WQ hQ aQ kQ hw fQ_inside fQ_outside fQ_shut iQ_rows iQ_allRows iQ_columns ++ (WW nW hw lw kw wl wb wG))))) U.heap ∧ va_K (dC, dI) vwCl (tG kG ++ (tO kO ++ (tM kM ++ (tQ kQ ++ (tW kw))))) U ∧ va_D (fun _ => True) (WG hG aG kG hM hO hQ hw iG_made iG_keptNeeds fG_kept fG_need fG_turn iG_columns ++ (WO hO aO kO hM hQ hw iO_answered iO_searched iO_searchedRelaxed iO_counted fO_countedCase gO_goalNumber gO_goalScale fO_start fO_column fO_chosen ++ (WM hM aM kM iM_stands iM_variables iM_rows iM_goals iM_differents iM_cases fM_from fM_to fM_whole fM_ways iM_plainRows fM_plainRow fM_kept fM_goalOver fM_goalUnder fM_goalMax fM_different ++ (WQ hQ aQ kQ hw fQ_inside fQ_outside fQ_shut iQ_rows iQ_allRows iQ_columns ++ (WW nW hw lw kw wl wb wG))))))) (va_Qv (fun (u : (Nat → Int32) × (Nat → Int32) × (Nat → Nat → Int64)) => (∀ q : Nat, 0 ≤ ((u.1) q).toInt ∧ ((u.1) q).toInt ≤ 14) ∧ (∀ q : Nat, 0 ≤ ((u.2.1) q).toInt ∧ ((u.2.1) q).toInt ≤ 1)) (fun (u : (Nat → Int32) × (Nat → Int32) × (Nat → Nat → Int64)) t => va_P (dC, dI) vwCl (WG hG aG kG hM hO hQ hw iG_made iG_keptNeeds fG_kept fG_need fG_turn iG_columns ++ (WO hO aO kO hM hQ hw iO_answered iO_searched iO_searchedRelaxed iO_counted fO_countedCase gO_goalNumber gO_goalScale fO_start fO_column fO_chosen ++ (WM hM aM kM iM_stands iM_variables iM_rows iM_goals iM_differents iM_cases fM_from fM_to fM_whole fM_ways iM_plainRows fM_plainRow fM_kept fM_goalOver fM_goalUnder fM_goalMax fM_different ++ (WQ hQ aQ kQ hw fQ_inside fQ_outside fQ_shut iQ_rows iQ_allRows iQ_columns ++ (WW nW hw lw kw (u.1) (u.2.1) (u.2.2)))))) t.heap ∧ va_D (va_A (WG hG aG kG hM hO hQ hw iG_made iG_keptNeeds fG_kept fG_need fG_turn iG_columns ++ (WO hO aO kO hM hQ hw iO_answered iO_searched iO_searchedRelaxed iO_counted fO_countedCase gO_goalNumber gO_goalScale fO_start fO_column fO_chosen ++ (WM hM aM kM iM_stands iM_variables iM_rows iM_goals iM_differents iM_cases fM_from fM_to fM_whole fM_ways iM_plainRows fM_plainRow fM_kept fM_goalOver fM_goalUnder fM_goalMax fM_different ++ (WQ hQ aQ kQ hw fQ_inside fQ_outside fQ_shut iQ_rows iQ_allRows iQ_columns ++ (WW nW hw lw kw wl wb wG))))) sz) (WG hG aG kG hM hO hQ hw iG_made iG_keptNeeds fG_kept fG_need fG_turn iG_columns ++ (WO hO aO kO hM hQ hw iO_answered iO_searched iO_searchedRelaxed iO_counted fO_countedCase gO_goalNumber gO_goalScale fO_start fO_column fO_chosen ++ (WM hM aM kM iM_stands iM_variables iM_rows iM_goals iM_differents iM_cases fM_from fM_to fM_whole fM_ways iM_plainRows fM_plainRow fM_kept fM_goalOver fM_goalUnder fM_goalMax fM_different ++ (WQ hQ aQ kQ hw fQ_inside fQ_outside fQ_shut iQ_rows iQ_allRows iQ_columns ++ (WW nW hw lw kw (u.1) (u.2.1) (u.2.2))))))) (va_A (WG hG aG kG hM hO hQ hw iG_made iG_keptNeeds fG_kept fG_need fG_turn iG_columns ++ (WO hO aO kO hM hQ hw iO_answered iO_searched iO_searchedRelaxed iO_counted fO_countedCase gO_goalNumber gO_goalScale fO_start fO_column fO_chosen ++ (WM hM aM kM iM_stands iM_variables iM_rows iM_goals iM_differents iM_cases fM_from fM_to fM_whole fM_ways iM_plainRows fM_plainRow fM_kept fM_goalOver fM_goalUnder fM_goalMax fM_different ++ (WQ hQ aQ kQ hw fQ_inside fQ_outside fQ_shut iQ_rows iQ_allRows iQ_columns ++ (WW nW hw lw kw wl wb wG))))) sz)) 0 0 (va_A (WG hG aG kG hM hO hQ hw iG_made iG_keptNeeds fG_kept fG_need fG_turn iG_columns ++ (WO hO aO kO hM hQ hw iO_answered iO_searched iO_searchedRelaxed iO_counted fO_countedCase gO_goalNumber gO_goalScale fO_start fO_column fO_chosen ++ (WM hM aM kM iM_stands iM_variables iM_rows iM_goals iM_differents iM_cases fM_from fM_to fM_whole fM_ways iM_plainRows fM_plainRow fM_kept fM_goalOver fM_goalUnder fM_goalMax fM_different ++ (WQ hQ aQ kQ hw fQ_inside fQ_outside fQ_shut iQ_rows iQ_allRows iQ_columns ++ (WW nW hw lw kw wl wb wG))))) sz) := by
  refine Met.ofW (cc := cX3_layNeed) (maxL := 8) (ret := none) (by decide) rfl ?_
  intro p e s m args below meth c s₁ B hml hv
  obtain ⟨rfl, hsz, hP, hK, hD0⟩ := hv
  have hx := B.exec
  have hb := B.bytes
  have hr := B.returns
  have hts := atoms_spec (ws := wsMX3_layNeed) B.pre
  have hown : s.vm.findClass RX3 = some m.cls := findClass_of_methodNamed B.named
  have hlocks := B.notSynchronized
  subst hsz
  have hD := hD0.self (sz := s.heap.size)
  generalize hAe : va_A (WG hG aG kG hM hO hQ hw iG_made iG_keptNeeds fG_kept fG_need fG_turn iG_columns ++ (WO hO aO kO hM hQ hw iO_answered iO_searched iO_searchedRelaxed iO_counted fO_countedCase gO_goalNumber gO_goalScale fO_start fO_column fO_chosen ++ (WM hM aM kM iM_stands iM_variables iM_rows iM_goals iM_differents iM_cases fM_from fM_to fM_whole fM_ways iM_plainRows fM_plainRow fM_kept fM_goalOver fM_goalUnder fM_goalMax fM_different ++ (WQ hQ aQ kQ hw fQ_inside fQ_outside fQ_shut iQ_rows iQ_allRows iQ_columns ++ (WW nW hw lw kw wl wb wG))))) s.heap.size = A at hD ⊢
  have hA : ∀ q : Nat, s.heap.size ≤ q → A q := fun q h => by rw [← hAe]; exact Or.inr h
  have hS : va_S A s.heap s.heap [] := va_S.rf
  have hl := lv_entry ([.ref (hG 0), .int p1, .int p2, .int p3]) (n := 8) (Nat.le_of_ble_eq_true rfl)
  rw [lg_entry_eq]
  generalize (lg_sl ([.ref (hG 0), .int p1, .int p2, .int p3]) ++ List.replicate (8 - (lg_sl ([.ref (hG 0), .int p1, .int p2, .int p3])).length) Slot.unset).toArray = ls at hl ⊢
  have hl : lv_has ls 8 [(0, .ref (hG 0)), (1, .int p1), (2, .int p2), (3, .int p3)] := hl
  refine lv_iload_n hx hb dX3_layNeed_0 rfl (lv_at hl 3 rfl) ?_
  refine lv_ineg hx hb dX3_layNeed_1 ?_
  refine lv_topi (fun y1 hy1 => ?_)
  obtain rfl : (iI (-p3.toInt)) = y1 := (hy1.trans (iI_neg2 (iI_of _))).symm
  refine lv_aload_n hx hb dX3_layNeed_2 rfl (lv_at hl 0 rfl) ?_
  refine va_get (D := (dC, dI)) (ci := 3) (v := .ref (hM 0)) (C := RX3) (T := TX3) (N := 17) hx hb hts iwsMX3_layNeed_in3 hown hK hP 0 rfl rfl 0 (by decide) (hts _ hm_m_X3_layNeed_0) (fun _ h9 => h9) rfl dX3_layNeed_3 ?_
  refine lv_iload_n hx hb dX3_layNeed_6 rfl (lv_at hl 2 rfl) ?_
  have p9 := cj_5_2 (WG hG aG kG hM hO hQ hw iG_made iG_keptNeeds fG_kept fG_need fG_turn iG_columns) (WO hO aO kO hM hQ hw iO_answered iO_searched iO_searchedRelaxed iO_counted fO_countedCase gO_goalNumber gO_goalScale fO_start fO_column fO_chosen) (WM hM aM kM iM_stands iM_variables iM_rows iM_goals iM_differents iM_cases fM_from fM_to fM_whole fM_ways iM_plainRows fM_plainRow fM_kept fM_goalOver fM_goalUnder fM_goalMax fM_different) (WQ hQ aQ kQ hw fQ_inside fQ_outside fQ_shut iQ_rows iQ_allRows iQ_columns) (WW nW hw lw kw wl wb wG)
  have hPc := hP.mem (fun q h => p9.mem_iff.mpr (List.mem_append_left _ h))
  have hDc := (hD.perm p9).left
  have hKc : va_K (dC, dI) vwCl (tM kM) _ := hK.sub [15, 16, 17, 18, 19, 20, 21, 22, 23, 24] rfl
  have hFc := freeG p9 hD hS hA
  refine va_calli (va_runV (As := [.int p2]) (rest := [.int (iI (-p3.toInt))]) ⟨hx, hb, hml, hown, hts⟩ (m_X1_needBound l dC dI hM aM kM iM_stands iM_variables iM_rows iM_goals iM_differents iM_cases fM_from fM_to fM_whole fM_ways iM_plainRows fM_plainRow fM_kept fM_goalOver fM_goalUnder fM_goalMax fM_different p2 (b_iM_stands) (b_iM_variables) (b_iM_rows) (b_iM_goals) (b_iM_differents) (b_iM_cases) b_fM_ways (b_iM_plainRows) b_fM_plainRow (by first | with_reducible assumption | omega | assumption) (b_p2) (by omega) s.heap.size) (cwV 1 hts gwsMX3_layNeed_0 rfl rfl rfl hd_yX1_needBound_RX1 (by decide +kernel)) (fz_pre (va_recv hK hP (ci := 1) (q0 := 17) rfl rfl) hPc hKc hDc) rfl rfl hl.1 rfl (lv_room (Nat.le_of_ble_eq_true rfl)) dX3_layNeed_7 (by decide +kernel)) hS (fun q _ h => hFc q h) hFc (fun r2 u t9_ H locs ht hvm hw9 hB9 hz1 hk1 hS => ?_)
  clear hw9
  have p8 := p9
  obtain ⟨hP, hD⟩ := frameG p9 p8 hP hD hk1 hFc (fz_P ht hB9.1) hB9.2
  refine lv_imul hx hb dX3_layNeed_10 ?_
  refine lv_topi (fun y3 hy3 => ?_)
  obtain rfl : (iI ((-p3.toInt) * r2.toInt)) = y3 := (hy3.trans (iI_mul2 rfl (iI_of _))).symm
  refine lv_istore hx hb dX3_layNeed_11 hl (by decide) rfl (fun ls (hl : lv_has ls _ ([(4, .int (iI ((-p3.toInt) * r2.toInt))), (0, .ref (hG 0)), (1, .int p1), (2, .int p2), (3, .int p3)])) => ?_)
  refine lv_iconst (v := 1) hx hb dX3_layNeed_13 (by decide) ?_
  refine lv_istore hx hb dX3_layNeed_14 hl (by decide) rfl (fun ls (hl : lv_has ls _ ([(5, .int 1), (4, .int (iI ((-p3.toInt) * r2.toInt))), (0, .ref (hG 0)), (1, .int p1), (2, .int p2), (3, .int p3)])) => ?_)
  refine lv_iconst (v := 0) hx hb dX3_layNeed_16 (by decide) ?_
  refine lv_istore hx hb dX3_layNeed_17 hl (by decide) rfl (fun ls (hl : lv_has ls _ ([(6, .int 0), (5, .int 1), (4, .int (iI ((-p3.toInt) * r2.toInt))), (0, .ref (hG 0)), (1, .int p1), (2, .int p2), (3, .int p3)])) => ?_)
  have hl : lv_has _ _ ([(6, .int 0), (5, .int 1), (4, .int (iI ((-p3.toInt) * r2.toInt))), (0, .ref (hG 0)), (1, .int p1), (2, .int p2), (3, .int p3)]) := lv_sub hl [0, 1, 2, 3, 4, 5, 6] rfl
  refine (fun (loop : ∀ (n9 : Nat) (wl_x19 : Nat → Int32) (wb_x19 : Nat → Int32) (wG_x19 : Nat → Nat → Int64) (l6_x19 : Int32) (l5_x19 : Int32) (l4_x19 : Int32) (H : Heap) (locs : List Loc) (ls : Array Slot), (∀ q : Nat, 0 ≤ (wl_x19 q).toInt ∧ (wl_x19 q).toInt ≤ 14) → (∀ q : Nat, 0 ≤ (wb_x19 q).toInt ∧ (wb_x19 q).toInt ≤ 1) → (0 ≤ l6_x19.toInt ∧ l6_x19.toInt ≤ 8) → (8 - l6_x19.toInt < ((n9 : Nat) : Int)) → va_P (dC, dI) vwCl (WG hG aG kG hM hO hQ hw iG_made iG_keptNeeds fG_kept fG_need fG_turn iG_columns ++ (WO hO aO kO hM hQ hw iO_answered iO_searched iO_searchedRelaxed iO_counted fO_countedCase gO_goalNumber gO_goalScale fO_start fO_column fO_chosen ++ (WM hM aM kM iM_stands iM_variables iM_rows iM_goals iM_differents iM_cases fM_from fM_to fM_whole fM_ways iM_plainRows fM_plainRow fM_kept fM_goalOver fM_goalUnder fM_goalMax fM_different ++ (WQ hQ aQ kQ hw fQ_inside fQ_outside fQ_shut iQ_rows iQ_allRows iQ_columns ++ (WW nW hw lw kw wl_x19 wb_x19 wG_x19))))) H → va_D A (WG hG aG kG hM hO hQ hw iG_made iG_keptNeeds fG_kept fG_need fG_turn iG_columns ++ (WO hO aO kO hM hQ hw iO_answered iO_searched iO_searchedRelaxed iO_counted fO_countedCase gO_goalNumber gO_goalScale fO_start fO_column fO_chosen ++ (WM hM aM kM iM_stands iM_variables iM_rows iM_goals iM_differents iM_cases fM_from fM_to fM_whole fM_ways iM_plainRows fM_plainRow fM_kept fM_goalOver fM_goalUnder fM_goalMax fM_different ++ (WQ hQ aQ kQ hw fQ_inside fQ_outside fQ_shut iQ_rows iQ_allRows iQ_columns ++ (WW nW hw lw kw wl_x19 wb_x19 wG_x19))))) → va_S A s.heap H locs → lv_has ls 8 [(6, .int l6_x19), (5, .int l5_x19), (4, .int l4_x19), (0, .ref (hG 0)), (1, .int p1), (2, .int p2), (3, .int p3)] → W p l e _ s m _ below meth c H locs 0 0 _ (F0 m 19 ls [])) => loop (9) wl wb wG 0 1 (iI ((-p3.toInt) * r2.toInt)) _ _ _ b_wl b_wb (show 0 ≤ (0 : Int32).toInt ∧ (0 : Int32).toInt ≤ 8 from by decide) ((by have e9 : (0 : Int32).toInt = 0 := (by decide : (0 : Int32).toInt = 0); omega)) hP hD hS hl) ?_
  intro n9
  induction n9 with
  | zero => intro wl_x19 wb_x19 wG_x19 l6_x19 l5_x19 l4_x19 H locs ls b_wl_x19 b_wb_x19 b_l6_x19 hf9; exact False.elim (by omega)
  | succ n9 ihx19 =>
    intro wl_x19 wb_x19 wG_x19 l6_x19 l5_x19 l4_x19 H locs ls b_wl_x19 b_wb_x19 b_l6_x19 hfx19 hP hD hS hl
    refine lv_iload hx hb dX3_layNeed_19 (lv_at hl 0 rfl) ?_
    refine lv_aload_n hx hb dX3_layNeed_21 rfl (lv_at hl 3 rfl) ?_
    refine va_get (D := (dC, dI)) (ci := 3) (v := .ref (hM 0)) (C := RX3) (T := TX3) (N := 17) hx hb hts iwsMX3_layNeed_in3 hown hK hP 0 rfl rfl 0 (by decide) (hts _ hm_m_X3_layNeed_0) (fun _ h9 => h9) rfl dX3_layNeed_22 ?_
    refine va_get (D := (dC, dI)) (ci := 1) (v := .int iM_variables) (C := RX1) (T := TX1) (N := 17) hx hb hts iwsMX3_layNeed_in1 hown hK hP 17 rfl rfl 1 (by decide) (hts _ hm_m_X3_layNeed_1) (fun _ h9 => h9) rfl dX3_layNeed_25 ?_
    refine lv_icmp_ge (tgt := 94) hx hb dX3_layNeed_28 (by decide) (fun c_28 => ?_) (fun c_28 => ?_)
    · have t_28 : l6_x19.toInt ≥ iM_variables.toInt := toI_ge c_28 rfl rfl
      refine lv_aload_n hx hb dX3_layNeed_94 rfl (lv_at hl 3 rfl) ?_
      refine va_get (D := (dC, dI)) (ci := 3) (v := .ref (hQ 0)) (C := RX3) (T := TX3) (N := 17) hx hb hts iwsMX3_layNeed_in3 hown hK hP 0 rfl rfl 2 (by decide) (hts _ hm_m_X3_layNeed_2) (fun _ h9 => h9) rfl dX3_layNeed_95 ?_
      refine lv_iload_n hx hb dX3_layNeed_98 rfl (lv_at hl 4 rfl) ?_
      refine lv_iconst (v := 0) hx hb dX3_layNeed_99 (by decide) ?_
      have p9 := cj_5_3_4 (WG hG aG kG hM hO hQ hw iG_made iG_keptNeeds fG_kept fG_need fG_turn iG_columns) (WO hO aO kO hM hQ hw iO_answered iO_searched iO_searchedRelaxed iO_counted fO_countedCase gO_goalNumber gO_goalScale fO_start fO_column fO_chosen) (WM hM aM kM iM_stands iM_variables iM_rows iM_goals iM_differents iM_cases fM_from fM_to fM_whole fM_ways iM_plainRows fM_plainRow fM_kept fM_goalOver fM_goalUnder fM_goalMax fM_different) (WQ hQ aQ kQ hw fQ_inside fQ_outside fQ_shut iQ_rows iQ_allRows iQ_columns) (WW nW hw lw kw wl_x19 wb_x19 wG_x19)
      have hPc := hP.mem (fun q h => p9.mem_iff.mpr (List.mem_append_left _ h))
      have hDc := (hD.perm p9).left
      have hKc : va_K (dC, dI) vwCl (tQ kQ ++ (tW kw)) _ := hK.sub [25, 26, 27, 28, 29] rfl
      have hFc := freeG p9 hD hS hA
      refine va_callr (va_runV (As := [.int p1, .int 0]) (rest := []) ⟨hx, hb, hml, hown, hts⟩ (m_X6_cellAt l dC dI hQ aQ kQ hw fQ_inside fQ_outside fQ_shut iQ_rows iQ_allRows iQ_columns nW lw kw wl_x19 wb_x19 wG_x19 p1 0 (b_iQ_rows) (b_iQ_allRows) (b_iQ_columns) (by first | with_reducible assumption | omega | assumption) b_wl_x19 b_wb_x19 (b_p1) (show 0 ≤ (0 : Int32).toInt ∧ (0 : Int32).toInt ≤ 40 from by decide) (by omega) ((by have h9 := ix9 (i := p1.toInt) (j := 0) (c := iQ_columns.toInt) (by omega) (by omega) (by omega) (by omega) (by omega) (by omega); have h8 : (0 : Int32).toInt = 0 := (by decide); rw [h8]; exact h9)) H.size) (cwV 2 hts gwsMX3_layNeed_2 rfl rfl rfl hd_yX6_cellAt_RX6 (by decide +kernel)) (fz_pre (va_recv hK hP (ci := 6) (q0 := 28) rfl rfl) hPc hKc hDc) rfl rfl hl.1 rfl (lv_room (Nat.le_of_ble_eq_true rfl)) dX3_layNeed_100 (by decide +kernel)) hS (fun q _ h => hFc q h) hFc (fun kR_68 ra68 t9_ H locs ht hvm hw9 hB9 hz1 hk1 hS => ?_)
      revert hB9
      refine fz_a2 ?_
      intro hra hB9
      subst hra
      have f68_0 := hw9
      try dsimp only at f68_0
      have p8 := p9
      obtain ⟨hP, hD⟩ := frameG p9 p8 hP hD hk1 hFc (fz_P ht hB9.1) hB9.2
      refine lv_iload hx hb dX3_layNeed_103 (lv_at hl 2 rfl) ?_
      refine lv_i2l hx hb dX3_layNeed_105 rfl ?_
      refine lv_topl (fun v69 hv69 => ?_)
      clear hv69
      have p9 := cj_5_4 (WG hG aG kG hM hO hQ hw iG_made iG_keptNeeds fG_kept fG_need fG_turn iG_columns) (WO hO aO kO hM hQ hw iO_answered iO_searched iO_searchedRelaxed iO_counted fO_countedCase gO_goalNumber gO_goalScale fO_start fO_column fO_chosen) (WM hM aM kM iM_stands iM_variables iM_rows iM_goals iM_differents iM_cases fM_from fM_to fM_whole fM_ways iM_plainRows fM_plainRow fM_kept fM_goalOver fM_goalUnder fM_goalMax fM_different) (WQ hQ aQ kQ hw fQ_inside fQ_outside fQ_shut iQ_rows iQ_allRows iQ_columns) (WW nW hw lw kw wl_x19 wb_x19 wG_x19)
      have hPc := hP.mem (fun q h => p9.mem_iff.mpr (List.mem_append_left _ h))
      have hDc := (hD.perm p9).left
      have hKc : va_K (dC, dI) vwCl (tW kw) _ := hK.sub [29] rfl
      have hFc := freeG p9 hD hS hA
      refine va_callv (va_runV (As := [.long v69]) (rest := []) ⟨hx, hb, hml, hown, hts⟩ (m_X8_setLong l dC dI nW hw lw kw wl_x19 wb_x19 wG_x19 kR_68 v69 b_wl_x19 b_wb_x19 (by first | with_reducible assumption | omega | (rw [iI_t (by omega) (by omega)]; omega) | decide | assumption) H.size) (cwV 1 hts gwsMX3_layNeed_3 rfl rfl rfl hd_yX8_setLong_RX8 (by decide +kernel)) (fz_pre (va_recv hK hP (ci := 8) (q0 := 6 + (11 + (11 + (5 + (kR_68))))) rfl (apR rfl (apR rfl (apR rfl (apR rfl (WW_o (by omega))))))) hPc hKc hDc) rfl rfl hl.1 rfl (lv_room (Nat.le_of_ble_eq_true rfl)) dX3_layNeed_106 (by decide +kernel)) hS (fun q _ h => hFc q h) hFc (fun u t9_ H locs ht hvm hw9 hB9 hz1 hk1 hS => ?_)
      revert u hw9 hB9
      refine fz_p3 ?_
      intro wl_70 wb_70 wG_70 hw9 hB9
      try dsimp only at hw9 hB9
      revert hw9
      refine fz_a2 ?_
      intro b_wl_70 b_wb_70
      have p8 := cj_5_4 (WG hG aG kG hM hO hQ hw iG_made iG_keptNeeds fG_kept fG_need fG_turn iG_columns) (WO hO aO kO hM hQ hw iO_answered iO_searched iO_searchedRelaxed iO_counted fO_countedCase gO_goalNumber gO_goalScale fO_start fO_column fO_chosen) (WM hM aM kM iM_stands iM_variables iM_rows iM_goals iM_differents iM_cases fM_from fM_to fM_whole fM_ways iM_plainRows fM_plainRow fM_kept fM_goalOver fM_goalUnder fM_goalMax fM_different) (WQ hQ aQ kQ hw fQ_inside fQ_outside fQ_shut iQ_rows iQ_allRows iQ_columns) (WW nW hw lw kw wl_70 wb_70 wG_70)
      obtain ⟨hP, hD⟩ := frameG p9 p8 hP hD hk1 hFc (fz_P ht hB9.1) hB9.2
      refine lv_aload_n hx hb dX3_layNeed_109 rfl (lv_at hl 3 rfl) ?_
      refine va_get (D := (dC, dI)) (ci := 3) (v := .ref (hQ 0)) (C := RX3) (T := TX3) (N := 17) hx hb hts iwsMX3_layNeed_in3 hown hK hP 0 rfl rfl 2 (by decide) (hts _ hm_m_X3_layNeed_2) (fun _ h9 => h9) rfl dX3_layNeed_110 ?_
      refine lv_iload_n hx hb dX3_layNeed_113 rfl (lv_at hl 4 rfl) ?_
      refine lv_aload_n hx hb dX3_layNeed_114 rfl (lv_at hl 3 rfl) ?_
      refine va_get (D := (dC, dI)) (ci := 3) (v := .ref (hM 0)) (C := RX3) (T := TX3) (N := 17) hx hb hts iwsMX3_layNeed_in3 hown hK hP 0 rfl rfl 0 (by decide) (hts _ hm_m_X3_layNeed_0) (fun _ h9 => h9) rfl dX3_layNeed_115 ?_
      refine va_get (D := (dC, dI)) (ci := 1) (v := .int iM_variables) (C := RX1) (T := TX1) (N := 17) hx hb hts iwsMX3_layNeed_in1 hown hK hP 17 rfl rfl 1 (by decide) (hts _ hm_m_X3_layNeed_1) (fun _ h9 => h9) rfl dX3_layNeed_118 ?_
      refine lv_iconst (v := 1) hx hb dX3_layNeed_121 (by decide) ?_
      refine lv_iadd hx hb dX3_layNeed_122 ?_
      refine lv_topi (fun y71 hy71 => ?_)
      obtain rfl : (iI (iM_variables.toInt + 1)) = y71 := (hy71.trans (iI_add2 (iI_of _) (by decide : (1 : Int32) = iI 1))).symm
      have p9 := cj_5_3_4 (WG hG aG kG hM hO hQ hw iG_made iG_keptNeeds fG_kept fG_need fG_turn iG_columns) (WO hO aO kO hM hQ hw iO_answered iO_searched iO_searchedRelaxed iO_counted fO_countedCase gO_goalNumber gO_goalScale fO_start fO_column fO_chosen) (WM hM aM kM iM_stands iM_variables iM_rows iM_goals iM_differents iM_cases fM_from fM_to fM_whole fM_ways iM_plainRows fM_plainRow fM_kept fM_goalOver fM_goalUnder fM_goalMax fM_different) (WQ hQ aQ kQ hw fQ_inside fQ_outside fQ_shut iQ_rows iQ_allRows iQ_columns) (WW nW hw lw kw wl_70 wb_70 wG_70)
      have hPc := hP.mem (fun q h => p9.mem_iff.mpr (List.mem_append_left _ h))
      have hDc := (hD.perm p9).left
      have hKc : va_K (dC, dI) vwCl (tQ kQ ++ (tW kw)) _ := hK.sub [25, 26, 27, 28, 29] rfl
      have hFc := freeG p9 hD hS hA
      refine va_callr (va_runV (As := [.int p1, .int (iI (iM_variables.toInt + 1))]) (rest := []) ⟨hx, hb, hml, hown, hts⟩ (m_X6_cellAt l dC dI hQ aQ kQ hw fQ_inside fQ_outside fQ_shut iQ_rows iQ_allRows iQ_columns nW lw kw wl_70 wb_70 wG_70 p1 (iI (iM_variables.toInt + 1)) (b_iQ_rows) (b_iQ_allRows) (b_iQ_columns) (by first | with_reducible assumption | omega | assumption) b_wl_70 b_wb_70 (b_p1) (iI_rng (Int.le_trans (by decide) (Int.add_le_add (b_iM_variables.1) (Int.le_refl _))) (Int.le_trans (Int.add_le_add (b_iM_variables.2) (Int.le_refl _)) (by decide)) (by decide) (by decide)) (by omega) ((by have h9 := ix9 (i := p1.toInt) (j := (iM_variables.toInt + 1)) (c := iQ_columns.toInt) (by omega) (by omega) (by omega) (by omega) (by omega) (by omega); rw [iI_t (E := iM_variables.toInt + 1) (by omega) (by omega)]; exact h9)) H.size) (cwV 2 hts gwsMX3_layNeed_2 rfl rfl rfl hd_yX6_cellAt_RX6 (by decide +kernel)) (fz_pre (va_recv hK hP (ci := 6) (q0 := 28) rfl rfl) hPc hKc hDc) rfl rfl hl.1 rfl (lv_room (Nat.le_of_ble_eq_true rfl)) dX3_layNeed_123 (by decide +kernel)) hS (fun q _ h => hFc q h) hFc (fun kR_72 ra72 t9_ H locs ht hvm hw9 hB9 hz1 hk1 hS => ?_)
      revert hB9
      refine fz_a2 ?_
      intro hra hB9
      subst hra
      have f72_0 := hw9
      try dsimp only at f72_0
      have p8 := p9
      obtain ⟨hP, hD⟩ := frameG p9 p8 hP hD hk1 hFc (fz_P ht hB9.1) hB9.2
      refine lv_iload hx hb dX3_layNeed_126 (lv_at hl 1 rfl) ?_
      refine lv_i2l hx hb dX3_layNeed_128 rfl ?_
      refine lv_topl (fun v73 hv73 => ?_)
      clear hv73
      have p9 := cj_5_4 (WG hG aG kG hM hO hQ hw iG_made iG_keptNeeds fG_kept fG_need fG_turn iG_columns) (WO hO aO kO hM hQ hw iO_answered iO_searched iO_searchedRelaxed iO_counted fO_countedCase gO_goalNumber gO_goalScale fO_start fO_column fO_chosen) (WM hM aM kM iM_stands iM_variables iM_rows iM_goals iM_differents iM_cases fM_from fM_to fM_whole fM_ways iM_plainRows fM_plainRow fM_kept fM_goalOver fM_goalUnder fM_goalMax fM_different) (WQ hQ aQ kQ hw fQ_inside fQ_outside fQ_shut iQ_rows iQ_allRows iQ_columns) (WW nW hw lw kw wl_70 wb_70 wG_70)
      have hPc := hP.mem (fun q h => p9.mem_iff.mpr (List.mem_append_left _ h))
      have hDc := (hD.perm p9).left
      have hKc : va_K (dC, dI) vwCl (tW kw) _ := hK.sub [29] rfl
      have hFc := freeG p9 hD hS hA
      refine va_callv (va_runV (As := [.long v73]) (rest := []) ⟨hx, hb, hml, hown, hts⟩ (m_X8_setLong l dC dI nW hw lw kw wl_70 wb_70 wG_70 kR_72 v73 b_wl_70 b_wb_70 (by first | with_reducible assumption | omega | (rw [iI_t (by omega) (by omega)]; omega) | decide | assumption) H.size) (cwV 1 hts gwsMX3_layNeed_3 rfl rfl rfl hd_yX8_setLong_RX8 (by decide +kernel)) (fz_pre (va_recv hK hP (ci := 8) (q0 := 6 + (11 + (11 + (5 + (kR_72))))) rfl (apR rfl (apR rfl (apR rfl (apR rfl (WW_o (by omega))))))) hPc hKc hDc) rfl rfl hl.1 rfl (lv_room (Nat.le_of_ble_eq_true rfl)) dX3_layNeed_129 (by decide +kernel)) hS (fun q _ h => hFc q h) hFc (fun u t9_ H locs ht hvm hw9 hB9 hz1 hk1 hS => ?_)
      revert u hw9 hB9
      refine fz_p3 ?_
      intro wl_74 wb_74 wG_74 hw9 hB9
      try dsimp only at hw9 hB9
      revert hw9
      refine fz_a2 ?_
      intro b_wl_74 b_wb_74
      have p8 := cj_5_4 (WG hG aG kG hM hO hQ hw iG_made iG_keptNeeds fG_kept fG_need fG_turn iG_columns) (WO hO aO kO hM hQ hw iO_answered iO_searched iO_searchedRelaxed iO_counted fO_countedCase gO_goalNumber gO_goalScale fO_start fO_column fO_chosen) (WM hM aM kM iM_stands iM_variables iM_rows iM_goals iM_differents iM_cases fM_from fM_to fM_whole fM_ways iM_plainRows fM_plainRow fM_kept fM_goalOver fM_goalUnder fM_goalMax fM_different) (WQ hQ aQ kQ hw fQ_inside fQ_outside fQ_shut iQ_rows iQ_allRows iQ_columns) (WW nW hw lw kw wl_74 wb_74 wG_74)
      obtain ⟨hP, hD⟩ := frameG p9 p8 hP hD hk1 hFc (fz_P ht hB9.1) hB9.2
      refine W.widen (k := 0) (n := 0) (by decide +kernel) (by decide +kernel) ?_
      exact W.vret hx hb hr (fun t9_ ht hW => ⟨⟨(wl_74, wb_74, wG_74), rfl, ⟨b_wl_74, b_wb_74⟩, by rw [ht]; exact hP, hD⟩, hS.F ht⟩) hS.2.2 dX3_layNeed_132
    · have t_28 : ¬ l6_x19.toInt ≥ iM_variables.toInt := toI_nge c_28 rfl rfl
      refine lv_iload_n hx hb dX3_layNeed_31 rfl (lv_at hl 6 rfl) ?_
      refine lv_aload_n hx hb dX3_layNeed_32 rfl (lv_at hl 3 rfl) ?_
      refine va_get (D := (dC, dI)) (ci := 3) (v := .ref (hM 0)) (C := RX3) (T := TX3) (N := 17) hx hb hts iwsMX3_layNeed_in3 hown hK hP 0 rfl rfl 0 (by decide) (hts _ hm_m_X3_layNeed_0) (fun _ h9 => h9) rfl dX3_layNeed_33 ?_
      refine lv_iload_n hx hb dX3_layNeed_36 rfl (lv_at hl 5 rfl) ?_
      refine lv_iload hx hb dX3_layNeed_37 (lv_at hl 0 rfl) ?_
      have p9 := cj_5_2 (WG hG aG kG hM hO hQ hw iG_made iG_keptNeeds fG_kept fG_need fG_turn iG_columns) (WO hO aO kO hM hQ hw iO_answered iO_searched iO_searchedRelaxed iO_counted fO_countedCase gO_goalNumber gO_goalScale fO_start fO_column fO_chosen) (WM hM aM kM iM_stands iM_variables iM_rows iM_goals iM_differents iM_cases fM_from fM_to fM_whole fM_ways iM_plainRows fM_plainRow fM_kept fM_goalOver fM_goalUnder fM_goalMax fM_different) (WQ hQ aQ kQ hw fQ_inside fQ_outside fQ_shut iQ_rows iQ_allRows iQ_columns) (WW nW hw lw kw wl_x19 wb_x19 wG_x19)
      have hPc := hP.mem (fun q h => p9.mem_iff.mpr (List.mem_append_left _ h))
      have hDc := (hD.perm p9).left
      have hKc : va_K (dC, dI) vwCl (tM kM) _ := hK.sub [15, 16, 17, 18, 19, 20, 21, 22, 23, 24] rfl
      have hFc := freeG p9 hD hS hA
      refine va_calli (va_runV (As := [.int p2, .int l6_x19]) (rest := [.int p3]) ⟨hx, hb, hml, hown, hts⟩ (m_X1_needNumber l dC dI hM aM kM iM_stands iM_variables iM_rows iM_goals iM_differents iM_cases fM_from fM_to fM_whole fM_ways iM_plainRows fM_plainRow fM_kept fM_goalOver fM_goalUnder fM_goalMax fM_different p2 l6_x19 (b_iM_stands) (b_iM_variables) (b_iM_rows) (b_iM_goals) (b_iM_differents) (b_iM_cases) b_fM_ways (b_iM_plainRows) b_fM_plainRow (by first | with_reducible assumption | omega | assumption) (b_p2) (by first | exact b_l6_x19 | with_reducible assumption | exact ⟨by omega, by omega⟩ | assumption) (by omega) H.size) (cwV 2 hts gwsMX3_layNeed_1 rfl rfl rfl hd_yX1_needNumber_RX1 (by decide +kernel)) (fz_pre (va_recv hK hP (ci := 1) (q0 := 17) rfl rfl) hPc hKc hDc) rfl rfl hl.1 rfl (lv_room (Nat.le_of_ble_eq_true rfl)) dX3_layNeed_39 (by decide +kernel)) hS (fun q _ h => hFc q h) hFc (fun r75 u t9_ H locs ht hvm hw9 hB9 hz1 hk1 hS => ?_)
      clear hw9
      have p8 := p9
      obtain ⟨hP, hD⟩ := frameG p9 p8 hP hD hk1 hFc (fz_P ht hB9.1) hB9.2
      refine lv_imul hx hb dX3_layNeed_42 ?_
      refine lv_topi (fun y76 hy76 => ?_)
      obtain rfl : (iI (p3.toInt * r75.toInt)) = y76 := (hy76.trans (iI_mul2 (iI_of _) (iI_of _))).symm
      refine lv_istore hx hb dX3_layNeed_43 hl (by decide) rfl (fun ls (hl : lv_has ls _ ([(7, .int (iI (p3.toInt * r75.toInt))), (6, .int l6_x19), (5, .int l5_x19), (4, .int l4_x19), (0, .ref (hG 0)), (1, .int p1), (2, .int p2), (3, .int p3)])) => ?_)
      refine lv_aload_n hx hb dX3_layNeed_45 rfl (lv_at hl 4 rfl) ?_
      refine va_get (D := (dC, dI)) (ci := 3) (v := .ref (hQ 0)) (C := RX3) (T := TX3) (N := 17) hx hb hts iwsMX3_layNeed_in3 hown hK hP 0 rfl rfl 2 (by decide) (hts _ hm_m_X3_layNeed_2) (fun _ h9 => h9) rfl dX3_layNeed_46 ?_
      refine lv_iload_n hx hb dX3_layNeed_49 rfl (lv_at hl 5 rfl) ?_
      refine lv_iload hx hb dX3_layNeed_50 (lv_at hl 1 rfl) ?_
      refine lv_iconst (v := 1) hx hb dX3_layNeed_52 (by decide) ?_
      refine lv_iadd hx hb dX3_layNeed_53 ?_
      refine lv_topi (fun y77 hy77 => ?_)
      obtain rfl : (iI (l6_x19.toInt + 1)) = y77 := (hy77.trans (iI_add2 (iI_of _) (by decide : (1 : Int32) = iI 1))).symm
      have p9 := cj_5_3_4 (WG hG aG kG hM hO hQ hw iG_made iG_keptNeeds fG_kept fG_need fG_turn iG_columns) (WO hO aO kO hM hQ hw iO_answered iO_searched iO_searchedRelaxed iO_counted fO_countedCase gO_goalNumber gO_goalScale fO_start fO_column fO_chosen) (WM hM aM kM iM_stands iM_variables iM_rows iM_goals iM_differents iM_cases fM_from fM_to fM_whole fM_ways iM_plainRows fM_plainRow fM_kept fM_goalOver fM_goalUnder fM_goalMax fM_different) (WQ hQ aQ kQ hw fQ_inside fQ_outside fQ_shut iQ_rows iQ_allRows iQ_columns) (WW nW hw lw kw wl_x19 wb_x19 wG_x19)
      have hPc := hP.mem (fun q h => p9.mem_iff.mpr (List.mem_append_left _ h))
      have hDc := (hD.perm p9).left
      have hKc : va_K (dC, dI) vwCl (tQ kQ ++ (tW kw)) _ := hK.sub [25, 26, 27, 28, 29] rfl
      have hFc := freeG p9 hD hS hA
      refine va_callr (va_runV (As := [.int p1, .int (iI (l6_x19.toInt + 1))]) (rest := []) ⟨hx, hb, hml, hown, hts⟩ (m_X6_cellAt l dC dI hQ aQ kQ hw fQ_inside fQ_outside fQ_shut iQ_rows iQ_allRows iQ_columns nW lw kw wl_x19 wb_x19 wG_x19 p1 (iI (l6_x19.toInt + 1)) (b_iQ_rows) (b_iQ_allRows) (b_iQ_columns) (by first | with_reducible assumption | omega | assumption) b_wl_x19 b_wb_x19 (b_p1) (iI_rng (Int.le_trans (by decide) (Int.add_le_add (b_l6_x19.1) (Int.le_refl _))) (Int.le_trans (Int.add_le_add (b_l6_x19.2) (Int.le_refl _)) (by decide)) (by decide) (by decide)) (by omega) ((by have h9 := ix9 (i := p1.toInt) (j := (l6_x19.toInt + 1)) (c := iQ_columns.toInt) (by omega) (by omega) (by omega) (by omega) (by omega) (by omega); rw [iI_t (E := l6_x19.toInt + 1) (by omega) (by omega)]; exact h9)) H.size) (cwV 2 hts gwsMX3_layNeed_2 rfl rfl rfl hd_yX6_cellAt_RX6 (by decide +kernel)) (fz_pre (va_recv hK hP (ci := 6) (q0 := 28) rfl rfl) hPc hKc hDc) rfl rfl hl.1 rfl (lv_room (Nat.le_of_ble_eq_true rfl)) dX3_layNeed_54 (by decide +kernel)) hS (fun q _ h => hFc q h) hFc (fun kR_78 ra78 t9_ H locs ht hvm hw9 hB9 hz1 hk1 hS => ?_)
      revert hB9
      refine fz_a2 ?_
      intro hra hB9
      subst hra
      have f78_0 := hw9
      try dsimp only at f78_0
      have p8 := p9
      obtain ⟨hP, hD⟩ := frameG p9 p8 hP hD hk1 hFc (fz_P ht hB9.1) hB9.2
      refine lv_iload hx hb dX3_layNeed_57 (lv_at hl 0 rfl) ?_
      refine lv_i2l hx hb dX3_layNeed_59 rfl ?_
      refine lv_topl (fun v79 hv79 => ?_)
      clear hv79
      have p9 := cj_5_4 (WG hG aG kG hM hO hQ hw iG_made iG_keptNeeds fG_kept fG_need fG_turn iG_columns) (WO hO aO kO hM hQ hw iO_answered iO_searched iO_searchedRelaxed iO_counted fO_countedCase gO_goalNumber gO_goalScale fO_start fO_column fO_chosen) (WM hM aM kM iM_stands iM_variables iM_rows iM_goals iM_differents iM_cases fM_from fM_to fM_whole fM_ways iM_plainRows fM_plainRow fM_kept fM_goalOver fM_goalUnder fM_goalMax fM_different) (WQ hQ aQ kQ hw fQ_inside fQ_outside fQ_shut iQ_rows iQ_allRows iQ_columns) (WW nW hw lw kw wl_x19 wb_x19 wG_x19)
      have hPc := hP.mem (fun q h => p9.mem_iff.mpr (List.mem_append_left _ h))
      have hDc := (hD.perm p9).left
      have hKc : va_K (dC, dI) vwCl (tW kw) _ := hK.sub [29] rfl
      have hFc := freeG p9 hD hS hA
      refine va_callv (va_runV (As := [.long v79]) (rest := []) ⟨hx, hb, hml, hown, hts⟩ (m_X8_setLong l dC dI nW hw lw kw wl_x19 wb_x19 wG_x19 kR_78 v79 b_wl_x19 b_wb_x19 (by first | with_reducible assumption | omega | (rw [iI_t (by omega) (by omega)]; omega) | decide | assumption) H.size) (cwV 1 hts gwsMX3_layNeed_3 rfl rfl rfl hd_yX8_setLong_RX8 (by decide +kernel)) (fz_pre (va_recv hK hP (ci := 8) (q0 := 6 + (11 + (11 + (5 + (kR_78))))) rfl (apR rfl (apR rfl (apR rfl (apR rfl (WW_o (by omega))))))) hPc hKc hDc) rfl rfl hl.1 rfl (lv_room (Nat.le_of_ble_eq_true rfl)) dX3_layNeed_60 (by decide +kernel)) hS (fun q _ h => hFc q h) hFc (fun u t9_ H locs ht hvm hw9 hB9 hz1 hk1 hS => ?_)
      revert u hw9 hB9
      refine fz_p3 ?_
      intro wl_80 wb_80 wG_80 hw9 hB9
      try dsimp only at hw9 hB9
      revert hw9
      refine fz_a2 ?_
      intro b_wl_80 b_wb_80
      have p8 := cj_5_4 (WG hG aG kG hM hO hQ hw iG_made iG_keptNeeds fG_kept fG_need fG_turn iG_columns) (WO hO aO kO hM hQ hw iO_answered iO_searched iO_searchedRelaxed iO_counted fO_countedCase gO_goalNumber gO_goalScale fO_start fO_column fO_chosen) (WM hM aM kM iM_stands iM_variables iM_rows iM_goals iM_differents iM_cases fM_from fM_to fM_whole fM_ways iM_plainRows fM_plainRow fM_kept fM_goalOver fM_goalUnder fM_goalMax fM_different) (WQ hQ aQ kQ hw fQ_inside fQ_outside fQ_shut iQ_rows iQ_allRows iQ_columns) (WW nW hw lw kw wl_80 wb_80 wG_80)
      obtain ⟨hP, hD⟩ := frameG p9 p8 hP hD hk1 hFc (fz_P ht hB9.1) hB9.2
      refine lv_iload hx hb dX3_layNeed_63 (lv_at hl 3 rfl) ?_
      refine lv_iload hx hb dX3_layNeed_65 (lv_at hl 0 rfl) ?_
      refine lv_aload_n hx hb dX3_layNeed_67 rfl (lv_at hl 4 rfl) ?_
      refine va_get (D := (dC, dI)) (ci := 3) (v := .ref (hM 0)) (C := RX3) (T := TX3) (N := 17) hx hb hts iwsMX3_layNeed_in3 hown hK hP 0 rfl rfl 0 (by decide) (hts _ hm_m_X3_layNeed_0) (fun _ h9 => h9) rfl dX3_layNeed_68 ?_
      refine va_get (D := (dC, dI)) (ci := 1) (v := .ref (aM 0)) (C := RX1) (T := TX1) (N := 17) hx hb hts iwsMX3_layNeed_in1 hown hK hP 17 rfl rfl 6 (by decide) (hts (.fieldLink RX3 204 "OptimaWorks$Model" "from" "[I") (by decide +kernel)) (fun _ h9 => h9) rfl dX3_layNeed_71 ?_
      refine lv_iload hx hb dX3_layNeed_74 (lv_at hl 1 rfl) ?_
      refine va_iald (cA := kM 0) (n := 8) (f := fM_from) hx hb hK hP 18 15 rfl rfl (vp_in_iff.mpr ⟨b_l6_x19.1, (Int.lt_of_lt_of_le (Int.not_le.mp t_28) (Int.le_trans b_iM_variables.2 (by decide)))⟩) dX3_layNeed_76 ?_
      refine lv_topi (fun v81 hv81 => ?_)
      clear hv81
      refine lv_imul hx hb dX3_layNeed_77 ?_
      refine lv_topi (fun y82 hy82 => ?_)
      obtain rfl : (iI ((p3.toInt * r75.toInt) * v81.toInt)) = y82 := (hy82.trans (iI_mul2 rfl (iI_of _))).symm
      refine lv_iadd hx hb dX3_layNeed_78 ?_
      refine lv_topi (fun y83 hy83 => ?_)
      obtain rfl : (iI (l4_x19.toInt + ((p3.toInt * r75.toInt) * v81.toInt))) = y83 := (hy83.trans (iI_add2 (iI_of _) rfl)).symm
      refine lv_istore hx hb dX3_layNeed_79 hl (by decide) rfl (fun ls (hl : lv_has ls _ ([(4, .int (iI (l4_x19.toInt + ((p3.toInt * r75.toInt) * v81.toInt)))), (7, .int (iI (p3.toInt * r75.toInt))), (6, .int l6_x19), (5, .int l5_x19), (0, .ref (hG 0)), (1, .int p1), (2, .int p2), (3, .int p3)])) => ?_)
      refine lv_iload hx hb dX3_layNeed_81 (lv_at hl 3 rfl) ?_
      refine lv_iload hx hb dX3_layNeed_83 (lv_at hl 1 rfl) ?_
      refine lv_isub hx hb dX3_layNeed_85 ?_
      refine lv_topi (fun y84 hy84 => ?_)
      obtain rfl : (iI (l5_x19.toInt - (p3.toInt * r75.toInt))) = y84 := (hy84.trans (iI_sub2 (iI_of _) rfl)).symm
      refine lv_istore hx hb dX3_layNeed_86 hl (by decide) rfl (fun ls (hl : lv_has ls _ ([(5, .int (iI (l5_x19.toInt - (p3.toInt * r75.toInt)))), (4, .int (iI (l4_x19.toInt + ((p3.toInt * r75.toInt) * v81.toInt)))), (7, .int (iI (p3.toInt * r75.toInt))), (6, .int l6_x19), (0, .ref (hG 0)), (1, .int p1), (2, .int p2), (3, .int p3)])) => ?_)
      refine lv_iinc (v := (iI (l6_x19.toInt + 1))) hx hb dX3_layNeed_88 hl (k := 3) rfl (iI_add2 (iI_of _) (by decide : (1 : Int32) = iI 1)) (by decide) rfl (fun ls (hl : lv_has ls _ ([(6, .int (iI (l6_x19.toInt + 1))), (5, .int (iI (l5_x19.toInt - (p3.toInt * r75.toInt)))), (4, .int (iI (l4_x19.toInt + ((p3.toInt * r75.toInt) * v81.toInt)))), (7, .int (iI (p3.toInt * r75.toInt))), (0, .ref (hG 0)), (1, .int p1), (2, .int p2), (3, .int p3)])) => ?_)
      refine lv_goto (tgt := 19) hx hb dX3_layNeed_91 (by decide) ?_
      have hl : lv_has _ _ ([(6, .int (iI (l6_x19.toInt + 1))), (5, .int (iI (l5_x19.toInt - (p3.toInt * r75.toInt)))), (4, .int (iI (l4_x19.toInt + ((p3.toInt * r75.toInt) * v81.toInt)))), (0, .ref (hG 0)), (1, .int p1), (2, .int p2), (3, .int p3)]) := lv_sub hl [0, 1, 2, 4, 5, 6, 7] rfl
      exact ihx19 wl_80 wb_80 wG_80 (iI (l6_x19.toInt + 1)) (iI (l5_x19.toInt - (p3.toInt * r75.toInt))) (iI (l4_x19.toInt + ((p3.toInt * r75.toInt) * v81.toInt))) _ _ _ b_wl_80 b_wb_80 (iI_rng (Int.le_trans (by decide) (Int.add_le_add (b_l6_x19.1) (Int.le_refl _))) (by omega) (by decide) (by decide)) (by have e9 : ((iI (l6_x19.toInt + 1))).toInt = (l6_x19.toInt + 1) := (iI_t (Int.le_trans (by decide) (Int.add_le_add (b_l6_x19.1) (Int.le_refl _))) (Int.le_trans (Int.add_le_add (b_l6_x19.2) (Int.le_refl _)) (by decide))); omega) hP hD hS hl
theorem dX3_isTight_0 : decode cX3_isTight 0 = .ok (.aload_n 0, 1) := dk_42 (by decide +kernel)
theorem dX3_isTight_1 : decode cX3_isTight 1 = .ok (.getfield 49, 3) := dk_180 (by decide +kernel)
theorem dX3_isTight_4 : decode cX3_isTight 4 = .ok (.lconst 0, 1) := dk_9 (by decide +kernel)
theorem dX3_isTight_5 : decode cX3_isTight 5 = .ok (.invokevirtual 128, 3) := dk_182 (by decide +kernel)
theorem dX3_isTight_8 : decode cX3_isTight 8 = .ok (.aload_n 0, 1) := dk_42 (by decide +kernel)
theorem dX3_isTight_9 : decode cX3_isTight 9 = .ok (.getfield 63, 3) := dk_180 (by decide +kernel)
theorem dX3_isTight_12 : decode cX3_isTight 12 = .ok (.aload_n 0, 1) := dk_42 (by decide +kernel)
theorem dX3_isTight_13 : decode cX3_isTight 13 = .ok (.getfield 49, 3) := dk_180 (by decide +kernel)
theorem dX3_isTight_16 : decode cX3_isTight 16 = .ok (.aload_n 0, 1) := dk_42 (by decide +kernel)
theorem dX3_isTight_17 : decode cX3_isTight 17 = .ok (.getfield 46, 3) := dk_180 (by decide +kernel)
theorem dX3_isTight_20 : decode cX3_isTight 20 = .ok (.iload_n 2, 1) := dk_28 (by decide +kernel)
theorem dX3_isTight_21 : decode cX3_isTight 21 = .ok (.ineg, 1) := dk_116 (by decide +kernel)
theorem dX3_isTight_22 : decode cX3_isTight 22 = .ok (.aload_n 0, 1) := dk_42 (by decide +kernel)
theorem dX3_isTight_23 : decode cX3_isTight 23 = .ok (.getfield 59, 3) := dk_180 (by decide +kernel)
theorem dX3_isTight_26 : decode cX3_isTight 26 = .ok (.iload_n 1, 1) := dk_27 (by decide +kernel)
theorem dX3_isTight_27 : decode cX3_isTight 27 = .ok (.invokevirtual 213, 3) := dk_182 (by decide +kernel)
theorem dX3_isTight_30 : decode cX3_isTight 30 = .ok (.imul, 1) := dk_104 (by decide +kernel)
theorem dX3_isTight_31 : decode cX3_isTight 31 = .ok (.i2l, 1) := dk_133 (by decide +kernel)
theorem dX3_isTight_32 : decode cX3_isTight 32 = .ok (.invokevirtual 207, 3) := dk_182 (by decide +kernel)
theorem dX3_isTight_35 : decode cX3_isTight 35 = .ok (.iconst 0, 1) := dk_3 (by decide +kernel)
theorem dX3_isTight_36 : decode cX3_isTight 36 = .ok (.istore 4, 2) := dk_54 (by decide +kernel)
theorem dX3_isTight_38 : decode cX3_isTight 38 = .ok (.iload 4, 2) := dk_21 (by decide +kernel)
theorem dX3_isTight_40 : decode cX3_isTight 40 = .ok (.aload_n 0, 1) := dk_42 (by decide +kernel)
theorem dX3_isTight_41 : decode cX3_isTight 41 = .ok (.getfield 59, 3) := dk_180 (by decide +kernel)
theorem dX3_isTight_44 : decode cX3_isTight 44 = .ok (.getfield 173, 3) := dk_180 (by decide +kernel)
theorem dX3_isTight_47 : decode cX3_isTight 47 = .ok (.if_icmp .ge 40, 3) := dk_162 (by decide +kernel)
theorem dX3_isTight_50 : decode cX3_isTight 50 = .ok (.aload_n 0, 1) := dk_42 (by decide +kernel)
theorem dX3_isTight_51 : decode cX3_isTight 51 = .ok (.getfield 63, 3) := dk_180 (by decide +kernel)
theorem dX3_isTight_54 : decode cX3_isTight 54 = .ok (.aload_n 0, 1) := dk_42 (by decide +kernel)
theorem dX3_isTight_55 : decode cX3_isTight 55 = .ok (.getfield 49, 3) := dk_180 (by decide +kernel)
theorem dX3_isTight_58 : decode cX3_isTight 58 = .ok (.aload_n 0, 1) := dk_42 (by decide +kernel)
theorem dX3_isTight_59 : decode cX3_isTight 59 = .ok (.getfield 40, 3) := dk_180 (by decide +kernel)
theorem dX3_isTight_62 : decode cX3_isTight 62 = .ok (.iload 4, 2) := dk_21 (by decide +kernel)
theorem dX3_isTight_64 : decode cX3_isTight 64 = .ok (.aaload, 1) := dk_50 (by decide +kernel)
theorem dX3_isTight_65 : decode cX3_isTight 65 = .ok (.iload_n 2, 1) := dk_28 (by decide +kernel)
theorem dX3_isTight_66 : decode cX3_isTight 66 = .ok (.aload_n 0, 1) := dk_42 (by decide +kernel)
theorem dX3_isTight_67 : decode cX3_isTight 67 = .ok (.getfield 59, 3) := dk_180 (by decide +kernel)
theorem dX3_isTight_70 : decode cX3_isTight 70 = .ok (.iload_n 1, 1) := dk_27 (by decide +kernel)
theorem dX3_isTight_71 : decode cX3_isTight 71 = .ok (.iload 4, 2) := dk_21 (by decide +kernel)
theorem dX3_isTight_73 : decode cX3_isTight 73 = .ok (.invokevirtual 216, 3) := dk_182 (by decide +kernel)
theorem dX3_isTight_76 : decode cX3_isTight 76 = .ok (.imul, 1) := dk_104 (by decide +kernel)
theorem dX3_isTight_77 : decode cX3_isTight 77 = .ok (.i2l, 1) := dk_133 (by decide +kernel)
theorem dX3_isTight_78 : decode cX3_isTight 78 = .ok (.invokevirtual 207, 3) := dk_182 (by decide +kernel)
theorem dX3_isTight_81 : decode cX3_isTight 81 = .ok (.iinc 4 1, 3) := dk_132 (by decide +kernel)
theorem dX3_isTight_84 : decode cX3_isTight 84 = .ok (.goto (-46), 3) := dk_167 (by decide +kernel)
theorem dX3_isTight_87 : decode cX3_isTight 87 = .ok (.iload_n 3, 1) := dk_29 (by decide +kernel)
theorem dX3_isTight_88 : decode cX3_isTight 88 = .ok (.ifCond .eq 14, 3) := dk_153 (by decide +kernel)
theorem dX3_isTight_91 : decode cX3_isTight 91 = .ok (.aload_n 0, 1) := dk_42 (by decide +kernel)
theorem dX3_isTight_92 : decode cX3_isTight 92 = .ok (.getfield 49, 3) := dk_180 (by decide +kernel)
theorem dX3_isTight_95 : decode cX3_isTight 95 = .ok (.aload_n 0, 1) := dk_42 (by decide +kernel)
theorem dX3_isTight_96 : decode cX3_isTight 96 = .ok (.getfield 43, 3) := dk_180 (by decide +kernel)
theorem dX3_isTight_99 : decode cX3_isTight 99 = .ok (.invokevirtual 229, 3) := dk_182 (by decide +kernel)
theorem dX3_isTight_102 : decode cX3_isTight 102 = .ok (.aload_n 0, 1) := dk_42 (by decide +kernel)
theorem dX3_isTight_103 : decode cX3_isTight 103 = .ok (.getfield 49, 3) := dk_180 (by decide +kernel)
theorem dX3_isTight_106 : decode cX3_isTight 106 = .ok (.getfield 232, 3) := dk_180 (by decide +kernel)
theorem dX3_isTight_109 : decode cX3_isTight 109 = .ok (.ifCond .ne 7, 3) := dk_154 (by decide +kernel)
theorem dX3_isTight_112 : decode cX3_isTight 112 = .ok (.iconst 1, 1) := dk_4 (by decide +kernel)
theorem dX3_isTight_113 : decode cX3_isTight 113 = .ok (.goto 4, 3) := dk_167 (by decide +kernel)
theorem dX3_isTight_116 : decode cX3_isTight 116 = .ok (.iconst 0, 1) := dk_3 (by decide +kernel)
theorem dX3_isTight_117 : decode cX3_isTight 117 = .ok (.ireturn, 1) := dk_172 (by decide +kernel)
def wsMX3_isTight : List Cond := .code yX3_isTight cX3_isTight 5 (some .boolean) :: ([.fieldLink RX3 49 "OptimaWorks$Prover" "leftOver" "LOptimaWorks$Whole;", .fieldLink RX3 63 "OptimaWorks$Prover" "solver" "LOptimaWorks$Solver;", .fieldLink RX3 46 "OptimaWorks$Prover" "under" "LOptimaWorks$Whole;", .fieldLink RX3 59 "OptimaWorks$Prover" "model" "LOptimaWorks$Model;", .fieldLink RX3 173 "OptimaWorks$Model" "variables" "I", .fieldLink RX3 40 "OptimaWorks$Prover" "place" "[LOptimaWorks$Whole;", .fieldLink RX3 43 "OptimaWorks$Prover" "shortfall" "LOptimaWorks$Whole;", .fieldLink RX3 232 "OptimaWorks$Whole" "length" "I"] ++ wsX10 ++ wsX30 ++ wsX80 ++ (wsV RX3 128 RX8 yX8_setLong wsMX8_setLong) ++ (wsV RX3 213 RX1 yX1_needBound wsMX1_needBound) ++ (wsV RX3 207 RX5 yX5_addTimes wsMX5_addTimes) ++ (wsV RX3 216 RX1 yX1_needNumber wsMX1_needNumber) ++ (wsV RX3 229 RX8 yX8_add wsMX8_add))
theorem iwsMX3_isTight_in1 : ∀ w ∈ wsX10, w ∈ wsMX3_isTight := fun _ h => List.mem_cons_of_mem _ (List.mem_append_left _ (List.mem_append_left _ (List.mem_append_left _ (List.mem_append_left _ (List.mem_append_left _ (List.mem_append_left _ (List.mem_append_left _ (List.mem_append_right _ h))))))))
theorem iwsMX3_isTight_in3 : ∀ w ∈ wsX30, w ∈ wsMX3_isTight := fun _ h => List.mem_cons_of_mem _ (List.mem_append_left _ (List.mem_append_left _ (List.mem_append_left _ (List.mem_append_left _ (List.mem_append_left _ (List.mem_append_left _ (List.mem_append_right _ h)))))))
theorem iwsMX3_isTight_in8 : ∀ w ∈ wsX80, w ∈ wsMX3_isTight := fun _ h => List.mem_cons_of_mem _ (List.mem_append_left _ (List.mem_append_left _ (List.mem_append_left _ (List.mem_append_left _ (List.mem_append_left _ (List.mem_append_right _ h))))))
theorem gwsMX3_isTight_0 : GoodIn wsMX3_isTight (wsV RX3 128 RX8 yX8_setLong wsMX8_setLong) := goodIn_sub (fun _ h => List.mem_cons_of_mem _ (List.mem_append_left _ (List.mem_append_left _ (List.mem_append_left _ (List.mem_append_left _ (List.mem_append_right _ h)))))) (gdV (by decide +kernel) gdwsMX8_setLong)
theorem gwsMX3_isTight_1 : GoodIn wsMX3_isTight (wsV RX3 213 RX1 yX1_needBound wsMX1_needBound) := goodIn_sub (fun _ h => List.mem_cons_of_mem _ (List.mem_append_left _ (List.mem_append_left _ (List.mem_append_left _ (List.mem_append_right _ h))))) (gdV (by decide +kernel) gdwsMX1_needBound)
theorem gwsMX3_isTight_2 : GoodIn wsMX3_isTight (wsV RX3 207 RX5 yX5_addTimes wsMX5_addTimes) := goodIn_sub (fun _ h => List.mem_cons_of_mem _ (List.mem_append_left _ (List.mem_append_left _ (List.mem_append_right _ h)))) (gdV (by decide +kernel) gdwsMX5_addTimes)
theorem gwsMX3_isTight_3 : GoodIn wsMX3_isTight (wsV RX3 216 RX1 yX1_needNumber wsMX1_needNumber) := goodIn_sub (fun _ h => List.mem_cons_of_mem _ (List.mem_append_left _ (List.mem_append_right _ h))) (gdV (by decide +kernel) gdwsMX1_needNumber)
theorem gwsMX3_isTight_4 : GoodIn wsMX3_isTight (wsV RX3 229 RX8 yX8_add wsMX8_add) := goodIn_sub (fun _ h => List.mem_cons_of_mem _ (List.mem_append_right _ h)) (gdV (by decide +kernel) gdwsMX8_add)
theorem gdwsMX3_isTight : wsMX3_isTight.all goodWord = true := gdC rfl (gdA (gdA (gdA (gdA (gdA (gdA (gdA (gdA (by decide +kernel : ([.fieldLink RX3 49 "OptimaWorks$Prover" "leftOver" "LOptimaWorks$Whole;", .fieldLink RX3 63 "OptimaWorks$Prover" "solver" "LOptimaWorks$Solver;", .fieldLink RX3 46 "OptimaWorks$Prover" "under" "LOptimaWorks$Whole;", .fieldLink RX3 59 "OptimaWorks$Prover" "model" "LOptimaWorks$Model;", .fieldLink RX3 173 "OptimaWorks$Model" "variables" "I", .fieldLink RX3 40 "OptimaWorks$Prover" "place" "[LOptimaWorks$Whole;", .fieldLink RX3 43 "OptimaWorks$Prover" "shortfall" "LOptimaWorks$Whole;", .fieldLink RX3 232 "OptimaWorks$Whole" "length" "I"] : List Cond).all goodWord = true) gdwsX10) gdwsX30) gdwsX80) (gdV (by decide +kernel) gdwsMX8_setLong)) (gdV (by decide +kernel) gdwsMX1_needBound)) (gdV (by decide +kernel) gdwsMX5_addTimes)) (gdV (by decide +kernel) gdwsMX1_needNumber)) (gdV (by decide +kernel) gdwsMX8_add))
theorem hm_m_X3_isTight_0 : (.fieldLink RX3 49 "OptimaWorks$Prover" "leftOver" "LOptimaWorks$Whole;" : Cond) ∈ wsMX3_isTight := by decide +kernel
theorem hm_m_X3_isTight_1 : (.fieldLink RX3 63 "OptimaWorks$Prover" "solver" "LOptimaWorks$Solver;" : Cond) ∈ wsMX3_isTight := by decide +kernel
theorem hm_m_X3_isTight_2 : (.fieldLink RX3 59 "OptimaWorks$Prover" "model" "LOptimaWorks$Model;" : Cond) ∈ wsMX3_isTight := by decide +kernel
set_option maxHeartbeats 4000000 in
set_option maxRecDepth 100000 in
/-- is it tight -/
theorem m_X3_isTight (l : Launch) (dC : Nat → ClassId) (dI : Nat → Nat → Nat) (hG : Nat → Nat) (aG : Nat → Nat) (kG : Nat → ClassId) (hM : Nat → Nat) (hO : Nat → Nat) (hQ : Nat → Nat) (hw : Nat → Nat) (iG_made : Int32) (iG_keptNeeds : Int32) (fG_kept : Nat → Int32) (fG_need : Nat → Int32) (fG_turn : Nat → Int32) (iG_columns : Int32) (aO : Nat → Nat) (kO : Nat → ClassId) (iO_answered : Int32) (iO_searched : Int32) (iO_searchedRelaxed : Int32) (iO_counted : Int32) (fO_countedCase : Nat → Int32) (gO_goalNumber : Nat → Int64) (gO_goalScale : Nat → Int64) (fO_start : Nat → Int32) (fO_column : Nat → Int32) (fO_chosen : Nat → Int32) (aM : Nat → Nat) (kM : Nat → ClassId) (iM_stands : Int32) (iM_variables : Int32) (iM_rows : Int32) (iM_goals : Int32) (iM_differents : Int32) (iM_cases : Int32) (fM_from : Nat → Int32) (fM_to : Nat → Int32) (fM_whole : Nat → Int32) (fM_ways : Nat → Int32) (iM_plainRows : Int32) (fM_plainRow : Nat → Int32) (fM_kept : Nat → Int32) (fM_goalOver : Nat → Int32) (fM_goalUnder : Nat → Int32) (fM_goalMax : Nat → Int32) (fM_different : Nat → Int32) (aQ : Nat → Nat) (kQ : Nat → ClassId) (fQ_inside : Nat → Int32) (fQ_outside : Nat → Int32) (fQ_shut : Nat → Int32) (iQ_rows : Int32) (iQ_allRows : Int32) (iQ_columns : Int32) (nW : Nat) (lw : Nat → Nat) (kw : ClassId) (wl : Nat → Int32) (wb : Nat → Int32) (wG : Nat → Nat → Int64) (p1 : Int32) (p2 : Int32) (p3 : Int32) (b_iG_made : 0 ≤ iG_made.toInt ∧ iG_made.toInt ≤ 1) (b_fG_need : ∀ q : Nat, 0 ≤ (fG_need q).toInt ∧ (fG_need q).toInt ≤ 27) (b_iG_columns : 0 ≤ iG_columns.toInt ∧ iG_columns.toInt ≤ 40) (b_iO_answered : 0 ≤ iO_answered.toInt ∧ iO_answered.toInt ≤ 1) (b_iO_searched : 0 ≤ iO_searched.toInt ∧ iO_searched.toInt ≤ 1) (b_iO_searchedRelaxed : 0 ≤ iO_searchedRelaxed.toInt ∧ iO_searchedRelaxed.toInt ≤ 1) (b_iO_counted : (-1) ≤ iO_counted.toInt ∧ iO_counted.toInt ≤ 64) (b_fO_countedCase : ∀ q : Nat, 0 ≤ (fO_countedCase q).toInt ∧ (fO_countedCase q).toInt ≤ 200000) (b_fO_column : ∀ q : Nat, (-1) ≤ (fO_column q).toInt ∧ (fO_column q).toInt ≤ 8) (b_fO_chosen : ∀ q : Nat, 0 ≤ (fO_chosen q).toInt ∧ (fO_chosen q).toInt ≤ 2) (b_iM_stands : 0 ≤ iM_stands.toInt ∧ iM_stands.toInt ≤ 1) (b_iM_variables : 0 ≤ iM_variables.toInt ∧ iM_variables.toInt ≤ 8) (b_iM_rows : 0 ≤ iM_rows.toInt ∧ iM_rows.toInt ≤ 12) (b_iM_goals : 0 ≤ iM_goals.toInt ∧ iM_goals.toInt ≤ 3) (b_iM_differents : 0 ≤ iM_differents.toInt ∧ iM_differents.toInt ≤ 8) (b_iM_cases : 0 ≤ iM_cases.toInt ∧ iM_cases.toInt ≤ 200000) (b_fM_ways : ∀ q : Nat, 0 ≤ (fM_ways q).toInt ∧ (fM_ways q).toInt ≤ 3) (b_iM_plainRows : 0 ≤ iM_plainRows.toInt ∧ iM_plainRows.toInt ≤ 12) (b_fM_plainRow : ∀ q : Nat, 0 ≤ (fM_plainRow q).toInt ∧ (fM_plainRow q).toInt ≤ 11) (b_pr : iM_plainRows.toInt ≤ iM_rows.toInt) (b_iQ_rows : 0 ≤ iQ_rows.toInt ∧ iQ_rows.toInt ≤ 40) (b_iQ_allRows : 0 ≤ iQ_allRows.toInt ∧ iQ_allRows.toInt ≤ 40) (b_iQ_columns : 0 ≤ iQ_columns.toInt ∧ iQ_columns.toInt ≤ 40) (b_tb : TbO iQ_rows iQ_allRows iQ_columns) (b_wl : ∀ q : Nat, 0 ≤ (wl q).toInt ∧ (wl q).toInt ≤ 14) (b_wb : ∀ q : Nat, 0 ≤ (wb q).toInt ∧ (wb q).toInt ≤ 1) (b_p1 : 0 ≤ p1.toInt ∧ p1.toInt ≤ 27) (hnW : 474 ≤ nW) (hni : p1.toInt < iM_plainRows.toInt + 2 * iM_variables.toInt) (sz : Nat) : Met l yX3_isTight wsMX3_isTight ({ frames := 4, cells := 0, slots := 0, locals := 85 }) (va_Pc [.ref (hG 0), .int p1, .int p2, .int p3] (fun U => U.heap.size = sz ∧ va_P (dC, dI) vwCl (WG hG aG kG hM hO hQ hw iG_made iG_keptNeeds fG_kept fG_need fG_turn iG_columns ++ (WO hO aO kO hM hQ hw iO_answered iO_searched iO_searchedRelaxed iO_counted fO_countedCase gO_goalNumber gO_goalScale fO_start fO_column fO_chosen ++ (WM hM aM kM iM_stands iM_variables iM_rows iM_goals iM_differents iM_cases fM_from fM_to fM_whole fM_ways iM_plainRows fM_plainRow fM_kept fM_goalOver fM_goalUnder fM_goalMax fM_different ++ (WQ hQ aQ kQ hw fQ_inside fQ_outside fQ_shut iQ_rows iQ_allRows iQ_columns ++ (WW nW hw lw kw wl wb wG))))) U.heap ∧ va_K (dC, dI) vwCl (tG kG ++ (tO kO ++ (tM kM ++ (tQ kQ ++ (tW kw))))) U ∧ va_D (fun _ => True) (WG hG aG kG hM hO hQ hw iG_made iG_keptNeeds fG_kept fG_need fG_turn iG_columns ++ (WO hO aO kO hM hQ hw iO_answered iO_searched iO_searchedRelaxed iO_counted fO_countedCase gO_goalNumber gO_goalScale fO_start fO_column fO_chosen ++ (WM hM aM kM iM_stands iM_variables iM_rows iM_goals iM_differents iM_cases fM_from fM_to fM_whole fM_ways iM_plainRows fM_plainRow fM_kept fM_goalOver fM_goalUnder fM_goalMax fM_different ++ (WQ hQ aQ kQ hw fQ_inside fQ_outside fQ_shut iQ_rows iQ_allRows iQ_columns ++ (WW nW hw lw kw wl wb wG))))))) (va_Qi (fun (r : Int32) (u : (Nat → Int32) × (Nat → Int32) × (Nat → Nat → Int64)) => (∀ q : Nat, 0 ≤ ((u.1) q).toInt ∧ ((u.1) q).toInt ≤ 14) ∧ (∀ q : Nat, 0 ≤ ((u.2.1) q).toInt ∧ ((u.2.1) q).toInt ≤ 1) ∧ (0 ≤ r.toInt ∧ r.toInt ≤ 1)) (fun (u : (Nat → Int32) × (Nat → Int32) × (Nat → Nat → Int64)) t => va_P (dC, dI) vwCl (WG hG aG kG hM hO hQ hw iG_made iG_keptNeeds fG_kept fG_need fG_turn iG_columns ++ (WO hO aO kO hM hQ hw iO_answered iO_searched iO_searchedRelaxed iO_counted fO_countedCase gO_goalNumber gO_goalScale fO_start fO_column fO_chosen ++ (WM hM aM kM iM_stands iM_variables iM_rows iM_goals iM_differents iM_cases fM_from fM_to fM_whole fM_ways iM_plainRows fM_plainRow fM_kept fM_goalOver fM_goalUnder fM_goalMax fM_different ++ (WQ hQ aQ kQ hw fQ_inside fQ_outside fQ_shut iQ_rows iQ_allRows iQ_columns ++ (WW nW hw lw kw (u.1) (u.2.1) (u.2.2)))))) t.heap ∧ va_D (va_A (WG hG aG kG hM hO hQ hw iG_made iG_keptNeeds fG_kept fG_need fG_turn iG_columns ++ (WO hO aO kO hM hQ hw iO_answered iO_searched iO_searchedRelaxed iO_counted fO_countedCase gO_goalNumber gO_goalScale fO_start fO_column fO_chosen ++ (WM hM aM kM iM_stands iM_variables iM_rows iM_goals iM_differents iM_cases fM_from fM_to fM_whole fM_ways iM_plainRows fM_plainRow fM_kept fM_goalOver fM_goalUnder fM_goalMax fM_different ++ (WQ hQ aQ kQ hw fQ_inside fQ_outside fQ_shut iQ_rows iQ_allRows iQ_columns ++ (WW nW hw lw kw wl wb wG))))) sz) (WG hG aG kG hM hO hQ hw iG_made iG_keptNeeds fG_kept fG_need fG_turn iG_columns ++ (WO hO aO kO hM hQ hw iO_answered iO_searched iO_searchedRelaxed iO_counted fO_countedCase gO_goalNumber gO_goalScale fO_start fO_column fO_chosen ++ (WM hM aM kM iM_stands iM_variables iM_rows iM_goals iM_differents iM_cases fM_from fM_to fM_whole fM_ways iM_plainRows fM_plainRow fM_kept fM_goalOver fM_goalUnder fM_goalMax fM_different ++ (WQ hQ aQ kQ hw fQ_inside fQ_outside fQ_shut iQ_rows iQ_allRows iQ_columns ++ (WW nW hw lw kw (u.1) (u.2.1) (u.2.2))))))) (va_A (WG hG aG kG hM hO hQ hw iG_made iG_keptNeeds fG_kept fG_need fG_turn iG_columns ++ (WO hO aO kO hM hQ hw iO_answered iO_searched iO_searchedRelaxed iO_counted fO_countedCase gO_goalNumber gO_goalScale fO_start fO_column fO_chosen ++ (WM hM aM kM iM_stands iM_variables iM_rows iM_goals iM_differents iM_cases fM_from fM_to fM_whole fM_ways iM_plainRows fM_plainRow fM_kept fM_goalOver fM_goalUnder fM_goalMax fM_different ++ (WQ hQ aQ kQ hw fQ_inside fQ_outside fQ_shut iQ_rows iQ_allRows iQ_columns ++ (WW nW hw lw kw wl wb wG))))) sz)) 0 0 (va_A (WG hG aG kG hM hO hQ hw iG_made iG_keptNeeds fG_kept fG_need fG_turn iG_columns ++ (WO hO aO kO hM hQ hw iO_answered iO_searched iO_searchedRelaxed iO_counted fO_countedCase gO_goalNumber gO_goalScale fO_start fO_column fO_chosen ++ (WM hM aM kM iM_stands iM_variables iM_rows iM_goals iM_differents iM_cases fM_from fM_to fM_whole fM_ways iM_plainRows fM_plainRow fM_kept fM_goalOver fM_goalUnder fM_goalMax fM_different ++ (WQ hQ aQ kQ hw fQ_inside fQ_outside fQ_shut iQ_rows iQ_allRows iQ_columns ++ (WW nW hw lw kw wl wb wG))))) sz) := by
  refine Met.ofW (cc := cX3_isTight) (maxL := 5) (ret := (some .boolean)) (by decide) rfl ?_
  intro p e s m args below meth c s₁ B hml hv
  obtain ⟨rfl, hsz, hP, hK, hD0⟩ := hv
  have hx := B.exec
  have hb := B.bytes
  have hr := B.returns
  have hts := atoms_spec (ws := wsMX3_isTight) B.pre
  have hown : s.vm.findClass RX3 = some m.cls := findClass_of_methodNamed B.named
  have hlocks := B.notSynchronized
  subst hsz
  have hD := hD0.self (sz := s.heap.size)
  generalize hAe : va_A (WG hG aG kG hM hO hQ hw iG_made iG_keptNeeds fG_kept fG_need fG_turn iG_columns ++ (WO hO aO kO hM hQ hw iO_answered iO_searched iO_searchedRelaxed iO_counted fO_countedCase gO_goalNumber gO_goalScale fO_start fO_column fO_chosen ++ (WM hM aM kM iM_stands iM_variables iM_rows iM_goals iM_differents iM_cases fM_from fM_to fM_whole fM_ways iM_plainRows fM_plainRow fM_kept fM_goalOver fM_goalUnder fM_goalMax fM_different ++ (WQ hQ aQ kQ hw fQ_inside fQ_outside fQ_shut iQ_rows iQ_allRows iQ_columns ++ (WW nW hw lw kw wl wb wG))))) s.heap.size = A at hD ⊢
  have hA : ∀ q : Nat, s.heap.size ≤ q → A q := fun q h => by rw [← hAe]; exact Or.inr h
  have hS : va_S A s.heap s.heap [] := va_S.rf
  have hl := lv_entry ([.ref (hG 0), .int p1, .int p2, .int p3]) (n := 5) (Nat.le_of_ble_eq_true rfl)
  rw [lg_entry_eq]
  generalize (lg_sl ([.ref (hG 0), .int p1, .int p2, .int p3]) ++ List.replicate (5 - (lg_sl ([.ref (hG 0), .int p1, .int p2, .int p3])).length) Slot.unset).toArray = ls at hl ⊢
  have hl : lv_has ls 5 [(0, .ref (hG 0)), (1, .int p1), (2, .int p2), (3, .int p3)] := hl
  refine lv_aload_n hx hb dX3_isTight_0 rfl (lv_at hl 0 rfl) ?_
  refine va_get (D := (dC, dI)) (ci := 3) (v := .ref (hw 473)) (C := RX3) (T := TX3) (N := 17) hx hb hts iwsMX3_isTight_in3 hown hK hP 0 rfl rfl 13 (by decide) (hts _ hm_m_X3_isTight_0) (fun _ h9 => h9) rfl dX3_isTight_1 ?_
  refine lv_lconst (v := 0) hx hb dX3_isTight_4 (by decide) ?_
  have p9 := cj_5_4 (WG hG aG kG hM hO hQ hw iG_made iG_keptNeeds fG_kept fG_need fG_turn iG_columns) (WO hO aO kO hM hQ hw iO_answered iO_searched iO_searchedRelaxed iO_counted fO_countedCase gO_goalNumber gO_goalScale fO_start fO_column fO_chosen) (WM hM aM kM iM_stands iM_variables iM_rows iM_goals iM_differents iM_cases fM_from fM_to fM_whole fM_ways iM_plainRows fM_plainRow fM_kept fM_goalOver fM_goalUnder fM_goalMax fM_different) (WQ hQ aQ kQ hw fQ_inside fQ_outside fQ_shut iQ_rows iQ_allRows iQ_columns) (WW nW hw lw kw wl wb wG)
  have hPc := hP.mem (fun q h => p9.mem_iff.mpr (List.mem_append_left _ h))
  have hDc := (hD.perm p9).left
  have hKc : va_K (dC, dI) vwCl (tW kw) _ := hK.sub [29] rfl
  have hFc := freeG p9 hD hS hA
  refine va_callv (va_runV (As := [.long 0]) (rest := []) ⟨hx, hb, hml, hown, hts⟩ (m_X8_setLong l dC dI nW hw lw kw wl wb wG 473 0 b_wl b_wb (by first | with_reducible assumption | omega | (rw [iI_t (by omega) (by omega)]; omega) | decide | assumption) s.heap.size) (cwV 1 hts gwsMX3_isTight_0 rfl rfl rfl hd_yX8_setLong_RX8 (by decide +kernel)) (fz_pre (va_recv hK hP (ci := 8) (q0 := 6 + (11 + (11 + (5 + (473))))) rfl (apR rfl (apR rfl (apR rfl (apR rfl (WW_o (by omega))))))) hPc hKc hDc) rfl rfl hl.1 rfl (lv_room (Nat.le_of_ble_eq_true rfl)) dX3_isTight_5 (by decide +kernel)) hS (fun q _ h => hFc q h) hFc (fun u t9_ H locs ht hvm hw9 hB9 hz1 hk1 hS => ?_)
  revert u hw9 hB9
  refine fz_p3 ?_
  intro wl_1 wb_1 wG_1 hw9 hB9
  try dsimp only at hw9 hB9
  revert hw9
  refine fz_a2 ?_
  intro b_wl_1 b_wb_1
  have p8 := cj_5_4 (WG hG aG kG hM hO hQ hw iG_made iG_keptNeeds fG_kept fG_need fG_turn iG_columns) (WO hO aO kO hM hQ hw iO_answered iO_searched iO_searchedRelaxed iO_counted fO_countedCase gO_goalNumber gO_goalScale fO_start fO_column fO_chosen) (WM hM aM kM iM_stands iM_variables iM_rows iM_goals iM_differents iM_cases fM_from fM_to fM_whole fM_ways iM_plainRows fM_plainRow fM_kept fM_goalOver fM_goalUnder fM_goalMax fM_different) (WQ hQ aQ kQ hw fQ_inside fQ_outside fQ_shut iQ_rows iQ_allRows iQ_columns) (WW nW hw lw kw wl_1 wb_1 wG_1)
  obtain ⟨hP, hD⟩ := frameG p9 p8 hP hD hk1 hFc (fz_P ht hB9.1) hB9.2
  refine lv_aload_n hx hb dX3_isTight_8 rfl (lv_at hl 0 rfl) ?_
  refine va_get (D := (dC, dI)) (ci := 3) (v := .ref (hO 0)) (C := RX3) (T := TX3) (N := 17) hx hb hts iwsMX3_isTight_in3 hown hK hP 0 rfl rfl 1 (by decide) (hts _ hm_m_X3_isTight_1) (fun _ h9 => h9) rfl dX3_isTight_9 ?_
  refine lv_aload_n hx hb dX3_isTight_12 rfl (lv_at hl 0 rfl) ?_
  refine va_get (D := (dC, dI)) (ci := 3) (v := .ref (hw 473)) (C := RX3) (T := TX3) (N := 17) hx hb hts iwsMX3_isTight_in3 hown hK hP 0 rfl rfl 13 (by decide) (hts _ hm_m_X3_isTight_0) (fun _ h9 => h9) rfl dX3_isTight_13 ?_
  refine lv_aload_n hx hb dX3_isTight_16 rfl (lv_at hl 0 rfl) ?_
  refine va_get (D := (dC, dI)) (ci := 3) (v := .ref (hw 472)) (C := RX3) (T := TX3) (N := 17) hx hb hts iwsMX3_isTight_in3 hown hK hP 0 rfl rfl 12 (by decide) (hts (.fieldLink RX3 46 "OptimaWorks$Prover" "under" "LOptimaWorks$Whole;") (by decide +kernel)) (fun _ h9 => h9) rfl dX3_isTight_17 ?_
  refine lv_iload_n hx hb dX3_isTight_20 rfl (lv_at hl 2 rfl) ?_
  refine lv_ineg hx hb dX3_isTight_21 ?_
  refine lv_topi (fun y2 hy2 => ?_)
  obtain rfl : (iI (-p2.toInt)) = y2 := (hy2.trans (iI_neg2 (iI_of _))).symm
  refine lv_aload_n hx hb dX3_isTight_22 rfl (lv_at hl 0 rfl) ?_
  refine va_get (D := (dC, dI)) (ci := 3) (v := .ref (hM 0)) (C := RX3) (T := TX3) (N := 17) hx hb hts iwsMX3_isTight_in3 hown hK hP 0 rfl rfl 0 (by decide) (hts _ hm_m_X3_isTight_2) (fun _ h9 => h9) rfl dX3_isTight_23 ?_
  refine lv_iload_n hx hb dX3_isTight_26 rfl (lv_at hl 1 rfl) ?_
  have p9 := cj_5_2 (WG hG aG kG hM hO hQ hw iG_made iG_keptNeeds fG_kept fG_need fG_turn iG_columns) (WO hO aO kO hM hQ hw iO_answered iO_searched iO_searchedRelaxed iO_counted fO_countedCase gO_goalNumber gO_goalScale fO_start fO_column fO_chosen) (WM hM aM kM iM_stands iM_variables iM_rows iM_goals iM_differents iM_cases fM_from fM_to fM_whole fM_ways iM_plainRows fM_plainRow fM_kept fM_goalOver fM_goalUnder fM_goalMax fM_different) (WQ hQ aQ kQ hw fQ_inside fQ_outside fQ_shut iQ_rows iQ_allRows iQ_columns) (WW nW hw lw kw wl_1 wb_1 wG_1)
  have hPc := hP.mem (fun q h => p9.mem_iff.mpr (List.mem_append_left _ h))
  have hDc := (hD.perm p9).left
  have hKc : va_K (dC, dI) vwCl (tM kM) _ := hK.sub [15, 16, 17, 18, 19, 20, 21, 22, 23, 24] rfl
  have hFc := freeG p9 hD hS hA
  refine va_calli (va_runV (As := [.int p1]) (rest := [.int (iI (-p2.toInt)), .ref (hw 472), .ref (hw 473), .ref (hO 0)]) ⟨hx, hb, hml, hown, hts⟩ (m_X1_needBound l dC dI hM aM kM iM_stands iM_variables iM_rows iM_goals iM_differents iM_cases fM_from fM_to fM_whole fM_ways iM_plainRows fM_plainRow fM_kept fM_goalOver fM_goalUnder fM_goalMax fM_different p1 (b_iM_stands) (b_iM_variables) (b_iM_rows) (b_iM_goals) (b_iM_differents) (b_iM_cases) b_fM_ways (b_iM_plainRows) b_fM_plainRow (by first | with_reducible assumption | omega | assumption) (b_p1) (by first | with_reducible assumption | omega | (rw [iI_t (by omega) (by omega)]; omega) | decide | assumption) H.size) (cwV 1 hts gwsMX3_isTight_1 rfl rfl rfl hd_yX1_needBound_RX1 (by decide +kernel)) (fz_pre (va_recv hK hP (ci := 1) (q0 := 17) rfl rfl) hPc hKc hDc) rfl rfl hl.1 rfl (lv_room (Nat.le_of_ble_eq_true rfl)) dX3_isTight_27 (by decide +kernel)) hS (fun q _ h => hFc q h) hFc (fun r3 u t9_ H locs ht hvm hw9 hB9 hz1 hk1 hS => ?_)
  clear hw9
  have p8 := p9
  obtain ⟨hP, hD⟩ := frameG p9 p8 hP hD hk1 hFc (fz_P ht hB9.1) hB9.2
  refine lv_imul hx hb dX3_isTight_30 ?_
  refine lv_topi (fun y4 hy4 => ?_)
  obtain rfl : (iI ((-p2.toInt) * r3.toInt)) = y4 := (hy4.trans (iI_mul2 rfl (iI_of _))).symm
  refine lv_i2l hx hb dX3_isTight_31 rfl ?_
  refine lv_topl (fun v5 hv5 => ?_)
  clear hv5
  have p9 := cj_5_1_2_3_4 (WG hG aG kG hM hO hQ hw iG_made iG_keptNeeds fG_kept fG_need fG_turn iG_columns) (WO hO aO kO hM hQ hw iO_answered iO_searched iO_searchedRelaxed iO_counted fO_countedCase gO_goalNumber gO_goalScale fO_start fO_column fO_chosen) (WM hM aM kM iM_stands iM_variables iM_rows iM_goals iM_differents iM_cases fM_from fM_to fM_whole fM_ways iM_plainRows fM_plainRow fM_kept fM_goalOver fM_goalUnder fM_goalMax fM_different) (WQ hQ aQ kQ hw fQ_inside fQ_outside fQ_shut iQ_rows iQ_allRows iQ_columns) (WW nW hw lw kw wl_1 wb_1 wG_1)
  have hPc := hP.mem (fun q h => p9.mem_iff.mpr (List.mem_append_left _ h))
  have hDc := (hD.perm p9).left
  have hKc : va_K (dC, dI) vwCl (tO kO ++ (tM kM ++ (tQ kQ ++ (tW kw)))) _ := hK.sub [5, 6, 7, 8, 9, 10, 11, 12, 13, 14, 15, 16, 17, 18, 19, 20, 21, 22, 23, 24, 25, 26, 27, 28, 29] rfl
  have hFc := freeG p9 hD hS hA
  refine va_callv (va_runV (As := [.ref (hw 473), .ref (hw 472), .long v5]) (rest := []) ⟨hx, hb, hml, hown, hts⟩ (m_X5_addTimes l dC dI hO aO kO hM hQ hw iO_answered iO_searched iO_searchedRelaxed iO_counted fO_countedCase gO_goalNumber gO_goalScale fO_start fO_column fO_chosen aM kM iM_stands iM_variables iM_rows iM_goals iM_differents iM_cases fM_from fM_to fM_whole fM_ways iM_plainRows fM_plainRow fM_kept fM_goalOver fM_goalUnder fM_goalMax fM_different aQ kQ fQ_inside fQ_outside fQ_shut iQ_rows iQ_allRows iQ_columns nW lw kw wl_1 wb_1 wG_1 473 472 v5 (b_iO_answered) (b_iO_searched) (b_iO_searchedRelaxed) (b_iO_counted) b_fO_countedCase b_fO_column b_fO_chosen (b_iM_stands) (b_iM_variables) (b_iM_rows) (b_iM_goals) (b_iM_differents) (b_iM_cases) b_fM_ways (b_iM_plainRows) b_fM_plainRow (by first | with_reducible assumption | omega | assumption) (b_iQ_rows) (b_iQ_allRows) (b_iQ_columns) (by first | with_reducible assumption | omega | assumption) b_wl_1 b_wb_1 (by omega) (by first | with_reducible assumption | omega | (rw [iI_t (by omega) (by omega)]; omega) | decide | assumption) (by first | with_reducible assumption | omega | (rw [iI_t (by omega) (by omega)]; omega) | decide | assumption) H.size) (cwV 3 hts gwsMX3_isTight_2 rfl rfl rfl hd_yX5_addTimes_RX5 (by decide +kernel)) (fz_pre (va_recv hK hP (ci := 5) (q0 := 6) rfl rfl) hPc hKc hDc) rfl rfl hl.1 rfl (lv_room (Nat.le_of_ble_eq_true rfl)) dX3_isTight_32 (by decide +kernel)) hS (fun q _ h => hFc q h) hFc (fun u t9_ H locs ht hvm hw9 hB9 hz1 hk1 hS => ?_)
  revert u hw9 hB9
  refine fz_p3 ?_
  intro wl_6 wb_6 wG_6 hw9 hB9
  try dsimp only at hw9 hB9
  revert hw9
  refine fz_a2 ?_
  intro b_wl_6 b_wb_6
  have p8 := cj_5_1_2_3_4 (WG hG aG kG hM hO hQ hw iG_made iG_keptNeeds fG_kept fG_need fG_turn iG_columns) (WO hO aO kO hM hQ hw iO_answered iO_searched iO_searchedRelaxed iO_counted fO_countedCase gO_goalNumber gO_goalScale fO_start fO_column fO_chosen) (WM hM aM kM iM_stands iM_variables iM_rows iM_goals iM_differents iM_cases fM_from fM_to fM_whole fM_ways iM_plainRows fM_plainRow fM_kept fM_goalOver fM_goalUnder fM_goalMax fM_different) (WQ hQ aQ kQ hw fQ_inside fQ_outside fQ_shut iQ_rows iQ_allRows iQ_columns) (WW nW hw lw kw wl_6 wb_6 wG_6)
  obtain ⟨hP, hD⟩ := frameG p9 p8 hP hD hk1 hFc (fz_P ht hB9.1) hB9.2
  refine lv_iconst (v := 0) hx hb dX3_isTight_35 (by decide) ?_
  refine lv_istore hx hb dX3_isTight_36 hl (by decide) rfl (fun ls (hl : lv_has ls _ ([(4, .int 0), (0, .ref (hG 0)), (1, .int p1), (2, .int p2), (3, .int p3)])) => ?_)
  have hl : lv_has _ _ ([(4, .int 0), (0, .ref (hG 0)), (1, .int p1), (2, .int p2), (3, .int p3)]) := lv_sub hl [0, 1, 2, 3, 4] rfl
  refine (fun (loop : ∀ (n9 : Nat) (wl_x38 : Nat → Int32) (wb_x38 : Nat → Int32) (wG_x38 : Nat → Nat → Int64) (l4_x38 : Int32) (H : Heap) (locs : List Loc) (ls : Array Slot), (∀ q : Nat, 0 ≤ (wl_x38 q).toInt ∧ (wl_x38 q).toInt ≤ 14) → (∀ q : Nat, 0 ≤ (wb_x38 q).toInt ∧ (wb_x38 q).toInt ≤ 1) → (0 ≤ l4_x38.toInt ∧ l4_x38.toInt ≤ 8) → (8 - l4_x38.toInt < ((n9 : Nat) : Int)) → va_P (dC, dI) vwCl (WG hG aG kG hM hO hQ hw iG_made iG_keptNeeds fG_kept fG_need fG_turn iG_columns ++ (WO hO aO kO hM hQ hw iO_answered iO_searched iO_searchedRelaxed iO_counted fO_countedCase gO_goalNumber gO_goalScale fO_start fO_column fO_chosen ++ (WM hM aM kM iM_stands iM_variables iM_rows iM_goals iM_differents iM_cases fM_from fM_to fM_whole fM_ways iM_plainRows fM_plainRow fM_kept fM_goalOver fM_goalUnder fM_goalMax fM_different ++ (WQ hQ aQ kQ hw fQ_inside fQ_outside fQ_shut iQ_rows iQ_allRows iQ_columns ++ (WW nW hw lw kw wl_x38 wb_x38 wG_x38))))) H → va_D A (WG hG aG kG hM hO hQ hw iG_made iG_keptNeeds fG_kept fG_need fG_turn iG_columns ++ (WO hO aO kO hM hQ hw iO_answered iO_searched iO_searchedRelaxed iO_counted fO_countedCase gO_goalNumber gO_goalScale fO_start fO_column fO_chosen ++ (WM hM aM kM iM_stands iM_variables iM_rows iM_goals iM_differents iM_cases fM_from fM_to fM_whole fM_ways iM_plainRows fM_plainRow fM_kept fM_goalOver fM_goalUnder fM_goalMax fM_different ++ (WQ hQ aQ kQ hw fQ_inside fQ_outside fQ_shut iQ_rows iQ_allRows iQ_columns ++ (WW nW hw lw kw wl_x38 wb_x38 wG_x38))))) → va_S A s.heap H locs → lv_has ls 5 [(4, .int l4_x38), (0, .ref (hG 0)), (1, .int p1), (2, .int p2), (3, .int p3)] → W p l e _ s m _ below meth c H locs 0 0 _ (F0 m 38 ls [])) => loop (9) wl_6 wb_6 wG_6 0 _ _ _ b_wl_6 b_wb_6 (show 0 ≤ (0 : Int32).toInt ∧ (0 : Int32).toInt ≤ 8 from by decide) ((by have e9 : (0 : Int32).toInt = 0 := (by decide : (0 : Int32).toInt = 0); omega)) hP hD hS hl) ?_
  intro n9
  induction n9 with
  | zero => intro wl_x38 wb_x38 wG_x38 l4_x38 H locs ls b_wl_x38 b_wb_x38 b_l4_x38 hf9; exact False.elim (by omega)
  | succ n9 ihx38 =>
    intro wl_x38 wb_x38 wG_x38 l4_x38 H locs ls b_wl_x38 b_wb_x38 b_l4_x38 hfx38 hP hD hS hl
    refine lv_iload hx hb dX3_isTight_38 (lv_at hl 0 rfl) ?_
    refine lv_aload_n hx hb dX3_isTight_40 rfl (lv_at hl 1 rfl) ?_
    refine va_get (D := (dC, dI)) (ci := 3) (v := .ref (hM 0)) (C := RX3) (T := TX3) (N := 17) hx hb hts iwsMX3_isTight_in3 hown hK hP 0 rfl rfl 0 (by decide) (hts _ hm_m_X3_isTight_2) (fun _ h9 => h9) rfl dX3_isTight_41 ?_
    refine va_get (D := (dC, dI)) (ci := 1) (v := .int iM_variables) (C := RX1) (T := TX1) (N := 17) hx hb hts iwsMX3_isTight_in1 hown hK hP 17 rfl rfl 1 (by decide) (hts (.fieldLink RX3 173 "OptimaWorks$Model" "variables" "I") (by decide +kernel)) (fun _ h9 => h9) rfl dX3_isTight_44 ?_
    refine lv_icmp_ge (tgt := 87) hx hb dX3_isTight_47 (by decide) (fun c_47 => ?_) (fun c_47 => ?_)
    · have t_47 : l4_x38.toInt ≥ iM_variables.toInt := toI_ge c_47 rfl rfl
      refine lv_iload_n hx hb dX3_isTight_87 rfl (lv_at hl 4 rfl) ?_
      refine W.cut (pc := 102) (fun H locs ls stk => ∃ (wl_j11 : Nat → Int32) (wb_j11 : Nat → Int32) (wG_j11 : Nat → Nat → Int64), (∀ q : Nat, 0 ≤ (wl_j11 q).toInt ∧ (wl_j11 q).toInt ≤ 14) ∧ (∀ q : Nat, 0 ≤ (wb_j11 q).toInt ∧ (wb_j11 q).toInt ≤ 1) ∧  stk = [] ∧ va_P (dC, dI) vwCl (WG hG aG kG hM hO hQ hw iG_made iG_keptNeeds fG_kept fG_need fG_turn iG_columns ++ (WO hO aO kO hM hQ hw iO_answered iO_searched iO_searchedRelaxed iO_counted fO_countedCase gO_goalNumber gO_goalScale fO_start fO_column fO_chosen ++ (WM hM aM kM iM_stands iM_variables iM_rows iM_goals iM_differents iM_cases fM_from fM_to fM_whole fM_ways iM_plainRows fM_plainRow fM_kept fM_goalOver fM_goalUnder fM_goalMax fM_different ++ (WQ hQ aQ kQ hw fQ_inside fQ_outside fQ_shut iQ_rows iQ_allRows iQ_columns ++ (WW nW hw lw kw wl_j11 wb_j11 wG_j11))))) H ∧ va_D A (WG hG aG kG hM hO hQ hw iG_made iG_keptNeeds fG_kept fG_need fG_turn iG_columns ++ (WO hO aO kO hM hQ hw iO_answered iO_searched iO_searchedRelaxed iO_counted fO_countedCase gO_goalNumber gO_goalScale fO_start fO_column fO_chosen ++ (WM hM aM kM iM_stands iM_variables iM_rows iM_goals iM_differents iM_cases fM_from fM_to fM_whole fM_ways iM_plainRows fM_plainRow fM_kept fM_goalOver fM_goalUnder fM_goalMax fM_different ++ (WQ hQ aQ kQ hw fQ_inside fQ_outside fQ_shut iQ_rows iQ_allRows iQ_columns ++ (WW nW hw lw kw wl_j11 wb_j11 wG_j11))))) ∧ va_S A s.heap H locs ∧ lv_has ls 5 [(4, .int l4_x38), (0, .ref (hG 0)), (1, .int p1), (2, .int p2), (3, .int p3)]) (fun join11 => ?_) ?_
      · refine lv_if_eq (tgt := 102) hx hb dX3_isTight_88 (by decide) (fun c_88 => ?_) (fun c_88 => ?_)
        · have t_88 : p3.toInt = 0 := toI_eq c_88 rfl (by decide : (0 : Int32).toInt = 0)
          have hl : lv_has _ _ ([(4, .int l4_x38), (0, .ref (hG 0)), (1, .int p1), (2, .int p2), (3, .int p3)]) := lv_sub hl [0, 1, 2, 3, 4] rfl
          exact join11 _ _ _ _ ⟨wl_x38, wb_x38, wG_x38, b_wl_x38, b_wb_x38, rfl, hP, hD, hS, hl⟩
        · have t_88 : ¬ p3.toInt = 0 := toI_neq c_88 rfl (by decide : (0 : Int32).toInt = 0)
          refine lv_aload_n hx hb dX3_isTight_91 rfl (lv_at hl 1 rfl) ?_
          refine va_get (D := (dC, dI)) (ci := 3) (v := .ref (hw 473)) (C := RX3) (T := TX3) (N := 17) hx hb hts iwsMX3_isTight_in3 hown hK hP 0 rfl rfl 13 (by decide) (hts _ hm_m_X3_isTight_0) (fun _ h9 => h9) rfl dX3_isTight_92 ?_
          refine lv_aload_n hx hb dX3_isTight_95 rfl (lv_at hl 1 rfl) ?_
          refine va_get (D := (dC, dI)) (ci := 3) (v := .ref (hw 471)) (C := RX3) (T := TX3) (N := 17) hx hb hts iwsMX3_isTight_in3 hown hK hP 0 rfl rfl 11 (by decide) (hts (.fieldLink RX3 43 "OptimaWorks$Prover" "shortfall" "LOptimaWorks$Whole;") (by decide +kernel)) (fun _ h9 => h9) rfl dX3_isTight_96 ?_
          have p9 := cj_5_4 (WG hG aG kG hM hO hQ hw iG_made iG_keptNeeds fG_kept fG_need fG_turn iG_columns) (WO hO aO kO hM hQ hw iO_answered iO_searched iO_searchedRelaxed iO_counted fO_countedCase gO_goalNumber gO_goalScale fO_start fO_column fO_chosen) (WM hM aM kM iM_stands iM_variables iM_rows iM_goals iM_differents iM_cases fM_from fM_to fM_whole fM_ways iM_plainRows fM_plainRow fM_kept fM_goalOver fM_goalUnder fM_goalMax fM_different) (WQ hQ aQ kQ hw fQ_inside fQ_outside fQ_shut iQ_rows iQ_allRows iQ_columns) (WW nW hw lw kw wl_x38 wb_x38 wG_x38)
          have hPc := hP.mem (fun q h => p9.mem_iff.mpr (List.mem_append_left _ h))
          have hDc := (hD.perm p9).left
          have hKc : va_K (dC, dI) vwCl (tW kw) _ := hK.sub [29] rfl
          have hFc := freeG p9 hD hS hA
          refine va_callv (va_runV (As := [.ref (hw 471)]) (rest := []) ⟨hx, hb, hml, hown, hts⟩ (m_X8_add l dC dI nW hw lw kw wl_x38 wb_x38 wG_x38 473 471 b_wl_x38 b_wb_x38 (by first | with_reducible assumption | omega | (rw [iI_t (by omega) (by omega)]; omega) | decide | assumption) (by first | with_reducible assumption | omega | (rw [iI_t (by omega) (by omega)]; omega) | decide | assumption) H.size) (cwV 1 hts gwsMX3_isTight_4 rfl rfl rfl hd_yX8_add_RX8 (by decide +kernel)) (fz_pre (va_recv hK hP (ci := 8) (q0 := 6 + (11 + (11 + (5 + (473))))) rfl (apR rfl (apR rfl (apR rfl (apR rfl (WW_o (by omega))))))) hPc hKc hDc) rfl rfl hl.1 rfl (lv_room (Nat.le_of_ble_eq_true rfl)) dX3_isTight_99 (by decide +kernel)) hS (fun q _ h => hFc q h) hFc (fun u t9_ H locs ht hvm hw9 hB9 hz1 hk1 hS => ?_)
          revert u hw9 hB9
          refine fz_p3 ?_
          intro wl_37 wb_37 wG_37 hw9 hB9
          try dsimp only at hw9 hB9
          revert hw9
          refine fz_a2 ?_
          intro b_wl_37 b_wb_37
          have p8 := cj_5_4 (WG hG aG kG hM hO hQ hw iG_made iG_keptNeeds fG_kept fG_need fG_turn iG_columns) (WO hO aO kO hM hQ hw iO_answered iO_searched iO_searchedRelaxed iO_counted fO_countedCase gO_goalNumber gO_goalScale fO_start fO_column fO_chosen) (WM hM aM kM iM_stands iM_variables iM_rows iM_goals iM_differents iM_cases fM_from fM_to fM_whole fM_ways iM_plainRows fM_plainRow fM_kept fM_goalOver fM_goalUnder fM_goalMax fM_different) (WQ hQ aQ kQ hw fQ_inside fQ_outside fQ_shut iQ_rows iQ_allRows iQ_columns) (WW nW hw lw kw wl_37 wb_37 wG_37)
          obtain ⟨hP, hD⟩ := frameG p9 p8 hP hD hk1 hFc (fz_P ht hB9.1) hB9.2
          have hl : lv_has _ _ ([(4, .int l4_x38), (0, .ref (hG 0)), (1, .int p1), (2, .int p2), (3, .int p3)]) := lv_sub hl [0, 1, 2, 3, 4] rfl
          exact join11 _ _ _ _ ⟨wl_37, wb_37, wG_37, b_wl_37, b_wb_37, rfl, hP, hD, hS, hl⟩
      · rintro H locs ls stk ⟨wl_j11, wb_j11, wG_j11, b_wl_j11, b_wb_j11, rfl, hP, hD, hS, hl⟩
        refine lv_aload_n hx hb dX3_isTight_102 rfl (lv_at hl 1 rfl) ?_
        refine va_get (D := (dC, dI)) (ci := 3) (v := .ref (hw 473)) (C := RX3) (T := TX3) (N := 17) hx hb hts iwsMX3_isTight_in3 hown hK hP 0 rfl rfl 13 (by decide) (hts _ hm_m_X3_isTight_0) (fun _ h9 => h9) rfl dX3_isTight_103 ?_
        refine va_get (D := (dC, dI)) (ci := 8) (v := .int (wl_j11 473)) (C := RX8) (T := TX8) (N := 3) hx hb hts iwsMX3_isTight_in8 hown hK hP (6 + (11 + (11 + (5 + (473))))) (apR rfl (apR rfl (apR rfl (apR rfl (WW_o (by omega)))))) rfl 1 (by decide) (hts (.fieldLink RX3 232 "OptimaWorks$Whole" "length" "I") (by decide +kernel)) (fun _ h9 => h9) rfl dX3_isTight_106 ?_
        have br106 := b_wl_j11 473
        refine W.cut (pc := 117) (fun H locs ls stk => ∃ (k0_j12 : Int32), (0 ≤ k0_j12.toInt ∧ k0_j12.toInt ≤ 1) ∧  stk = [.int k0_j12] ∧ va_P (dC, dI) vwCl (WG hG aG kG hM hO hQ hw iG_made iG_keptNeeds fG_kept fG_need fG_turn iG_columns ++ (WO hO aO kO hM hQ hw iO_answered iO_searched iO_searchedRelaxed iO_counted fO_countedCase gO_goalNumber gO_goalScale fO_start fO_column fO_chosen ++ (WM hM aM kM iM_stands iM_variables iM_rows iM_goals iM_differents iM_cases fM_from fM_to fM_whole fM_ways iM_plainRows fM_plainRow fM_kept fM_goalOver fM_goalUnder fM_goalMax fM_different ++ (WQ hQ aQ kQ hw fQ_inside fQ_outside fQ_shut iQ_rows iQ_allRows iQ_columns ++ (WW nW hw lw kw wl_j11 wb_j11 wG_j11))))) H ∧ va_D A (WG hG aG kG hM hO hQ hw iG_made iG_keptNeeds fG_kept fG_need fG_turn iG_columns ++ (WO hO aO kO hM hQ hw iO_answered iO_searched iO_searchedRelaxed iO_counted fO_countedCase gO_goalNumber gO_goalScale fO_start fO_column fO_chosen ++ (WM hM aM kM iM_stands iM_variables iM_rows iM_goals iM_differents iM_cases fM_from fM_to fM_whole fM_ways iM_plainRows fM_plainRow fM_kept fM_goalOver fM_goalUnder fM_goalMax fM_different ++ (WQ hQ aQ kQ hw fQ_inside fQ_outside fQ_shut iQ_rows iQ_allRows iQ_columns ++ (WW nW hw lw kw wl_j11 wb_j11 wG_j11))))) ∧ va_S A s.heap H locs ∧ lv_has ls 5 [(4, .int l4_x38), (0, .ref (hG 0)), (1, .int p1), (2, .int p2), (3, .int p3)]) (fun join12 => ?_) ?_
        · refine lv_if_ne (tgt := 116) hx hb dX3_isTight_109 (by decide) (fun c_109 => ?_) (fun c_109 => ?_)
          · have t_109 : (wl_j11 473).toInt ≠ 0 := toI_ne c_109 rfl (by decide : (0 : Int32).toInt = 0)
            refine lv_iconst (v := 0) hx hb dX3_isTight_116 (by decide) ?_
            have hl : lv_has _ _ ([(4, .int l4_x38), (0, .ref (hG 0)), (1, .int p1), (2, .int p2), (3, .int p3)]) := lv_sub hl [0, 1, 2, 3, 4] rfl
            exact join12 _ _ _ _ ⟨0, (show 0 ≤ (0 : Int32).toInt ∧ (0 : Int32).toInt ≤ 1 from by decide), rfl, hP, hD, hS, hl⟩
          · have t_109 : (wl_j11 473).toInt = 0 := toI_nne c_109 rfl (by decide : (0 : Int32).toInt = 0)
            refine lv_iconst (v := 1) hx hb dX3_isTight_112 (by decide) ?_
            refine lv_goto (tgt := 117) hx hb dX3_isTight_113 (by decide) ?_
            have hl : lv_has _ _ ([(4, .int l4_x38), (0, .ref (hG 0)), (1, .int p1), (2, .int p2), (3, .int p3)]) := lv_sub hl [0, 1, 2, 3, 4] rfl
            exact join12 _ _ _ _ ⟨1, (show 0 ≤ (1 : Int32).toInt ∧ (1 : Int32).toInt ≤ 1 from by decide), rfl, hP, hD, hS, hl⟩
        · rintro H locs ls stk ⟨k0_j12, b_k0_j12, rfl, hP, hD, hS, hl⟩
          refine W.widen (k := 0) (n := 0) (by decide +kernel) (by decide +kernel) ?_
          exact W.zret (v := k0_j12) hx hb hr (by rcases z01 (x := k0_j12) (b_k0_j12) with h9 | h9 <;> rw [h9] <;> rfl) (fun t9_ ht hW => ⟨⟨k0_j12, (wl_j11, wb_j11, wG_j11), rfl, ⟨b_wl_j11, b_wb_j11, (b_k0_j12)⟩, by rw [ht]; exact hP, hD⟩, hS.F ht⟩) hS.2.2 dX3_isTight_117
    · have t_47 : ¬ l4_x38.toInt ≥ iM_variables.toInt := toI_nge c_47 rfl rfl
      refine lv_aload_n hx hb dX3_isTight_50 rfl (lv_at hl 1 rfl) ?_
      refine va_get (D := (dC, dI)) (ci := 3) (v := .ref (hO 0)) (C := RX3) (T := TX3) (N := 17) hx hb hts iwsMX3_isTight_in3 hown hK hP 0 rfl rfl 1 (by decide) (hts _ hm_m_X3_isTight_1) (fun _ h9 => h9) rfl dX3_isTight_51 ?_
      refine lv_aload_n hx hb dX3_isTight_54 rfl (lv_at hl 1 rfl) ?_
      refine va_get (D := (dC, dI)) (ci := 3) (v := .ref (hw 473)) (C := RX3) (T := TX3) (N := 17) hx hb hts iwsMX3_isTight_in3 hown hK hP 0 rfl rfl 13 (by decide) (hts _ hm_m_X3_isTight_0) (fun _ h9 => h9) rfl dX3_isTight_55 ?_
      refine lv_aload_n hx hb dX3_isTight_58 rfl (lv_at hl 1 rfl) ?_
      refine va_get (D := (dC, dI)) (ci := 3) (v := .ref (aG 2)) (C := RX3) (T := TX3) (N := 17) hx hb hts iwsMX3_isTight_in3 hown hK hP 0 rfl rfl 10 (by decide) (hts (.fieldLink RX3 40 "OptimaWorks$Prover" "place" "[LOptimaWorks$Whole;") (by decide +kernel)) (fun _ h9 => h9) rfl dX3_isTight_59 ?_
      refine lv_iload hx hb dX3_isTight_62 (lv_at hl 0 rfl) ?_
      refine va_aldq (cA := kG 2) (n := 8) (f := fun q => some (hw (463 + q))) hx hb hK hP 3 2 rfl rfl (vp_in_iff.mpr ⟨b_l4_x38.1, (Int.lt_of_lt_of_le (Int.not_le.mp t_47) (Int.le_trans b_iM_variables.2 (by decide)))⟩) dX3_isTight_64 ?_
      obtain ⟨k38, hk38, b_k38⟩ : ∃ k9 : Nat, k9 = 463 + (l4_x38).toNatClampNeg ∧ (463 ≤ k9 ∧ k9 < 471 ∧ (k9 : Int) = 463 + l4_x38.toInt) := ⟨_, rfl, ald_k (x := (l4_x38)) (o := 463) (n := 8) rfl (by omega) (by omega)⟩
      refine W.eq (g2 := F0 m 65 ls [.ref (hw k38), .ref (hw 473), .ref (hO 0)]) (by rw [hk38]; rfl) ?_
      clear hk38
      refine lv_iload_n hx hb dX3_isTight_65 rfl (lv_at hl 3 rfl) ?_
      refine lv_aload_n hx hb dX3_isTight_66 rfl (lv_at hl 1 rfl) ?_
      refine va_get (D := (dC, dI)) (ci := 3) (v := .ref (hM 0)) (C := RX3) (T := TX3) (N := 17) hx hb hts iwsMX3_isTight_in3 hown hK hP 0 rfl rfl 0 (by decide) (hts _ hm_m_X3_isTight_2) (fun _ h9 => h9) rfl dX3_isTight_67 ?_
      refine lv_iload_n hx hb dX3_isTight_70 rfl (lv_at hl 2 rfl) ?_
      refine lv_iload hx hb dX3_isTight_71 (lv_at hl 0 rfl) ?_
      have p9 := cj_5_2 (WG hG aG kG hM hO hQ hw iG_made iG_keptNeeds fG_kept fG_need fG_turn iG_columns) (WO hO aO kO hM hQ hw iO_answered iO_searched iO_searchedRelaxed iO_counted fO_countedCase gO_goalNumber gO_goalScale fO_start fO_column fO_chosen) (WM hM aM kM iM_stands iM_variables iM_rows iM_goals iM_differents iM_cases fM_from fM_to fM_whole fM_ways iM_plainRows fM_plainRow fM_kept fM_goalOver fM_goalUnder fM_goalMax fM_different) (WQ hQ aQ kQ hw fQ_inside fQ_outside fQ_shut iQ_rows iQ_allRows iQ_columns) (WW nW hw lw kw wl_x38 wb_x38 wG_x38)
      have hPc := hP.mem (fun q h => p9.mem_iff.mpr (List.mem_append_left _ h))
      have hDc := (hD.perm p9).left
      have hKc : va_K (dC, dI) vwCl (tM kM) _ := hK.sub [15, 16, 17, 18, 19, 20, 21, 22, 23, 24] rfl
      have hFc := freeG p9 hD hS hA
      refine va_calli (va_runV (As := [.int p1, .int l4_x38]) (rest := [.int p2, .ref (hw k38), .ref (hw 473), .ref (hO 0)]) ⟨hx, hb, hml, hown, hts⟩ (m_X1_needNumber l dC dI hM aM kM iM_stands iM_variables iM_rows iM_goals iM_differents iM_cases fM_from fM_to fM_whole fM_ways iM_plainRows fM_plainRow fM_kept fM_goalOver fM_goalUnder fM_goalMax fM_different p1 l4_x38 (b_iM_stands) (b_iM_variables) (b_iM_rows) (b_iM_goals) (b_iM_differents) (b_iM_cases) b_fM_ways (b_iM_plainRows) b_fM_plainRow (by first | with_reducible assumption | omega | assumption) (b_p1) (by first | exact b_l4_x38 | with_reducible assumption | exact ⟨by omega, by omega⟩ | assumption) (by first | with_reducible assumption | omega | (rw [iI_t (by omega) (by omega)]; omega) | decide | assumption) H.size) (cwV 2 hts gwsMX3_isTight_3 rfl rfl rfl hd_yX1_needNumber_RX1 (by decide +kernel)) (fz_pre (va_recv hK hP (ci := 1) (q0 := 17) rfl rfl) hPc hKc hDc) rfl rfl hl.1 rfl (lv_room (Nat.le_of_ble_eq_true rfl)) dX3_isTight_73 (by decide +kernel)) hS (fun q _ h => hFc q h) hFc (fun r39 u t9_ H locs ht hvm hw9 hB9 hz1 hk1 hS => ?_)
      clear hw9
      have p8 := p9
      obtain ⟨hP, hD⟩ := frameG p9 p8 hP hD hk1 hFc (fz_P ht hB9.1) hB9.2
      refine lv_imul hx hb dX3_isTight_76 ?_
      refine lv_topi (fun y40 hy40 => ?_)
      obtain rfl : (iI (p2.toInt * r39.toInt)) = y40 := (hy40.trans (iI_mul2 (iI_of _) (iI_of _))).symm
      refine lv_i2l hx hb dX3_isTight_77 rfl ?_
      refine lv_topl (fun v41 hv41 => ?_)
      clear hv41
      have p9 := cj_5_1_2_3_4 (WG hG aG kG hM hO hQ hw iG_made iG_keptNeeds fG_kept fG_need fG_turn iG_columns) (WO hO aO kO hM hQ hw iO_answered iO_searched iO_searchedRelaxed iO_counted fO_countedCase gO_goalNumber gO_goalScale fO_start fO_column fO_chosen) (WM hM aM kM iM_stands iM_variables iM_rows iM_goals iM_differents iM_cases fM_from fM_to fM_whole fM_ways iM_plainRows fM_plainRow fM_kept fM_goalOver fM_goalUnder fM_goalMax fM_different) (WQ hQ aQ kQ hw fQ_inside fQ_outside fQ_shut iQ_rows iQ_allRows iQ_columns) (WW nW hw lw kw wl_x38 wb_x38 wG_x38)
      have hPc := hP.mem (fun q h => p9.mem_iff.mpr (List.mem_append_left _ h))
      have hDc := (hD.perm p9).left
      have hKc : va_K (dC, dI) vwCl (tO kO ++ (tM kM ++ (tQ kQ ++ (tW kw)))) _ := hK.sub [5, 6, 7, 8, 9, 10, 11, 12, 13, 14, 15, 16, 17, 18, 19, 20, 21, 22, 23, 24, 25, 26, 27, 28, 29] rfl
      have hFc := freeG p9 hD hS hA
      refine va_callv (va_runV (As := [.ref (hw 473), .ref (hw k38), .long v41]) (rest := []) ⟨hx, hb, hml, hown, hts⟩ (m_X5_addTimes l dC dI hO aO kO hM hQ hw iO_answered iO_searched iO_searchedRelaxed iO_counted fO_countedCase gO_goalNumber gO_goalScale fO_start fO_column fO_chosen aM kM iM_stands iM_variables iM_rows iM_goals iM_differents iM_cases fM_from fM_to fM_whole fM_ways iM_plainRows fM_plainRow fM_kept fM_goalOver fM_goalUnder fM_goalMax fM_different aQ kQ fQ_inside fQ_outside fQ_shut iQ_rows iQ_allRows iQ_columns nW lw kw wl_x38 wb_x38 wG_x38 473 k38 v41 (b_iO_answered) (b_iO_searched) (b_iO_searchedRelaxed) (b_iO_counted) b_fO_countedCase b_fO_column b_fO_chosen (b_iM_stands) (b_iM_variables) (b_iM_rows) (b_iM_goals) (b_iM_differents) (b_iM_cases) b_fM_ways (b_iM_plainRows) b_fM_plainRow (by first | with_reducible assumption | omega | assumption) (b_iQ_rows) (b_iQ_allRows) (b_iQ_columns) (by first | with_reducible assumption | omega | assumption) b_wl_x38 b_wb_x38 (by omega) (by first | with_reducible assumption | omega | (rw [iI_t (by omega) (by omega)]; omega) | decide | assumption) (by first | with_reducible assumption | omega | (rw [iI_t (by omega) (by omega)]; omega) | decide | assumption) H.size) (cwV 3 hts gwsMX3_isTight_2 rfl rfl rfl hd_yX5_addTimes_RX5 (by decide +kernel)) (fz_pre (va_recv hK hP (ci := 5) (q0 := 6) rfl rfl) hPc hKc hDc) rfl rfl hl.1 rfl (lv_room (Nat.le_of_ble_eq_true rfl)) dX3_isTight_78 (by decide +kernel)) hS (fun q _ h => hFc q h) hFc (fun u t9_ H locs ht hvm hw9 hB9 hz1 hk1 hS => ?_)
      revert u hw9 hB9
      refine fz_p3 ?_
      intro wl_42 wb_42 wG_42 hw9 hB9
      try dsimp only at hw9 hB9
      revert hw9
      refine fz_a2 ?_
      intro b_wl_42 b_wb_42
      have p8 := cj_5_1_2_3_4 (WG hG aG kG hM hO hQ hw iG_made iG_keptNeeds fG_kept fG_need fG_turn iG_columns) (WO hO aO kO hM hQ hw iO_answered iO_searched iO_searchedRelaxed iO_counted fO_countedCase gO_goalNumber gO_goalScale fO_start fO_column fO_chosen) (WM hM aM kM iM_stands iM_variables iM_rows iM_goals iM_differents iM_cases fM_from fM_to fM_whole fM_ways iM_plainRows fM_plainRow fM_kept fM_goalOver fM_goalUnder fM_goalMax fM_different) (WQ hQ aQ kQ hw fQ_inside fQ_outside fQ_shut iQ_rows iQ_allRows iQ_columns) (WW nW hw lw kw wl_42 wb_42 wG_42)
      obtain ⟨hP, hD⟩ := frameG p9 p8 hP hD hk1 hFc (fz_P ht hB9.1) hB9.2
      refine lv_iinc (v := (iI (l4_x38.toInt + 1))) hx hb dX3_isTight_81 hl (k := 0) rfl (iI_add2 (iI_of _) (by decide : (1 : Int32) = iI 1)) (by decide) rfl (fun ls (hl : lv_has ls _ ([(4, .int (iI (l4_x38.toInt + 1))), (0, .ref (hG 0)), (1, .int p1), (2, .int p2), (3, .int p3)])) => ?_)
      refine lv_goto (tgt := 38) hx hb dX3_isTight_84 (by decide) ?_
      have hl : lv_has _ _ ([(4, .int (iI (l4_x38.toInt + 1))), (0, .ref (hG 0)), (1, .int p1), (2, .int p2), (3, .int p3)]) := lv_sub hl [0, 1, 2, 3, 4] rfl
      exact ihx38 wl_42 wb_42 wG_42 (iI (l4_x38.toInt + 1)) _ _ _ b_wl_42 b_wb_42 (iI_rng (Int.le_trans (by decide) (Int.add_le_add (b_l4_x38.1) (Int.le_refl _))) (by omega) (by decide) (by decide)) (by have e9 : ((iI (l4_x38.toInt + 1))).toInt = (l4_x38.toInt + 1) := (iI_t (Int.le_trans (by decide) (Int.add_le_add (b_l4_x38.1) (Int.le_refl _))) (Int.le_trans (Int.add_le_add (b_l4_x38.2) (Int.le_refl _)) (by decide))); omega) hP hD hS hl
theorem dX3_canSink_0 : decode cX3_canSink 0 = .ok (.iconst 0, 1) := dk_3 (by decide +kernel)
theorem dX3_canSink_1 : decode cX3_canSink 1 = .ok (.istore_n 2, 1) := dk_61 (by decide +kernel)
theorem dX3_canSink_2 : decode cX3_canSink 2 = .ok (.iload_n 2, 1) := dk_28 (by decide +kernel)
theorem dX3_canSink_3 : decode cX3_canSink 3 = .ok (.aload_n 0, 1) := dk_42 (by decide +kernel)
theorem dX3_canSink_4 : decode cX3_canSink 4 = .ok (.getfield 222, 3) := dk_180 (by decide +kernel)
theorem dX3_canSink_7 : decode cX3_canSink 7 = .ok (.if_icmp .ge 32, 3) := dk_162 (by decide +kernel)
theorem dX3_canSink_10 : decode cX3_canSink 10 = .ok (.aload_n 0, 1) := dk_42 (by decide +kernel)
theorem dX3_canSink_11 : decode cX3_canSink 11 = .ok (.getfield 52, 3) := dk_180 (by decide +kernel)
theorem dX3_canSink_14 : decode cX3_canSink 14 = .ok (.iload_n 2, 1) := dk_28 (by decide +kernel)
theorem dX3_canSink_15 : decode cX3_canSink 15 = .ok (.iaload, 1) := dk_46 (by decide +kernel)
theorem dX3_canSink_16 : decode cX3_canSink 16 = .ok (.iload_n 1, 1) := dk_27 (by decide +kernel)
theorem dX3_canSink_17 : decode cX3_canSink 17 = .ok (.if_icmp .ne 16, 3) := dk_160 (by decide +kernel)
theorem dX3_canSink_20 : decode cX3_canSink 20 = .ok (.aload_n 0, 1) := dk_42 (by decide +kernel)
theorem dX3_canSink_21 : decode cX3_canSink 21 = .ok (.getfield 71, 3) := dk_180 (by decide +kernel)
theorem dX3_canSink_24 : decode cX3_canSink 24 = .ok (.iload_n 2, 1) := dk_28 (by decide +kernel)
theorem dX3_canSink_25 : decode cX3_canSink 25 = .ok (.invokevirtual 197, 3) := dk_182 (by decide +kernel)
theorem dX3_canSink_28 : decode cX3_canSink 28 = .ok (.ifCond .ne 5, 3) := dk_154 (by decide +kernel)
theorem dX3_canSink_31 : decode cX3_canSink 31 = .ok (.iconst 0, 1) := dk_3 (by decide +kernel)
theorem dX3_canSink_32 : decode cX3_canSink 32 = .ok (.ireturn, 1) := dk_172 (by decide +kernel)
theorem dX3_canSink_33 : decode cX3_canSink 33 = .ok (.iinc 2 1, 3) := dk_132 (by decide +kernel)
theorem dX3_canSink_36 : decode cX3_canSink 36 = .ok (.goto (-34), 3) := dk_167 (by decide +kernel)
theorem dX3_canSink_39 : decode cX3_canSink 39 = .ok (.iconst 1, 1) := dk_4 (by decide +kernel)
theorem dX3_canSink_40 : decode cX3_canSink 40 = .ok (.ireturn, 1) := dk_172 (by decide +kernel)
def wsMX3_canSink : List Cond := .code yX3_canSink cX3_canSink 3 (some .boolean) :: ([.fieldLink RX3 222 "OptimaWorks$Prover" "columns" "I", .fieldLink RX3 52 "OptimaWorks$Prover" "need" "[I", .fieldLink RX3 71 "OptimaWorks$Prover" "tableau" "LOptimaWorks$Tableau;"] ++ wsX30 ++ (wsV RX3 197 RX6 yX6_sink wsMX6_sink))
theorem iwsMX3_canSink_in3 : ∀ w ∈ wsX30, w ∈ wsMX3_canSink := fun _ h => List.mem_cons_of_mem _ (List.mem_append_left _ (List.mem_append_right _ h))
theorem gwsMX3_canSink_0 : GoodIn wsMX3_canSink (wsV RX3 197 RX6 yX6_sink wsMX6_sink) := goodIn_sub (fun _ h => List.mem_cons_of_mem _ (List.mem_append_right _ h)) (gdV (by decide +kernel) gdwsMX6_sink)
theorem gdwsMX3_canSink : wsMX3_canSink.all goodWord = true := gdC rfl (gdA (gdA (by decide +kernel : ([.fieldLink RX3 222 "OptimaWorks$Prover" "columns" "I", .fieldLink RX3 52 "OptimaWorks$Prover" "need" "[I", .fieldLink RX3 71 "OptimaWorks$Prover" "tableau" "LOptimaWorks$Tableau;"] : List Cond).all goodWord = true) gdwsX30) (gdV (by decide +kernel) gdwsMX6_sink))
set_option maxHeartbeats 4000000 in
set_option maxRecDepth 100000 in
/-- can it sink -/
theorem m_X3_canSink (l : Launch) (dC : Nat → ClassId) (dI : Nat → Nat → Nat) (hG : Nat → Nat) (aG : Nat → Nat) (kG : Nat → ClassId) (hM : Nat → Nat) (hO : Nat → Nat) (hQ : Nat → Nat) (hw : Nat → Nat) (iG_made : Int32) (iG_keptNeeds : Int32) (fG_kept : Nat → Int32) (fG_need : Nat → Int32) (fG_turn : Nat → Int32) (iG_columns : Int32) (aO : Nat → Nat) (kO : Nat → ClassId) (iO_answered : Int32) (iO_searched : Int32) (iO_searchedRelaxed : Int32) (iO_counted : Int32) (fO_countedCase : Nat → Int32) (gO_goalNumber : Nat → Int64) (gO_goalScale : Nat → Int64) (fO_start : Nat → Int32) (fO_column : Nat → Int32) (fO_chosen : Nat → Int32) (aM : Nat → Nat) (kM : Nat → ClassId) (iM_stands : Int32) (iM_variables : Int32) (iM_rows : Int32) (iM_goals : Int32) (iM_differents : Int32) (iM_cases : Int32) (fM_from : Nat → Int32) (fM_to : Nat → Int32) (fM_whole : Nat → Int32) (fM_ways : Nat → Int32) (iM_plainRows : Int32) (fM_plainRow : Nat → Int32) (fM_kept : Nat → Int32) (fM_goalOver : Nat → Int32) (fM_goalUnder : Nat → Int32) (fM_goalMax : Nat → Int32) (fM_different : Nat → Int32) (aQ : Nat → Nat) (kQ : Nat → ClassId) (fQ_inside : Nat → Int32) (fQ_outside : Nat → Int32) (fQ_shut : Nat → Int32) (iQ_rows : Int32) (iQ_allRows : Int32) (iQ_columns : Int32) (nW : Nat) (lw : Nat → Nat) (kw : ClassId) (wl : Nat → Int32) (wb : Nat → Int32) (wG : Nat → Nat → Int64) (p1 : Int32) (b_iG_made : 0 ≤ iG_made.toInt ∧ iG_made.toInt ≤ 1) (b_fG_need : ∀ q : Nat, 0 ≤ (fG_need q).toInt ∧ (fG_need q).toInt ≤ 27) (b_iG_columns : 0 ≤ iG_columns.toInt ∧ iG_columns.toInt ≤ 40) (b_iO_answered : 0 ≤ iO_answered.toInt ∧ iO_answered.toInt ≤ 1) (b_iO_searched : 0 ≤ iO_searched.toInt ∧ iO_searched.toInt ≤ 1) (b_iO_searchedRelaxed : 0 ≤ iO_searchedRelaxed.toInt ∧ iO_searchedRelaxed.toInt ≤ 1) (b_iO_counted : (-1) ≤ iO_counted.toInt ∧ iO_counted.toInt ≤ 64) (b_fO_countedCase : ∀ q : Nat, 0 ≤ (fO_countedCase q).toInt ∧ (fO_countedCase q).toInt ≤ 200000) (b_fO_column : ∀ q : Nat, (-1) ≤ (fO_column q).toInt ∧ (fO_column q).toInt ≤ 8) (b_fO_chosen : ∀ q : Nat, 0 ≤ (fO_chosen q).toInt ∧ (fO_chosen q).toInt ≤ 2) (b_iM_stands : 0 ≤ iM_stands.toInt ∧ iM_stands.toInt ≤ 1) (b_iM_variables : 0 ≤ iM_variables.toInt ∧ iM_variables.toInt ≤ 8) (b_iM_rows : 0 ≤ iM_rows.toInt ∧ iM_rows.toInt ≤ 12) (b_iM_goals : 0 ≤ iM_goals.toInt ∧ iM_goals.toInt ≤ 3) (b_iM_differents : 0 ≤ iM_differents.toInt ∧ iM_differents.toInt ≤ 8) (b_iM_cases : 0 ≤ iM_cases.toInt ∧ iM_cases.toInt ≤ 200000) (b_fM_ways : ∀ q : Nat, 0 ≤ (fM_ways q).toInt ∧ (fM_ways q).toInt ≤ 3) (b_iM_plainRows : 0 ≤ iM_plainRows.toInt ∧ iM_plainRows.toInt ≤ 12) (b_fM_plainRow : ∀ q : Nat, 0 ≤ (fM_plainRow q).toInt ∧ (fM_plainRow q).toInt ≤ 11) (b_pr : iM_plainRows.toInt ≤ iM_rows.toInt) (b_iQ_rows : 0 ≤ iQ_rows.toInt ∧ iQ_rows.toInt ≤ 40) (b_iQ_allRows : 0 ≤ iQ_allRows.toInt ∧ iQ_allRows.toInt ≤ 40) (b_iQ_columns : 0 ≤ iQ_columns.toInt ∧ iQ_columns.toInt ≤ 40) (b_tb : TbO iQ_rows iQ_allRows iQ_columns) (b_wl : ∀ q : Nat, 0 ≤ (wl q).toInt ∧ (wl q).toInt ≤ 14) (b_wb : ∀ q : Nat, 0 ≤ (wb q).toInt ∧ (wb q).toInt ≤ 1) (hnW : 474 ≤ nW) (sz : Nat) : Met l yX3_canSink wsMX3_canSink ({ frames := 6, cells := 0, slots := 0, locals := 156 }) (va_Pc [.ref (hG 0), .int p1] (fun U => U.heap.size = sz ∧ va_P (dC, dI) vwCl (WG hG aG kG hM hO hQ hw iG_made iG_keptNeeds fG_kept fG_need fG_turn iG_columns ++ (WO hO aO kO hM hQ hw iO_answered iO_searched iO_searchedRelaxed iO_counted fO_countedCase gO_goalNumber gO_goalScale fO_start fO_column fO_chosen ++ (WM hM aM kM iM_stands iM_variables iM_rows iM_goals iM_differents iM_cases fM_from fM_to fM_whole fM_ways iM_plainRows fM_plainRow fM_kept fM_goalOver fM_goalUnder fM_goalMax fM_different ++ (WQ hQ aQ kQ hw fQ_inside fQ_outside fQ_shut iQ_rows iQ_allRows iQ_columns ++ (WW nW hw lw kw wl wb wG))))) U.heap ∧ va_K (dC, dI) vwCl (tG kG ++ (tO kO ++ (tM kM ++ (tQ kQ ++ (tW kw))))) U ∧ va_D (fun _ => True) (WG hG aG kG hM hO hQ hw iG_made iG_keptNeeds fG_kept fG_need fG_turn iG_columns ++ (WO hO aO kO hM hQ hw iO_answered iO_searched iO_searchedRelaxed iO_counted fO_countedCase gO_goalNumber gO_goalScale fO_start fO_column fO_chosen ++ (WM hM aM kM iM_stands iM_variables iM_rows iM_goals iM_differents iM_cases fM_from fM_to fM_whole fM_ways iM_plainRows fM_plainRow fM_kept fM_goalOver fM_goalUnder fM_goalMax fM_different ++ (WQ hQ aQ kQ hw fQ_inside fQ_outside fQ_shut iQ_rows iQ_allRows iQ_columns ++ (WW nW hw lw kw wl wb wG))))))) (va_Qi (fun (r : Int32) (u : (Nat → Int32) × (Nat → Int32) × (Nat → Int32) × (Nat → Int32) × (Nat → Nat → Int64)) => (∀ q : Nat, 0 ≤ ((u.2.2.1) q).toInt ∧ ((u.2.2.1) q).toInt ≤ 14) ∧ (∀ q : Nat, 0 ≤ ((u.2.2.2.1) q).toInt ∧ ((u.2.2.2.1) q).toInt ≤ 1) ∧ (0 ≤ r.toInt ∧ r.toInt ≤ 1)) (fun (u : (Nat → Int32) × (Nat → Int32) × (Nat → Int32) × (Nat → Int32) × (Nat → Nat → Int64)) t => va_P (dC, dI) vwCl (WG hG aG kG hM hO hQ hw iG_made iG_keptNeeds fG_kept fG_need fG_turn iG_columns ++ (WO hO aO kO hM hQ hw iO_answered iO_searched iO_searchedRelaxed iO_counted fO_countedCase gO_goalNumber gO_goalScale fO_start fO_column fO_chosen ++ (WM hM aM kM iM_stands iM_variables iM_rows iM_goals iM_differents iM_cases fM_from fM_to fM_whole fM_ways iM_plainRows fM_plainRow fM_kept fM_goalOver fM_goalUnder fM_goalMax fM_different ++ (WQ hQ aQ kQ hw (u.1) (u.2.1) fQ_shut iQ_rows iQ_allRows iQ_columns ++ (WW nW hw lw kw (u.2.2.1) (u.2.2.2.1) (u.2.2.2.2)))))) t.heap ∧ va_D (va_A (WG hG aG kG hM hO hQ hw iG_made iG_keptNeeds fG_kept fG_need fG_turn iG_columns ++ (WO hO aO kO hM hQ hw iO_answered iO_searched iO_searchedRelaxed iO_counted fO_countedCase gO_goalNumber gO_goalScale fO_start fO_column fO_chosen ++ (WM hM aM kM iM_stands iM_variables iM_rows iM_goals iM_differents iM_cases fM_from fM_to fM_whole fM_ways iM_plainRows fM_plainRow fM_kept fM_goalOver fM_goalUnder fM_goalMax fM_different ++ (WQ hQ aQ kQ hw fQ_inside fQ_outside fQ_shut iQ_rows iQ_allRows iQ_columns ++ (WW nW hw lw kw wl wb wG))))) sz) (WG hG aG kG hM hO hQ hw iG_made iG_keptNeeds fG_kept fG_need fG_turn iG_columns ++ (WO hO aO kO hM hQ hw iO_answered iO_searched iO_searchedRelaxed iO_counted fO_countedCase gO_goalNumber gO_goalScale fO_start fO_column fO_chosen ++ (WM hM aM kM iM_stands iM_variables iM_rows iM_goals iM_differents iM_cases fM_from fM_to fM_whole fM_ways iM_plainRows fM_plainRow fM_kept fM_goalOver fM_goalUnder fM_goalMax fM_different ++ (WQ hQ aQ kQ hw (u.1) (u.2.1) fQ_shut iQ_rows iQ_allRows iQ_columns ++ (WW nW hw lw kw (u.2.2.1) (u.2.2.2.1) (u.2.2.2.2))))))) (va_A (WG hG aG kG hM hO hQ hw iG_made iG_keptNeeds fG_kept fG_need fG_turn iG_columns ++ (WO hO aO kO hM hQ hw iO_answered iO_searched iO_searchedRelaxed iO_counted fO_countedCase gO_goalNumber gO_goalScale fO_start fO_column fO_chosen ++ (WM hM aM kM iM_stands iM_variables iM_rows iM_goals iM_differents iM_cases fM_from fM_to fM_whole fM_ways iM_plainRows fM_plainRow fM_kept fM_goalOver fM_goalUnder fM_goalMax fM_different ++ (WQ hQ aQ kQ hw fQ_inside fQ_outside fQ_shut iQ_rows iQ_allRows iQ_columns ++ (WW nW hw lw kw wl wb wG))))) sz)) 0 0 (va_A (WG hG aG kG hM hO hQ hw iG_made iG_keptNeeds fG_kept fG_need fG_turn iG_columns ++ (WO hO aO kO hM hQ hw iO_answered iO_searched iO_searchedRelaxed iO_counted fO_countedCase gO_goalNumber gO_goalScale fO_start fO_column fO_chosen ++ (WM hM aM kM iM_stands iM_variables iM_rows iM_goals iM_differents iM_cases fM_from fM_to fM_whole fM_ways iM_plainRows fM_plainRow fM_kept fM_goalOver fM_goalUnder fM_goalMax fM_different ++ (WQ hQ aQ kQ hw fQ_inside fQ_outside fQ_shut iQ_rows iQ_allRows iQ_columns ++ (WW nW hw lw kw wl wb wG))))) sz) := by
  refine Met.ofW (cc := cX3_canSink) (maxL := 3) (ret := (some .boolean)) (by decide) rfl ?_
  intro p e s m args below meth c s₁ B hml hv
  obtain ⟨rfl, hsz, hP, hK, hD0⟩ := hv
  have hx := B.exec
  have hb := B.bytes
  have hr := B.returns
  have hts := atoms_spec (ws := wsMX3_canSink) B.pre
  have hown : s.vm.findClass RX3 = some m.cls := findClass_of_methodNamed B.named
  have hlocks := B.notSynchronized
  subst hsz
  have hD := hD0.self (sz := s.heap.size)
  generalize hAe : va_A (WG hG aG kG hM hO hQ hw iG_made iG_keptNeeds fG_kept fG_need fG_turn iG_columns ++ (WO hO aO kO hM hQ hw iO_answered iO_searched iO_searchedRelaxed iO_counted fO_countedCase gO_goalNumber gO_goalScale fO_start fO_column fO_chosen ++ (WM hM aM kM iM_stands iM_variables iM_rows iM_goals iM_differents iM_cases fM_from fM_to fM_whole fM_ways iM_plainRows fM_plainRow fM_kept fM_goalOver fM_goalUnder fM_goalMax fM_different ++ (WQ hQ aQ kQ hw fQ_inside fQ_outside fQ_shut iQ_rows iQ_allRows iQ_columns ++ (WW nW hw lw kw wl wb wG))))) s.heap.size = A at hD ⊢
  have hA : ∀ q : Nat, s.heap.size ≤ q → A q := fun q h => by rw [← hAe]; exact Or.inr h
  have hS : va_S A s.heap s.heap [] := va_S.rf
  have hl := lv_entry ([.ref (hG 0), .int p1]) (n := 3) (Nat.le_of_ble_eq_true rfl)
  rw [lg_entry_eq]
  generalize (lg_sl ([.ref (hG 0), .int p1]) ++ List.replicate (3 - (lg_sl ([.ref (hG 0), .int p1])).length) Slot.unset).toArray = ls at hl ⊢
  have hl : lv_has ls 3 [(0, .ref (hG 0)), (1, .int p1)] := hl
  refine lv_iconst (v := 0) hx hb dX3_canSink_0 (by decide) ?_
  refine lv_istore_n hx hb dX3_canSink_1 rfl hl (by decide) rfl (fun ls (hl : lv_has ls _ ([(2, .int 0), (0, .ref (hG 0)), (1, .int p1)])) => ?_)
  have hl : lv_has _ _ ([(2, .int 0), (0, .ref (hG 0)), (1, .int p1)]) := lv_sub hl [0, 1, 2] rfl
  refine (fun (loop : ∀ (n9 : Nat) (fQ_inside_x2 : Nat → Int32) (fQ_outside_x2 : Nat → Int32) (wl_x2 : Nat → Int32) (wb_x2 : Nat → Int32) (wG_x2 : Nat → Nat → Int64) (l2_x2 : Int32) (H : Heap) (locs : List Loc) (ls : Array Slot), (∀ q : Nat, 0 ≤ (wl_x2 q).toInt ∧ (wl_x2 q).toInt ≤ 14) → (∀ q : Nat, 0 ≤ (wb_x2 q).toInt ∧ (wb_x2 q).toInt ≤ 1) → (0 ≤ l2_x2.toInt ∧ l2_x2.toInt ≤ 40) → (40 - l2_x2.toInt < ((n9 : Nat) : Int)) → va_P (dC, dI) vwCl (WG hG aG kG hM hO hQ hw iG_made iG_keptNeeds fG_kept fG_need fG_turn iG_columns ++ (WO hO aO kO hM hQ hw iO_answered iO_searched iO_searchedRelaxed iO_counted fO_countedCase gO_goalNumber gO_goalScale fO_start fO_column fO_chosen ++ (WM hM aM kM iM_stands iM_variables iM_rows iM_goals iM_differents iM_cases fM_from fM_to fM_whole fM_ways iM_plainRows fM_plainRow fM_kept fM_goalOver fM_goalUnder fM_goalMax fM_different ++ (WQ hQ aQ kQ hw fQ_inside_x2 fQ_outside_x2 fQ_shut iQ_rows iQ_allRows iQ_columns ++ (WW nW hw lw kw wl_x2 wb_x2 wG_x2))))) H → va_D A (WG hG aG kG hM hO hQ hw iG_made iG_keptNeeds fG_kept fG_need fG_turn iG_columns ++ (WO hO aO kO hM hQ hw iO_answered iO_searched iO_searchedRelaxed iO_counted fO_countedCase gO_goalNumber gO_goalScale fO_start fO_column fO_chosen ++ (WM hM aM kM iM_stands iM_variables iM_rows iM_goals iM_differents iM_cases fM_from fM_to fM_whole fM_ways iM_plainRows fM_plainRow fM_kept fM_goalOver fM_goalUnder fM_goalMax fM_different ++ (WQ hQ aQ kQ hw fQ_inside_x2 fQ_outside_x2 fQ_shut iQ_rows iQ_allRows iQ_columns ++ (WW nW hw lw kw wl_x2 wb_x2 wG_x2))))) → va_S A s.heap H locs → lv_has ls 3 [(2, .int l2_x2), (0, .ref (hG 0)), (1, .int p1)] → W p l e _ s m _ below meth c H locs 0 0 _ (F0 m 2 ls [])) => loop (41) fQ_inside fQ_outside wl wb wG 0 _ _ _ b_wl b_wb (show 0 ≤ (0 : Int32).toInt ∧ (0 : Int32).toInt ≤ 40 from by decide) ((by have e9 : (0 : Int32).toInt = 0 := (by decide : (0 : Int32).toInt = 0); omega)) hP hD hS hl) ?_
  intro n9
  induction n9 with
  | zero => intro fQ_inside_x2 fQ_outside_x2 wl_x2 wb_x2 wG_x2 l2_x2 H locs ls b_wl_x2 b_wb_x2 b_l2_x2 hf9; exact False.elim (by omega)
  | succ n9 ihx2 =>
    intro fQ_inside_x2 fQ_outside_x2 wl_x2 wb_x2 wG_x2 l2_x2 H locs ls b_wl_x2 b_wb_x2 b_l2_x2 hfx2 hP hD hS hl
    refine lv_iload_n hx hb dX3_canSink_2 rfl (lv_at hl 0 rfl) ?_
    refine lv_aload_n hx hb dX3_canSink_3 rfl (lv_at hl 1 rfl) ?_
    refine va_get (D := (dC, dI)) (ci := 3) (v := .int iG_columns) (C := RX3) (T := TX3) (N := 17) hx hb hts iwsMX3_canSink_in3 hown hK hP 0 rfl rfl 16 (by decide) (hts (.fieldLink RX3 222 "OptimaWorks$Prover" "columns" "I") (by decide +kernel)) (fun _ h9 => h9) rfl dX3_canSink_4 ?_
    refine lv_icmp_ge (tgt := 39) hx hb dX3_canSink_7 (by decide) (fun c_7 => ?_) (fun c_7 => ?_)
    · have t_7 : l2_x2.toInt ≥ iG_columns.toInt := toI_ge c_7 rfl rfl
      refine lv_iconst (v := 1) hx hb dX3_canSink_39 (by decide) ?_
      refine W.widen (k := 0) (n := 0) (by decide +kernel) (by decide +kernel) ?_
      exact W.zret (v := 1) hx hb hr rfl (fun t9_ ht hW => ⟨⟨(1 : Int32), (fQ_inside_x2, fQ_outside_x2, wl_x2, wb_x2, wG_x2), rfl, ⟨b_wl_x2, b_wb_x2, (show 0 ≤ (1 : Int32).toInt ∧ (1 : Int32).toInt ≤ 1 from by decide)⟩, by rw [ht]; exact hP, hD⟩, hS.F ht⟩) hS.2.2 dX3_canSink_40
    · have t_7 : ¬ l2_x2.toInt ≥ iG_columns.toInt := toI_nge c_7 rfl rfl
      refine lv_aload_n hx hb dX3_canSink_10 rfl (lv_at hl 1 rfl) ?_
      refine va_get (D := (dC, dI)) (ci := 3) (v := .ref (aG 3)) (C := RX3) (T := TX3) (N := 17) hx hb hts iwsMX3_canSink_in3 hown hK hP 0 rfl rfl 14 (by decide) (hts (.fieldLink RX3 52 "OptimaWorks$Prover" "need" "[I") (by decide +kernel)) (fun _ h9 => h9) rfl dX3_canSink_11 ?_
      refine lv_iload_n hx hb dX3_canSink_14 rfl (lv_at hl 0 rfl) ?_
      refine va_iald (cA := kG 3) (n := 40) (f := fG_need) hx hb hK hP 4 3 rfl rfl (vp_in_iff.mpr ⟨b_l2_x2.1, (Int.lt_of_lt_of_le (Int.not_le.mp t_7) (Int.le_trans b_iG_columns.2 (by decide)))⟩) dX3_canSink_15 ?_
      refine lv_topi (fun v5 hv5 => ?_)
      have b_v5 : 0 ≤ v5.toInt ∧ v5.toInt ≤ 27 := by rw [hv5]; exact b_fG_need _
      clear hv5
      refine lv_iload_n hx hb dX3_canSink_16 rfl (lv_at hl 2 rfl) ?_
      refine lv_icmp_ne (tgt := 33) hx hb dX3_canSink_17 (by decide) (fun c_17 => ?_) (fun c_17 => ?_)
      · have t_17 : v5.toInt ≠ p1.toInt := toI_ne c_17 rfl rfl
        refine lv_iinc (v := (iI (l2_x2.toInt + 1))) hx hb dX3_canSink_33 hl (k := 0) rfl (iI_add2 (iI_of _) (by decide : (1 : Int32) = iI 1)) (by decide) rfl (fun ls (hl : lv_has ls _ ([(2, .int (iI (l2_x2.toInt + 1))), (0, .ref (hG 0)), (1, .int p1)])) => ?_)
        refine lv_goto (tgt := 2) hx hb dX3_canSink_36 (by decide) ?_
        have hl : lv_has _ _ ([(2, .int (iI (l2_x2.toInt + 1))), (0, .ref (hG 0)), (1, .int p1)]) := lv_sub hl [0, 1, 2] rfl
        exact ihx2 fQ_inside_x2 fQ_outside_x2 wl_x2 wb_x2 wG_x2 (iI (l2_x2.toInt + 1)) _ _ _ b_wl_x2 b_wb_x2 (iI_rng (Int.le_trans (by decide) (Int.add_le_add (b_l2_x2.1) (Int.le_refl _))) (by omega) (by decide) (by decide)) (by have e9 : ((iI (l2_x2.toInt + 1))).toInt = (l2_x2.toInt + 1) := (iI_t (Int.le_trans (by decide) (Int.add_le_add (b_l2_x2.1) (Int.le_refl _))) (Int.le_trans (Int.add_le_add (b_l2_x2.2) (Int.le_refl _)) (by decide))); omega) hP hD hS hl
      · have t_17 : v5.toInt = p1.toInt := toI_nne c_17 rfl rfl
        refine lv_aload_n hx hb dX3_canSink_20 rfl (lv_at hl 1 rfl) ?_
        refine va_get (D := (dC, dI)) (ci := 3) (v := .ref (hQ 0)) (C := RX3) (T := TX3) (N := 17) hx hb hts iwsMX3_canSink_in3 hown hK hP 0 rfl rfl 2 (by decide) (hts (.fieldLink RX3 71 "OptimaWorks$Prover" "tableau" "LOptimaWorks$Tableau;") (by decide +kernel)) (fun _ h9 => h9) rfl dX3_canSink_21 ?_
        refine lv_iload_n hx hb dX3_canSink_24 rfl (lv_at hl 0 rfl) ?_
        have p9 := cj_5_3_4 (WG hG aG kG hM hO hQ hw iG_made iG_keptNeeds fG_kept fG_need fG_turn iG_columns) (WO hO aO kO hM hQ hw iO_answered iO_searched iO_searchedRelaxed iO_counted fO_countedCase gO_goalNumber gO_goalScale fO_start fO_column fO_chosen) (WM hM aM kM iM_stands iM_variables iM_rows iM_goals iM_differents iM_cases fM_from fM_to fM_whole fM_ways iM_plainRows fM_plainRow fM_kept fM_goalOver fM_goalUnder fM_goalMax fM_different) (WQ hQ aQ kQ hw fQ_inside_x2 fQ_outside_x2 fQ_shut iQ_rows iQ_allRows iQ_columns) (WW nW hw lw kw wl_x2 wb_x2 wG_x2)
        have hPc := hP.mem (fun q h => p9.mem_iff.mpr (List.mem_append_left _ h))
        have hDc := (hD.perm p9).left
        have hKc : va_K (dC, dI) vwCl (tQ kQ ++ (tW kw)) _ := hK.sub [25, 26, 27, 28, 29] rfl
        have hFc := freeG p9 hD hS hA
        refine va_calli (va_runV (As := [.int l2_x2]) (rest := []) ⟨hx, hb, hml, hown, hts⟩ (m_X6_sink l dC dI hQ aQ kQ hw fQ_inside_x2 fQ_outside_x2 fQ_shut iQ_rows iQ_allRows iQ_columns nW lw kw wl_x2 wb_x2 wG_x2 l2_x2 (b_iQ_rows) (b_iQ_allRows) (b_iQ_columns) (by first | with_reducible assumption | omega | assumption) b_wl_x2 b_wb_x2 (by omega) H.size) (cwV 1 hts gwsMX3_canSink_0 rfl rfl rfl hd_yX6_sink_RX6 (by decide +kernel)) (fz_pre (va_recv hK hP (ci := 6) (q0 := 28) rfl rfl) hPc hKc hDc) rfl rfl hl.1 rfl (lv_room (Nat.le_of_ble_eq_true rfl)) dX3_canSink_25 (by decide +kernel)) hS (fun q _ h => hFc q h) hFc (fun r6 u t9_ H locs ht hvm hw9 hB9 hz1 hk1 hS => ?_)
        revert u hw9 hB9
        refine fz_p5 ?_
        intro fQ_inside_6 fQ_outside_6 wl_6 wb_6 wG_6 hw9 hB9
        try dsimp only at hw9 hB9
        revert hw9
        refine fz_a3 ?_
        intro b_wl_6 b_wb_6 b_r6
        have p8 := cj_5_3_4 (WG hG aG kG hM hO hQ hw iG_made iG_keptNeeds fG_kept fG_need fG_turn iG_columns) (WO hO aO kO hM hQ hw iO_answered iO_searched iO_searchedRelaxed iO_counted fO_countedCase gO_goalNumber gO_goalScale fO_start fO_column fO_chosen) (WM hM aM kM iM_stands iM_variables iM_rows iM_goals iM_differents iM_cases fM_from fM_to fM_whole fM_ways iM_plainRows fM_plainRow fM_kept fM_goalOver fM_goalUnder fM_goalMax fM_different) (WQ hQ aQ kQ hw fQ_inside_6 fQ_outside_6 fQ_shut iQ_rows iQ_allRows iQ_columns) (WW nW hw lw kw wl_6 wb_6 wG_6)
        obtain ⟨hP, hD⟩ := frameG p9 p8 hP hD hk1 hFc (fz_P ht hB9.1) hB9.2
        refine lv_if_ne (tgt := 33) hx hb dX3_canSink_28 (by decide) (fun c_28 => ?_) (fun c_28 => ?_)
        · have t_28 : r6.toInt ≠ 0 := toI_ne c_28 rfl (by decide : (0 : Int32).toInt = 0)
          refine lv_iinc (v := (iI (l2_x2.toInt + 1))) hx hb dX3_canSink_33 hl (k := 0) rfl (iI_add2 (iI_of _) (by decide : (1 : Int32) = iI 1)) (by decide) rfl (fun ls (hl : lv_has ls _ ([(2, .int (iI (l2_x2.toInt + 1))), (0, .ref (hG 0)), (1, .int p1)])) => ?_)
          refine lv_goto (tgt := 2) hx hb dX3_canSink_36 (by decide) ?_
          have hl : lv_has _ _ ([(2, .int (iI (l2_x2.toInt + 1))), (0, .ref (hG 0)), (1, .int p1)]) := lv_sub hl [0, 1, 2] rfl
          exact ihx2 fQ_inside_6 fQ_outside_6 wl_6 wb_6 wG_6 (iI (l2_x2.toInt + 1)) _ _ _ b_wl_6 b_wb_6 (iI_rng (Int.le_trans (by decide) (Int.add_le_add (b_l2_x2.1) (Int.le_refl _))) (by omega) (by decide) (by decide)) (by have e9 : ((iI (l2_x2.toInt + 1))).toInt = (l2_x2.toInt + 1) := (iI_t (Int.le_trans (by decide) (Int.add_le_add (b_l2_x2.1) (Int.le_refl _))) (Int.le_trans (Int.add_le_add (b_l2_x2.2) (Int.le_refl _)) (by decide))); omega) hP hD hS hl
        · have t_28 : r6.toInt = 0 := toI_nne c_28 rfl (by decide : (0 : Int32).toInt = 0)
          refine lv_iconst (v := 0) hx hb dX3_canSink_31 (by decide) ?_
          refine W.widen (k := 0) (n := 0) (by decide +kernel) (by decide +kernel) ?_
          exact W.zret (v := 0) hx hb hr rfl (fun t9_ ht hW => ⟨⟨(0 : Int32), (fQ_inside_6, fQ_outside_6, wl_6, wb_6, wG_6), rfl, ⟨b_wl_6, b_wb_6, (show 0 ≤ (0 : Int32).toInt ∧ (0 : Int32).toInt ≤ 1 from by decide)⟩, by rw [ht]; exact hP, hD⟩, hS.F ht⟩) hS.2.2 dX3_canSink_32
theorem dX3_dropNeed_0 : decode cX3_dropNeed 0 = .ok (.iconst 0, 1) := dk_3 (by decide +kernel)
theorem dX3_dropNeed_1 : decode cX3_dropNeed 1 = .ok (.istore_n 2, 1) := dk_61 (by decide +kernel)
theorem dX3_dropNeed_2 : decode cX3_dropNeed 2 = .ok (.iload_n 2, 1) := dk_28 (by decide +kernel)
theorem dX3_dropNeed_3 : decode cX3_dropNeed 3 = .ok (.aload_n 0, 1) := dk_42 (by decide +kernel)
theorem dX3_dropNeed_4 : decode cX3_dropNeed 4 = .ok (.getfield 222, 3) := dk_180 (by decide +kernel)
theorem dX3_dropNeed_7 : decode cX3_dropNeed 7 = .ok (.if_icmp .ge 38, 3) := dk_162 (by decide +kernel)
theorem dX3_dropNeed_10 : decode cX3_dropNeed 10 = .ok (.aload_n 0, 1) := dk_42 (by decide +kernel)
theorem dX3_dropNeed_11 : decode cX3_dropNeed 11 = .ok (.getfield 52, 3) := dk_180 (by decide +kernel)
theorem dX3_dropNeed_14 : decode cX3_dropNeed 14 = .ok (.iload_n 2, 1) := dk_28 (by decide +kernel)
theorem dX3_dropNeed_15 : decode cX3_dropNeed 15 = .ok (.iaload, 1) := dk_46 (by decide +kernel)
theorem dX3_dropNeed_16 : decode cX3_dropNeed 16 = .ok (.iload_n 1, 1) := dk_27 (by decide +kernel)
theorem dX3_dropNeed_17 : decode cX3_dropNeed 17 = .ok (.if_icmp .ne 22, 3) := dk_160 (by decide +kernel)
theorem dX3_dropNeed_20 : decode cX3_dropNeed 20 = .ok (.aload_n 0, 1) := dk_42 (by decide +kernel)
theorem dX3_dropNeed_21 : decode cX3_dropNeed 21 = .ok (.getfield 71, 3) := dk_180 (by decide +kernel)
theorem dX3_dropNeed_24 : decode cX3_dropNeed 24 = .ok (.iload_n 2, 1) := dk_28 (by decide +kernel)
theorem dX3_dropNeed_25 : decode cX3_dropNeed 25 = .ok (.invokevirtual 242, 3) := dk_182 (by decide +kernel)
theorem dX3_dropNeed_28 : decode cX3_dropNeed 28 = .ok (.ifCond .ne 11, 3) := dk_154 (by decide +kernel)
theorem dX3_dropNeed_31 : decode cX3_dropNeed 31 = .ok (.aload_n 0, 1) := dk_42 (by decide +kernel)
theorem dX3_dropNeed_32 : decode cX3_dropNeed 32 = .ok (.getfield 71, 3) := dk_180 (by decide +kernel)
theorem dX3_dropNeed_35 : decode cX3_dropNeed 35 = .ok (.iload_n 2, 1) := dk_28 (by decide +kernel)
theorem dX3_dropNeed_36 : decode cX3_dropNeed 36 = .ok (.invokevirtual 245, 3) := dk_182 (by decide +kernel)
theorem dX3_dropNeed_39 : decode cX3_dropNeed 39 = .ok (.iinc 2 1, 3) := dk_132 (by decide +kernel)
theorem dX3_dropNeed_42 : decode cX3_dropNeed 42 = .ok (.goto (-40), 3) := dk_167 (by decide +kernel)
theorem dX3_dropNeed_45 : decode cX3_dropNeed 45 = .ok (.iconst 0, 1) := dk_3 (by decide +kernel)
theorem dX3_dropNeed_46 : decode cX3_dropNeed 46 = .ok (.istore_n 2, 1) := dk_61 (by decide +kernel)
theorem dX3_dropNeed_47 : decode cX3_dropNeed 47 = .ok (.iload_n 2, 1) := dk_28 (by decide +kernel)
theorem dX3_dropNeed_48 : decode cX3_dropNeed 48 = .ok (.aload_n 0, 1) := dk_42 (by decide +kernel)
theorem dX3_dropNeed_49 : decode cX3_dropNeed 49 = .ok (.getfield 222, 3) := dk_180 (by decide +kernel)
theorem dX3_dropNeed_52 : decode cX3_dropNeed 52 = .ok (.if_icmp .ge 38, 3) := dk_162 (by decide +kernel)
theorem dX3_dropNeed_55 : decode cX3_dropNeed 55 = .ok (.aload_n 0, 1) := dk_42 (by decide +kernel)
theorem dX3_dropNeed_56 : decode cX3_dropNeed 56 = .ok (.getfield 52, 3) := dk_180 (by decide +kernel)
theorem dX3_dropNeed_59 : decode cX3_dropNeed 59 = .ok (.iload_n 2, 1) := dk_28 (by decide +kernel)
theorem dX3_dropNeed_60 : decode cX3_dropNeed 60 = .ok (.iaload, 1) := dk_46 (by decide +kernel)
theorem dX3_dropNeed_61 : decode cX3_dropNeed 61 = .ok (.iload_n 1, 1) := dk_27 (by decide +kernel)
theorem dX3_dropNeed_62 : decode cX3_dropNeed 62 = .ok (.if_icmp .ne 22, 3) := dk_160 (by decide +kernel)
theorem dX3_dropNeed_65 : decode cX3_dropNeed 65 = .ok (.aload_n 0, 1) := dk_42 (by decide +kernel)
theorem dX3_dropNeed_66 : decode cX3_dropNeed 66 = .ok (.getfield 71, 3) := dk_180 (by decide +kernel)
theorem dX3_dropNeed_69 : decode cX3_dropNeed 69 = .ok (.iload_n 2, 1) := dk_28 (by decide +kernel)
theorem dX3_dropNeed_70 : decode cX3_dropNeed 70 = .ok (.invokevirtual 242, 3) := dk_182 (by decide +kernel)
theorem dX3_dropNeed_73 : decode cX3_dropNeed 73 = .ok (.ifCond .eq 11, 3) := dk_153 (by decide +kernel)
theorem dX3_dropNeed_76 : decode cX3_dropNeed 76 = .ok (.aload_n 0, 1) := dk_42 (by decide +kernel)
theorem dX3_dropNeed_77 : decode cX3_dropNeed 77 = .ok (.getfield 71, 3) := dk_180 (by decide +kernel)
theorem dX3_dropNeed_80 : decode cX3_dropNeed 80 = .ok (.iload_n 2, 1) := dk_28 (by decide +kernel)
theorem dX3_dropNeed_81 : decode cX3_dropNeed 81 = .ok (.invokevirtual 245, 3) := dk_182 (by decide +kernel)
theorem dX3_dropNeed_84 : decode cX3_dropNeed 84 = .ok (.iinc 2 1, 3) := dk_132 (by decide +kernel)
theorem dX3_dropNeed_87 : decode cX3_dropNeed 87 = .ok (.goto (-40), 3) := dk_167 (by decide +kernel)
theorem dX3_dropNeed_90 : decode cX3_dropNeed 90 = .ok (.return_, 1) := dk_177 (by decide +kernel)
def wsMX3_dropNeed : List Cond := .code yX3_dropNeed cX3_dropNeed 3 none :: ([.fieldLink RX3 222 "OptimaWorks$Prover" "columns" "I", .fieldLink RX3 52 "OptimaWorks$Prover" "need" "[I", .fieldLink RX3 71 "OptimaWorks$Prover" "tableau" "LOptimaWorks$Tableau;"] ++ wsX30 ++ (wsV RX3 242 RX6 yX6_isInside wsMX6_isInside) ++ (wsV RX3 245 RX6 yX6_drop wsMX6_drop))
theorem iwsMX3_dropNeed_in3 : ∀ w ∈ wsX30, w ∈ wsMX3_dropNeed := fun _ h => List.mem_cons_of_mem _ (List.mem_append_left _ (List.mem_append_left _ (List.mem_append_right _ h)))
theorem gwsMX3_dropNeed_0 : GoodIn wsMX3_dropNeed (wsV RX3 242 RX6 yX6_isInside wsMX6_isInside) := goodIn_sub (fun _ h => List.mem_cons_of_mem _ (List.mem_append_left _ (List.mem_append_right _ h))) (gdV (by decide +kernel) gdwsMX6_isInside)
theorem gwsMX3_dropNeed_1 : GoodIn wsMX3_dropNeed (wsV RX3 245 RX6 yX6_drop wsMX6_drop) := goodIn_sub (fun _ h => List.mem_cons_of_mem _ (List.mem_append_right _ h)) (gdV (by decide +kernel) gdwsMX6_drop)
theorem gdwsMX3_dropNeed : wsMX3_dropNeed.all goodWord = true := gdC rfl (gdA (gdA (gdA (by decide +kernel : ([.fieldLink RX3 222 "OptimaWorks$Prover" "columns" "I", .fieldLink RX3 52 "OptimaWorks$Prover" "need" "[I", .fieldLink RX3 71 "OptimaWorks$Prover" "tableau" "LOptimaWorks$Tableau;"] : List Cond).all goodWord = true) gdwsX30) (gdV (by decide +kernel) gdwsMX6_isInside)) (gdV (by decide +kernel) gdwsMX6_drop))
theorem hm_m_X3_dropNeed_0 : (.fieldLink RX3 222 "OptimaWorks$Prover" "columns" "I" : Cond) ∈ wsMX3_dropNeed := by decide +kernel
theorem hm_m_X3_dropNeed_1 : (.fieldLink RX3 52 "OptimaWorks$Prover" "need" "[I" : Cond) ∈ wsMX3_dropNeed := by decide +kernel
theorem hm_m_X3_dropNeed_2 : (.fieldLink RX3 71 "OptimaWorks$Prover" "tableau" "LOptimaWorks$Tableau;" : Cond) ∈ wsMX3_dropNeed := by decide +kernel
set_option maxHeartbeats 4000000 in
set_option maxRecDepth 100000 in
/-- a need is dropped -/
theorem m_X3_dropNeed (l : Launch) (dC : Nat → ClassId) (dI : Nat → Nat → Nat) (hG : Nat → Nat) (aG : Nat → Nat) (kG : Nat → ClassId) (hM : Nat → Nat) (hO : Nat → Nat) (hQ : Nat → Nat) (hw : Nat → Nat) (iG_made : Int32) (iG_keptNeeds : Int32) (fG_kept : Nat → Int32) (fG_need : Nat → Int32) (fG_turn : Nat → Int32) (iG_columns : Int32) (aO : Nat → Nat) (kO : Nat → ClassId) (iO_answered : Int32) (iO_searched : Int32) (iO_searchedRelaxed : Int32) (iO_counted : Int32) (fO_countedCase : Nat → Int32) (gO_goalNumber : Nat → Int64) (gO_goalScale : Nat → Int64) (fO_start : Nat → Int32) (fO_column : Nat → Int32) (fO_chosen : Nat → Int32) (aM : Nat → Nat) (kM : Nat → ClassId) (iM_stands : Int32) (iM_variables : Int32) (iM_rows : Int32) (iM_goals : Int32) (iM_differents : Int32) (iM_cases : Int32) (fM_from : Nat → Int32) (fM_to : Nat → Int32) (fM_whole : Nat → Int32) (fM_ways : Nat → Int32) (iM_plainRows : Int32) (fM_plainRow : Nat → Int32) (fM_kept : Nat → Int32) (fM_goalOver : Nat → Int32) (fM_goalUnder : Nat → Int32) (fM_goalMax : Nat → Int32) (fM_different : Nat → Int32) (aQ : Nat → Nat) (kQ : Nat → ClassId) (fQ_inside : Nat → Int32) (fQ_outside : Nat → Int32) (fQ_shut : Nat → Int32) (iQ_rows : Int32) (iQ_allRows : Int32) (iQ_columns : Int32) (nW : Nat) (lw : Nat → Nat) (kw : ClassId) (wl : Nat → Int32) (wb : Nat → Int32) (wG : Nat → Nat → Int64) (p1 : Int32) (b_iG_made : 0 ≤ iG_made.toInt ∧ iG_made.toInt ≤ 1) (b_fG_need : ∀ q : Nat, 0 ≤ (fG_need q).toInt ∧ (fG_need q).toInt ≤ 27) (b_iG_columns : 0 ≤ iG_columns.toInt ∧ iG_columns.toInt ≤ 40) (b_iO_answered : 0 ≤ iO_answered.toInt ∧ iO_answered.toInt ≤ 1) (b_iO_searched : 0 ≤ iO_searched.toInt ∧ iO_searched.toInt ≤ 1) (b_iO_searchedRelaxed : 0 ≤ iO_searchedRelaxed.toInt ∧ iO_searchedRelaxed.toInt ≤ 1) (b_iO_counted : (-1) ≤ iO_counted.toInt ∧ iO_counted.toInt ≤ 64) (b_fO_countedCase : ∀ q : Nat, 0 ≤ (fO_countedCase q).toInt ∧ (fO_countedCase q).toInt ≤ 200000) (b_fO_column : ∀ q : Nat, (-1) ≤ (fO_column q).toInt ∧ (fO_column q).toInt ≤ 8) (b_fO_chosen : ∀ q : Nat, 0 ≤ (fO_chosen q).toInt ∧ (fO_chosen q).toInt ≤ 2) (b_iM_stands : 0 ≤ iM_stands.toInt ∧ iM_stands.toInt ≤ 1) (b_iM_variables : 0 ≤ iM_variables.toInt ∧ iM_variables.toInt ≤ 8) (b_iM_rows : 0 ≤ iM_rows.toInt ∧ iM_rows.toInt ≤ 12) (b_iM_goals : 0 ≤ iM_goals.toInt ∧ iM_goals.toInt ≤ 3) (b_iM_differents : 0 ≤ iM_differents.toInt ∧ iM_differents.toInt ≤ 8) (b_iM_cases : 0 ≤ iM_cases.toInt ∧ iM_cases.toInt ≤ 200000) (b_fM_ways : ∀ q : Nat, 0 ≤ (fM_ways q).toInt ∧ (fM_ways q).toInt ≤ 3) (b_iM_plainRows : 0 ≤ iM_plainRows.toInt ∧ iM_plainRows.toInt ≤ 12) (b_fM_plainRow : ∀ q : Nat, 0 ≤ (fM_plainRow q).toInt ∧ (fM_plainRow q).toInt ≤ 11) (b_pr : iM_plainRows.toInt ≤ iM_rows.toInt) (b_iQ_rows : 0 ≤ iQ_rows.toInt ∧ iQ_rows.toInt ≤ 40) (b_iQ_allRows : 0 ≤ iQ_allRows.toInt ∧ iQ_allRows.toInt ≤ 40) (b_iQ_columns : 0 ≤ iQ_columns.toInt ∧ iQ_columns.toInt ≤ 40) (b_tb : TbO iQ_rows iQ_allRows iQ_columns) (b_wl : ∀ q : Nat, 0 ≤ (wl q).toInt ∧ (wl q).toInt ≤ 14) (b_wb : ∀ q : Nat, 0 ≤ (wb q).toInt ∧ (wb q).toInt ≤ 1) (hnW : 474 ≤ nW) (sz : Nat) : Met l yX3_dropNeed wsMX3_dropNeed ({ frames := 6, cells := 0, slots := 0, locals := 154 }) (va_Pc [.ref (hG 0), .int p1] (fun U => U.heap.size = sz ∧ va_P (dC, dI) vwCl (WG hG aG kG hM hO hQ hw iG_made iG_keptNeeds fG_kept fG_need fG_turn iG_columns ++ (WO hO aO kO hM hQ hw iO_answered iO_searched iO_searchedRelaxed iO_counted fO_countedCase gO_goalNumber gO_goalScale fO_start fO_column fO_chosen ++ (WM hM aM kM iM_stands iM_variables iM_rows iM_goals iM_differents iM_cases fM_from fM_to fM_whole fM_ways iM_plainRows fM_plainRow fM_kept fM_goalOver fM_goalUnder fM_goalMax fM_different ++ (WQ hQ aQ kQ hw fQ_inside fQ_outside fQ_shut iQ_rows iQ_allRows iQ_columns ++ (WW nW hw lw kw wl wb wG))))) U.heap ∧ va_K (dC, dI) vwCl (tG kG ++ (tO kO ++ (tM kM ++ (tQ kQ ++ (tW kw))))) U ∧ va_D (fun _ => True) (WG hG aG kG hM hO hQ hw iG_made iG_keptNeeds fG_kept fG_need fG_turn iG_columns ++ (WO hO aO kO hM hQ hw iO_answered iO_searched iO_searchedRelaxed iO_counted fO_countedCase gO_goalNumber gO_goalScale fO_start fO_column fO_chosen ++ (WM hM aM kM iM_stands iM_variables iM_rows iM_goals iM_differents iM_cases fM_from fM_to fM_whole fM_ways iM_plainRows fM_plainRow fM_kept fM_goalOver fM_goalUnder fM_goalMax fM_different ++ (WQ hQ aQ kQ hw fQ_inside fQ_outside fQ_shut iQ_rows iQ_allRows iQ_columns ++ (WW nW hw lw kw wl wb wG))))))) (va_Qv (fun (u : (Nat → Int32) × (Nat → Int32) × (Nat → Int32) × (Nat → Int32) × (Nat → Int32) × (Nat → Nat → Int64)) => (∀ q : Nat, 0 ≤ ((u.2.2.2.1) q).toInt ∧ ((u.2.2.2.1) q).toInt ≤ 14) ∧ (∀ q : Nat, 0 ≤ ((u.2.2.2.2.1) q).toInt ∧ ((u.2.2.2.2.1) q).toInt ≤ 1)) (fun (u : (Nat → Int32) × (Nat → Int32) × (Nat → Int32) × (Nat → Int32) × (Nat → Int32) × (Nat → Nat → Int64)) t => va_P (dC, dI) vwCl (WG hG aG kG hM hO hQ hw iG_made iG_keptNeeds fG_kept fG_need fG_turn iG_columns ++ (WO hO aO kO hM hQ hw iO_answered iO_searched iO_searchedRelaxed iO_counted fO_countedCase gO_goalNumber gO_goalScale fO_start fO_column fO_chosen ++ (WM hM aM kM iM_stands iM_variables iM_rows iM_goals iM_differents iM_cases fM_from fM_to fM_whole fM_ways iM_plainRows fM_plainRow fM_kept fM_goalOver fM_goalUnder fM_goalMax fM_different ++ (WQ hQ aQ kQ hw (u.1) (u.2.1) (u.2.2.1) iQ_rows iQ_allRows iQ_columns ++ (WW nW hw lw kw (u.2.2.2.1) (u.2.2.2.2.1) (u.2.2.2.2.2)))))) t.heap ∧ va_D (va_A (WG hG aG kG hM hO hQ hw iG_made iG_keptNeeds fG_kept fG_need fG_turn iG_columns ++ (WO hO aO kO hM hQ hw iO_answered iO_searched iO_searchedRelaxed iO_counted fO_countedCase gO_goalNumber gO_goalScale fO_start fO_column fO_chosen ++ (WM hM aM kM iM_stands iM_variables iM_rows iM_goals iM_differents iM_cases fM_from fM_to fM_whole fM_ways iM_plainRows fM_plainRow fM_kept fM_goalOver fM_goalUnder fM_goalMax fM_different ++ (WQ hQ aQ kQ hw fQ_inside fQ_outside fQ_shut iQ_rows iQ_allRows iQ_columns ++ (WW nW hw lw kw wl wb wG))))) sz) (WG hG aG kG hM hO hQ hw iG_made iG_keptNeeds fG_kept fG_need fG_turn iG_columns ++ (WO hO aO kO hM hQ hw iO_answered iO_searched iO_searchedRelaxed iO_counted fO_countedCase gO_goalNumber gO_goalScale fO_start fO_column fO_chosen ++ (WM hM aM kM iM_stands iM_variables iM_rows iM_goals iM_differents iM_cases fM_from fM_to fM_whole fM_ways iM_plainRows fM_plainRow fM_kept fM_goalOver fM_goalUnder fM_goalMax fM_different ++ (WQ hQ aQ kQ hw (u.1) (u.2.1) (u.2.2.1) iQ_rows iQ_allRows iQ_columns ++ (WW nW hw lw kw (u.2.2.2.1) (u.2.2.2.2.1) (u.2.2.2.2.2))))))) (va_A (WG hG aG kG hM hO hQ hw iG_made iG_keptNeeds fG_kept fG_need fG_turn iG_columns ++ (WO hO aO kO hM hQ hw iO_answered iO_searched iO_searchedRelaxed iO_counted fO_countedCase gO_goalNumber gO_goalScale fO_start fO_column fO_chosen ++ (WM hM aM kM iM_stands iM_variables iM_rows iM_goals iM_differents iM_cases fM_from fM_to fM_whole fM_ways iM_plainRows fM_plainRow fM_kept fM_goalOver fM_goalUnder fM_goalMax fM_different ++ (WQ hQ aQ kQ hw fQ_inside fQ_outside fQ_shut iQ_rows iQ_allRows iQ_columns ++ (WW nW hw lw kw wl wb wG))))) sz)) 0 0 (va_A (WG hG aG kG hM hO hQ hw iG_made iG_keptNeeds fG_kept fG_need fG_turn iG_columns ++ (WO hO aO kO hM hQ hw iO_answered iO_searched iO_searchedRelaxed iO_counted fO_countedCase gO_goalNumber gO_goalScale fO_start fO_column fO_chosen ++ (WM hM aM kM iM_stands iM_variables iM_rows iM_goals iM_differents iM_cases fM_from fM_to fM_whole fM_ways iM_plainRows fM_plainRow fM_kept fM_goalOver fM_goalUnder fM_goalMax fM_different ++ (WQ hQ aQ kQ hw fQ_inside fQ_outside fQ_shut iQ_rows iQ_allRows iQ_columns ++ (WW nW hw lw kw wl wb wG))))) sz) := by
  refine Met.ofW (cc := cX3_dropNeed) (maxL := 3) (ret := none) (by decide) rfl ?_
  intro p e s m args below meth c s₁ B hml hv
  obtain ⟨rfl, hsz, hP, hK, hD0⟩ := hv
  have hx := B.exec
  have hb := B.bytes
  have hr := B.returns
  have hts := atoms_spec (ws := wsMX3_dropNeed) B.pre
  have hown : s.vm.findClass RX3 = some m.cls := findClass_of_methodNamed B.named
  have hlocks := B.notSynchronized
  subst hsz
  have hD := hD0.self (sz := s.heap.size)
  generalize hAe : va_A (WG hG aG kG hM hO hQ hw iG_made iG_keptNeeds fG_kept fG_need fG_turn iG_columns ++ (WO hO aO kO hM hQ hw iO_answered iO_searched iO_searchedRelaxed iO_counted fO_countedCase gO_goalNumber gO_goalScale fO_start fO_column fO_chosen ++ (WM hM aM kM iM_stands iM_variables iM_rows iM_goals iM_differents iM_cases fM_from fM_to fM_whole fM_ways iM_plainRows fM_plainRow fM_kept fM_goalOver fM_goalUnder fM_goalMax fM_different ++ (WQ hQ aQ kQ hw fQ_inside fQ_outside fQ_shut iQ_rows iQ_allRows iQ_columns ++ (WW nW hw lw kw wl wb wG))))) s.heap.size = A at hD ⊢
  have hA : ∀ q : Nat, s.heap.size ≤ q → A q := fun q h => by rw [← hAe]; exact Or.inr h
  have hS : va_S A s.heap s.heap [] := va_S.rf
  have hl := lv_entry ([.ref (hG 0), .int p1]) (n := 3) (Nat.le_of_ble_eq_true rfl)
  rw [lg_entry_eq]
  generalize (lg_sl ([.ref (hG 0), .int p1]) ++ List.replicate (3 - (lg_sl ([.ref (hG 0), .int p1])).length) Slot.unset).toArray = ls at hl ⊢
  have hl : lv_has ls 3 [(0, .ref (hG 0)), (1, .int p1)] := hl
  refine lv_iconst (v := 0) hx hb dX3_dropNeed_0 (by decide) ?_
  refine lv_istore_n hx hb dX3_dropNeed_1 rfl hl (by decide) rfl (fun ls (hl : lv_has ls _ ([(2, .int 0), (0, .ref (hG 0)), (1, .int p1)])) => ?_)
  have hl : lv_has _ _ ([(2, .int 0), (0, .ref (hG 0)), (1, .int p1)]) := lv_sub hl [0, 1, 2] rfl
  refine (fun (loop : ∀ (n9 : Nat) (fQ_inside_x2 : Nat → Int32) (fQ_outside_x2 : Nat → Int32) (fQ_shut_x2 : Nat → Int32) (wl_x2 : Nat → Int32) (wb_x2 : Nat → Int32) (wG_x2 : Nat → Nat → Int64) (l2_x2 : Int32) (H : Heap) (locs : List Loc) (ls : Array Slot), (∀ q : Nat, 0 ≤ (wl_x2 q).toInt ∧ (wl_x2 q).toInt ≤ 14) → (∀ q : Nat, 0 ≤ (wb_x2 q).toInt ∧ (wb_x2 q).toInt ≤ 1) → (0 ≤ l2_x2.toInt ∧ l2_x2.toInt ≤ 40) → (40 - l2_x2.toInt < ((n9 : Nat) : Int)) → va_P (dC, dI) vwCl (WG hG aG kG hM hO hQ hw iG_made iG_keptNeeds fG_kept fG_need fG_turn iG_columns ++ (WO hO aO kO hM hQ hw iO_answered iO_searched iO_searchedRelaxed iO_counted fO_countedCase gO_goalNumber gO_goalScale fO_start fO_column fO_chosen ++ (WM hM aM kM iM_stands iM_variables iM_rows iM_goals iM_differents iM_cases fM_from fM_to fM_whole fM_ways iM_plainRows fM_plainRow fM_kept fM_goalOver fM_goalUnder fM_goalMax fM_different ++ (WQ hQ aQ kQ hw fQ_inside_x2 fQ_outside_x2 fQ_shut_x2 iQ_rows iQ_allRows iQ_columns ++ (WW nW hw lw kw wl_x2 wb_x2 wG_x2))))) H → va_D A (WG hG aG kG hM hO hQ hw iG_made iG_keptNeeds fG_kept fG_need fG_turn iG_columns ++ (WO hO aO kO hM hQ hw iO_answered iO_searched iO_searchedRelaxed iO_counted fO_countedCase gO_goalNumber gO_goalScale fO_start fO_column fO_chosen ++ (WM hM aM kM iM_stands iM_variables iM_rows iM_goals iM_differents iM_cases fM_from fM_to fM_whole fM_ways iM_plainRows fM_plainRow fM_kept fM_goalOver fM_goalUnder fM_goalMax fM_different ++ (WQ hQ aQ kQ hw fQ_inside_x2 fQ_outside_x2 fQ_shut_x2 iQ_rows iQ_allRows iQ_columns ++ (WW nW hw lw kw wl_x2 wb_x2 wG_x2))))) → va_S A s.heap H locs → lv_has ls 3 [(2, .int l2_x2), (0, .ref (hG 0)), (1, .int p1)] → W p l e _ s m _ below meth c H locs 0 0 _ (F0 m 2 ls [])) => loop (41) fQ_inside fQ_outside fQ_shut wl wb wG 0 _ _ _ b_wl b_wb (show 0 ≤ (0 : Int32).toInt ∧ (0 : Int32).toInt ≤ 40 from by decide) ((by have e9 : (0 : Int32).toInt = 0 := (by decide : (0 : Int32).toInt = 0); omega)) hP hD hS hl) ?_
  intro n9
  induction n9 with
  | zero => intro fQ_inside_x2 fQ_outside_x2 fQ_shut_x2 wl_x2 wb_x2 wG_x2 l2_x2 H locs ls b_wl_x2 b_wb_x2 b_l2_x2 hf9; exact False.elim (by omega)
  | succ n9 ihx2 =>
    intro fQ_inside_x2 fQ_outside_x2 fQ_shut_x2 wl_x2 wb_x2 wG_x2 l2_x2 H locs ls b_wl_x2 b_wb_x2 b_l2_x2 hfx2 hP hD hS hl
    refine lv_iload_n hx hb dX3_dropNeed_2 rfl (lv_at hl 0 rfl) ?_
    refine lv_aload_n hx hb dX3_dropNeed_3 rfl (lv_at hl 1 rfl) ?_
    refine va_get (D := (dC, dI)) (ci := 3) (v := .int iG_columns) (C := RX3) (T := TX3) (N := 17) hx hb hts iwsMX3_dropNeed_in3 hown hK hP 0 rfl rfl 16 (by decide) (hts _ hm_m_X3_dropNeed_0) (fun _ h9 => h9) rfl dX3_dropNeed_4 ?_
    refine lv_icmp_ge (tgt := 45) hx hb dX3_dropNeed_7 (by decide) (fun c_7 => ?_) (fun c_7 => ?_)
    · have t_7 : l2_x2.toInt ≥ iG_columns.toInt := toI_ge c_7 rfl rfl
      refine lv_iconst (v := 0) hx hb dX3_dropNeed_45 (by decide) ?_
      refine lv_istore_n hx hb dX3_dropNeed_46 rfl hl (by decide) rfl (fun ls (hl : lv_has ls _ ([(2, .int 0), (0, .ref (hG 0)), (1, .int p1)])) => ?_)
      have hl : lv_has _ _ ([(2, .int 0), (0, .ref (hG 0)), (1, .int p1)]) := lv_sub hl [0, 1, 2] rfl
      refine (fun (loop : ∀ (n9 : Nat) (fQ_inside_x47 : Nat → Int32) (fQ_outside_x47 : Nat → Int32) (fQ_shut_x47 : Nat → Int32) (wl_x47 : Nat → Int32) (wb_x47 : Nat → Int32) (wG_x47 : Nat → Nat → Int64) (l2_x47 : Int32) (H : Heap) (locs : List Loc) (ls : Array Slot), (∀ q : Nat, 0 ≤ (wl_x47 q).toInt ∧ (wl_x47 q).toInt ≤ 14) → (∀ q : Nat, 0 ≤ (wb_x47 q).toInt ∧ (wb_x47 q).toInt ≤ 1) → (0 ≤ l2_x47.toInt ∧ l2_x47.toInt ≤ 40) → (40 - l2_x47.toInt < ((n9 : Nat) : Int)) → va_P (dC, dI) vwCl (WG hG aG kG hM hO hQ hw iG_made iG_keptNeeds fG_kept fG_need fG_turn iG_columns ++ (WO hO aO kO hM hQ hw iO_answered iO_searched iO_searchedRelaxed iO_counted fO_countedCase gO_goalNumber gO_goalScale fO_start fO_column fO_chosen ++ (WM hM aM kM iM_stands iM_variables iM_rows iM_goals iM_differents iM_cases fM_from fM_to fM_whole fM_ways iM_plainRows fM_plainRow fM_kept fM_goalOver fM_goalUnder fM_goalMax fM_different ++ (WQ hQ aQ kQ hw fQ_inside_x47 fQ_outside_x47 fQ_shut_x47 iQ_rows iQ_allRows iQ_columns ++ (WW nW hw lw kw wl_x47 wb_x47 wG_x47))))) H → va_D A (WG hG aG kG hM hO hQ hw iG_made iG_keptNeeds fG_kept fG_need fG_turn iG_columns ++ (WO hO aO kO hM hQ hw iO_answered iO_searched iO_searchedRelaxed iO_counted fO_countedCase gO_goalNumber gO_goalScale fO_start fO_column fO_chosen ++ (WM hM aM kM iM_stands iM_variables iM_rows iM_goals iM_differents iM_cases fM_from fM_to fM_whole fM_ways iM_plainRows fM_plainRow fM_kept fM_goalOver fM_goalUnder fM_goalMax fM_different ++ (WQ hQ aQ kQ hw fQ_inside_x47 fQ_outside_x47 fQ_shut_x47 iQ_rows iQ_allRows iQ_columns ++ (WW nW hw lw kw wl_x47 wb_x47 wG_x47))))) → va_S A s.heap H locs → lv_has ls 3 [(2, .int l2_x47), (0, .ref (hG 0)), (1, .int p1)] → W p l e _ s m _ below meth c H locs 0 0 _ (F0 m 47 ls [])) => loop (41) fQ_inside_x2 fQ_outside_x2 fQ_shut_x2 wl_x2 wb_x2 wG_x2 0 _ _ _ b_wl_x2 b_wb_x2 (show 0 ≤ (0 : Int32).toInt ∧ (0 : Int32).toInt ≤ 40 from by decide) ((by have e9 : (0 : Int32).toInt = 0 := (by decide : (0 : Int32).toInt = 0); omega)) hP hD hS hl) ?_
      intro n9
      induction n9 with
      | zero => intro fQ_inside_x47 fQ_outside_x47 fQ_shut_x47 wl_x47 wb_x47 wG_x47 l2_x47 H locs ls b_wl_x47 b_wb_x47 b_l2_x47 hf9; exact False.elim (by omega)
      | succ n9 ihx47 =>
        intro fQ_inside_x47 fQ_outside_x47 fQ_shut_x47 wl_x47 wb_x47 wG_x47 l2_x47 H locs ls b_wl_x47 b_wb_x47 b_l2_x47 hfx47 hP hD hS hl
        refine lv_iload_n hx hb dX3_dropNeed_47 rfl (lv_at hl 0 rfl) ?_
        refine lv_aload_n hx hb dX3_dropNeed_48 rfl (lv_at hl 1 rfl) ?_
        refine va_get (D := (dC, dI)) (ci := 3) (v := .int iG_columns) (C := RX3) (T := TX3) (N := 17) hx hb hts iwsMX3_dropNeed_in3 hown hK hP 0 rfl rfl 16 (by decide) (hts _ hm_m_X3_dropNeed_0) (fun _ h9 => h9) rfl dX3_dropNeed_49 ?_
        refine lv_icmp_ge (tgt := 90) hx hb dX3_dropNeed_52 (by decide) (fun c_52 => ?_) (fun c_52 => ?_)
        · have t_52 : l2_x47.toInt ≥ iG_columns.toInt := toI_ge c_52 rfl rfl
          refine W.widen (k := 0) (n := 0) (by decide +kernel) (by decide +kernel) ?_
          exact W.vret hx hb hr (fun t9_ ht hW => ⟨⟨(fQ_inside_x47, fQ_outside_x47, fQ_shut_x47, wl_x47, wb_x47, wG_x47), rfl, ⟨b_wl_x47, b_wb_x47⟩, by rw [ht]; exact hP, hD⟩, hS.F ht⟩) hS.2.2 dX3_dropNeed_90
        · have t_52 : ¬ l2_x47.toInt ≥ iG_columns.toInt := toI_nge c_52 rfl rfl
          refine lv_aload_n hx hb dX3_dropNeed_55 rfl (lv_at hl 1 rfl) ?_
          refine va_get (D := (dC, dI)) (ci := 3) (v := .ref (aG 3)) (C := RX3) (T := TX3) (N := 17) hx hb hts iwsMX3_dropNeed_in3 hown hK hP 0 rfl rfl 14 (by decide) (hts _ hm_m_X3_dropNeed_1) (fun _ h9 => h9) rfl dX3_dropNeed_56 ?_
          refine lv_iload_n hx hb dX3_dropNeed_59 rfl (lv_at hl 0 rfl) ?_
          refine va_iald (cA := kG 3) (n := 40) (f := fG_need) hx hb hK hP 4 3 rfl rfl (vp_in_iff.mpr ⟨b_l2_x47.1, (Int.lt_of_lt_of_le (Int.not_le.mp t_52) (Int.le_trans b_iG_columns.2 (by decide)))⟩) dX3_dropNeed_60 ?_
          refine lv_topi (fun v111 hv111 => ?_)
          have b_v111 : 0 ≤ v111.toInt ∧ v111.toInt ≤ 27 := by rw [hv111]; exact b_fG_need _
          clear hv111
          refine lv_iload_n hx hb dX3_dropNeed_61 rfl (lv_at hl 2 rfl) ?_
          refine W.cut (pc := 84) (fun H locs ls stk => ∃ (fQ_inside_j47 : Nat → Int32) (fQ_outside_j47 : Nat → Int32) (fQ_shut_j47 : Nat → Int32) (wl_j47 : Nat → Int32) (wb_j47 : Nat → Int32) (wG_j47 : Nat → Nat → Int64), (∀ q : Nat, 0 ≤ (wl_j47 q).toInt ∧ (wl_j47 q).toInt ≤ 14) ∧ (∀ q : Nat, 0 ≤ (wb_j47 q).toInt ∧ (wb_j47 q).toInt ≤ 1) ∧  stk = [] ∧ va_P (dC, dI) vwCl (WG hG aG kG hM hO hQ hw iG_made iG_keptNeeds fG_kept fG_need fG_turn iG_columns ++ (WO hO aO kO hM hQ hw iO_answered iO_searched iO_searchedRelaxed iO_counted fO_countedCase gO_goalNumber gO_goalScale fO_start fO_column fO_chosen ++ (WM hM aM kM iM_stands iM_variables iM_rows iM_goals iM_differents iM_cases fM_from fM_to fM_whole fM_ways iM_plainRows fM_plainRow fM_kept fM_goalOver fM_goalUnder fM_goalMax fM_different ++ (WQ hQ aQ kQ hw fQ_inside_j47 fQ_outside_j47 fQ_shut_j47 iQ_rows iQ_allRows iQ_columns ++ (WW nW hw lw kw wl_j47 wb_j47 wG_j47))))) H ∧ va_D A (WG hG aG kG hM hO hQ hw iG_made iG_keptNeeds fG_kept fG_need fG_turn iG_columns ++ (WO hO aO kO hM hQ hw iO_answered iO_searched iO_searchedRelaxed iO_counted fO_countedCase gO_goalNumber gO_goalScale fO_start fO_column fO_chosen ++ (WM hM aM kM iM_stands iM_variables iM_rows iM_goals iM_differents iM_cases fM_from fM_to fM_whole fM_ways iM_plainRows fM_plainRow fM_kept fM_goalOver fM_goalUnder fM_goalMax fM_different ++ (WQ hQ aQ kQ hw fQ_inside_j47 fQ_outside_j47 fQ_shut_j47 iQ_rows iQ_allRows iQ_columns ++ (WW nW hw lw kw wl_j47 wb_j47 wG_j47))))) ∧ va_S A s.heap H locs ∧ lv_has ls 3 [(2, .int l2_x47), (0, .ref (hG 0)), (1, .int p1)]) (fun join47 => ?_) ?_
          · refine lv_icmp_ne (tgt := 84) hx hb dX3_dropNeed_62 (by decide) (fun c_62 => ?_) (fun c_62 => ?_)
            · have t_62 : v111.toInt ≠ p1.toInt := toI_ne c_62 rfl rfl
              have hl : lv_has _ _ ([(2, .int l2_x47), (0, .ref (hG 0)), (1, .int p1)]) := lv_sub hl [0, 1, 2] rfl
              exact join47 _ _ _ _ ⟨fQ_inside_x47, fQ_outside_x47, fQ_shut_x47, wl_x47, wb_x47, wG_x47, b_wl_x47, b_wb_x47, rfl, hP, hD, hS, hl⟩
            · have t_62 : v111.toInt = p1.toInt := toI_nne c_62 rfl rfl
              refine lv_aload_n hx hb dX3_dropNeed_65 rfl (lv_at hl 1 rfl) ?_
              refine va_get (D := (dC, dI)) (ci := 3) (v := .ref (hQ 0)) (C := RX3) (T := TX3) (N := 17) hx hb hts iwsMX3_dropNeed_in3 hown hK hP 0 rfl rfl 2 (by decide) (hts _ hm_m_X3_dropNeed_2) (fun _ h9 => h9) rfl dX3_dropNeed_66 ?_
              refine lv_iload_n hx hb dX3_dropNeed_69 rfl (lv_at hl 0 rfl) ?_
              have p9 := cj_5_3_4 (WG hG aG kG hM hO hQ hw iG_made iG_keptNeeds fG_kept fG_need fG_turn iG_columns) (WO hO aO kO hM hQ hw iO_answered iO_searched iO_searchedRelaxed iO_counted fO_countedCase gO_goalNumber gO_goalScale fO_start fO_column fO_chosen) (WM hM aM kM iM_stands iM_variables iM_rows iM_goals iM_differents iM_cases fM_from fM_to fM_whole fM_ways iM_plainRows fM_plainRow fM_kept fM_goalOver fM_goalUnder fM_goalMax fM_different) (WQ hQ aQ kQ hw fQ_inside_x47 fQ_outside_x47 fQ_shut_x47 iQ_rows iQ_allRows iQ_columns) (WW nW hw lw kw wl_x47 wb_x47 wG_x47)
              have hPc := hP.mem (fun q h => p9.mem_iff.mpr (List.mem_append_left _ h))
              have hDc := (hD.perm p9).left
              have hKc : va_K (dC, dI) vwCl (tQ kQ ++ (tW kw)) _ := hK.sub [25, 26, 27, 28, 29] rfl
              have hFc := freeG p9 hD hS hA
              refine va_calli (va_runV (As := [.int l2_x47]) (rest := []) ⟨hx, hb, hml, hown, hts⟩ (m_X6_isInside l dC dI hQ aQ kQ hw fQ_inside_x47 fQ_outside_x47 fQ_shut_x47 iQ_rows iQ_allRows iQ_columns nW lw kw wl_x47 wb_x47 wG_x47 l2_x47 (b_iQ_rows) (b_iQ_allRows) (b_iQ_columns) (by first | with_reducible assumption | omega | assumption) b_wl_x47 b_wb_x47 (by omega) H.size) (cwV 1 hts gwsMX3_dropNeed_0 rfl rfl rfl hd_yX6_isInside_RX6 (by decide +kernel)) (fz_pre (va_recv hK hP (ci := 6) (q0 := 28) rfl rfl) hPc hKc hDc) rfl rfl hl.1 rfl (lv_room (Nat.le_of_ble_eq_true rfl)) dX3_dropNeed_70 (by decide +kernel)) hS (fun q _ h => hFc q h) hFc (fun r114 u t9_ H locs ht hvm hw9 hB9 hz1 hk1 hS => ?_)
              have b_r114 := hw9
              try dsimp only at b_r114
              have p8 := p9
              obtain ⟨hP, hD⟩ := frameG p9 p8 hP hD hk1 hFc (fz_P ht hB9.1) hB9.2
              refine lv_if_eq (tgt := 84) hx hb dX3_dropNeed_73 (by decide) (fun c_73 => ?_) (fun c_73 => ?_)
              · have t_73 : r114.toInt = 0 := toI_eq c_73 rfl (by decide : (0 : Int32).toInt = 0)
                have hl : lv_has _ _ ([(2, .int l2_x47), (0, .ref (hG 0)), (1, .int p1)]) := lv_sub hl [0, 1, 2] rfl
                exact join47 _ _ _ _ ⟨fQ_inside_x47, fQ_outside_x47, fQ_shut_x47, wl_x47, wb_x47, wG_x47, b_wl_x47, b_wb_x47, rfl, hP, hD, hS, hl⟩
              · have t_73 : ¬ r114.toInt = 0 := toI_neq c_73 rfl (by decide : (0 : Int32).toInt = 0)
                refine lv_aload_n hx hb dX3_dropNeed_76 rfl (lv_at hl 1 rfl) ?_
                refine va_get (D := (dC, dI)) (ci := 3) (v := .ref (hQ 0)) (C := RX3) (T := TX3) (N := 17) hx hb hts iwsMX3_dropNeed_in3 hown hK hP 0 rfl rfl 2 (by decide) (hts _ hm_m_X3_dropNeed_2) (fun _ h9 => h9) rfl dX3_dropNeed_77 ?_
                refine lv_iload_n hx hb dX3_dropNeed_80 rfl (lv_at hl 0 rfl) ?_
                have p9 := cj_5_3_4 (WG hG aG kG hM hO hQ hw iG_made iG_keptNeeds fG_kept fG_need fG_turn iG_columns) (WO hO aO kO hM hQ hw iO_answered iO_searched iO_searchedRelaxed iO_counted fO_countedCase gO_goalNumber gO_goalScale fO_start fO_column fO_chosen) (WM hM aM kM iM_stands iM_variables iM_rows iM_goals iM_differents iM_cases fM_from fM_to fM_whole fM_ways iM_plainRows fM_plainRow fM_kept fM_goalOver fM_goalUnder fM_goalMax fM_different) (WQ hQ aQ kQ hw fQ_inside_x47 fQ_outside_x47 fQ_shut_x47 iQ_rows iQ_allRows iQ_columns) (WW nW hw lw kw wl_x47 wb_x47 wG_x47)
                have hPc := hP.mem (fun q h => p9.mem_iff.mpr (List.mem_append_left _ h))
                have hDc := (hD.perm p9).left
                have hKc : va_K (dC, dI) vwCl (tQ kQ ++ (tW kw)) _ := hK.sub [25, 26, 27, 28, 29] rfl
                have hFc := freeG p9 hD hS hA
                refine va_callv (va_runV (As := [.int l2_x47]) (rest := []) ⟨hx, hb, hml, hown, hts⟩ (m_X6_drop l dC dI hQ aQ kQ hw fQ_inside_x47 fQ_outside_x47 fQ_shut_x47 iQ_rows iQ_allRows iQ_columns nW lw kw wl_x47 wb_x47 wG_x47 l2_x47 (b_iQ_rows) (b_iQ_allRows) (b_iQ_columns) (by first | with_reducible assumption | omega | assumption) b_wl_x47 b_wb_x47 (by omega) H.size) (cwV 1 hts gwsMX3_dropNeed_1 rfl rfl rfl hd_yX6_drop_RX6 (by decide +kernel)) (fz_pre (va_recv hK hP (ci := 6) (q0 := 28) rfl rfl) hPc hKc hDc) rfl rfl hl.1 rfl (lv_room (Nat.le_of_ble_eq_true rfl)) dX3_dropNeed_81 (by decide +kernel)) hS (fun q _ h => hFc q h) hFc (fun u t9_ H locs ht hvm hw9 hB9 hz1 hk1 hS => ?_)
                revert u hw9 hB9
                refine fz_p6 ?_
                intro fQ_inside_115 fQ_outside_115 fQ_shut_115 wl_115 wb_115 wG_115 hw9 hB9
                try dsimp only at hw9 hB9
                revert hw9
                refine fz_a2 ?_
                intro b_wl_115 b_wb_115
                have p8 := cj_5_3_4 (WG hG aG kG hM hO hQ hw iG_made iG_keptNeeds fG_kept fG_need fG_turn iG_columns) (WO hO aO kO hM hQ hw iO_answered iO_searched iO_searchedRelaxed iO_counted fO_countedCase gO_goalNumber gO_goalScale fO_start fO_column fO_chosen) (WM hM aM kM iM_stands iM_variables iM_rows iM_goals iM_differents iM_cases fM_from fM_to fM_whole fM_ways iM_plainRows fM_plainRow fM_kept fM_goalOver fM_goalUnder fM_goalMax fM_different) (WQ hQ aQ kQ hw fQ_inside_115 fQ_outside_115 fQ_shut_115 iQ_rows iQ_allRows iQ_columns) (WW nW hw lw kw wl_115 wb_115 wG_115)
                obtain ⟨hP, hD⟩ := frameG p9 p8 hP hD hk1 hFc (fz_P ht hB9.1) hB9.2
                have hl : lv_has _ _ ([(2, .int l2_x47), (0, .ref (hG 0)), (1, .int p1)]) := lv_sub hl [0, 1, 2] rfl
                exact join47 _ _ _ _ ⟨fQ_inside_115, fQ_outside_115, fQ_shut_115, wl_115, wb_115, wG_115, b_wl_115, b_wb_115, rfl, hP, hD, hS, hl⟩
          · rintro H locs ls stk ⟨fQ_inside_j47, fQ_outside_j47, fQ_shut_j47, wl_j47, wb_j47, wG_j47, b_wl_j47, b_wb_j47, rfl, hP, hD, hS, hl⟩
            refine lv_iinc (v := (iI (l2_x47.toInt + 1))) hx hb dX3_dropNeed_84 hl (k := 0) rfl (iI_add2 (iI_of _) (by decide : (1 : Int32) = iI 1)) (by decide) rfl (fun ls (hl : lv_has ls _ ([(2, .int (iI (l2_x47.toInt + 1))), (0, .ref (hG 0)), (1, .int p1)])) => ?_)
            refine lv_goto (tgt := 47) hx hb dX3_dropNeed_87 (by decide) ?_
            have hl : lv_has _ _ ([(2, .int (iI (l2_x47.toInt + 1))), (0, .ref (hG 0)), (1, .int p1)]) := lv_sub hl [0, 1, 2] rfl
            exact ihx47 fQ_inside_j47 fQ_outside_j47 fQ_shut_j47 wl_j47 wb_j47 wG_j47 (iI (l2_x47.toInt + 1)) _ _ _ b_wl_j47 b_wb_j47 (iI_rng (Int.le_trans (by decide) (Int.add_le_add (b_l2_x47.1) (Int.le_refl _))) (by omega) (by decide) (by decide)) (by have e9 : ((iI (l2_x47.toInt + 1))).toInt = (l2_x47.toInt + 1) := (iI_t (Int.le_trans (by decide) (Int.add_le_add (b_l2_x47.1) (Int.le_refl _))) (Int.le_trans (Int.add_le_add (b_l2_x47.2) (Int.le_refl _)) (by decide))); omega) hP hD hS hl
    · have t_7 : ¬ l2_x2.toInt ≥ iG_columns.toInt := toI_nge c_7 rfl rfl
      refine lv_aload_n hx hb dX3_dropNeed_10 rfl (lv_at hl 1 rfl) ?_
      refine va_get (D := (dC, dI)) (ci := 3) (v := .ref (aG 3)) (C := RX3) (T := TX3) (N := 17) hx hb hts iwsMX3_dropNeed_in3 hown hK hP 0 rfl rfl 14 (by decide) (hts _ hm_m_X3_dropNeed_1) (fun _ h9 => h9) rfl dX3_dropNeed_11 ?_
      refine lv_iload_n hx hb dX3_dropNeed_14 rfl (lv_at hl 0 rfl) ?_
      refine va_iald (cA := kG 3) (n := 40) (f := fG_need) hx hb hK hP 4 3 rfl rfl (vp_in_iff.mpr ⟨b_l2_x2.1, (Int.lt_of_lt_of_le (Int.not_le.mp t_7) (Int.le_trans b_iG_columns.2 (by decide)))⟩) dX3_dropNeed_15 ?_
      refine lv_topi (fun v116 hv116 => ?_)
      have b_v116 : 0 ≤ v116.toInt ∧ v116.toInt ≤ 27 := by rw [hv116]; exact b_fG_need _
      clear hv116
      refine lv_iload_n hx hb dX3_dropNeed_16 rfl (lv_at hl 2 rfl) ?_
      refine W.cut (pc := 39) (fun H locs ls stk => ∃ (fQ_inside_j48 : Nat → Int32) (fQ_outside_j48 : Nat → Int32) (fQ_shut_j48 : Nat → Int32) (wl_j48 : Nat → Int32) (wb_j48 : Nat → Int32) (wG_j48 : Nat → Nat → Int64), (∀ q : Nat, 0 ≤ (wl_j48 q).toInt ∧ (wl_j48 q).toInt ≤ 14) ∧ (∀ q : Nat, 0 ≤ (wb_j48 q).toInt ∧ (wb_j48 q).toInt ≤ 1) ∧  stk = [] ∧ va_P (dC, dI) vwCl (WG hG aG kG hM hO hQ hw iG_made iG_keptNeeds fG_kept fG_need fG_turn iG_columns ++ (WO hO aO kO hM hQ hw iO_answered iO_searched iO_searchedRelaxed iO_counted fO_countedCase gO_goalNumber gO_goalScale fO_start fO_column fO_chosen ++ (WM hM aM kM iM_stands iM_variables iM_rows iM_goals iM_differents iM_cases fM_from fM_to fM_whole fM_ways iM_plainRows fM_plainRow fM_kept fM_goalOver fM_goalUnder fM_goalMax fM_different ++ (WQ hQ aQ kQ hw fQ_inside_j48 fQ_outside_j48 fQ_shut_j48 iQ_rows iQ_allRows iQ_columns ++ (WW nW hw lw kw wl_j48 wb_j48 wG_j48))))) H ∧ va_D A (WG hG aG kG hM hO hQ hw iG_made iG_keptNeeds fG_kept fG_need fG_turn iG_columns ++ (WO hO aO kO hM hQ hw iO_answered iO_searched iO_searchedRelaxed iO_counted fO_countedCase gO_goalNumber gO_goalScale fO_start fO_column fO_chosen ++ (WM hM aM kM iM_stands iM_variables iM_rows iM_goals iM_differents iM_cases fM_from fM_to fM_whole fM_ways iM_plainRows fM_plainRow fM_kept fM_goalOver fM_goalUnder fM_goalMax fM_different ++ (WQ hQ aQ kQ hw fQ_inside_j48 fQ_outside_j48 fQ_shut_j48 iQ_rows iQ_allRows iQ_columns ++ (WW nW hw lw kw wl_j48 wb_j48 wG_j48))))) ∧ va_S A s.heap H locs ∧ lv_has ls 3 [(2, .int l2_x2), (0, .ref (hG 0)), (1, .int p1)]) (fun join48 => ?_) ?_
      · refine lv_icmp_ne (tgt := 39) hx hb dX3_dropNeed_17 (by decide) (fun c_17 => ?_) (fun c_17 => ?_)
        · have t_17 : v116.toInt ≠ p1.toInt := toI_ne c_17 rfl rfl
          have hl : lv_has _ _ ([(2, .int l2_x2), (0, .ref (hG 0)), (1, .int p1)]) := lv_sub hl [0, 1, 2] rfl
          exact join48 _ _ _ _ ⟨fQ_inside_x2, fQ_outside_x2, fQ_shut_x2, wl_x2, wb_x2, wG_x2, b_wl_x2, b_wb_x2, rfl, hP, hD, hS, hl⟩
        · have t_17 : v116.toInt = p1.toInt := toI_nne c_17 rfl rfl
          refine lv_aload_n hx hb dX3_dropNeed_20 rfl (lv_at hl 1 rfl) ?_
          refine va_get (D := (dC, dI)) (ci := 3) (v := .ref (hQ 0)) (C := RX3) (T := TX3) (N := 17) hx hb hts iwsMX3_dropNeed_in3 hown hK hP 0 rfl rfl 2 (by decide) (hts _ hm_m_X3_dropNeed_2) (fun _ h9 => h9) rfl dX3_dropNeed_21 ?_
          refine lv_iload_n hx hb dX3_dropNeed_24 rfl (lv_at hl 0 rfl) ?_
          have p9 := cj_5_3_4 (WG hG aG kG hM hO hQ hw iG_made iG_keptNeeds fG_kept fG_need fG_turn iG_columns) (WO hO aO kO hM hQ hw iO_answered iO_searched iO_searchedRelaxed iO_counted fO_countedCase gO_goalNumber gO_goalScale fO_start fO_column fO_chosen) (WM hM aM kM iM_stands iM_variables iM_rows iM_goals iM_differents iM_cases fM_from fM_to fM_whole fM_ways iM_plainRows fM_plainRow fM_kept fM_goalOver fM_goalUnder fM_goalMax fM_different) (WQ hQ aQ kQ hw fQ_inside_x2 fQ_outside_x2 fQ_shut_x2 iQ_rows iQ_allRows iQ_columns) (WW nW hw lw kw wl_x2 wb_x2 wG_x2)
          have hPc := hP.mem (fun q h => p9.mem_iff.mpr (List.mem_append_left _ h))
          have hDc := (hD.perm p9).left
          have hKc : va_K (dC, dI) vwCl (tQ kQ ++ (tW kw)) _ := hK.sub [25, 26, 27, 28, 29] rfl
          have hFc := freeG p9 hD hS hA
          refine va_calli (va_runV (As := [.int l2_x2]) (rest := []) ⟨hx, hb, hml, hown, hts⟩ (m_X6_isInside l dC dI hQ aQ kQ hw fQ_inside_x2 fQ_outside_x2 fQ_shut_x2 iQ_rows iQ_allRows iQ_columns nW lw kw wl_x2 wb_x2 wG_x2 l2_x2 (b_iQ_rows) (b_iQ_allRows) (b_iQ_columns) (by first | with_reducible assumption | omega | assumption) b_wl_x2 b_wb_x2 (by omega) H.size) (cwV 1 hts gwsMX3_dropNeed_0 rfl rfl rfl hd_yX6_isInside_RX6 (by decide +kernel)) (fz_pre (va_recv hK hP (ci := 6) (q0 := 28) rfl rfl) hPc hKc hDc) rfl rfl hl.1 rfl (lv_room (Nat.le_of_ble_eq_true rfl)) dX3_dropNeed_25 (by decide +kernel)) hS (fun q _ h => hFc q h) hFc (fun r119 u t9_ H locs ht hvm hw9 hB9 hz1 hk1 hS => ?_)
          have b_r119 := hw9
          try dsimp only at b_r119
          have p8 := p9
          obtain ⟨hP, hD⟩ := frameG p9 p8 hP hD hk1 hFc (fz_P ht hB9.1) hB9.2
          refine lv_if_ne (tgt := 39) hx hb dX3_dropNeed_28 (by decide) (fun c_28 => ?_) (fun c_28 => ?_)
          · have t_28 : r119.toInt ≠ 0 := toI_ne c_28 rfl (by decide : (0 : Int32).toInt = 0)
            have hl : lv_has _ _ ([(2, .int l2_x2), (0, .ref (hG 0)), (1, .int p1)]) := lv_sub hl [0, 1, 2] rfl
            exact join48 _ _ _ _ ⟨fQ_inside_x2, fQ_outside_x2, fQ_shut_x2, wl_x2, wb_x2, wG_x2, b_wl_x2, b_wb_x2, rfl, hP, hD, hS, hl⟩
          · have t_28 : r119.toInt = 0 := toI_nne c_28 rfl (by decide : (0 : Int32).toInt = 0)
            refine lv_aload_n hx hb dX3_dropNeed_31 rfl (lv_at hl 1 rfl) ?_
            refine va_get (D := (dC, dI)) (ci := 3) (v := .ref (hQ 0)) (C := RX3) (T := TX3) (N := 17) hx hb hts iwsMX3_dropNeed_in3 hown hK hP 0 rfl rfl 2 (by decide) (hts _ hm_m_X3_dropNeed_2) (fun _ h9 => h9) rfl dX3_dropNeed_32 ?_
            refine lv_iload_n hx hb dX3_dropNeed_35 rfl (lv_at hl 0 rfl) ?_
            have p9 := cj_5_3_4 (WG hG aG kG hM hO hQ hw iG_made iG_keptNeeds fG_kept fG_need fG_turn iG_columns) (WO hO aO kO hM hQ hw iO_answered iO_searched iO_searchedRelaxed iO_counted fO_countedCase gO_goalNumber gO_goalScale fO_start fO_column fO_chosen) (WM hM aM kM iM_stands iM_variables iM_rows iM_goals iM_differents iM_cases fM_from fM_to fM_whole fM_ways iM_plainRows fM_plainRow fM_kept fM_goalOver fM_goalUnder fM_goalMax fM_different) (WQ hQ aQ kQ hw fQ_inside_x2 fQ_outside_x2 fQ_shut_x2 iQ_rows iQ_allRows iQ_columns) (WW nW hw lw kw wl_x2 wb_x2 wG_x2)
            have hPc := hP.mem (fun q h => p9.mem_iff.mpr (List.mem_append_left _ h))
            have hDc := (hD.perm p9).left
            have hKc : va_K (dC, dI) vwCl (tQ kQ ++ (tW kw)) _ := hK.sub [25, 26, 27, 28, 29] rfl
            have hFc := freeG p9 hD hS hA
            refine va_callv (va_runV (As := [.int l2_x2]) (rest := []) ⟨hx, hb, hml, hown, hts⟩ (m_X6_drop l dC dI hQ aQ kQ hw fQ_inside_x2 fQ_outside_x2 fQ_shut_x2 iQ_rows iQ_allRows iQ_columns nW lw kw wl_x2 wb_x2 wG_x2 l2_x2 (b_iQ_rows) (b_iQ_allRows) (b_iQ_columns) (by first | with_reducible assumption | omega | assumption) b_wl_x2 b_wb_x2 (by omega) H.size) (cwV 1 hts gwsMX3_dropNeed_1 rfl rfl rfl hd_yX6_drop_RX6 (by decide +kernel)) (fz_pre (va_recv hK hP (ci := 6) (q0 := 28) rfl rfl) hPc hKc hDc) rfl rfl hl.1 rfl (lv_room (Nat.le_of_ble_eq_true rfl)) dX3_dropNeed_36 (by decide +kernel)) hS (fun q _ h => hFc q h) hFc (fun u t9_ H locs ht hvm hw9 hB9 hz1 hk1 hS => ?_)
            revert u hw9 hB9
            refine fz_p6 ?_
            intro fQ_inside_120 fQ_outside_120 fQ_shut_120 wl_120 wb_120 wG_120 hw9 hB9
            try dsimp only at hw9 hB9
            revert hw9
            refine fz_a2 ?_
            intro b_wl_120 b_wb_120
            have p8 := cj_5_3_4 (WG hG aG kG hM hO hQ hw iG_made iG_keptNeeds fG_kept fG_need fG_turn iG_columns) (WO hO aO kO hM hQ hw iO_answered iO_searched iO_searchedRelaxed iO_counted fO_countedCase gO_goalNumber gO_goalScale fO_start fO_column fO_chosen) (WM hM aM kM iM_stands iM_variables iM_rows iM_goals iM_differents iM_cases fM_from fM_to fM_whole fM_ways iM_plainRows fM_plainRow fM_kept fM_goalOver fM_goalUnder fM_goalMax fM_different) (WQ hQ aQ kQ hw fQ_inside_120 fQ_outside_120 fQ_shut_120 iQ_rows iQ_allRows iQ_columns) (WW nW hw lw kw wl_120 wb_120 wG_120)
            obtain ⟨hP, hD⟩ := frameG p9 p8 hP hD hk1 hFc (fz_P ht hB9.1) hB9.2
            have hl : lv_has _ _ ([(2, .int l2_x2), (0, .ref (hG 0)), (1, .int p1)]) := lv_sub hl [0, 1, 2] rfl
            exact join48 _ _ _ _ ⟨fQ_inside_120, fQ_outside_120, fQ_shut_120, wl_120, wb_120, wG_120, b_wl_120, b_wb_120, rfl, hP, hD, hS, hl⟩
      · rintro H locs ls stk ⟨fQ_inside_j48, fQ_outside_j48, fQ_shut_j48, wl_j48, wb_j48, wG_j48, b_wl_j48, b_wb_j48, rfl, hP, hD, hS, hl⟩
        refine lv_iinc (v := (iI (l2_x2.toInt + 1))) hx hb dX3_dropNeed_39 hl (k := 0) rfl (iI_add2 (iI_of _) (by decide : (1 : Int32) = iI 1)) (by decide) rfl (fun ls (hl : lv_has ls _ ([(2, .int (iI (l2_x2.toInt + 1))), (0, .ref (hG 0)), (1, .int p1)])) => ?_)
        refine lv_goto (tgt := 2) hx hb dX3_dropNeed_42 (by decide) ?_
        have hl : lv_has _ _ ([(2, .int (iI (l2_x2.toInt + 1))), (0, .ref (hG 0)), (1, .int p1)]) := lv_sub hl [0, 1, 2] rfl
        exact ihx2 fQ_inside_j48 fQ_outside_j48 fQ_shut_j48 wl_j48 wb_j48 wG_j48 (iI (l2_x2.toInt + 1)) _ _ _ b_wl_j48 b_wb_j48 (iI_rng (Int.le_trans (by decide) (Int.add_le_add (b_l2_x2.1) (Int.le_refl _))) (by omega) (by decide) (by decide)) (by have e9 : ((iI (l2_x2.toInt + 1))).toInt = (l2_x2.toInt + 1) := (iI_t (Int.le_trans (by decide) (Int.add_le_add (b_l2_x2.1) (Int.le_refl _))) (Int.le_trans (Int.add_le_add (b_l2_x2.2) (Int.le_refl _)) (by decide))); omega) hP hD hS hl
theorem dX3_takeMultipliers_0 : decode cX3_takeMultipliers 0 = .ok (.iconst 0, 1) := dk_3 (by decide +kernel)
theorem dX3_takeMultipliers_1 : decode cX3_takeMultipliers 1 = .ok (.istore_n 1, 1) := dk_60 (by decide +kernel)
theorem dX3_takeMultipliers_2 : decode cX3_takeMultipliers 2 = .ok (.iload_n 1, 1) := dk_27 (by decide +kernel)
theorem dX3_takeMultipliers_3 : decode cX3_takeMultipliers 3 = .ok (.aload_n 0, 1) := dk_42 (by decide +kernel)
theorem dX3_takeMultipliers_4 : decode cX3_takeMultipliers 4 = .ok (.getfield 59, 3) := dk_180 (by decide +kernel)
theorem dX3_takeMultipliers_7 : decode cX3_takeMultipliers 7 = .ok (.invokevirtual 113, 3) := dk_182 (by decide +kernel)
theorem dX3_takeMultipliers_10 : decode cX3_takeMultipliers 10 = .ok (.if_icmp .ge 19, 3) := dk_162 (by decide +kernel)
theorem dX3_takeMultipliers_13 : decode cX3_takeMultipliers 13 = .ok (.aload_n 0, 1) := dk_42 (by decide +kernel)
theorem dX3_takeMultipliers_14 : decode cX3_takeMultipliers 14 = .ok (.getfield 23, 3) := dk_180 (by decide +kernel)
theorem dX3_takeMultipliers_17 : decode cX3_takeMultipliers 17 = .ok (.iload_n 1, 1) := dk_27 (by decide +kernel)
theorem dX3_takeMultipliers_18 : decode cX3_takeMultipliers 18 = .ok (.aaload, 1) := dk_50 (by decide +kernel)
theorem dX3_takeMultipliers_19 : decode cX3_takeMultipliers 19 = .ok (.lconst 0, 1) := dk_9 (by decide +kernel)
theorem dX3_takeMultipliers_20 : decode cX3_takeMultipliers 20 = .ok (.invokevirtual 128, 3) := dk_182 (by decide +kernel)
theorem dX3_takeMultipliers_23 : decode cX3_takeMultipliers 23 = .ok (.iinc 1 1, 3) := dk_132 (by decide +kernel)
theorem dX3_takeMultipliers_26 : decode cX3_takeMultipliers 26 = .ok (.goto (-24), 3) := dk_167 (by decide +kernel)
theorem dX3_takeMultipliers_29 : decode cX3_takeMultipliers 29 = .ok (.iconst 0, 1) := dk_3 (by decide +kernel)
theorem dX3_takeMultipliers_30 : decode cX3_takeMultipliers 30 = .ok (.istore_n 1, 1) := dk_60 (by decide +kernel)
theorem dX3_takeMultipliers_31 : decode cX3_takeMultipliers 31 = .ok (.iload_n 1, 1) := dk_27 (by decide +kernel)
theorem dX3_takeMultipliers_32 : decode cX3_takeMultipliers 32 = .ok (.aload_n 0, 1) := dk_42 (by decide +kernel)
theorem dX3_takeMultipliers_33 : decode cX3_takeMultipliers 33 = .ok (.getfield 222, 3) := dk_180 (by decide +kernel)
theorem dX3_takeMultipliers_36 : decode cX3_takeMultipliers 36 = .ok (.if_icmp .ge 71, 3) := dk_162 (by decide +kernel)
theorem dX3_takeMultipliers_39 : decode cX3_takeMultipliers 39 = .ok (.aload_n 0, 1) := dk_42 (by decide +kernel)
theorem dX3_takeMultipliers_40 : decode cX3_takeMultipliers 40 = .ok (.getfield 71, 3) := dk_180 (by decide +kernel)
theorem dX3_takeMultipliers_43 : decode cX3_takeMultipliers 43 = .ok (.iload_n 1, 1) := dk_27 (by decide +kernel)
theorem dX3_takeMultipliers_44 : decode cX3_takeMultipliers 44 = .ok (.invokevirtual 219, 3) := dk_182 (by decide +kernel)
theorem dX3_takeMultipliers_47 : decode cX3_takeMultipliers 47 = .ok (.istore_n 2, 1) := dk_61 (by decide +kernel)
theorem dX3_takeMultipliers_48 : decode cX3_takeMultipliers 48 = .ok (.iload_n 2, 1) := dk_28 (by decide +kernel)
theorem dX3_takeMultipliers_49 : decode cX3_takeMultipliers 49 = .ok (.iconst (-1), 1) := dk_2 (by decide +kernel)
theorem dX3_takeMultipliers_50 : decode cX3_takeMultipliers 50 = .ok (.if_icmp .eq 51, 3) := dk_159 (by decide +kernel)
theorem dX3_takeMultipliers_53 : decode cX3_takeMultipliers 53 = .ok (.aload_n 0, 1) := dk_42 (by decide +kernel)
theorem dX3_takeMultipliers_54 : decode cX3_takeMultipliers 54 = .ok (.getfield 11, 3) := dk_180 (by decide +kernel)
theorem dX3_takeMultipliers_57 : decode cX3_takeMultipliers 57 = .ok (.aload_n 0, 1) := dk_42 (by decide +kernel)
theorem dX3_takeMultipliers_58 : decode cX3_takeMultipliers 58 = .ok (.getfield 52, 3) := dk_180 (by decide +kernel)
theorem dX3_takeMultipliers_61 : decode cX3_takeMultipliers 61 = .ok (.iload_n 1, 1) := dk_27 (by decide +kernel)
theorem dX3_takeMultipliers_62 : decode cX3_takeMultipliers 62 = .ok (.iaload, 1) := dk_46 (by decide +kernel)
theorem dX3_takeMultipliers_63 : decode cX3_takeMultipliers 63 = .ok (.baload, 1) := dk_51 (by decide +kernel)
theorem dX3_takeMultipliers_64 : decode cX3_takeMultipliers 64 = .ok (.ifCond .eq 37, 3) := dk_153 (by decide +kernel)
theorem dX3_takeMultipliers_67 : decode cX3_takeMultipliers 67 = .ok (.aload_n 0, 1) := dk_42 (by decide +kernel)
theorem dX3_takeMultipliers_68 : decode cX3_takeMultipliers 68 = .ok (.getfield 63, 3) := dk_180 (by decide +kernel)
theorem dX3_takeMultipliers_71 : decode cX3_takeMultipliers 71 = .ok (.aload_n 0, 1) := dk_42 (by decide +kernel)
theorem dX3_takeMultipliers_72 : decode cX3_takeMultipliers 72 = .ok (.getfield 23, 3) := dk_180 (by decide +kernel)
theorem dX3_takeMultipliers_75 : decode cX3_takeMultipliers 75 = .ok (.aload_n 0, 1) := dk_42 (by decide +kernel)
theorem dX3_takeMultipliers_76 : decode cX3_takeMultipliers 76 = .ok (.getfield 52, 3) := dk_180 (by decide +kernel)
theorem dX3_takeMultipliers_79 : decode cX3_takeMultipliers 79 = .ok (.iload_n 1, 1) := dk_27 (by decide +kernel)
theorem dX3_takeMultipliers_80 : decode cX3_takeMultipliers 80 = .ok (.iaload, 1) := dk_46 (by decide +kernel)
theorem dX3_takeMultipliers_81 : decode cX3_takeMultipliers 81 = .ok (.aaload, 1) := dk_50 (by decide +kernel)
theorem dX3_takeMultipliers_82 : decode cX3_takeMultipliers 82 = .ok (.aload_n 0, 1) := dk_42 (by decide +kernel)
theorem dX3_takeMultipliers_83 : decode cX3_takeMultipliers 83 = .ok (.getfield 71, 3) := dk_180 (by decide +kernel)
theorem dX3_takeMultipliers_86 : decode cX3_takeMultipliers 86 = .ok (.iload_n 2, 1) := dk_28 (by decide +kernel)
theorem dX3_takeMultipliers_87 : decode cX3_takeMultipliers 87 = .ok (.iconst 0, 1) := dk_3 (by decide +kernel)
theorem dX3_takeMultipliers_88 : decode cX3_takeMultipliers 88 = .ok (.invokevirtual 140, 3) := dk_182 (by decide +kernel)
theorem dX3_takeMultipliers_91 : decode cX3_takeMultipliers 91 = .ok (.aload_n 0, 1) := dk_42 (by decide +kernel)
theorem dX3_takeMultipliers_92 : decode cX3_takeMultipliers 92 = .ok (.getfield 56, 3) := dk_180 (by decide +kernel)
theorem dX3_takeMultipliers_95 : decode cX3_takeMultipliers 95 = .ok (.iload_n 1, 1) := dk_27 (by decide +kernel)
theorem dX3_takeMultipliers_96 : decode cX3_takeMultipliers 96 = .ok (.iaload, 1) := dk_46 (by decide +kernel)
theorem dX3_takeMultipliers_97 : decode cX3_takeMultipliers 97 = .ok (.i2l, 1) := dk_133 (by decide +kernel)
theorem dX3_takeMultipliers_98 : decode cX3_takeMultipliers 98 = .ok (.invokevirtual 207, 3) := dk_182 (by decide +kernel)
theorem dX3_takeMultipliers_101 : decode cX3_takeMultipliers 101 = .ok (.iinc 1 1, 3) := dk_132 (by decide +kernel)
theorem dX3_takeMultipliers_104 : decode cX3_takeMultipliers 104 = .ok (.goto (-73), 3) := dk_167 (by decide +kernel)
theorem dX3_takeMultipliers_107 : decode cX3_takeMultipliers 107 = .ok (.aload_n 0, 1) := dk_42 (by decide +kernel)
theorem dX3_takeMultipliers_108 : decode cX3_takeMultipliers 108 = .ok (.getfield 49, 3) := dk_180 (by decide +kernel)
theorem dX3_takeMultipliers_111 : decode cX3_takeMultipliers 111 = .ok (.aload_n 0, 1) := dk_42 (by decide +kernel)
theorem dX3_takeMultipliers_112 : decode cX3_takeMultipliers 112 = .ok (.getfield 30, 3) := dk_180 (by decide +kernel)
theorem dX3_takeMultipliers_115 : decode cX3_takeMultipliers 115 = .ok (.invokevirtual 152, 3) := dk_182 (by decide +kernel)
theorem dX3_takeMultipliers_118 : decode cX3_takeMultipliers 118 = .ok (.aload_n 0, 1) := dk_42 (by decide +kernel)
theorem dX3_takeMultipliers_119 : decode cX3_takeMultipliers 119 = .ok (.getfield 30, 3) := dk_180 (by decide +kernel)
theorem dX3_takeMultipliers_122 : decode cX3_takeMultipliers 122 = .ok (.aload_n 0, 1) := dk_42 (by decide +kernel)
theorem dX3_takeMultipliers_123 : decode cX3_takeMultipliers 123 = .ok (.getfield 49, 3) := dk_180 (by decide +kernel)
theorem dX3_takeMultipliers_126 : decode cX3_takeMultipliers 126 = .ok (.aload_n 0, 1) := dk_42 (by decide +kernel)
theorem dX3_takeMultipliers_127 : decode cX3_takeMultipliers 127 = .ok (.getfield 71, 3) := dk_180 (by decide +kernel)
theorem dX3_takeMultipliers_130 : decode cX3_takeMultipliers 130 = .ok (.getfield 144, 3) := dk_180 (by decide +kernel)
theorem dX3_takeMultipliers_133 : decode cX3_takeMultipliers 133 = .ok (.invokevirtual 248, 3) := dk_182 (by decide +kernel)
theorem dX3_takeMultipliers_136 : decode cX3_takeMultipliers 136 = .ok (.return_, 1) := dk_177 (by decide +kernel)
def wsMX3_takeMultipliers : List Cond := .code yX3_takeMultipliers cX3_takeMultipliers 3 none :: ([.fieldLink RX3 59 "OptimaWorks$Prover" "model" "LOptimaWorks$Model;", .fieldLink RX3 23 "OptimaWorks$Prover" "multiplier" "[LOptimaWorks$Whole;", .fieldLink RX3 222 "OptimaWorks$Prover" "columns" "I", .fieldLink RX3 71 "OptimaWorks$Prover" "tableau" "LOptimaWorks$Tableau;", .fieldLink RX3 11 "OptimaWorks$Prover" "kept" "[Z", .fieldLink RX3 52 "OptimaWorks$Prover" "need" "[I", .fieldLink RX3 63 "OptimaWorks$Prover" "solver" "LOptimaWorks$Solver;", .fieldLink RX3 56 "OptimaWorks$Prover" "turn" "[I", .fieldLink RX3 49 "OptimaWorks$Prover" "leftOver" "LOptimaWorks$Whole;", .fieldLink RX3 30 "OptimaWorks$Prover" "multiplierUnder" "LOptimaWorks$Whole;", .fieldLink RX3 144 "OptimaWorks$Tableau" "under" "LOptimaWorks$Whole;"] ++ wsX30 ++ wsX60 ++ (wsV RX3 113 RX1 yX1_needs wsMX1_needs) ++ (wsV RX3 128 RX8 yX8_setLong wsMX8_setLong) ++ (wsV RX3 219 RX6 yX6_rowOf wsMX6_rowOf) ++ (wsV RX3 140 RX6 yX6_cellAt wsMX6_cellAt) ++ (wsV RX3 207 RX5 yX5_addTimes wsMX5_addTimes) ++ (wsV RX3 152 RX8 yX8_copy wsMX8_copy) ++ (wsV RX3 248 RX8 yX8_setProduct wsMX8_setProduct))
theorem iwsMX3_takeMultipliers_in3 : ∀ w ∈ wsX30, w ∈ wsMX3_takeMultipliers := fun _ h => List.mem_cons_of_mem _ (List.mem_append_left _ (List.mem_append_left _ (List.mem_append_left _ (List.mem_append_left _ (List.mem_append_left _ (List.mem_append_left _ (List.mem_append_left _ (List.mem_append_left _ (List.mem_append_right _ h)))))))))
theorem iwsMX3_takeMultipliers_in6 : ∀ w ∈ wsX60, w ∈ wsMX3_takeMultipliers := fun _ h => List.mem_cons_of_mem _ (List.mem_append_left _ (List.mem_append_left _ (List.mem_append_left _ (List.mem_append_left _ (List.mem_append_left _ (List.mem_append_left _ (List.mem_append_left _ (List.mem_append_right _ h))))))))
theorem gwsMX3_takeMultipliers_0 : GoodIn wsMX3_takeMultipliers (wsV RX3 113 RX1 yX1_needs wsMX1_needs) := goodIn_sub (fun _ h => List.mem_cons_of_mem _ (List.mem_append_left _ (List.mem_append_left _ (List.mem_append_left _ (List.mem_append_left _ (List.mem_append_left _ (List.mem_append_left _ (List.mem_append_right _ h)))))))) (gdV (by decide +kernel) gdwsMX1_needs)
theorem gwsMX3_takeMultipliers_1 : GoodIn wsMX3_takeMultipliers (wsV RX3 128 RX8 yX8_setLong wsMX8_setLong) := goodIn_sub (fun _ h => List.mem_cons_of_mem _ (List.mem_append_left _ (List.mem_append_left _ (List.mem_append_left _ (List.mem_append_left _ (List.mem_append_left _ (List.mem_append_right _ h))))))) (gdV (by decide +kernel) gdwsMX8_setLong)
theorem gwsMX3_takeMultipliers_2 : GoodIn wsMX3_takeMultipliers (wsV RX3 219 RX6 yX6_rowOf wsMX6_rowOf) := goodIn_sub (fun _ h => List.mem_cons_of_mem _ (List.mem_append_left _ (List.mem_append_left _ (List.mem_append_left _ (List.mem_append_left _ (List.mem_append_right _ h)))))) (gdV (by decide +kernel) gdwsMX6_rowOf)
theorem gwsMX3_takeMultipliers_3 : GoodIn wsMX3_takeMultipliers (wsV RX3 140 RX6 yX6_cellAt wsMX6_cellAt) := goodIn_sub (fun _ h => List.mem_cons_of_mem _ (List.mem_append_left _ (List.mem_append_left _ (List.mem_append_left _ (List.mem_append_right _ h))))) (gdV (by decide +kernel) gdwsMX6_cellAt)
theorem gwsMX3_takeMultipliers_4 : GoodIn wsMX3_takeMultipliers (wsV RX3 207 RX5 yX5_addTimes wsMX5_addTimes) := goodIn_sub (fun _ h => List.mem_cons_of_mem _ (List.mem_append_left _ (List.mem_append_left _ (List.mem_append_right _ h)))) (gdV (by decide +kernel) gdwsMX5_addTimes)
theorem gwsMX3_takeMultipliers_5 : GoodIn wsMX3_takeMultipliers (wsV RX3 152 RX8 yX8_copy wsMX8_copy) := goodIn_sub (fun _ h => List.mem_cons_of_mem _ (List.mem_append_left _ (List.mem_append_right _ h))) (gdV (by decide +kernel) gdwsMX8_copy)
theorem gwsMX3_takeMultipliers_6 : GoodIn wsMX3_takeMultipliers (wsV RX3 248 RX8 yX8_setProduct wsMX8_setProduct) := goodIn_sub (fun _ h => List.mem_cons_of_mem _ (List.mem_append_right _ h)) (gdV (by decide +kernel) gdwsMX8_setProduct)
theorem gdwsMX3_takeMultipliers : wsMX3_takeMultipliers.all goodWord = true := gdC rfl (gdA (gdA (gdA (gdA (gdA (gdA (gdA (gdA (gdA (by decide +kernel : ([.fieldLink RX3 59 "OptimaWorks$Prover" "model" "LOptimaWorks$Model;", .fieldLink RX3 23 "OptimaWorks$Prover" "multiplier" "[LOptimaWorks$Whole;", .fieldLink RX3 222 "OptimaWorks$Prover" "columns" "I", .fieldLink RX3 71 "OptimaWorks$Prover" "tableau" "LOptimaWorks$Tableau;", .fieldLink RX3 11 "OptimaWorks$Prover" "kept" "[Z", .fieldLink RX3 52 "OptimaWorks$Prover" "need" "[I", .fieldLink RX3 63 "OptimaWorks$Prover" "solver" "LOptimaWorks$Solver;", .fieldLink RX3 56 "OptimaWorks$Prover" "turn" "[I", .fieldLink RX3 49 "OptimaWorks$Prover" "leftOver" "LOptimaWorks$Whole;", .fieldLink RX3 30 "OptimaWorks$Prover" "multiplierUnder" "LOptimaWorks$Whole;", .fieldLink RX3 144 "OptimaWorks$Tableau" "under" "LOptimaWorks$Whole;"] : List Cond).all goodWord = true) gdwsX30) gdwsX60) (gdV (by decide +kernel) gdwsMX1_needs)) (gdV (by decide +kernel) gdwsMX8_setLong)) (gdV (by decide +kernel) gdwsMX6_rowOf)) (gdV (by decide +kernel) gdwsMX6_cellAt)) (gdV (by decide +kernel) gdwsMX5_addTimes)) (gdV (by decide +kernel) gdwsMX8_copy)) (gdV (by decide +kernel) gdwsMX8_setProduct))
theorem hm_m_X3_takeMultipliers_0 : (.fieldLink RX3 49 "OptimaWorks$Prover" "leftOver" "LOptimaWorks$Whole;" : Cond) ∈ wsMX3_takeMultipliers := by decide +kernel
theorem hm_m_X3_takeMultipliers_1 : (.fieldLink RX3 30 "OptimaWorks$Prover" "multiplierUnder" "LOptimaWorks$Whole;" : Cond) ∈ wsMX3_takeMultipliers := by decide +kernel
theorem hm_m_X3_takeMultipliers_2 : (.fieldLink RX3 71 "OptimaWorks$Prover" "tableau" "LOptimaWorks$Tableau;" : Cond) ∈ wsMX3_takeMultipliers := by decide +kernel
theorem hm_m_X3_takeMultipliers_3 : (.fieldLink RX3 52 "OptimaWorks$Prover" "need" "[I" : Cond) ∈ wsMX3_takeMultipliers := by decide +kernel
theorem hm_m_X3_takeMultipliers_4 : (.fieldLink RX3 23 "OptimaWorks$Prover" "multiplier" "[LOptimaWorks$Whole;" : Cond) ∈ wsMX3_takeMultipliers := by decide +kernel
set_option maxHeartbeats 4000000 in
set_option maxRecDepth 100000 in
/-- the multipliers are taken -/
theorem m_X3_takeMultipliers (l : Launch) (dC : Nat → ClassId) (dI : Nat → Nat → Nat) (hG : Nat → Nat) (aG : Nat → Nat) (kG : Nat → ClassId) (hM : Nat → Nat) (hO : Nat → Nat) (hQ : Nat → Nat) (hw : Nat → Nat) (iG_made : Int32) (iG_keptNeeds : Int32) (fG_kept : Nat → Int32) (fG_need : Nat → Int32) (fG_turn : Nat → Int32) (iG_columns : Int32) (aO : Nat → Nat) (kO : Nat → ClassId) (iO_answered : Int32) (iO_searched : Int32) (iO_searchedRelaxed : Int32) (iO_counted : Int32) (fO_countedCase : Nat → Int32) (gO_goalNumber : Nat → Int64) (gO_goalScale : Nat → Int64) (fO_start : Nat → Int32) (fO_column : Nat → Int32) (fO_chosen : Nat → Int32) (aM : Nat → Nat) (kM : Nat → ClassId) (iM_stands : Int32) (iM_variables : Int32) (iM_rows : Int32) (iM_goals : Int32) (iM_differents : Int32) (iM_cases : Int32) (fM_from : Nat → Int32) (fM_to : Nat → Int32) (fM_whole : Nat → Int32) (fM_ways : Nat → Int32) (iM_plainRows : Int32) (fM_plainRow : Nat → Int32) (fM_kept : Nat → Int32) (fM_goalOver : Nat → Int32) (fM_goalUnder : Nat → Int32) (fM_goalMax : Nat → Int32) (fM_different : Nat → Int32) (aQ : Nat → Nat) (kQ : Nat → ClassId) (fQ_inside : Nat → Int32) (fQ_outside : Nat → Int32) (fQ_shut : Nat → Int32) (iQ_rows : Int32) (iQ_allRows : Int32) (iQ_columns : Int32) (nW : Nat) (lw : Nat → Nat) (kw : ClassId) (wl : Nat → Int32) (wb : Nat → Int32) (wG : Nat → Nat → Int64) (b_iG_made : 0 ≤ iG_made.toInt ∧ iG_made.toInt ≤ 1) (b_fG_need : ∀ q : Nat, 0 ≤ (fG_need q).toInt ∧ (fG_need q).toInt ≤ 27) (b_iG_columns : 0 ≤ iG_columns.toInt ∧ iG_columns.toInt ≤ 40) (b_iO_answered : 0 ≤ iO_answered.toInt ∧ iO_answered.toInt ≤ 1) (b_iO_searched : 0 ≤ iO_searched.toInt ∧ iO_searched.toInt ≤ 1) (b_iO_searchedRelaxed : 0 ≤ iO_searchedRelaxed.toInt ∧ iO_searchedRelaxed.toInt ≤ 1) (b_iO_counted : (-1) ≤ iO_counted.toInt ∧ iO_counted.toInt ≤ 64) (b_fO_countedCase : ∀ q : Nat, 0 ≤ (fO_countedCase q).toInt ∧ (fO_countedCase q).toInt ≤ 200000) (b_fO_column : ∀ q : Nat, (-1) ≤ (fO_column q).toInt ∧ (fO_column q).toInt ≤ 8) (b_fO_chosen : ∀ q : Nat, 0 ≤ (fO_chosen q).toInt ∧ (fO_chosen q).toInt ≤ 2) (b_iM_stands : 0 ≤ iM_stands.toInt ∧ iM_stands.toInt ≤ 1) (b_iM_variables : 0 ≤ iM_variables.toInt ∧ iM_variables.toInt ≤ 8) (b_iM_rows : 0 ≤ iM_rows.toInt ∧ iM_rows.toInt ≤ 12) (b_iM_goals : 0 ≤ iM_goals.toInt ∧ iM_goals.toInt ≤ 3) (b_iM_differents : 0 ≤ iM_differents.toInt ∧ iM_differents.toInt ≤ 8) (b_iM_cases : 0 ≤ iM_cases.toInt ∧ iM_cases.toInt ≤ 200000) (b_fM_ways : ∀ q : Nat, 0 ≤ (fM_ways q).toInt ∧ (fM_ways q).toInt ≤ 3) (b_iM_plainRows : 0 ≤ iM_plainRows.toInt ∧ iM_plainRows.toInt ≤ 12) (b_fM_plainRow : ∀ q : Nat, 0 ≤ (fM_plainRow q).toInt ∧ (fM_plainRow q).toInt ≤ 11) (b_pr : iM_plainRows.toInt ≤ iM_rows.toInt) (b_iQ_rows : 0 ≤ iQ_rows.toInt ∧ iQ_rows.toInt ≤ 40) (b_iQ_allRows : 0 ≤ iQ_allRows.toInt ∧ iQ_allRows.toInt ≤ 40) (b_iQ_columns : 0 ≤ iQ_columns.toInt ∧ iQ_columns.toInt ≤ 40) (b_tb : TbO iQ_rows iQ_allRows iQ_columns) (b_wl : ∀ q : Nat, 0 ≤ (wl q).toInt ∧ (wl q).toInt ≤ 14) (b_wb : ∀ q : Nat, 0 ≤ (wb q).toInt ∧ (wb q).toInt ≤ 1) (hnW : 474 ≤ nW) (sz : Nat) : Met l yX3_takeMultipliers wsMX3_takeMultipliers ({ frames := 4, cells := 0, slots := 0, locals := 85 }) (va_Pc [.ref (hG 0)] (fun U => U.heap.size = sz ∧ va_P (dC, dI) vwCl (WG hG aG kG hM hO hQ hw iG_made iG_keptNeeds fG_kept fG_need fG_turn iG_columns ++ (WO hO aO kO hM hQ hw iO_answered iO_searched iO_searchedRelaxed iO_counted fO_countedCase gO_goalNumber gO_goalScale fO_start fO_column fO_chosen ++ (WM hM aM kM iM_stands iM_variables iM_rows iM_goals iM_differents iM_cases fM_from fM_to fM_whole fM_ways iM_plainRows fM_plainRow fM_kept fM_goalOver fM_goalUnder fM_goalMax fM_different ++ (WQ hQ aQ kQ hw fQ_inside fQ_outside fQ_shut iQ_rows iQ_allRows iQ_columns ++ (WW nW hw lw kw wl wb wG))))) U.heap ∧ va_K (dC, dI) vwCl (tG kG ++ (tO kO ++ (tM kM ++ (tQ kQ ++ (tW kw))))) U ∧ va_D (fun _ => True) (WG hG aG kG hM hO hQ hw iG_made iG_keptNeeds fG_kept fG_need fG_turn iG_columns ++ (WO hO aO kO hM hQ hw iO_answered iO_searched iO_searchedRelaxed iO_counted fO_countedCase gO_goalNumber gO_goalScale fO_start fO_column fO_chosen ++ (WM hM aM kM iM_stands iM_variables iM_rows iM_goals iM_differents iM_cases fM_from fM_to fM_whole fM_ways iM_plainRows fM_plainRow fM_kept fM_goalOver fM_goalUnder fM_goalMax fM_different ++ (WQ hQ aQ kQ hw fQ_inside fQ_outside fQ_shut iQ_rows iQ_allRows iQ_columns ++ (WW nW hw lw kw wl wb wG))))))) (va_Qv (fun (u : (Nat → Int32) × (Nat → Int32) × (Nat → Nat → Int64)) => (∀ q : Nat, 0 ≤ ((u.1) q).toInt ∧ ((u.1) q).toInt ≤ 14) ∧ (∀ q : Nat, 0 ≤ ((u.2.1) q).toInt ∧ ((u.2.1) q).toInt ≤ 1)) (fun (u : (Nat → Int32) × (Nat → Int32) × (Nat → Nat → Int64)) t => va_P (dC, dI) vwCl (WG hG aG kG hM hO hQ hw iG_made iG_keptNeeds fG_kept fG_need fG_turn iG_columns ++ (WO hO aO kO hM hQ hw iO_answered iO_searched iO_searchedRelaxed iO_counted fO_countedCase gO_goalNumber gO_goalScale fO_start fO_column fO_chosen ++ (WM hM aM kM iM_stands iM_variables iM_rows iM_goals iM_differents iM_cases fM_from fM_to fM_whole fM_ways iM_plainRows fM_plainRow fM_kept fM_goalOver fM_goalUnder fM_goalMax fM_different ++ (WQ hQ aQ kQ hw fQ_inside fQ_outside fQ_shut iQ_rows iQ_allRows iQ_columns ++ (WW nW hw lw kw (u.1) (u.2.1) (u.2.2)))))) t.heap ∧ va_D (va_A (WG hG aG kG hM hO hQ hw iG_made iG_keptNeeds fG_kept fG_need fG_turn iG_columns ++ (WO hO aO kO hM hQ hw iO_answered iO_searched iO_searchedRelaxed iO_counted fO_countedCase gO_goalNumber gO_goalScale fO_start fO_column fO_chosen ++ (WM hM aM kM iM_stands iM_variables iM_rows iM_goals iM_differents iM_cases fM_from fM_to fM_whole fM_ways iM_plainRows fM_plainRow fM_kept fM_goalOver fM_goalUnder fM_goalMax fM_different ++ (WQ hQ aQ kQ hw fQ_inside fQ_outside fQ_shut iQ_rows iQ_allRows iQ_columns ++ (WW nW hw lw kw wl wb wG))))) sz) (WG hG aG kG hM hO hQ hw iG_made iG_keptNeeds fG_kept fG_need fG_turn iG_columns ++ (WO hO aO kO hM hQ hw iO_answered iO_searched iO_searchedRelaxed iO_counted fO_countedCase gO_goalNumber gO_goalScale fO_start fO_column fO_chosen ++ (WM hM aM kM iM_stands iM_variables iM_rows iM_goals iM_differents iM_cases fM_from fM_to fM_whole fM_ways iM_plainRows fM_plainRow fM_kept fM_goalOver fM_goalUnder fM_goalMax fM_different ++ (WQ hQ aQ kQ hw fQ_inside fQ_outside fQ_shut iQ_rows iQ_allRows iQ_columns ++ (WW nW hw lw kw (u.1) (u.2.1) (u.2.2))))))) (va_A (WG hG aG kG hM hO hQ hw iG_made iG_keptNeeds fG_kept fG_need fG_turn iG_columns ++ (WO hO aO kO hM hQ hw iO_answered iO_searched iO_searchedRelaxed iO_counted fO_countedCase gO_goalNumber gO_goalScale fO_start fO_column fO_chosen ++ (WM hM aM kM iM_stands iM_variables iM_rows iM_goals iM_differents iM_cases fM_from fM_to fM_whole fM_ways iM_plainRows fM_plainRow fM_kept fM_goalOver fM_goalUnder fM_goalMax fM_different ++ (WQ hQ aQ kQ hw fQ_inside fQ_outside fQ_shut iQ_rows iQ_allRows iQ_columns ++ (WW nW hw lw kw wl wb wG))))) sz)) 0 0 (va_A (WG hG aG kG hM hO hQ hw iG_made iG_keptNeeds fG_kept fG_need fG_turn iG_columns ++ (WO hO aO kO hM hQ hw iO_answered iO_searched iO_searchedRelaxed iO_counted fO_countedCase gO_goalNumber gO_goalScale fO_start fO_column fO_chosen ++ (WM hM aM kM iM_stands iM_variables iM_rows iM_goals iM_differents iM_cases fM_from fM_to fM_whole fM_ways iM_plainRows fM_plainRow fM_kept fM_goalOver fM_goalUnder fM_goalMax fM_different ++ (WQ hQ aQ kQ hw fQ_inside fQ_outside fQ_shut iQ_rows iQ_allRows iQ_columns ++ (WW nW hw lw kw wl wb wG))))) sz) := by
  refine Met.ofW (cc := cX3_takeMultipliers) (maxL := 3) (ret := none) (by decide) rfl ?_
  intro p e s m args below meth c s₁ B hml hv
  obtain ⟨rfl, hsz, hP, hK, hD0⟩ := hv
  have hx := B.exec
  have hb := B.bytes
  have hr := B.returns
  have hts := atoms_spec (ws := wsMX3_takeMultipliers) B.pre
  have hown : s.vm.findClass RX3 = some m.cls := findClass_of_methodNamed B.named
  have hlocks := B.notSynchronized
  subst hsz
  have hD := hD0.self (sz := s.heap.size)
  generalize hAe : va_A (WG hG aG kG hM hO hQ hw iG_made iG_keptNeeds fG_kept fG_need fG_turn iG_columns ++ (WO hO aO kO hM hQ hw iO_answered iO_searched iO_searchedRelaxed iO_counted fO_countedCase gO_goalNumber gO_goalScale fO_start fO_column fO_chosen ++ (WM hM aM kM iM_stands iM_variables iM_rows iM_goals iM_differents iM_cases fM_from fM_to fM_whole fM_ways iM_plainRows fM_plainRow fM_kept fM_goalOver fM_goalUnder fM_goalMax fM_different ++ (WQ hQ aQ kQ hw fQ_inside fQ_outside fQ_shut iQ_rows iQ_allRows iQ_columns ++ (WW nW hw lw kw wl wb wG))))) s.heap.size = A at hD ⊢
  have hA : ∀ q : Nat, s.heap.size ≤ q → A q := fun q h => by rw [← hAe]; exact Or.inr h
  have hS : va_S A s.heap s.heap [] := va_S.rf
  have hl := lv_entry ([.ref (hG 0)]) (n := 3) (Nat.le_of_ble_eq_true rfl)
  rw [lg_entry_eq]
  generalize (lg_sl ([.ref (hG 0)]) ++ List.replicate (3 - (lg_sl ([.ref (hG 0)])).length) Slot.unset).toArray = ls at hl ⊢
  have hl : lv_has ls 3 [(0, .ref (hG 0))] := hl
  refine lv_iconst (v := 0) hx hb dX3_takeMultipliers_0 (by decide) ?_
  refine lv_istore_n hx hb dX3_takeMultipliers_1 rfl hl (by decide) rfl (fun ls (hl : lv_has ls _ ([(1, .int 0), (0, .ref (hG 0))])) => ?_)
  have hl : lv_has _ _ ([(1, .int 0), (0, .ref (hG 0))]) := lv_sub hl [0, 1] rfl
  refine (fun (loop : ∀ (n9 : Nat) (wl_x2 : Nat → Int32) (wb_x2 : Nat → Int32) (wG_x2 : Nat → Nat → Int64) (l1_x2 : Int32) (H : Heap) (locs : List Loc) (ls : Array Slot), (∀ q : Nat, 0 ≤ (wl_x2 q).toInt ∧ (wl_x2 q).toInt ≤ 14) → (∀ q : Nat, 0 ≤ (wb_x2 q).toInt ∧ (wb_x2 q).toInt ≤ 1) → (0 ≤ l1_x2.toInt ∧ l1_x2.toInt ≤ 28) → (28 - l1_x2.toInt < ((n9 : Nat) : Int)) → va_P (dC, dI) vwCl (WG hG aG kG hM hO hQ hw iG_made iG_keptNeeds fG_kept fG_need fG_turn iG_columns ++ (WO hO aO kO hM hQ hw iO_answered iO_searched iO_searchedRelaxed iO_counted fO_countedCase gO_goalNumber gO_goalScale fO_start fO_column fO_chosen ++ (WM hM aM kM iM_stands iM_variables iM_rows iM_goals iM_differents iM_cases fM_from fM_to fM_whole fM_ways iM_plainRows fM_plainRow fM_kept fM_goalOver fM_goalUnder fM_goalMax fM_different ++ (WQ hQ aQ kQ hw fQ_inside fQ_outside fQ_shut iQ_rows iQ_allRows iQ_columns ++ (WW nW hw lw kw wl_x2 wb_x2 wG_x2))))) H → va_D A (WG hG aG kG hM hO hQ hw iG_made iG_keptNeeds fG_kept fG_need fG_turn iG_columns ++ (WO hO aO kO hM hQ hw iO_answered iO_searched iO_searchedRelaxed iO_counted fO_countedCase gO_goalNumber gO_goalScale fO_start fO_column fO_chosen ++ (WM hM aM kM iM_stands iM_variables iM_rows iM_goals iM_differents iM_cases fM_from fM_to fM_whole fM_ways iM_plainRows fM_plainRow fM_kept fM_goalOver fM_goalUnder fM_goalMax fM_different ++ (WQ hQ aQ kQ hw fQ_inside fQ_outside fQ_shut iQ_rows iQ_allRows iQ_columns ++ (WW nW hw lw kw wl_x2 wb_x2 wG_x2))))) → va_S A s.heap H locs → lv_has ls 3 [(1, .int l1_x2), (0, .ref (hG 0))] → W p l e _ s m _ below meth c H locs 0 0 _ (F0 m 2 ls [])) => loop (29) wl wb wG 0 _ _ _ b_wl b_wb (show 0 ≤ (0 : Int32).toInt ∧ (0 : Int32).toInt ≤ 28 from by decide) ((by have e9 : (0 : Int32).toInt = 0 := (by decide : (0 : Int32).toInt = 0); omega)) hP hD hS hl) ?_
  intro n9
  induction n9 with
  | zero => intro wl_x2 wb_x2 wG_x2 l1_x2 H locs ls b_wl_x2 b_wb_x2 b_l1_x2 hf9; exact False.elim (by omega)
  | succ n9 ihx2 =>
    intro wl_x2 wb_x2 wG_x2 l1_x2 H locs ls b_wl_x2 b_wb_x2 b_l1_x2 hfx2 hP hD hS hl
    refine lv_iload_n hx hb dX3_takeMultipliers_2 rfl (lv_at hl 0 rfl) ?_
    refine lv_aload_n hx hb dX3_takeMultipliers_3 rfl (lv_at hl 1 rfl) ?_
    refine va_get (D := (dC, dI)) (ci := 3) (v := .ref (hM 0)) (C := RX3) (T := TX3) (N := 17) hx hb hts iwsMX3_takeMultipliers_in3 hown hK hP 0 rfl rfl 0 (by decide) (hts (.fieldLink RX3 59 "OptimaWorks$Prover" "model" "LOptimaWorks$Model;") (by decide +kernel)) (fun _ h9 => h9) rfl dX3_takeMultipliers_4 ?_
    have p9 := cj_5_2 (WG hG aG kG hM hO hQ hw iG_made iG_keptNeeds fG_kept fG_need fG_turn iG_columns) (WO hO aO kO hM hQ hw iO_answered iO_searched iO_searchedRelaxed iO_counted fO_countedCase gO_goalNumber gO_goalScale fO_start fO_column fO_chosen) (WM hM aM kM iM_stands iM_variables iM_rows iM_goals iM_differents iM_cases fM_from fM_to fM_whole fM_ways iM_plainRows fM_plainRow fM_kept fM_goalOver fM_goalUnder fM_goalMax fM_different) (WQ hQ aQ kQ hw fQ_inside fQ_outside fQ_shut iQ_rows iQ_allRows iQ_columns) (WW nW hw lw kw wl_x2 wb_x2 wG_x2)
    have hPc := hP.mem (fun q h => p9.mem_iff.mpr (List.mem_append_left _ h))
    have hDc := (hD.perm p9).left
    have hKc : va_K (dC, dI) vwCl (tM kM) _ := hK.sub [15, 16, 17, 18, 19, 20, 21, 22, 23, 24] rfl
    have hFc := freeG p9 hD hS hA
    refine va_calli (va_runV (As := []) (rest := [.int l1_x2]) ⟨hx, hb, hml, hown, hts⟩ (m_X1_needs l dC dI hM aM kM iM_stands iM_variables iM_rows iM_goals iM_differents iM_cases fM_from fM_to fM_whole fM_ways iM_plainRows fM_plainRow fM_kept fM_goalOver fM_goalUnder fM_goalMax fM_different (b_iM_stands) (b_iM_variables) (b_iM_rows) (b_iM_goals) (b_iM_differents) (b_iM_cases) b_fM_ways (b_iM_plainRows) b_fM_plainRow (by first | with_reducible assumption | omega | assumption) H.size) (cwV 0 hts gwsMX3_takeMultipliers_0 rfl rfl rfl hd_yX1_needs_RX1 (by decide +kernel)) (fz_pre (va_recv hK hP (ci := 1) (q0 := 17) rfl rfl) hPc hKc hDc) rfl rfl hl.1 rfl (lv_room (Nat.le_of_ble_eq_true rfl)) dX3_takeMultipliers_7 (by decide +kernel)) hS (fun q _ h => hFc q h) hFc (fun r227 u t9_ H locs ht hvm hw9 hB9 hz1 hk1 hS => ?_)
    revert hw9
    refine fz_a2 ?_
    intro b_r227 f227_0
    have p8 := p9
    obtain ⟨hP, hD⟩ := frameG p9 p8 hP hD hk1 hFc (fz_P ht hB9.1) hB9.2
    refine lv_icmp_ge (tgt := 29) hx hb dX3_takeMultipliers_10 (by decide) (fun c_10 => ?_) (fun c_10 => ?_)
    · have t_10 : l1_x2.toInt ≥ r227.toInt := toI_ge c_10 rfl rfl
      refine lv_iconst (v := 0) hx hb dX3_takeMultipliers_29 (by decide) ?_
      refine lv_istore_n hx hb dX3_takeMultipliers_30 rfl hl (by decide) rfl (fun ls (hl : lv_has ls _ ([(1, .int 0), (0, .ref (hG 0))])) => ?_)
      have hl : lv_has _ _ ([(1, .int 0), (0, .ref (hG 0))]) := lv_sub hl [0, 1] rfl
      refine (fun (loop : ∀ (n9 : Nat) (wl_x31 : Nat → Int32) (wb_x31 : Nat → Int32) (wG_x31 : Nat → Nat → Int64) (l1_x31 : Int32) (H : Heap) (locs : List Loc) (ls : Array Slot), (∀ q : Nat, 0 ≤ (wl_x31 q).toInt ∧ (wl_x31 q).toInt ≤ 14) → (∀ q : Nat, 0 ≤ (wb_x31 q).toInt ∧ (wb_x31 q).toInt ≤ 1) → (0 ≤ l1_x31.toInt ∧ l1_x31.toInt ≤ 40) → (40 - l1_x31.toInt < ((n9 : Nat) : Int)) → va_P (dC, dI) vwCl (WG hG aG kG hM hO hQ hw iG_made iG_keptNeeds fG_kept fG_need fG_turn iG_columns ++ (WO hO aO kO hM hQ hw iO_answered iO_searched iO_searchedRelaxed iO_counted fO_countedCase gO_goalNumber gO_goalScale fO_start fO_column fO_chosen ++ (WM hM aM kM iM_stands iM_variables iM_rows iM_goals iM_differents iM_cases fM_from fM_to fM_whole fM_ways iM_plainRows fM_plainRow fM_kept fM_goalOver fM_goalUnder fM_goalMax fM_different ++ (WQ hQ aQ kQ hw fQ_inside fQ_outside fQ_shut iQ_rows iQ_allRows iQ_columns ++ (WW nW hw lw kw wl_x31 wb_x31 wG_x31))))) H → va_D A (WG hG aG kG hM hO hQ hw iG_made iG_keptNeeds fG_kept fG_need fG_turn iG_columns ++ (WO hO aO kO hM hQ hw iO_answered iO_searched iO_searchedRelaxed iO_counted fO_countedCase gO_goalNumber gO_goalScale fO_start fO_column fO_chosen ++ (WM hM aM kM iM_stands iM_variables iM_rows iM_goals iM_differents iM_cases fM_from fM_to fM_whole fM_ways iM_plainRows fM_plainRow fM_kept fM_goalOver fM_goalUnder fM_goalMax fM_different ++ (WQ hQ aQ kQ hw fQ_inside fQ_outside fQ_shut iQ_rows iQ_allRows iQ_columns ++ (WW nW hw lw kw wl_x31 wb_x31 wG_x31))))) → va_S A s.heap H locs → lv_has ls 3 [(1, .int l1_x31), (0, .ref (hG 0))] → W p l e _ s m _ below meth c H locs 0 0 _ (F0 m 31 ls [])) => loop (41) wl_x2 wb_x2 wG_x2 0 _ _ _ b_wl_x2 b_wb_x2 (show 0 ≤ (0 : Int32).toInt ∧ (0 : Int32).toInt ≤ 40 from by decide) ((by have e9 : (0 : Int32).toInt = 0 := (by decide : (0 : Int32).toInt = 0); omega)) hP hD hS hl) ?_
      intro n9
      induction n9 with
      | zero => intro wl_x31 wb_x31 wG_x31 l1_x31 H locs ls b_wl_x31 b_wb_x31 b_l1_x31 hf9; exact False.elim (by omega)
      | succ n9 ihx31 =>
        intro wl_x31 wb_x31 wG_x31 l1_x31 H locs ls b_wl_x31 b_wb_x31 b_l1_x31 hfx31 hP hD hS hl
        refine lv_iload_n hx hb dX3_takeMultipliers_31 rfl (lv_at hl 0 rfl) ?_
        refine lv_aload_n hx hb dX3_takeMultipliers_32 rfl (lv_at hl 1 rfl) ?_
        refine va_get (D := (dC, dI)) (ci := 3) (v := .int iG_columns) (C := RX3) (T := TX3) (N := 17) hx hb hts iwsMX3_takeMultipliers_in3 hown hK hP 0 rfl rfl 16 (by decide) (hts (.fieldLink RX3 222 "OptimaWorks$Prover" "columns" "I") (by decide +kernel)) (fun _ h9 => h9) rfl dX3_takeMultipliers_33 ?_
        refine lv_icmp_ge (tgt := 107) hx hb dX3_takeMultipliers_36 (by decide) (fun c_36 => ?_) (fun c_36 => ?_)
        · have t_36 : l1_x31.toInt ≥ iG_columns.toInt := toI_ge c_36 rfl rfl
          refine lv_aload_n hx hb dX3_takeMultipliers_107 rfl (lv_at hl 1 rfl) ?_
          refine va_get (D := (dC, dI)) (ci := 3) (v := .ref (hw 473)) (C := RX3) (T := TX3) (N := 17) hx hb hts iwsMX3_takeMultipliers_in3 hown hK hP 0 rfl rfl 13 (by decide) (hts _ hm_m_X3_takeMultipliers_0) (fun _ h9 => h9) rfl dX3_takeMultipliers_108 ?_
          refine lv_aload_n hx hb dX3_takeMultipliers_111 rfl (lv_at hl 1 rfl) ?_
          refine va_get (D := (dC, dI)) (ci := 3) (v := .ref (hw 460)) (C := RX3) (T := TX3) (N := 17) hx hb hts iwsMX3_takeMultipliers_in3 hown hK hP 0 rfl rfl 7 (by decide) (hts _ hm_m_X3_takeMultipliers_1) (fun _ h9 => h9) rfl dX3_takeMultipliers_112 ?_
          have p9 := cj_5_4 (WG hG aG kG hM hO hQ hw iG_made iG_keptNeeds fG_kept fG_need fG_turn iG_columns) (WO hO aO kO hM hQ hw iO_answered iO_searched iO_searchedRelaxed iO_counted fO_countedCase gO_goalNumber gO_goalScale fO_start fO_column fO_chosen) (WM hM aM kM iM_stands iM_variables iM_rows iM_goals iM_differents iM_cases fM_from fM_to fM_whole fM_ways iM_plainRows fM_plainRow fM_kept fM_goalOver fM_goalUnder fM_goalMax fM_different) (WQ hQ aQ kQ hw fQ_inside fQ_outside fQ_shut iQ_rows iQ_allRows iQ_columns) (WW nW hw lw kw wl_x31 wb_x31 wG_x31)
          have hPc := hP.mem (fun q h => p9.mem_iff.mpr (List.mem_append_left _ h))
          have hDc := (hD.perm p9).left
          have hKc : va_K (dC, dI) vwCl (tW kw) _ := hK.sub [29] rfl
          have hFc := freeG p9 hD hS hA
          refine va_callv (va_runV (As := [.ref (hw 460)]) (rest := []) ⟨hx, hb, hml, hown, hts⟩ (m_X8_copy l dC dI nW hw lw kw wl_x31 wb_x31 wG_x31 473 460 b_wl_x31 b_wb_x31 (by first | with_reducible assumption | omega | (rw [iI_t (by omega) (by omega)]; omega) | decide | assumption) (by first | with_reducible assumption | omega | (rw [iI_t (by omega) (by omega)]; omega) | decide | assumption) H.size) (cwV 1 hts gwsMX3_takeMultipliers_5 rfl rfl rfl hd_yX8_copy_RX8 (by decide +kernel)) (fz_pre (va_recv hK hP (ci := 8) (q0 := 6 + (11 + (11 + (5 + (473))))) rfl (apR rfl (apR rfl (apR rfl (apR rfl (WW_o (by omega))))))) hPc hKc hDc) rfl rfl hl.1 rfl (lv_room (Nat.le_of_ble_eq_true rfl)) dX3_takeMultipliers_115 (by decide +kernel)) hS (fun q _ h => hFc q h) hFc (fun u t9_ H locs ht hvm hw9 hB9 hz1 hk1 hS => ?_)
          revert u hw9 hB9
          refine fz_p3 ?_
          intro wl_319 wb_319 wG_319 hw9 hB9
          try dsimp only at hw9 hB9
          revert hw9
          refine fz_a2 ?_
          intro b_wl_319 b_wb_319
          have p8 := cj_5_4 (WG hG aG kG hM hO hQ hw iG_made iG_keptNeeds fG_kept fG_need fG_turn iG_columns) (WO hO aO kO hM hQ hw iO_answered iO_searched iO_searchedRelaxed iO_counted fO_countedCase gO_goalNumber gO_goalScale fO_start fO_column fO_chosen) (WM hM aM kM iM_stands iM_variables iM_rows iM_goals iM_differents iM_cases fM_from fM_to fM_whole fM_ways iM_plainRows fM_plainRow fM_kept fM_goalOver fM_goalUnder fM_goalMax fM_different) (WQ hQ aQ kQ hw fQ_inside fQ_outside fQ_shut iQ_rows iQ_allRows iQ_columns) (WW nW hw lw kw wl_319 wb_319 wG_319)
          obtain ⟨hP, hD⟩ := frameG p9 p8 hP hD hk1 hFc (fz_P ht hB9.1) hB9.2
          refine lv_aload_n hx hb dX3_takeMultipliers_118 rfl (lv_at hl 1 rfl) ?_
          refine va_get (D := (dC, dI)) (ci := 3) (v := .ref (hw 460)) (C := RX3) (T := TX3) (N := 17) hx hb hts iwsMX3_takeMultipliers_in3 hown hK hP 0 rfl rfl 7 (by decide) (hts _ hm_m_X3_takeMultipliers_1) (fun _ h9 => h9) rfl dX3_takeMultipliers_119 ?_
          refine lv_aload_n hx hb dX3_takeMultipliers_122 rfl (lv_at hl 1 rfl) ?_
          refine va_get (D := (dC, dI)) (ci := 3) (v := .ref (hw 473)) (C := RX3) (T := TX3) (N := 17) hx hb hts iwsMX3_takeMultipliers_in3 hown hK hP 0 rfl rfl 13 (by decide) (hts _ hm_m_X3_takeMultipliers_0) (fun _ h9 => h9) rfl dX3_takeMultipliers_123 ?_
          refine lv_aload_n hx hb dX3_takeMultipliers_126 rfl (lv_at hl 1 rfl) ?_
          refine va_get (D := (dC, dI)) (ci := 3) (v := .ref (hQ 0)) (C := RX3) (T := TX3) (N := 17) hx hb hts iwsMX3_takeMultipliers_in3 hown hK hP 0 rfl rfl 2 (by decide) (hts _ hm_m_X3_takeMultipliers_2) (fun _ h9 => h9) rfl dX3_takeMultipliers_127 ?_
          refine va_get (D := (dC, dI)) (ci := 6) (v := .ref (hw 400)) (C := RX6) (T := TX6) (N := 13) hx hb hts iwsMX3_takeMultipliers_in6 hown hK hP 28 rfl rfl 4 (by decide) (hts (.fieldLink RX3 144 "OptimaWorks$Tableau" "under" "LOptimaWorks$Whole;") (by decide +kernel)) (fun _ h9 => h9) rfl dX3_takeMultipliers_130 ?_
          have p9 := cj_5_4 (WG hG aG kG hM hO hQ hw iG_made iG_keptNeeds fG_kept fG_need fG_turn iG_columns) (WO hO aO kO hM hQ hw iO_answered iO_searched iO_searchedRelaxed iO_counted fO_countedCase gO_goalNumber gO_goalScale fO_start fO_column fO_chosen) (WM hM aM kM iM_stands iM_variables iM_rows iM_goals iM_differents iM_cases fM_from fM_to fM_whole fM_ways iM_plainRows fM_plainRow fM_kept fM_goalOver fM_goalUnder fM_goalMax fM_different) (WQ hQ aQ kQ hw fQ_inside fQ_outside fQ_shut iQ_rows iQ_allRows iQ_columns) (WW nW hw lw kw wl_319 wb_319 wG_319)
          have hPc := hP.mem (fun q h => p9.mem_iff.mpr (List.mem_append_left _ h))
          have hDc := (hD.perm p9).left
          have hKc : va_K (dC, dI) vwCl (tW kw) _ := hK.sub [29] rfl
          have hFc := freeG p9 hD hS hA
          refine va_callv (va_runV (As := [.ref (hw 473), .ref (hw 400)]) (rest := []) ⟨hx, hb, hml, hown, hts⟩ (m_X8_setProduct l dC dI nW hw lw kw wl_319 wb_319 wG_319 460 473 400 b_wl_319 b_wb_319 (by first | with_reducible assumption | omega | (rw [iI_t (by omega) (by omega)]; omega) | decide | assumption) (by first | with_reducible assumption | omega | (rw [iI_t (by omega) (by omega)]; omega) | decide | assumption) (by first | with_reducible assumption | omega | (rw [iI_t (by omega) (by omega)]; omega) | decide | assumption) H.size) (cwV 2 hts gwsMX3_takeMultipliers_6 rfl rfl rfl hd_yX8_setProduct_RX8 (by decide +kernel)) (fz_pre (va_recv hK hP (ci := 8) (q0 := 6 + (11 + (11 + (5 + (460))))) rfl (apR rfl (apR rfl (apR rfl (apR rfl (WW_o (by omega))))))) hPc hKc hDc) rfl rfl hl.1 rfl (lv_room (Nat.le_of_ble_eq_true rfl)) dX3_takeMultipliers_133 (by decide +kernel)) hS (fun q _ h => hFc q h) hFc (fun u t9_ H locs ht hvm hw9 hB9 hz1 hk1 hS => ?_)
          revert u hw9 hB9
          refine fz_p3 ?_
          intro wl_320 wb_320 wG_320 hw9 hB9
          try dsimp only at hw9 hB9
          revert hw9
          refine fz_a2 ?_
          intro b_wl_320 b_wb_320
          have p8 := cj_5_4 (WG hG aG kG hM hO hQ hw iG_made iG_keptNeeds fG_kept fG_need fG_turn iG_columns) (WO hO aO kO hM hQ hw iO_answered iO_searched iO_searchedRelaxed iO_counted fO_countedCase gO_goalNumber gO_goalScale fO_start fO_column fO_chosen) (WM hM aM kM iM_stands iM_variables iM_rows iM_goals iM_differents iM_cases fM_from fM_to fM_whole fM_ways iM_plainRows fM_plainRow fM_kept fM_goalOver fM_goalUnder fM_goalMax fM_different) (WQ hQ aQ kQ hw fQ_inside fQ_outside fQ_shut iQ_rows iQ_allRows iQ_columns) (WW nW hw lw kw wl_320 wb_320 wG_320)
          obtain ⟨hP, hD⟩ := frameG p9 p8 hP hD hk1 hFc (fz_P ht hB9.1) hB9.2
          refine W.widen (k := 0) (n := 0) (by decide +kernel) (by decide +kernel) ?_
          exact W.vret hx hb hr (fun t9_ ht hW => ⟨⟨(wl_320, wb_320, wG_320), rfl, ⟨b_wl_320, b_wb_320⟩, by rw [ht]; exact hP, hD⟩, hS.F ht⟩) hS.2.2 dX3_takeMultipliers_136
        · have t_36 : ¬ l1_x31.toInt ≥ iG_columns.toInt := toI_nge c_36 rfl rfl
          refine lv_aload_n hx hb dX3_takeMultipliers_39 rfl (lv_at hl 1 rfl) ?_
          refine va_get (D := (dC, dI)) (ci := 3) (v := .ref (hQ 0)) (C := RX3) (T := TX3) (N := 17) hx hb hts iwsMX3_takeMultipliers_in3 hown hK hP 0 rfl rfl 2 (by decide) (hts _ hm_m_X3_takeMultipliers_2) (fun _ h9 => h9) rfl dX3_takeMultipliers_40 ?_
          refine lv_iload_n hx hb dX3_takeMultipliers_43 rfl (lv_at hl 0 rfl) ?_
          have p9 := cj_5_3_4 (WG hG aG kG hM hO hQ hw iG_made iG_keptNeeds fG_kept fG_need fG_turn iG_columns) (WO hO aO kO hM hQ hw iO_answered iO_searched iO_searchedRelaxed iO_counted fO_countedCase gO_goalNumber gO_goalScale fO_start fO_column fO_chosen) (WM hM aM kM iM_stands iM_variables iM_rows iM_goals iM_differents iM_cases fM_from fM_to fM_whole fM_ways iM_plainRows fM_plainRow fM_kept fM_goalOver fM_goalUnder fM_goalMax fM_different) (WQ hQ aQ kQ hw fQ_inside fQ_outside fQ_shut iQ_rows iQ_allRows iQ_columns) (WW nW hw lw kw wl_x31 wb_x31 wG_x31)
          have hPc := hP.mem (fun q h => p9.mem_iff.mpr (List.mem_append_left _ h))
          have hDc := (hD.perm p9).left
          have hKc : va_K (dC, dI) vwCl (tQ kQ ++ (tW kw)) _ := hK.sub [25, 26, 27, 28, 29] rfl
          have hFc := freeG p9 hD hS hA
          refine va_calli (va_runV (As := [.int l1_x31]) (rest := []) ⟨hx, hb, hml, hown, hts⟩ (m_X6_rowOf l dC dI hQ aQ kQ hw fQ_inside fQ_outside fQ_shut iQ_rows iQ_allRows iQ_columns nW lw kw wl_x31 wb_x31 wG_x31 l1_x31 (b_iQ_rows) (b_iQ_allRows) (b_iQ_columns) (by first | with_reducible assumption | omega | assumption) b_wl_x31 b_wb_x31 (by omega) H.size) (cwV 1 hts gwsMX3_takeMultipliers_2 rfl rfl rfl hd_yX6_rowOf_RX6 (by decide +kernel)) (fz_pre (va_recv hK hP (ci := 6) (q0 := 28) rfl rfl) hPc hKc hDc) rfl rfl hl.1 rfl (lv_room (Nat.le_of_ble_eq_true rfl)) dX3_takeMultipliers_44 (by decide +kernel)) hS (fun q _ h => hFc q h) hFc (fun r321 u t9_ H locs ht hvm hw9 hB9 hz1 hk1 hS => ?_)
          revert hw9
          refine fz_a2 ?_
          intro b_r321 f321_0
          have p8 := p9
          obtain ⟨hP, hD⟩ := frameG p9 p8 hP hD hk1 hFc (fz_P ht hB9.1) hB9.2
          refine lv_istore_n hx hb dX3_takeMultipliers_47 rfl hl (by decide) rfl (fun ls (hl : lv_has ls _ ([(2, .int r321), (1, .int l1_x31), (0, .ref (hG 0))])) => ?_)
          refine lv_iload_n hx hb dX3_takeMultipliers_48 rfl (lv_at hl 0 rfl) ?_
          refine lv_iconst (v := (-1)) hx hb dX3_takeMultipliers_49 (by decide) ?_
          refine W.cut (pc := 101) (fun H locs ls stk => ∃ (wl_j36 : Nat → Int32) (wb_j36 : Nat → Int32) (wG_j36 : Nat → Nat → Int64), (∀ q : Nat, 0 ≤ (wl_j36 q).toInt ∧ (wl_j36 q).toInt ≤ 14) ∧ (∀ q : Nat, 0 ≤ (wb_j36 q).toInt ∧ (wb_j36 q).toInt ≤ 1) ∧  stk = [] ∧ va_P (dC, dI) vwCl (WG hG aG kG hM hO hQ hw iG_made iG_keptNeeds fG_kept fG_need fG_turn iG_columns ++ (WO hO aO kO hM hQ hw iO_answered iO_searched iO_searchedRelaxed iO_counted fO_countedCase gO_goalNumber gO_goalScale fO_start fO_column fO_chosen ++ (WM hM aM kM iM_stands iM_variables iM_rows iM_goals iM_differents iM_cases fM_from fM_to fM_whole fM_ways iM_plainRows fM_plainRow fM_kept fM_goalOver fM_goalUnder fM_goalMax fM_different ++ (WQ hQ aQ kQ hw fQ_inside fQ_outside fQ_shut iQ_rows iQ_allRows iQ_columns ++ (WW nW hw lw kw wl_j36 wb_j36 wG_j36))))) H ∧ va_D A (WG hG aG kG hM hO hQ hw iG_made iG_keptNeeds fG_kept fG_need fG_turn iG_columns ++ (WO hO aO kO hM hQ hw iO_answered iO_searched iO_searchedRelaxed iO_counted fO_countedCase gO_goalNumber gO_goalScale fO_start fO_column fO_chosen ++ (WM hM aM kM iM_stands iM_variables iM_rows iM_goals iM_differents iM_cases fM_from fM_to fM_whole fM_ways iM_plainRows fM_plainRow fM_kept fM_goalOver fM_goalUnder fM_goalMax fM_different ++ (WQ hQ aQ kQ hw fQ_inside fQ_outside fQ_shut iQ_rows iQ_allRows iQ_columns ++ (WW nW hw lw kw wl_j36 wb_j36 wG_j36))))) ∧ va_S A s.heap H locs ∧ lv_has ls 3 [(2, .int r321), (1, .int l1_x31), (0, .ref (hG 0))]) (fun join36 => ?_) ?_
          · refine lv_icmp_eq (tgt := 101) hx hb dX3_takeMultipliers_50 (by decide) (fun c_50 => ?_) (fun c_50 => ?_)
            · have t_50 : r321.toInt = (-1) := toI_eq c_50 rfl (by decide : ((-1) : Int32).toInt = (-1))
              have hl : lv_has _ _ ([(2, .int r321), (1, .int l1_x31), (0, .ref (hG 0))]) := lv_sub hl [0, 1, 2] rfl
              exact join36 _ _ _ _ ⟨wl_x31, wb_x31, wG_x31, b_wl_x31, b_wb_x31, rfl, hP, hD, hS, hl⟩
            · have t_50 : ¬ r321.toInt = (-1) := toI_neq c_50 rfl (by decide : ((-1) : Int32).toInt = (-1))
              refine lv_aload_n hx hb dX3_takeMultipliers_53 rfl (lv_at hl 2 rfl) ?_
              refine va_get (D := (dC, dI)) (ci := 3) (v := .ref (aG 0)) (C := RX3) (T := TX3) (N := 17) hx hb hts iwsMX3_takeMultipliers_in3 hown hK hP 0 rfl rfl 5 (by decide) (hts (.fieldLink RX3 11 "OptimaWorks$Prover" "kept" "[Z") (by decide +kernel)) (fun _ h9 => h9) rfl dX3_takeMultipliers_54 ?_
              refine lv_aload_n hx hb dX3_takeMultipliers_57 rfl (lv_at hl 2 rfl) ?_
              refine va_get (D := (dC, dI)) (ci := 3) (v := .ref (aG 3)) (C := RX3) (T := TX3) (N := 17) hx hb hts iwsMX3_takeMultipliers_in3 hown hK hP 0 rfl rfl 14 (by decide) (hts _ hm_m_X3_takeMultipliers_3) (fun _ h9 => h9) rfl dX3_takeMultipliers_58 ?_
              refine lv_iload_n hx hb dX3_takeMultipliers_61 rfl (lv_at hl 1 rfl) ?_
              refine va_iald (cA := kG 3) (n := 40) (f := fG_need) hx hb hK hP 4 3 rfl rfl (vp_in_iff.mpr ⟨b_l1_x31.1, (by omega)⟩) dX3_takeMultipliers_62 ?_
              refine lv_topi (fun v330 hv330 => ?_)
              have b_v330 : 0 ≤ v330.toInt ∧ v330.toInt ≤ 27 := by rw [hv330]; exact b_fG_need _
              clear hv330
              refine va_zald (cA := kG 0) (n := 28) (f := fG_kept) hx hb hK hP 1 0 rfl rfl (vp_in_iff.mpr ⟨b_v330.1, (Int.lt_of_le_of_lt (b_v330.2) (by decide))⟩) dX3_takeMultipliers_63 ?_
              refine lv_topi (fun v331 hv331 => ?_)
              clear hv331
              refine lv_if_eq (tgt := 101) hx hb dX3_takeMultipliers_64 (by decide) (fun c_64 => ?_) (fun c_64 => ?_)
              · have t_64 : v331.toInt = 0 := toI_eq c_64 rfl (by decide : (0 : Int32).toInt = 0)
                have hl : lv_has _ _ ([(2, .int r321), (1, .int l1_x31), (0, .ref (hG 0))]) := lv_sub hl [0, 1, 2] rfl
                exact join36 _ _ _ _ ⟨wl_x31, wb_x31, wG_x31, b_wl_x31, b_wb_x31, rfl, hP, hD, hS, hl⟩
              · have t_64 : ¬ v331.toInt = 0 := toI_neq c_64 rfl (by decide : (0 : Int32).toInt = 0)
                refine lv_aload_n hx hb dX3_takeMultipliers_67 rfl (lv_at hl 2 rfl) ?_
                refine va_get (D := (dC, dI)) (ci := 3) (v := .ref (hO 0)) (C := RX3) (T := TX3) (N := 17) hx hb hts iwsMX3_takeMultipliers_in3 hown hK hP 0 rfl rfl 1 (by decide) (hts (.fieldLink RX3 63 "OptimaWorks$Prover" "solver" "LOptimaWorks$Solver;") (by decide +kernel)) (fun _ h9 => h9) rfl dX3_takeMultipliers_68 ?_
                refine lv_aload_n hx hb dX3_takeMultipliers_71 rfl (lv_at hl 2 rfl) ?_
                refine va_get (D := (dC, dI)) (ci := 3) (v := .ref (aG 1)) (C := RX3) (T := TX3) (N := 17) hx hb hts iwsMX3_takeMultipliers_in3 hown hK hP 0 rfl rfl 6 (by decide) (hts _ hm_m_X3_takeMultipliers_4) (fun _ h9 => h9) rfl dX3_takeMultipliers_72 ?_
                refine lv_aload_n hx hb dX3_takeMultipliers_75 rfl (lv_at hl 2 rfl) ?_
                refine va_get (D := (dC, dI)) (ci := 3) (v := .ref (aG 3)) (C := RX3) (T := TX3) (N := 17) hx hb hts iwsMX3_takeMultipliers_in3 hown hK hP 0 rfl rfl 14 (by decide) (hts _ hm_m_X3_takeMultipliers_3) (fun _ h9 => h9) rfl dX3_takeMultipliers_76 ?_
                refine lv_iload_n hx hb dX3_takeMultipliers_79 rfl (lv_at hl 1 rfl) ?_
                refine va_iald (cA := kG 3) (n := 40) (f := fG_need) hx hb hK hP 4 3 rfl rfl (vp_in_iff.mpr ⟨b_l1_x31.1, (by omega)⟩) dX3_takeMultipliers_80 ?_
                refine lv_topi (fun v332 hv332 => ?_)
                have b_v332 : 0 ≤ v332.toInt ∧ v332.toInt ≤ 27 := by rw [hv332]; exact b_fG_need _
                clear hv332
                refine va_aldq (cA := kG 1) (n := 28) (f := fun q => some (hw (432 + q))) hx hb hK hP 2 1 rfl rfl (vp_in_iff.mpr ⟨b_v332.1, (Int.lt_of_le_of_lt (b_v332.2) (by decide))⟩) dX3_takeMultipliers_81 ?_
                obtain ⟨k333, hk333, b_k333⟩ : ∃ k9 : Nat, k9 = 432 + (v332).toNatClampNeg ∧ (432 ≤ k9 ∧ k9 < 460 ∧ (k9 : Int) = 432 + v332.toInt) := ⟨_, rfl, ald_k (x := (v332)) (o := 432) (n := 28) rfl (by omega) (by omega)⟩
                refine W.eq (g2 := F0 m 82 ls [.ref (hw k333), .ref (hO 0)]) (by rw [hk333]; rfl) ?_
                clear hk333
                refine lv_aload_n hx hb dX3_takeMultipliers_82 rfl (lv_at hl 2 rfl) ?_
                refine va_get (D := (dC, dI)) (ci := 3) (v := .ref (hQ 0)) (C := RX3) (T := TX3) (N := 17) hx hb hts iwsMX3_takeMultipliers_in3 hown hK hP 0 rfl rfl 2 (by decide) (hts _ hm_m_X3_takeMultipliers_2) (fun _ h9 => h9) rfl dX3_takeMultipliers_83 ?_
                refine lv_iload_n hx hb dX3_takeMultipliers_86 rfl (lv_at hl 0 rfl) ?_
                refine lv_iconst (v := 0) hx hb dX3_takeMultipliers_87 (by decide) ?_
                have p9 := cj_5_3_4 (WG hG aG kG hM hO hQ hw iG_made iG_keptNeeds fG_kept fG_need fG_turn iG_columns) (WO hO aO kO hM hQ hw iO_answered iO_searched iO_searchedRelaxed iO_counted fO_countedCase gO_goalNumber gO_goalScale fO_start fO_column fO_chosen) (WM hM aM kM iM_stands iM_variables iM_rows iM_goals iM_differents iM_cases fM_from fM_to fM_whole fM_ways iM_plainRows fM_plainRow fM_kept fM_goalOver fM_goalUnder fM_goalMax fM_different) (WQ hQ aQ kQ hw fQ_inside fQ_outside fQ_shut iQ_rows iQ_allRows iQ_columns) (WW nW hw lw kw wl_x31 wb_x31 wG_x31)
                have hPc := hP.mem (fun q h => p9.mem_iff.mpr (List.mem_append_left _ h))
                have hDc := (hD.perm p9).left
                have hKc : va_K (dC, dI) vwCl (tQ kQ ++ (tW kw)) _ := hK.sub [25, 26, 27, 28, 29] rfl
                have hFc := freeG p9 hD hS hA
                refine va_callr (va_runV (As := [.int r321, .int 0]) (rest := [.ref (hw k333), .ref (hO 0)]) ⟨hx, hb, hml, hown, hts⟩ (m_X6_cellAt l dC dI hQ aQ kQ hw fQ_inside fQ_outside fQ_shut iQ_rows iQ_allRows iQ_columns nW lw kw wl_x31 wb_x31 wG_x31 r321 0 (b_iQ_rows) (b_iQ_allRows) (b_iQ_columns) (by first | with_reducible assumption | omega | assumption) b_wl_x31 b_wb_x31 (by first | exact b_r321 | with_reducible assumption | exact ⟨by omega, by omega⟩ | assumption) (show 0 ≤ (0 : Int32).toInt ∧ (0 : Int32).toInt ≤ 40 from by decide) (by omega) (cell_ix0 b_tb (by omega) (by have h9 := b_tb.1; omega) (by omega)) H.size) (cwV 2 hts gwsMX3_takeMultipliers_3 rfl rfl rfl hd_yX6_cellAt_RX6 (by decide +kernel)) (fz_pre (va_recv hK hP (ci := 6) (q0 := 28) rfl rfl) hPc hKc hDc) rfl rfl hl.1 rfl (lv_room (Nat.le_of_ble_eq_true rfl)) dX3_takeMultipliers_88 (by decide +kernel)) hS (fun q _ h => hFc q h) hFc (fun kR_334 ra334 t9_ H locs ht hvm hw9 hB9 hz1 hk1 hS => ?_)
                revert hB9
                refine fz_a2 ?_
                intro hra hB9
                subst hra
                have f334_0 := hw9
                try dsimp only at f334_0
                have p8 := p9
                obtain ⟨hP, hD⟩ := frameG p9 p8 hP hD hk1 hFc (fz_P ht hB9.1) hB9.2
                refine lv_aload_n hx hb dX3_takeMultipliers_91 rfl (lv_at hl 2 rfl) ?_
                refine va_get (D := (dC, dI)) (ci := 3) (v := .ref (aG 4)) (C := RX3) (T := TX3) (N := 17) hx hb hts iwsMX3_takeMultipliers_in3 hown hK hP 0 rfl rfl 15 (by decide) (hts (.fieldLink RX3 56 "OptimaWorks$Prover" "turn" "[I") (by decide +kernel)) (fun _ h9 => h9) rfl dX3_takeMultipliers_92 ?_
                refine lv_iload_n hx hb dX3_takeMultipliers_95 rfl (lv_at hl 1 rfl) ?_
                refine va_iald (cA := kG 4) (n := 40) (f := fG_turn) hx hb hK hP 5 4 rfl rfl (vp_in_iff.mpr ⟨b_l1_x31.1, (by omega)⟩) dX3_takeMultipliers_96 ?_
                refine lv_topi (fun v335 hv335 => ?_)
                clear hv335
                refine lv_i2l hx hb dX3_takeMultipliers_97 rfl ?_
                refine lv_topl (fun v336 hv336 => ?_)
                clear hv336
                have p9 := cj_5_1_2_3_4 (WG hG aG kG hM hO hQ hw iG_made iG_keptNeeds fG_kept fG_need fG_turn iG_columns) (WO hO aO kO hM hQ hw iO_answered iO_searched iO_searchedRelaxed iO_counted fO_countedCase gO_goalNumber gO_goalScale fO_start fO_column fO_chosen) (WM hM aM kM iM_stands iM_variables iM_rows iM_goals iM_differents iM_cases fM_from fM_to fM_whole fM_ways iM_plainRows fM_plainRow fM_kept fM_goalOver fM_goalUnder fM_goalMax fM_different) (WQ hQ aQ kQ hw fQ_inside fQ_outside fQ_shut iQ_rows iQ_allRows iQ_columns) (WW nW hw lw kw wl_x31 wb_x31 wG_x31)
                have hPc := hP.mem (fun q h => p9.mem_iff.mpr (List.mem_append_left _ h))
                have hDc := (hD.perm p9).left
                have hKc : va_K (dC, dI) vwCl (tO kO ++ (tM kM ++ (tQ kQ ++ (tW kw)))) _ := hK.sub [5, 6, 7, 8, 9, 10, 11, 12, 13, 14, 15, 16, 17, 18, 19, 20, 21, 22, 23, 24, 25, 26, 27, 28, 29] rfl
                have hFc := freeG p9 hD hS hA
                refine va_callv (va_runV (As := [.ref (hw k333), .ref (hw kR_334), .long v336]) (rest := []) ⟨hx, hb, hml, hown, hts⟩ (m_X5_addTimes l dC dI hO aO kO hM hQ hw iO_answered iO_searched iO_searchedRelaxed iO_counted fO_countedCase gO_goalNumber gO_goalScale fO_start fO_column fO_chosen aM kM iM_stands iM_variables iM_rows iM_goals iM_differents iM_cases fM_from fM_to fM_whole fM_ways iM_plainRows fM_plainRow fM_kept fM_goalOver fM_goalUnder fM_goalMax fM_different aQ kQ fQ_inside fQ_outside fQ_shut iQ_rows iQ_allRows iQ_columns nW lw kw wl_x31 wb_x31 wG_x31 k333 kR_334 v336 (b_iO_answered) (b_iO_searched) (b_iO_searchedRelaxed) (b_iO_counted) b_fO_countedCase b_fO_column b_fO_chosen (b_iM_stands) (b_iM_variables) (b_iM_rows) (b_iM_goals) (b_iM_differents) (b_iM_cases) b_fM_ways (b_iM_plainRows) b_fM_plainRow (by first | with_reducible assumption | omega | assumption) (b_iQ_rows) (b_iQ_allRows) (b_iQ_columns) (by first | with_reducible assumption | omega | assumption) b_wl_x31 b_wb_x31 (by omega) (by first | with_reducible assumption | omega | (rw [iI_t (by omega) (by omega)]; omega) | decide | assumption) (by first | with_reducible assumption | omega | (rw [iI_t (by omega) (by omega)]; omega) | decide | assumption) H.size) (cwV 3 hts gwsMX3_takeMultipliers_4 rfl rfl rfl hd_yX5_addTimes_RX5 (by decide +kernel)) (fz_pre (va_recv hK hP (ci := 5) (q0 := 6) rfl rfl) hPc hKc hDc) rfl rfl hl.1 rfl (lv_room (Nat.le_of_ble_eq_true rfl)) dX3_takeMultipliers_98 (by decide +kernel)) hS (fun q _ h => hFc q h) hFc (fun u t9_ H locs ht hvm hw9 hB9 hz1 hk1 hS => ?_)
                revert u hw9 hB9
                refine fz_p3 ?_
                intro wl_337 wb_337 wG_337 hw9 hB9
                try dsimp only at hw9 hB9
                revert hw9
                refine fz_a2 ?_
                intro b_wl_337 b_wb_337
                have p8 := cj_5_1_2_3_4 (WG hG aG kG hM hO hQ hw iG_made iG_keptNeeds fG_kept fG_need fG_turn iG_columns) (WO hO aO kO hM hQ hw iO_answered iO_searched iO_searchedRelaxed iO_counted fO_countedCase gO_goalNumber gO_goalScale fO_start fO_column fO_chosen) (WM hM aM kM iM_stands iM_variables iM_rows iM_goals iM_differents iM_cases fM_from fM_to fM_whole fM_ways iM_plainRows fM_plainRow fM_kept fM_goalOver fM_goalUnder fM_goalMax fM_different) (WQ hQ aQ kQ hw fQ_inside fQ_outside fQ_shut iQ_rows iQ_allRows iQ_columns) (WW nW hw lw kw wl_337 wb_337 wG_337)
                obtain ⟨hP, hD⟩ := frameG p9 p8 hP hD hk1 hFc (fz_P ht hB9.1) hB9.2
                have hl : lv_has _ _ ([(2, .int r321), (1, .int l1_x31), (0, .ref (hG 0))]) := lv_sub hl [0, 1, 2] rfl
                exact join36 _ _ _ _ ⟨wl_337, wb_337, wG_337, b_wl_337, b_wb_337, rfl, hP, hD, hS, hl⟩
          · rintro H locs ls stk ⟨wl_j36, wb_j36, wG_j36, b_wl_j36, b_wb_j36, rfl, hP, hD, hS, hl⟩
            refine lv_iinc (v := (iI (l1_x31.toInt + 1))) hx hb dX3_takeMultipliers_101 hl (k := 1) rfl (iI_add2 (iI_of _) (by decide : (1 : Int32) = iI 1)) (by decide) rfl (fun ls (hl : lv_has ls _ ([(1, .int (iI (l1_x31.toInt + 1))), (2, .int r321), (0, .ref (hG 0))])) => ?_)
            refine lv_goto (tgt := 31) hx hb dX3_takeMultipliers_104 (by decide) ?_
            have hl : lv_has _ _ ([(1, .int (iI (l1_x31.toInt + 1))), (0, .ref (hG 0))]) := lv_sub hl [0, 2] rfl
            exact ihx31 wl_j36 wb_j36 wG_j36 (iI (l1_x31.toInt + 1)) _ _ _ b_wl_j36 b_wb_j36 (iI_rng (Int.le_trans (by decide) (Int.add_le_add (b_l1_x31.1) (Int.le_refl _))) (by omega) (by decide) (by decide)) (by have e9 : ((iI (l1_x31.toInt + 1))).toInt = (l1_x31.toInt + 1) := (iI_t (Int.le_trans (by decide) (Int.add_le_add (b_l1_x31.1) (Int.le_refl _))) (Int.le_trans (Int.add_le_add (b_l1_x31.2) (Int.le_refl _)) (by decide))); omega) hP hD hS hl
    · have t_10 : ¬ l1_x2.toInt ≥ r227.toInt := toI_nge c_10 rfl rfl
      refine lv_aload_n hx hb dX3_takeMultipliers_13 rfl (lv_at hl 1 rfl) ?_
      refine va_get (D := (dC, dI)) (ci := 3) (v := .ref (aG 1)) (C := RX3) (T := TX3) (N := 17) hx hb hts iwsMX3_takeMultipliers_in3 hown hK hP 0 rfl rfl 6 (by decide) (hts _ hm_m_X3_takeMultipliers_4) (fun _ h9 => h9) rfl dX3_takeMultipliers_14 ?_
      refine lv_iload_n hx hb dX3_takeMultipliers_17 rfl (lv_at hl 0 rfl) ?_
      refine va_aldq (cA := kG 1) (n := 28) (f := fun q => some (hw (432 + q))) hx hb hK hP 2 1 rfl rfl (vp_in_iff.mpr ⟨b_l1_x2.1, (by omega)⟩) dX3_takeMultipliers_18 ?_
      obtain ⟨k338, hk338, b_k338⟩ : ∃ k9 : Nat, k9 = 432 + (l1_x2).toNatClampNeg ∧ (432 ≤ k9 ∧ k9 < 460 ∧ (k9 : Int) = 432 + l1_x2.toInt) := ⟨_, rfl, ald_k (x := (l1_x2)) (o := 432) (n := 28) rfl (by omega) (by omega)⟩
      refine W.eq (g2 := F0 m 19 ls [.ref (hw k338)]) (by rw [hk338]; rfl) ?_
      clear hk338
      refine lv_lconst (v := 0) hx hb dX3_takeMultipliers_19 (by decide) ?_
      have p9 := cj_5_4 (WG hG aG kG hM hO hQ hw iG_made iG_keptNeeds fG_kept fG_need fG_turn iG_columns) (WO hO aO kO hM hQ hw iO_answered iO_searched iO_searchedRelaxed iO_counted fO_countedCase gO_goalNumber gO_goalScale fO_start fO_column fO_chosen) (WM hM aM kM iM_stands iM_variables iM_rows iM_goals iM_differents iM_cases fM_from fM_to fM_whole fM_ways iM_plainRows fM_plainRow fM_kept fM_goalOver fM_goalUnder fM_goalMax fM_different) (WQ hQ aQ kQ hw fQ_inside fQ_outside fQ_shut iQ_rows iQ_allRows iQ_columns) (WW nW hw lw kw wl_x2 wb_x2 wG_x2)
      have hPc := hP.mem (fun q h => p9.mem_iff.mpr (List.mem_append_left _ h))
      have hDc := (hD.perm p9).left
      have hKc : va_K (dC, dI) vwCl (tW kw) _ := hK.sub [29] rfl
      have hFc := freeG p9 hD hS hA
      refine va_callv (va_runV (As := [.long 0]) (rest := []) ⟨hx, hb, hml, hown, hts⟩ (m_X8_setLong l dC dI nW hw lw kw wl_x2 wb_x2 wG_x2 k338 0 b_wl_x2 b_wb_x2 (by first | with_reducible assumption | omega | (rw [iI_t (by omega) (by omega)]; omega) | decide | assumption) H.size) (cwV 1 hts gwsMX3_takeMultipliers_1 rfl rfl rfl hd_yX8_setLong_RX8 (by decide +kernel)) (fz_pre (va_recv hK hP (ci := 8) (q0 := 6 + (11 + (11 + (5 + (k338))))) rfl (apR rfl (apR rfl (apR rfl (apR rfl (WW_o (by omega))))))) hPc hKc hDc) rfl rfl hl.1 rfl (lv_room (Nat.le_of_ble_eq_true rfl)) dX3_takeMultipliers_20 (by decide +kernel)) hS (fun q _ h => hFc q h) hFc (fun u t9_ H locs ht hvm hw9 hB9 hz1 hk1 hS => ?_)
      revert u hw9 hB9
      refine fz_p3 ?_
      intro wl_339 wb_339 wG_339 hw9 hB9
      try dsimp only at hw9 hB9
      revert hw9
      refine fz_a2 ?_
      intro b_wl_339 b_wb_339
      have p8 := cj_5_4 (WG hG aG kG hM hO hQ hw iG_made iG_keptNeeds fG_kept fG_need fG_turn iG_columns) (WO hO aO kO hM hQ hw iO_answered iO_searched iO_searchedRelaxed iO_counted fO_countedCase gO_goalNumber gO_goalScale fO_start fO_column fO_chosen) (WM hM aM kM iM_stands iM_variables iM_rows iM_goals iM_differents iM_cases fM_from fM_to fM_whole fM_ways iM_plainRows fM_plainRow fM_kept fM_goalOver fM_goalUnder fM_goalMax fM_different) (WQ hQ aQ kQ hw fQ_inside fQ_outside fQ_shut iQ_rows iQ_allRows iQ_columns) (WW nW hw lw kw wl_339 wb_339 wG_339)
      obtain ⟨hP, hD⟩ := frameG p9 p8 hP hD hk1 hFc (fz_P ht hB9.1) hB9.2
      refine lv_iinc (v := (iI (l1_x2.toInt + 1))) hx hb dX3_takeMultipliers_23 hl (k := 0) rfl (iI_add2 (iI_of _) (by decide : (1 : Int32) = iI 1)) (by decide) rfl (fun ls (hl : lv_has ls _ ([(1, .int (iI (l1_x2.toInt + 1))), (0, .ref (hG 0))])) => ?_)
      refine lv_goto (tgt := 2) hx hb dX3_takeMultipliers_26 (by decide) ?_
      have hl : lv_has _ _ ([(1, .int (iI (l1_x2.toInt + 1))), (0, .ref (hG 0))]) := lv_sub hl [0, 1] rfl
      exact ihx2 wl_339 wb_339 wG_339 (iI (l1_x2.toInt + 1)) _ _ _ b_wl_339 b_wb_339 (iI_rng (Int.le_trans (by decide) (Int.add_le_add (b_l1_x2.1) (Int.le_refl _))) (by omega) (by decide) (by decide)) (by have e9 : ((iI (l1_x2.toInt + 1))).toInt = (l1_x2.toInt + 1) := (iI_t (Int.le_trans (by decide) (Int.add_le_add (b_l1_x2.1) (Int.le_refl _))) (Int.le_trans (Int.add_le_add (b_l1_x2.2) (Int.le_refl _)) (by decide))); omega) hP hD hS hl
theorem dX3_tellProved_0 : decode cX3_tellProved 0 = .ok (.aload_n 0, 1) := dk_42 (by decide +kernel)
theorem dX3_tellProved_1 : decode cX3_tellProved 1 = .ok (.getfield 63, 3) := dk_180 (by decide +kernel)
theorem dX3_tellProved_4 : decode cX3_tellProved 4 = .ok (.getfield 149, 3) := dk_180 (by decide +kernel)
theorem dX3_tellProved_7 : decode cX3_tellProved 7 = .ok (.aload_n 0, 1) := dk_42 (by decide +kernel)
theorem dX3_tellProved_8 : decode cX3_tellProved 8 = .ok (.getfield 34, 3) := dk_180 (by decide +kernel)
theorem dX3_tellProved_11 : decode cX3_tellProved 11 = .ok (.invokevirtual 152, 3) := dk_182 (by decide +kernel)
theorem dX3_tellProved_14 : decode cX3_tellProved 14 = .ok (.aload_n 0, 1) := dk_42 (by decide +kernel)
theorem dX3_tellProved_15 : decode cX3_tellProved 15 = .ok (.getfield 63, 3) := dk_180 (by decide +kernel)
theorem dX3_tellProved_18 : decode cX3_tellProved 18 = .ok (.getfield 156, 3) := dk_180 (by decide +kernel)
theorem dX3_tellProved_21 : decode cX3_tellProved 21 = .ok (.aload_n 0, 1) := dk_42 (by decide +kernel)
theorem dX3_tellProved_22 : decode cX3_tellProved 22 = .ok (.getfield 37, 3) := dk_180 (by decide +kernel)
theorem dX3_tellProved_25 : decode cX3_tellProved 25 = .ok (.invokevirtual 152, 3) := dk_182 (by decide +kernel)
theorem dX3_tellProved_28 : decode cX3_tellProved 28 = .ok (.return_, 1) := dk_177 (by decide +kernel)
def wsMX3_tellProved : List Cond := .code yX3_tellProved cX3_tellProved 1 none :: ([.fieldLink RX3 63 "OptimaWorks$Prover" "solver" "LOptimaWorks$Solver;", .fieldLink RX3 149 "OptimaWorks$Solver" "top" "LOptimaWorks$Whole;", .fieldLink RX3 34 "OptimaWorks$Prover" "proved" "LOptimaWorks$Whole;", .fieldLink RX3 156 "OptimaWorks$Solver" "bottom" "LOptimaWorks$Whole;", .fieldLink RX3 37 "OptimaWorks$Prover" "provedUnder" "LOptimaWorks$Whole;"] ++ wsX30 ++ wsX50 ++ (wsV RX3 152 RX8 yX8_copy wsMX8_copy))
theorem iwsMX3_tellProved_in3 : ∀ w ∈ wsX30, w ∈ wsMX3_tellProved := fun _ h => List.mem_cons_of_mem _ (List.mem_append_left _ (List.mem_append_left _ (List.mem_append_right _ h)))
theorem iwsMX3_tellProved_in5 : ∀ w ∈ wsX50, w ∈ wsMX3_tellProved := fun _ h => List.mem_cons_of_mem _ (List.mem_append_left _ (List.mem_append_right _ h))
theorem gwsMX3_tellProved_0 : GoodIn wsMX3_tellProved (wsV RX3 152 RX8 yX8_copy wsMX8_copy) := goodIn_sub (fun _ h => List.mem_cons_of_mem _ (List.mem_append_right _ h)) (gdV (by decide +kernel) gdwsMX8_copy)
theorem gdwsMX3_tellProved : wsMX3_tellProved.all goodWord = true := gdC rfl (gdA (gdA (gdA (by decide +kernel : ([.fieldLink RX3 63 "OptimaWorks$Prover" "solver" "LOptimaWorks$Solver;", .fieldLink RX3 149 "OptimaWorks$Solver" "top" "LOptimaWorks$Whole;", .fieldLink RX3 34 "OptimaWorks$Prover" "proved" "LOptimaWorks$Whole;", .fieldLink RX3 156 "OptimaWorks$Solver" "bottom" "LOptimaWorks$Whole;", .fieldLink RX3 37 "OptimaWorks$Prover" "provedUnder" "LOptimaWorks$Whole;"] : List Cond).all goodWord = true) gdwsX30) gdwsX50) (gdV (by decide +kernel) gdwsMX8_copy))
theorem hm_m_X3_tellProved_0 : (.fieldLink RX3 63 "OptimaWorks$Prover" "solver" "LOptimaWorks$Solver;" : Cond) ∈ wsMX3_tellProved := by decide +kernel
set_option maxHeartbeats 4000000 in
set_option maxRecDepth 100000 in
/-- what is proved is told -/
theorem m_X3_tellProved (l : Launch) (dC : Nat → ClassId) (dI : Nat → Nat → Nat) (hG : Nat → Nat) (aG : Nat → Nat) (kG : Nat → ClassId) (hM : Nat → Nat) (hO : Nat → Nat) (hQ : Nat → Nat) (hw : Nat → Nat) (iG_made : Int32) (iG_keptNeeds : Int32) (fG_kept : Nat → Int32) (fG_need : Nat → Int32) (fG_turn : Nat → Int32) (iG_columns : Int32) (aO : Nat → Nat) (kO : Nat → ClassId) (iO_answered : Int32) (iO_searched : Int32) (iO_searchedRelaxed : Int32) (iO_counted : Int32) (fO_countedCase : Nat → Int32) (gO_goalNumber : Nat → Int64) (gO_goalScale : Nat → Int64) (fO_start : Nat → Int32) (fO_column : Nat → Int32) (fO_chosen : Nat → Int32) (aM : Nat → Nat) (kM : Nat → ClassId) (iM_stands : Int32) (iM_variables : Int32) (iM_rows : Int32) (iM_goals : Int32) (iM_differents : Int32) (iM_cases : Int32) (fM_from : Nat → Int32) (fM_to : Nat → Int32) (fM_whole : Nat → Int32) (fM_ways : Nat → Int32) (iM_plainRows : Int32) (fM_plainRow : Nat → Int32) (fM_kept : Nat → Int32) (fM_goalOver : Nat → Int32) (fM_goalUnder : Nat → Int32) (fM_goalMax : Nat → Int32) (fM_different : Nat → Int32) (aQ : Nat → Nat) (kQ : Nat → ClassId) (fQ_inside : Nat → Int32) (fQ_outside : Nat → Int32) (fQ_shut : Nat → Int32) (iQ_rows : Int32) (iQ_allRows : Int32) (iQ_columns : Int32) (nW : Nat) (lw : Nat → Nat) (kw : ClassId) (wl : Nat → Int32) (wb : Nat → Int32) (wG : Nat → Nat → Int64) (b_iG_made : 0 ≤ iG_made.toInt ∧ iG_made.toInt ≤ 1) (b_fG_need : ∀ q : Nat, 0 ≤ (fG_need q).toInt ∧ (fG_need q).toInt ≤ 27) (b_iG_columns : 0 ≤ iG_columns.toInt ∧ iG_columns.toInt ≤ 40) (b_iO_answered : 0 ≤ iO_answered.toInt ∧ iO_answered.toInt ≤ 1) (b_iO_searched : 0 ≤ iO_searched.toInt ∧ iO_searched.toInt ≤ 1) (b_iO_searchedRelaxed : 0 ≤ iO_searchedRelaxed.toInt ∧ iO_searchedRelaxed.toInt ≤ 1) (b_iO_counted : (-1) ≤ iO_counted.toInt ∧ iO_counted.toInt ≤ 64) (b_fO_countedCase : ∀ q : Nat, 0 ≤ (fO_countedCase q).toInt ∧ (fO_countedCase q).toInt ≤ 200000) (b_fO_column : ∀ q : Nat, (-1) ≤ (fO_column q).toInt ∧ (fO_column q).toInt ≤ 8) (b_fO_chosen : ∀ q : Nat, 0 ≤ (fO_chosen q).toInt ∧ (fO_chosen q).toInt ≤ 2) (b_iM_stands : 0 ≤ iM_stands.toInt ∧ iM_stands.toInt ≤ 1) (b_iM_variables : 0 ≤ iM_variables.toInt ∧ iM_variables.toInt ≤ 8) (b_iM_rows : 0 ≤ iM_rows.toInt ∧ iM_rows.toInt ≤ 12) (b_iM_goals : 0 ≤ iM_goals.toInt ∧ iM_goals.toInt ≤ 3) (b_iM_differents : 0 ≤ iM_differents.toInt ∧ iM_differents.toInt ≤ 8) (b_iM_cases : 0 ≤ iM_cases.toInt ∧ iM_cases.toInt ≤ 200000) (b_fM_ways : ∀ q : Nat, 0 ≤ (fM_ways q).toInt ∧ (fM_ways q).toInt ≤ 3) (b_iM_plainRows : 0 ≤ iM_plainRows.toInt ∧ iM_plainRows.toInt ≤ 12) (b_fM_plainRow : ∀ q : Nat, 0 ≤ (fM_plainRow q).toInt ∧ (fM_plainRow q).toInt ≤ 11) (b_pr : iM_plainRows.toInt ≤ iM_rows.toInt) (b_iQ_rows : 0 ≤ iQ_rows.toInt ∧ iQ_rows.toInt ≤ 40) (b_iQ_allRows : 0 ≤ iQ_allRows.toInt ∧ iQ_allRows.toInt ≤ 40) (b_iQ_columns : 0 ≤ iQ_columns.toInt ∧ iQ_columns.toInt ≤ 40) (b_tb : TbO iQ_rows iQ_allRows iQ_columns) (b_wl : ∀ q : Nat, 0 ≤ (wl q).toInt ∧ (wl q).toInt ≤ 14) (b_wb : ∀ q : Nat, 0 ≤ (wb q).toInt ∧ (wb q).toInt ≤ 1) (hnW : 474 ≤ nW) (sz : Nat) : Met l yX3_tellProved wsMX3_tellProved ({ frames := 2, cells := 0, slots := 0, locals := 39 }) (va_Pc [.ref (hG 0)] (fun U => U.heap.size = sz ∧ va_P (dC, dI) vwCl (WG hG aG kG hM hO hQ hw iG_made iG_keptNeeds fG_kept fG_need fG_turn iG_columns ++ (WO hO aO kO hM hQ hw iO_answered iO_searched iO_searchedRelaxed iO_counted fO_countedCase gO_goalNumber gO_goalScale fO_start fO_column fO_chosen ++ (WM hM aM kM iM_stands iM_variables iM_rows iM_goals iM_differents iM_cases fM_from fM_to fM_whole fM_ways iM_plainRows fM_plainRow fM_kept fM_goalOver fM_goalUnder fM_goalMax fM_different ++ (WQ hQ aQ kQ hw fQ_inside fQ_outside fQ_shut iQ_rows iQ_allRows iQ_columns ++ (WW nW hw lw kw wl wb wG))))) U.heap ∧ va_K (dC, dI) vwCl (tG kG ++ (tO kO ++ (tM kM ++ (tQ kQ ++ (tW kw))))) U ∧ va_D (fun _ => True) (WG hG aG kG hM hO hQ hw iG_made iG_keptNeeds fG_kept fG_need fG_turn iG_columns ++ (WO hO aO kO hM hQ hw iO_answered iO_searched iO_searchedRelaxed iO_counted fO_countedCase gO_goalNumber gO_goalScale fO_start fO_column fO_chosen ++ (WM hM aM kM iM_stands iM_variables iM_rows iM_goals iM_differents iM_cases fM_from fM_to fM_whole fM_ways iM_plainRows fM_plainRow fM_kept fM_goalOver fM_goalUnder fM_goalMax fM_different ++ (WQ hQ aQ kQ hw fQ_inside fQ_outside fQ_shut iQ_rows iQ_allRows iQ_columns ++ (WW nW hw lw kw wl wb wG))))))) (va_Qv (fun (u : (Nat → Int32) × (Nat → Int32) × (Nat → Nat → Int64)) => (∀ q : Nat, 0 ≤ ((u.1) q).toInt ∧ ((u.1) q).toInt ≤ 14) ∧ (∀ q : Nat, 0 ≤ ((u.2.1) q).toInt ∧ ((u.2.1) q).toInt ≤ 1)) (fun (u : (Nat → Int32) × (Nat → Int32) × (Nat → Nat → Int64)) t => va_P (dC, dI) vwCl (WG hG aG kG hM hO hQ hw iG_made iG_keptNeeds fG_kept fG_need fG_turn iG_columns ++ (WO hO aO kO hM hQ hw iO_answered iO_searched iO_searchedRelaxed iO_counted fO_countedCase gO_goalNumber gO_goalScale fO_start fO_column fO_chosen ++ (WM hM aM kM iM_stands iM_variables iM_rows iM_goals iM_differents iM_cases fM_from fM_to fM_whole fM_ways iM_plainRows fM_plainRow fM_kept fM_goalOver fM_goalUnder fM_goalMax fM_different ++ (WQ hQ aQ kQ hw fQ_inside fQ_outside fQ_shut iQ_rows iQ_allRows iQ_columns ++ (WW nW hw lw kw (u.1) (u.2.1) (u.2.2)))))) t.heap ∧ va_D (va_A (WG hG aG kG hM hO hQ hw iG_made iG_keptNeeds fG_kept fG_need fG_turn iG_columns ++ (WO hO aO kO hM hQ hw iO_answered iO_searched iO_searchedRelaxed iO_counted fO_countedCase gO_goalNumber gO_goalScale fO_start fO_column fO_chosen ++ (WM hM aM kM iM_stands iM_variables iM_rows iM_goals iM_differents iM_cases fM_from fM_to fM_whole fM_ways iM_plainRows fM_plainRow fM_kept fM_goalOver fM_goalUnder fM_goalMax fM_different ++ (WQ hQ aQ kQ hw fQ_inside fQ_outside fQ_shut iQ_rows iQ_allRows iQ_columns ++ (WW nW hw lw kw wl wb wG))))) sz) (WG hG aG kG hM hO hQ hw iG_made iG_keptNeeds fG_kept fG_need fG_turn iG_columns ++ (WO hO aO kO hM hQ hw iO_answered iO_searched iO_searchedRelaxed iO_counted fO_countedCase gO_goalNumber gO_goalScale fO_start fO_column fO_chosen ++ (WM hM aM kM iM_stands iM_variables iM_rows iM_goals iM_differents iM_cases fM_from fM_to fM_whole fM_ways iM_plainRows fM_plainRow fM_kept fM_goalOver fM_goalUnder fM_goalMax fM_different ++ (WQ hQ aQ kQ hw fQ_inside fQ_outside fQ_shut iQ_rows iQ_allRows iQ_columns ++ (WW nW hw lw kw (u.1) (u.2.1) (u.2.2))))))) (va_A (WG hG aG kG hM hO hQ hw iG_made iG_keptNeeds fG_kept fG_need fG_turn iG_columns ++ (WO hO aO kO hM hQ hw iO_answered iO_searched iO_searchedRelaxed iO_counted fO_countedCase gO_goalNumber gO_goalScale fO_start fO_column fO_chosen ++ (WM hM aM kM iM_stands iM_variables iM_rows iM_goals iM_differents iM_cases fM_from fM_to fM_whole fM_ways iM_plainRows fM_plainRow fM_kept fM_goalOver fM_goalUnder fM_goalMax fM_different ++ (WQ hQ aQ kQ hw fQ_inside fQ_outside fQ_shut iQ_rows iQ_allRows iQ_columns ++ (WW nW hw lw kw wl wb wG))))) sz)) 0 0 (va_A (WG hG aG kG hM hO hQ hw iG_made iG_keptNeeds fG_kept fG_need fG_turn iG_columns ++ (WO hO aO kO hM hQ hw iO_answered iO_searched iO_searchedRelaxed iO_counted fO_countedCase gO_goalNumber gO_goalScale fO_start fO_column fO_chosen ++ (WM hM aM kM iM_stands iM_variables iM_rows iM_goals iM_differents iM_cases fM_from fM_to fM_whole fM_ways iM_plainRows fM_plainRow fM_kept fM_goalOver fM_goalUnder fM_goalMax fM_different ++ (WQ hQ aQ kQ hw fQ_inside fQ_outside fQ_shut iQ_rows iQ_allRows iQ_columns ++ (WW nW hw lw kw wl wb wG))))) sz) := by
  refine Met.ofW (cc := cX3_tellProved) (maxL := 1) (ret := none) (by decide) rfl ?_
  intro p e s m args below meth c s₁ B hml hv
  obtain ⟨rfl, hsz, hP, hK, hD0⟩ := hv
  have hx := B.exec
  have hb := B.bytes
  have hr := B.returns
  have hts := atoms_spec (ws := wsMX3_tellProved) B.pre
  have hown : s.vm.findClass RX3 = some m.cls := findClass_of_methodNamed B.named
  have hlocks := B.notSynchronized
  subst hsz
  have hD := hD0.self (sz := s.heap.size)
  generalize hAe : va_A (WG hG aG kG hM hO hQ hw iG_made iG_keptNeeds fG_kept fG_need fG_turn iG_columns ++ (WO hO aO kO hM hQ hw iO_answered iO_searched iO_searchedRelaxed iO_counted fO_countedCase gO_goalNumber gO_goalScale fO_start fO_column fO_chosen ++ (WM hM aM kM iM_stands iM_variables iM_rows iM_goals iM_differents iM_cases fM_from fM_to fM_whole fM_ways iM_plainRows fM_plainRow fM_kept fM_goalOver fM_goalUnder fM_goalMax fM_different ++ (WQ hQ aQ kQ hw fQ_inside fQ_outside fQ_shut iQ_rows iQ_allRows iQ_columns ++ (WW nW hw lw kw wl wb wG))))) s.heap.size = A at hD ⊢
  have hA : ∀ q : Nat, s.heap.size ≤ q → A q := fun q h => by rw [← hAe]; exact Or.inr h
  have hS : va_S A s.heap s.heap [] := va_S.rf
  have hl := lv_entry ([.ref (hG 0)]) (n := 1) (Nat.le_of_ble_eq_true rfl)
  rw [lg_entry_eq]
  generalize (lg_sl ([.ref (hG 0)]) ++ List.replicate (1 - (lg_sl ([.ref (hG 0)])).length) Slot.unset).toArray = ls at hl ⊢
  have hl : lv_has ls 1 [(0, .ref (hG 0))] := hl
  refine lv_aload_n hx hb dX3_tellProved_0 rfl (lv_at hl 0 rfl) ?_
  refine va_get (D := (dC, dI)) (ci := 3) (v := .ref (hO 0)) (C := RX3) (T := TX3) (N := 17) hx hb hts iwsMX3_tellProved_in3 hown hK hP 0 rfl rfl 1 (by decide) (hts _ hm_m_X3_tellProved_0) (fun _ h9 => h9) rfl dX3_tellProved_1 ?_
  refine va_get (D := (dC, dI)) (ci := 5) (v := .ref (hw 426)) (C := RX5) (T := TX5) (N := 19) hx hb hts iwsMX3_tellProved_in5 hown hK hP 6 rfl rfl 16 (by decide) (hts (.fieldLink RX3 149 "OptimaWorks$Solver" "top" "LOptimaWorks$Whole;") (by decide +kernel)) (fun _ h9 => h9) rfl dX3_tellProved_4 ?_
  refine lv_aload_n hx hb dX3_tellProved_7 rfl (lv_at hl 0 rfl) ?_
  refine va_get (D := (dC, dI)) (ci := 3) (v := .ref (hw 461)) (C := RX3) (T := TX3) (N := 17) hx hb hts iwsMX3_tellProved_in3 hown hK hP 0 rfl rfl 8 (by decide) (hts (.fieldLink RX3 34 "OptimaWorks$Prover" "proved" "LOptimaWorks$Whole;") (by decide +kernel)) (fun _ h9 => h9) rfl dX3_tellProved_8 ?_
  have p9 := cj_5_4 (WG hG aG kG hM hO hQ hw iG_made iG_keptNeeds fG_kept fG_need fG_turn iG_columns) (WO hO aO kO hM hQ hw iO_answered iO_searched iO_searchedRelaxed iO_counted fO_countedCase gO_goalNumber gO_goalScale fO_start fO_column fO_chosen) (WM hM aM kM iM_stands iM_variables iM_rows iM_goals iM_differents iM_cases fM_from fM_to fM_whole fM_ways iM_plainRows fM_plainRow fM_kept fM_goalOver fM_goalUnder fM_goalMax fM_different) (WQ hQ aQ kQ hw fQ_inside fQ_outside fQ_shut iQ_rows iQ_allRows iQ_columns) (WW nW hw lw kw wl wb wG)
  have hPc := hP.mem (fun q h => p9.mem_iff.mpr (List.mem_append_left _ h))
  have hDc := (hD.perm p9).left
  have hKc : va_K (dC, dI) vwCl (tW kw) _ := hK.sub [29] rfl
  have hFc := freeG p9 hD hS hA
  refine va_callv (va_runV (As := [.ref (hw 461)]) (rest := []) ⟨hx, hb, hml, hown, hts⟩ (m_X8_copy l dC dI nW hw lw kw wl wb wG 426 461 b_wl b_wb (by first | with_reducible assumption | omega | (rw [iI_t (by omega) (by omega)]; omega) | decide | assumption) (by first | with_reducible assumption | omega | (rw [iI_t (by omega) (by omega)]; omega) | decide | assumption) s.heap.size) (cwV 1 hts gwsMX3_tellProved_0 rfl rfl rfl hd_yX8_copy_RX8 (by decide +kernel)) (fz_pre (va_recv hK hP (ci := 8) (q0 := 6 + (11 + (11 + (5 + (426))))) rfl (apR rfl (apR rfl (apR rfl (apR rfl (WW_o (by omega))))))) hPc hKc hDc) rfl rfl hl.1 rfl (lv_room (Nat.le_of_ble_eq_true rfl)) dX3_tellProved_11 (by decide +kernel)) hS (fun q _ h => hFc q h) hFc (fun u t9_ H locs ht hvm hw9 hB9 hz1 hk1 hS => ?_)
  revert u hw9 hB9
  refine fz_p3 ?_
  intro wl_1 wb_1 wG_1 hw9 hB9
  try dsimp only at hw9 hB9
  revert hw9
  refine fz_a2 ?_
  intro b_wl_1 b_wb_1
  have p8 := cj_5_4 (WG hG aG kG hM hO hQ hw iG_made iG_keptNeeds fG_kept fG_need fG_turn iG_columns) (WO hO aO kO hM hQ hw iO_answered iO_searched iO_searchedRelaxed iO_counted fO_countedCase gO_goalNumber gO_goalScale fO_start fO_column fO_chosen) (WM hM aM kM iM_stands iM_variables iM_rows iM_goals iM_differents iM_cases fM_from fM_to fM_whole fM_ways iM_plainRows fM_plainRow fM_kept fM_goalOver fM_goalUnder fM_goalMax fM_different) (WQ hQ aQ kQ hw fQ_inside fQ_outside fQ_shut iQ_rows iQ_allRows iQ_columns) (WW nW hw lw kw wl_1 wb_1 wG_1)
  obtain ⟨hP, hD⟩ := frameG p9 p8 hP hD hk1 hFc (fz_P ht hB9.1) hB9.2
  refine lv_aload_n hx hb dX3_tellProved_14 rfl (lv_at hl 0 rfl) ?_
  refine va_get (D := (dC, dI)) (ci := 3) (v := .ref (hO 0)) (C := RX3) (T := TX3) (N := 17) hx hb hts iwsMX3_tellProved_in3 hown hK hP 0 rfl rfl 1 (by decide) (hts _ hm_m_X3_tellProved_0) (fun _ h9 => h9) rfl dX3_tellProved_15 ?_
  refine va_get (D := (dC, dI)) (ci := 5) (v := .ref (hw 427)) (C := RX5) (T := TX5) (N := 19) hx hb hts iwsMX3_tellProved_in5 hown hK hP 6 rfl rfl 17 (by decide) (hts (.fieldLink RX3 156 "OptimaWorks$Solver" "bottom" "LOptimaWorks$Whole;") (by decide +kernel)) (fun _ h9 => h9) rfl dX3_tellProved_18 ?_
  refine lv_aload_n hx hb dX3_tellProved_21 rfl (lv_at hl 0 rfl) ?_
  refine va_get (D := (dC, dI)) (ci := 3) (v := .ref (hw 462)) (C := RX3) (T := TX3) (N := 17) hx hb hts iwsMX3_tellProved_in3 hown hK hP 0 rfl rfl 9 (by decide) (hts (.fieldLink RX3 37 "OptimaWorks$Prover" "provedUnder" "LOptimaWorks$Whole;") (by decide +kernel)) (fun _ h9 => h9) rfl dX3_tellProved_22 ?_
  have p9 := cj_5_4 (WG hG aG kG hM hO hQ hw iG_made iG_keptNeeds fG_kept fG_need fG_turn iG_columns) (WO hO aO kO hM hQ hw iO_answered iO_searched iO_searchedRelaxed iO_counted fO_countedCase gO_goalNumber gO_goalScale fO_start fO_column fO_chosen) (WM hM aM kM iM_stands iM_variables iM_rows iM_goals iM_differents iM_cases fM_from fM_to fM_whole fM_ways iM_plainRows fM_plainRow fM_kept fM_goalOver fM_goalUnder fM_goalMax fM_different) (WQ hQ aQ kQ hw fQ_inside fQ_outside fQ_shut iQ_rows iQ_allRows iQ_columns) (WW nW hw lw kw wl_1 wb_1 wG_1)
  have hPc := hP.mem (fun q h => p9.mem_iff.mpr (List.mem_append_left _ h))
  have hDc := (hD.perm p9).left
  have hKc : va_K (dC, dI) vwCl (tW kw) _ := hK.sub [29] rfl
  have hFc := freeG p9 hD hS hA
  refine va_callv (va_runV (As := [.ref (hw 462)]) (rest := []) ⟨hx, hb, hml, hown, hts⟩ (m_X8_copy l dC dI nW hw lw kw wl_1 wb_1 wG_1 427 462 b_wl_1 b_wb_1 (by first | with_reducible assumption | omega | (rw [iI_t (by omega) (by omega)]; omega) | decide | assumption) (by first | with_reducible assumption | omega | (rw [iI_t (by omega) (by omega)]; omega) | decide | assumption) H.size) (cwV 1 hts gwsMX3_tellProved_0 rfl rfl rfl hd_yX8_copy_RX8 (by decide +kernel)) (fz_pre (va_recv hK hP (ci := 8) (q0 := 6 + (11 + (11 + (5 + (427))))) rfl (apR rfl (apR rfl (apR rfl (apR rfl (WW_o (by omega))))))) hPc hKc hDc) rfl rfl hl.1 rfl (lv_room (Nat.le_of_ble_eq_true rfl)) dX3_tellProved_25 (by decide +kernel)) hS (fun q _ h => hFc q h) hFc (fun u t9_ H locs ht hvm hw9 hB9 hz1 hk1 hS => ?_)
  revert u hw9 hB9
  refine fz_p3 ?_
  intro wl_2 wb_2 wG_2 hw9 hB9
  try dsimp only at hw9 hB9
  revert hw9
  refine fz_a2 ?_
  intro b_wl_2 b_wb_2
  have p8 := cj_5_4 (WG hG aG kG hM hO hQ hw iG_made iG_keptNeeds fG_kept fG_need fG_turn iG_columns) (WO hO aO kO hM hQ hw iO_answered iO_searched iO_searchedRelaxed iO_counted fO_countedCase gO_goalNumber gO_goalScale fO_start fO_column fO_chosen) (WM hM aM kM iM_stands iM_variables iM_rows iM_goals iM_differents iM_cases fM_from fM_to fM_whole fM_ways iM_plainRows fM_plainRow fM_kept fM_goalOver fM_goalUnder fM_goalMax fM_different) (WQ hQ aQ kQ hw fQ_inside fQ_outside fQ_shut iQ_rows iQ_allRows iQ_columns) (WW nW hw lw kw wl_2 wb_2 wG_2)
  obtain ⟨hP, hD⟩ := frameG p9 p8 hP hD hk1 hFc (fz_P ht hB9.1) hB9.2
  refine W.widen (k := 0) (n := 0) (by decide +kernel) (by decide +kernel) ?_
  exact W.vret hx hb hr (fun t9_ ht hW => ⟨⟨(wl_2, wb_2, wG_2), rfl, ⟨b_wl_2, b_wb_2⟩, by rw [ht]; exact hP, hD⟩, hS.F ht⟩) hS.2.2 dX3_tellProved_28
theorem dX3_tellMultiplier_0 : decode cX3_tellMultiplier 0 = .ok (.aload_n 0, 1) := dk_42 (by decide +kernel)
theorem dX3_tellMultiplier_1 : decode cX3_tellMultiplier 1 = .ok (.getfield 63, 3) := dk_180 (by decide +kernel)
theorem dX3_tellMultiplier_4 : decode cX3_tellMultiplier 4 = .ok (.getfield 149, 3) := dk_180 (by decide +kernel)
theorem dX3_tellMultiplier_7 : decode cX3_tellMultiplier 7 = .ok (.aload_n 0, 1) := dk_42 (by decide +kernel)
theorem dX3_tellMultiplier_8 : decode cX3_tellMultiplier 8 = .ok (.getfield 23, 3) := dk_180 (by decide +kernel)
theorem dX3_tellMultiplier_11 : decode cX3_tellMultiplier 11 = .ok (.iload_n 1, 1) := dk_27 (by decide +kernel)
theorem dX3_tellMultiplier_12 : decode cX3_tellMultiplier 12 = .ok (.aaload, 1) := dk_50 (by decide +kernel)
theorem dX3_tellMultiplier_13 : decode cX3_tellMultiplier 13 = .ok (.invokevirtual 152, 3) := dk_182 (by decide +kernel)
theorem dX3_tellMultiplier_16 : decode cX3_tellMultiplier 16 = .ok (.aload_n 0, 1) := dk_42 (by decide +kernel)
theorem dX3_tellMultiplier_17 : decode cX3_tellMultiplier 17 = .ok (.getfield 63, 3) := dk_180 (by decide +kernel)
theorem dX3_tellMultiplier_20 : decode cX3_tellMultiplier 20 = .ok (.getfield 156, 3) := dk_180 (by decide +kernel)
theorem dX3_tellMultiplier_23 : decode cX3_tellMultiplier 23 = .ok (.aload_n 0, 1) := dk_42 (by decide +kernel)
theorem dX3_tellMultiplier_24 : decode cX3_tellMultiplier 24 = .ok (.getfield 30, 3) := dk_180 (by decide +kernel)
theorem dX3_tellMultiplier_27 : decode cX3_tellMultiplier 27 = .ok (.invokevirtual 152, 3) := dk_182 (by decide +kernel)
theorem dX3_tellMultiplier_30 : decode cX3_tellMultiplier 30 = .ok (.return_, 1) := dk_177 (by decide +kernel)
def wsMX3_tellMultiplier : List Cond := .code yX3_tellMultiplier cX3_tellMultiplier 2 none :: ([.fieldLink RX3 63 "OptimaWorks$Prover" "solver" "LOptimaWorks$Solver;", .fieldLink RX3 149 "OptimaWorks$Solver" "top" "LOptimaWorks$Whole;", .fieldLink RX3 23 "OptimaWorks$Prover" "multiplier" "[LOptimaWorks$Whole;", .fieldLink RX3 156 "OptimaWorks$Solver" "bottom" "LOptimaWorks$Whole;", .fieldLink RX3 30 "OptimaWorks$Prover" "multiplierUnder" "LOptimaWorks$Whole;"] ++ wsX30 ++ wsX50 ++ (wsV RX3 152 RX8 yX8_copy wsMX8_copy))
theorem iwsMX3_tellMultiplier_in3 : ∀ w ∈ wsX30, w ∈ wsMX3_tellMultiplier := fun _ h => List.mem_cons_of_mem _ (List.mem_append_left _ (List.mem_append_left _ (List.mem_append_right _ h)))
theorem iwsMX3_tellMultiplier_in5 : ∀ w ∈ wsX50, w ∈ wsMX3_tellMultiplier := fun _ h => List.mem_cons_of_mem _ (List.mem_append_left _ (List.mem_append_right _ h))
theorem gwsMX3_tellMultiplier_0 : GoodIn wsMX3_tellMultiplier (wsV RX3 152 RX8 yX8_copy wsMX8_copy) := goodIn_sub (fun _ h => List.mem_cons_of_mem _ (List.mem_append_right _ h)) (gdV (by decide +kernel) gdwsMX8_copy)
theorem gdwsMX3_tellMultiplier : wsMX3_tellMultiplier.all goodWord = true := gdC rfl (gdA (gdA (gdA (by decide +kernel : ([.fieldLink RX3 63 "OptimaWorks$Prover" "solver" "LOptimaWorks$Solver;", .fieldLink RX3 149 "OptimaWorks$Solver" "top" "LOptimaWorks$Whole;", .fieldLink RX3 23 "OptimaWorks$Prover" "multiplier" "[LOptimaWorks$Whole;", .fieldLink RX3 156 "OptimaWorks$Solver" "bottom" "LOptimaWorks$Whole;", .fieldLink RX3 30 "OptimaWorks$Prover" "multiplierUnder" "LOptimaWorks$Whole;"] : List Cond).all goodWord = true) gdwsX30) gdwsX50) (gdV (by decide +kernel) gdwsMX8_copy))
theorem hm_m_X3_tellMultiplier_0 : (.fieldLink RX3 63 "OptimaWorks$Prover" "solver" "LOptimaWorks$Solver;" : Cond) ∈ wsMX3_tellMultiplier := by decide +kernel
set_option maxHeartbeats 4000000 in
set_option maxRecDepth 100000 in
/-- a multiplier is told -/
theorem m_X3_tellMultiplier (l : Launch) (dC : Nat → ClassId) (dI : Nat → Nat → Nat) (hG : Nat → Nat) (aG : Nat → Nat) (kG : Nat → ClassId) (hM : Nat → Nat) (hO : Nat → Nat) (hQ : Nat → Nat) (hw : Nat → Nat) (iG_made : Int32) (iG_keptNeeds : Int32) (fG_kept : Nat → Int32) (fG_need : Nat → Int32) (fG_turn : Nat → Int32) (iG_columns : Int32) (aO : Nat → Nat) (kO : Nat → ClassId) (iO_answered : Int32) (iO_searched : Int32) (iO_searchedRelaxed : Int32) (iO_counted : Int32) (fO_countedCase : Nat → Int32) (gO_goalNumber : Nat → Int64) (gO_goalScale : Nat → Int64) (fO_start : Nat → Int32) (fO_column : Nat → Int32) (fO_chosen : Nat → Int32) (aM : Nat → Nat) (kM : Nat → ClassId) (iM_stands : Int32) (iM_variables : Int32) (iM_rows : Int32) (iM_goals : Int32) (iM_differents : Int32) (iM_cases : Int32) (fM_from : Nat → Int32) (fM_to : Nat → Int32) (fM_whole : Nat → Int32) (fM_ways : Nat → Int32) (iM_plainRows : Int32) (fM_plainRow : Nat → Int32) (fM_kept : Nat → Int32) (fM_goalOver : Nat → Int32) (fM_goalUnder : Nat → Int32) (fM_goalMax : Nat → Int32) (fM_different : Nat → Int32) (aQ : Nat → Nat) (kQ : Nat → ClassId) (fQ_inside : Nat → Int32) (fQ_outside : Nat → Int32) (fQ_shut : Nat → Int32) (iQ_rows : Int32) (iQ_allRows : Int32) (iQ_columns : Int32) (nW : Nat) (lw : Nat → Nat) (kw : ClassId) (wl : Nat → Int32) (wb : Nat → Int32) (wG : Nat → Nat → Int64) (p1 : Int32) (b_iG_made : 0 ≤ iG_made.toInt ∧ iG_made.toInt ≤ 1) (b_fG_need : ∀ q : Nat, 0 ≤ (fG_need q).toInt ∧ (fG_need q).toInt ≤ 27) (b_iG_columns : 0 ≤ iG_columns.toInt ∧ iG_columns.toInt ≤ 40) (b_iO_answered : 0 ≤ iO_answered.toInt ∧ iO_answered.toInt ≤ 1) (b_iO_searched : 0 ≤ iO_searched.toInt ∧ iO_searched.toInt ≤ 1) (b_iO_searchedRelaxed : 0 ≤ iO_searchedRelaxed.toInt ∧ iO_searchedRelaxed.toInt ≤ 1) (b_iO_counted : (-1) ≤ iO_counted.toInt ∧ iO_counted.toInt ≤ 64) (b_fO_countedCase : ∀ q : Nat, 0 ≤ (fO_countedCase q).toInt ∧ (fO_countedCase q).toInt ≤ 200000) (b_fO_column : ∀ q : Nat, (-1) ≤ (fO_column q).toInt ∧ (fO_column q).toInt ≤ 8) (b_fO_chosen : ∀ q : Nat, 0 ≤ (fO_chosen q).toInt ∧ (fO_chosen q).toInt ≤ 2) (b_iM_stands : 0 ≤ iM_stands.toInt ∧ iM_stands.toInt ≤ 1) (b_iM_variables : 0 ≤ iM_variables.toInt ∧ iM_variables.toInt ≤ 8) (b_iM_rows : 0 ≤ iM_rows.toInt ∧ iM_rows.toInt ≤ 12) (b_iM_goals : 0 ≤ iM_goals.toInt ∧ iM_goals.toInt ≤ 3) (b_iM_differents : 0 ≤ iM_differents.toInt ∧ iM_differents.toInt ≤ 8) (b_iM_cases : 0 ≤ iM_cases.toInt ∧ iM_cases.toInt ≤ 200000) (b_fM_ways : ∀ q : Nat, 0 ≤ (fM_ways q).toInt ∧ (fM_ways q).toInt ≤ 3) (b_iM_plainRows : 0 ≤ iM_plainRows.toInt ∧ iM_plainRows.toInt ≤ 12) (b_fM_plainRow : ∀ q : Nat, 0 ≤ (fM_plainRow q).toInt ∧ (fM_plainRow q).toInt ≤ 11) (b_pr : iM_plainRows.toInt ≤ iM_rows.toInt) (b_iQ_rows : 0 ≤ iQ_rows.toInt ∧ iQ_rows.toInt ≤ 40) (b_iQ_allRows : 0 ≤ iQ_allRows.toInt ∧ iQ_allRows.toInt ≤ 40) (b_iQ_columns : 0 ≤ iQ_columns.toInt ∧ iQ_columns.toInt ≤ 40) (b_tb : TbO iQ_rows iQ_allRows iQ_columns) (b_wl : ∀ q : Nat, 0 ≤ (wl q).toInt ∧ (wl q).toInt ≤ 14) (b_wb : ∀ q : Nat, 0 ≤ (wb q).toInt ∧ (wb q).toInt ≤ 1) (b_p1 : 0 ≤ p1.toInt ∧ p1.toInt ≤ 27) (hnW : 474 ≤ nW) (sz : Nat) : Met l yX3_tellMultiplier wsMX3_tellMultiplier ({ frames := 2, cells := 0, slots := 0, locals := 39 }) (va_Pc [.ref (hG 0), .int p1] (fun U => U.heap.size = sz ∧ va_P (dC, dI) vwCl (WG hG aG kG hM hO hQ hw iG_made iG_keptNeeds fG_kept fG_need fG_turn iG_columns ++ (WO hO aO kO hM hQ hw iO_answered iO_searched iO_searchedRelaxed iO_counted fO_countedCase gO_goalNumber gO_goalScale fO_start fO_column fO_chosen ++ (WM hM aM kM iM_stands iM_variables iM_rows iM_goals iM_differents iM_cases fM_from fM_to fM_whole fM_ways iM_plainRows fM_plainRow fM_kept fM_goalOver fM_goalUnder fM_goalMax fM_different ++ (WQ hQ aQ kQ hw fQ_inside fQ_outside fQ_shut iQ_rows iQ_allRows iQ_columns ++ (WW nW hw lw kw wl wb wG))))) U.heap ∧ va_K (dC, dI) vwCl (tG kG ++ (tO kO ++ (tM kM ++ (tQ kQ ++ (tW kw))))) U ∧ va_D (fun _ => True) (WG hG aG kG hM hO hQ hw iG_made iG_keptNeeds fG_kept fG_need fG_turn iG_columns ++ (WO hO aO kO hM hQ hw iO_answered iO_searched iO_searchedRelaxed iO_counted fO_countedCase gO_goalNumber gO_goalScale fO_start fO_column fO_chosen ++ (WM hM aM kM iM_stands iM_variables iM_rows iM_goals iM_differents iM_cases fM_from fM_to fM_whole fM_ways iM_plainRows fM_plainRow fM_kept fM_goalOver fM_goalUnder fM_goalMax fM_different ++ (WQ hQ aQ kQ hw fQ_inside fQ_outside fQ_shut iQ_rows iQ_allRows iQ_columns ++ (WW nW hw lw kw wl wb wG))))))) (va_Qv (fun (u : (Nat → Int32) × (Nat → Int32) × (Nat → Nat → Int64)) => (∀ q : Nat, 0 ≤ ((u.1) q).toInt ∧ ((u.1) q).toInt ≤ 14) ∧ (∀ q : Nat, 0 ≤ ((u.2.1) q).toInt ∧ ((u.2.1) q).toInt ≤ 1)) (fun (u : (Nat → Int32) × (Nat → Int32) × (Nat → Nat → Int64)) t => va_P (dC, dI) vwCl (WG hG aG kG hM hO hQ hw iG_made iG_keptNeeds fG_kept fG_need fG_turn iG_columns ++ (WO hO aO kO hM hQ hw iO_answered iO_searched iO_searchedRelaxed iO_counted fO_countedCase gO_goalNumber gO_goalScale fO_start fO_column fO_chosen ++ (WM hM aM kM iM_stands iM_variables iM_rows iM_goals iM_differents iM_cases fM_from fM_to fM_whole fM_ways iM_plainRows fM_plainRow fM_kept fM_goalOver fM_goalUnder fM_goalMax fM_different ++ (WQ hQ aQ kQ hw fQ_inside fQ_outside fQ_shut iQ_rows iQ_allRows iQ_columns ++ (WW nW hw lw kw (u.1) (u.2.1) (u.2.2)))))) t.heap ∧ va_D (va_A (WG hG aG kG hM hO hQ hw iG_made iG_keptNeeds fG_kept fG_need fG_turn iG_columns ++ (WO hO aO kO hM hQ hw iO_answered iO_searched iO_searchedRelaxed iO_counted fO_countedCase gO_goalNumber gO_goalScale fO_start fO_column fO_chosen ++ (WM hM aM kM iM_stands iM_variables iM_rows iM_goals iM_differents iM_cases fM_from fM_to fM_whole fM_ways iM_plainRows fM_plainRow fM_kept fM_goalOver fM_goalUnder fM_goalMax fM_different ++ (WQ hQ aQ kQ hw fQ_inside fQ_outside fQ_shut iQ_rows iQ_allRows iQ_columns ++ (WW nW hw lw kw wl wb wG))))) sz) (WG hG aG kG hM hO hQ hw iG_made iG_keptNeeds fG_kept fG_need fG_turn iG_columns ++ (WO hO aO kO hM hQ hw iO_answered iO_searched iO_searchedRelaxed iO_counted fO_countedCase gO_goalNumber gO_goalScale fO_start fO_column fO_chosen ++ (WM hM aM kM iM_stands iM_variables iM_rows iM_goals iM_differents iM_cases fM_from fM_to fM_whole fM_ways iM_plainRows fM_plainRow fM_kept fM_goalOver fM_goalUnder fM_goalMax fM_different ++ (WQ hQ aQ kQ hw fQ_inside fQ_outside fQ_shut iQ_rows iQ_allRows iQ_columns ++ (WW nW hw lw kw (u.1) (u.2.1) (u.2.2))))))) (va_A (WG hG aG kG hM hO hQ hw iG_made iG_keptNeeds fG_kept fG_need fG_turn iG_columns ++ (WO hO aO kO hM hQ hw iO_answered iO_searched iO_searchedRelaxed iO_counted fO_countedCase gO_goalNumber gO_goalScale fO_start fO_column fO_chosen ++ (WM hM aM kM iM_stands iM_variables iM_rows iM_goals iM_differents iM_cases fM_from fM_to fM_whole fM_ways iM_plainRows fM_plainRow fM_kept fM_goalOver fM_goalUnder fM_goalMax fM_different ++ (WQ hQ aQ kQ hw fQ_inside fQ_outside fQ_shut iQ_rows iQ_allRows iQ_columns ++ (WW nW hw lw kw wl wb wG))))) sz)) 0 0 (va_A (WG hG aG kG hM hO hQ hw iG_made iG_keptNeeds fG_kept fG_need fG_turn iG_columns ++ (WO hO aO kO hM hQ hw iO_answered iO_searched iO_searchedRelaxed iO_counted fO_countedCase gO_goalNumber gO_goalScale fO_start fO_column fO_chosen ++ (WM hM aM kM iM_stands iM_variables iM_rows iM_goals iM_differents iM_cases fM_from fM_to fM_whole fM_ways iM_plainRows fM_plainRow fM_kept fM_goalOver fM_goalUnder fM_goalMax fM_different ++ (WQ hQ aQ kQ hw fQ_inside fQ_outside fQ_shut iQ_rows iQ_allRows iQ_columns ++ (WW nW hw lw kw wl wb wG))))) sz) := by
  refine Met.ofW (cc := cX3_tellMultiplier) (maxL := 2) (ret := none) (by decide) rfl ?_
  intro p e s m args below meth c s₁ B hml hv
  obtain ⟨rfl, hsz, hP, hK, hD0⟩ := hv
  have hx := B.exec
  have hb := B.bytes
  have hr := B.returns
  have hts := atoms_spec (ws := wsMX3_tellMultiplier) B.pre
  have hown : s.vm.findClass RX3 = some m.cls := findClass_of_methodNamed B.named
  have hlocks := B.notSynchronized
  subst hsz
  have hD := hD0.self (sz := s.heap.size)
  generalize hAe : va_A (WG hG aG kG hM hO hQ hw iG_made iG_keptNeeds fG_kept fG_need fG_turn iG_columns ++ (WO hO aO kO hM hQ hw iO_answered iO_searched iO_searchedRelaxed iO_counted fO_countedCase gO_goalNumber gO_goalScale fO_start fO_column fO_chosen ++ (WM hM aM kM iM_stands iM_variables iM_rows iM_goals iM_differents iM_cases fM_from fM_to fM_whole fM_ways iM_plainRows fM_plainRow fM_kept fM_goalOver fM_goalUnder fM_goalMax fM_different ++ (WQ hQ aQ kQ hw fQ_inside fQ_outside fQ_shut iQ_rows iQ_allRows iQ_columns ++ (WW nW hw lw kw wl wb wG))))) s.heap.size = A at hD ⊢
  have hA : ∀ q : Nat, s.heap.size ≤ q → A q := fun q h => by rw [← hAe]; exact Or.inr h
  have hS : va_S A s.heap s.heap [] := va_S.rf
  have hl := lv_entry ([.ref (hG 0), .int p1]) (n := 2) (Nat.le_of_ble_eq_true rfl)
  rw [lg_entry_eq]
  generalize (lg_sl ([.ref (hG 0), .int p1]) ++ List.replicate (2 - (lg_sl ([.ref (hG 0), .int p1])).length) Slot.unset).toArray = ls at hl ⊢
  have hl : lv_has ls 2 [(0, .ref (hG 0)), (1, .int p1)] := hl
  refine lv_aload_n hx hb dX3_tellMultiplier_0 rfl (lv_at hl 0 rfl) ?_
  refine va_get (D := (dC, dI)) (ci := 3) (v := .ref (hO 0)) (C := RX3) (T := TX3) (N := 17) hx hb hts iwsMX3_tellMultiplier_in3 hown hK hP 0 rfl rfl 1 (by decide) (hts _ hm_m_X3_tellMultiplier_0) (fun _ h9 => h9) rfl dX3_tellMultiplier_1 ?_
  refine va_get (D := (dC, dI)) (ci := 5) (v := .ref (hw 426)) (C := RX5) (T := TX5) (N := 19) hx hb hts iwsMX3_tellMultiplier_in5 hown hK hP 6 rfl rfl 16 (by decide) (hts (.fieldLink RX3 149 "OptimaWorks$Solver" "top" "LOptimaWorks$Whole;") (by decide +kernel)) (fun _ h9 => h9) rfl dX3_tellMultiplier_4 ?_
  refine lv_aload_n hx hb dX3_tellMultiplier_7 rfl (lv_at hl 0 rfl) ?_
  refine va_get (D := (dC, dI)) (ci := 3) (v := .ref (aG 1)) (C := RX3) (T := TX3) (N := 17) hx hb hts iwsMX3_tellMultiplier_in3 hown hK hP 0 rfl rfl 6 (by decide) (hts (.fieldLink RX3 23 "OptimaWorks$Prover" "multiplier" "[LOptimaWorks$Whole;") (by decide +kernel)) (fun _ h9 => h9) rfl dX3_tellMultiplier_8 ?_
  refine lv_iload_n hx hb dX3_tellMultiplier_11 rfl (lv_at hl 1 rfl) ?_
  refine va_aldq (cA := kG 1) (n := 28) (f := fun q => some (hw (432 + q))) hx hb hK hP 2 1 rfl rfl (vp_in_iff.mpr ⟨b_p1.1, (Int.lt_of_le_of_lt (b_p1.2) (by decide))⟩) dX3_tellMultiplier_12 ?_
  obtain ⟨k1, hk1, b_k1⟩ : ∃ k9 : Nat, k9 = 432 + (p1).toNatClampNeg ∧ (432 ≤ k9 ∧ k9 < 460 ∧ (k9 : Int) = 432 + p1.toInt) := ⟨_, rfl, ald_k (x := (p1)) (o := 432) (n := 28) rfl (by omega) (by omega)⟩
  refine W.eq (g2 := F0 m 13 ls [.ref (hw k1), .ref (hw 426)]) (by rw [hk1]; rfl) ?_
  clear hk1
  have p9 := cj_5_4 (WG hG aG kG hM hO hQ hw iG_made iG_keptNeeds fG_kept fG_need fG_turn iG_columns) (WO hO aO kO hM hQ hw iO_answered iO_searched iO_searchedRelaxed iO_counted fO_countedCase gO_goalNumber gO_goalScale fO_start fO_column fO_chosen) (WM hM aM kM iM_stands iM_variables iM_rows iM_goals iM_differents iM_cases fM_from fM_to fM_whole fM_ways iM_plainRows fM_plainRow fM_kept fM_goalOver fM_goalUnder fM_goalMax fM_different) (WQ hQ aQ kQ hw fQ_inside fQ_outside fQ_shut iQ_rows iQ_allRows iQ_columns) (WW nW hw lw kw wl wb wG)
  have hPc := hP.mem (fun q h => p9.mem_iff.mpr (List.mem_append_left _ h))
  have hDc := (hD.perm p9).left
  have hKc : va_K (dC, dI) vwCl (tW kw) _ := hK.sub [29] rfl
  have hFc := freeG p9 hD hS hA
  refine va_callv (va_runV (As := [.ref (hw k1)]) (rest := []) ⟨hx, hb, hml, hown, hts⟩ (m_X8_copy l dC dI nW hw lw kw wl wb wG 426 k1 b_wl b_wb (by first | with_reducible assumption | omega | (rw [iI_t (by omega) (by omega)]; omega) | decide | assumption) (by first | with_reducible assumption | omega | (rw [iI_t (by omega) (by omega)]; omega) | decide | assumption) s.heap.size) (cwV 1 hts gwsMX3_tellMultiplier_0 rfl rfl rfl hd_yX8_copy_RX8 (by decide +kernel)) (fz_pre (va_recv hK hP (ci := 8) (q0 := 6 + (11 + (11 + (5 + (426))))) rfl (apR rfl (apR rfl (apR rfl (apR rfl (WW_o (by omega))))))) hPc hKc hDc) rfl rfl hl.1 rfl (lv_room (Nat.le_of_ble_eq_true rfl)) dX3_tellMultiplier_13 (by decide +kernel)) hS (fun q _ h => hFc q h) hFc (fun u t9_ H locs ht hvm hw9 hB9 hz1 hk1 hS => ?_)
  revert u hw9 hB9
  refine fz_p3 ?_
  intro wl_2 wb_2 wG_2 hw9 hB9
  try dsimp only at hw9 hB9
  revert hw9
  refine fz_a2 ?_
  intro b_wl_2 b_wb_2
  have p8 := cj_5_4 (WG hG aG kG hM hO hQ hw iG_made iG_keptNeeds fG_kept fG_need fG_turn iG_columns) (WO hO aO kO hM hQ hw iO_answered iO_searched iO_searchedRelaxed iO_counted fO_countedCase gO_goalNumber gO_goalScale fO_start fO_column fO_chosen) (WM hM aM kM iM_stands iM_variables iM_rows iM_goals iM_differents iM_cases fM_from fM_to fM_whole fM_ways iM_plainRows fM_plainRow fM_kept fM_goalOver fM_goalUnder fM_goalMax fM_different) (WQ hQ aQ kQ hw fQ_inside fQ_outside fQ_shut iQ_rows iQ_allRows iQ_columns) (WW nW hw lw kw wl_2 wb_2 wG_2)
  obtain ⟨hP, hD⟩ := frameG p9 p8 hP hD hk1 hFc (fz_P ht hB9.1) hB9.2
  refine lv_aload_n hx hb dX3_tellMultiplier_16 rfl (lv_at hl 0 rfl) ?_
  refine va_get (D := (dC, dI)) (ci := 3) (v := .ref (hO 0)) (C := RX3) (T := TX3) (N := 17) hx hb hts iwsMX3_tellMultiplier_in3 hown hK hP 0 rfl rfl 1 (by decide) (hts _ hm_m_X3_tellMultiplier_0) (fun _ h9 => h9) rfl dX3_tellMultiplier_17 ?_
  refine va_get (D := (dC, dI)) (ci := 5) (v := .ref (hw 427)) (C := RX5) (T := TX5) (N := 19) hx hb hts iwsMX3_tellMultiplier_in5 hown hK hP 6 rfl rfl 17 (by decide) (hts (.fieldLink RX3 156 "OptimaWorks$Solver" "bottom" "LOptimaWorks$Whole;") (by decide +kernel)) (fun _ h9 => h9) rfl dX3_tellMultiplier_20 ?_
  refine lv_aload_n hx hb dX3_tellMultiplier_23 rfl (lv_at hl 0 rfl) ?_
  refine va_get (D := (dC, dI)) (ci := 3) (v := .ref (hw 460)) (C := RX3) (T := TX3) (N := 17) hx hb hts iwsMX3_tellMultiplier_in3 hown hK hP 0 rfl rfl 7 (by decide) (hts (.fieldLink RX3 30 "OptimaWorks$Prover" "multiplierUnder" "LOptimaWorks$Whole;") (by decide +kernel)) (fun _ h9 => h9) rfl dX3_tellMultiplier_24 ?_
  have p9 := cj_5_4 (WG hG aG kG hM hO hQ hw iG_made iG_keptNeeds fG_kept fG_need fG_turn iG_columns) (WO hO aO kO hM hQ hw iO_answered iO_searched iO_searchedRelaxed iO_counted fO_countedCase gO_goalNumber gO_goalScale fO_start fO_column fO_chosen) (WM hM aM kM iM_stands iM_variables iM_rows iM_goals iM_differents iM_cases fM_from fM_to fM_whole fM_ways iM_plainRows fM_plainRow fM_kept fM_goalOver fM_goalUnder fM_goalMax fM_different) (WQ hQ aQ kQ hw fQ_inside fQ_outside fQ_shut iQ_rows iQ_allRows iQ_columns) (WW nW hw lw kw wl_2 wb_2 wG_2)
  have hPc := hP.mem (fun q h => p9.mem_iff.mpr (List.mem_append_left _ h))
  have hDc := (hD.perm p9).left
  have hKc : va_K (dC, dI) vwCl (tW kw) _ := hK.sub [29] rfl
  have hFc := freeG p9 hD hS hA
  refine va_callv (va_runV (As := [.ref (hw 460)]) (rest := []) ⟨hx, hb, hml, hown, hts⟩ (m_X8_copy l dC dI nW hw lw kw wl_2 wb_2 wG_2 427 460 b_wl_2 b_wb_2 (by first | with_reducible assumption | omega | (rw [iI_t (by omega) (by omega)]; omega) | decide | assumption) (by first | with_reducible assumption | omega | (rw [iI_t (by omega) (by omega)]; omega) | decide | assumption) H.size) (cwV 1 hts gwsMX3_tellMultiplier_0 rfl rfl rfl hd_yX8_copy_RX8 (by decide +kernel)) (fz_pre (va_recv hK hP (ci := 8) (q0 := 6 + (11 + (11 + (5 + (427))))) rfl (apR rfl (apR rfl (apR rfl (apR rfl (WW_o (by omega))))))) hPc hKc hDc) rfl rfl hl.1 rfl (lv_room (Nat.le_of_ble_eq_true rfl)) dX3_tellMultiplier_27 (by decide +kernel)) hS (fun q _ h => hFc q h) hFc (fun u t9_ H locs ht hvm hw9 hB9 hz1 hk1 hS => ?_)
  revert u hw9 hB9
  refine fz_p3 ?_
  intro wl_3 wb_3 wG_3 hw9 hB9
  try dsimp only at hw9 hB9
  revert hw9
  refine fz_a2 ?_
  intro b_wl_3 b_wb_3
  have p8 := cj_5_4 (WG hG aG kG hM hO hQ hw iG_made iG_keptNeeds fG_kept fG_need fG_turn iG_columns) (WO hO aO kO hM hQ hw iO_answered iO_searched iO_searchedRelaxed iO_counted fO_countedCase gO_goalNumber gO_goalScale fO_start fO_column fO_chosen) (WM hM aM kM iM_stands iM_variables iM_rows iM_goals iM_differents iM_cases fM_from fM_to fM_whole fM_ways iM_plainRows fM_plainRow fM_kept fM_goalOver fM_goalUnder fM_goalMax fM_different) (WQ hQ aQ kQ hw fQ_inside fQ_outside fQ_shut iQ_rows iQ_allRows iQ_columns) (WW nW hw lw kw wl_3 wb_3 wG_3)
  obtain ⟨hP, hD⟩ := frameG p9 p8 hP hD hk1 hFc (fz_P ht hB9.1) hB9.2
  refine W.widen (k := 0) (n := 0) (by decide +kernel) (by decide +kernel) ?_
  exact W.vret hx hb hr (fun t9_ ht hW => ⟨⟨(wl_3, wb_3, wG_3), rfl, ⟨b_wl_3, b_wb_3⟩, by rw [ht]; exact hP, hD⟩, hS.F ht⟩) hS.2.2 dX3_tellMultiplier_30
end
section
theorem hd_yX1_isEvenNeed_RX1 : yX1_isEvenNeed.cls = RX1 ∧ yX1_isEvenNeed.cls ≠ "java/lang/invoke/MethodHandle" ∧ yX1_isEvenNeed.cls ≠ "java/lang/invoke/VarHandle" ∧ (parseMethodDescriptor yX1_isEvenNeed.desc).map (fun d => d.parameters.length) = some 1 := by decide +kernel
theorem hd_yX3_isTight_RX3 : yX3_isTight.cls = RX3 ∧ yX3_isTight.cls ≠ "java/lang/invoke/MethodHandle" ∧ yX3_isTight.cls ≠ "java/lang/invoke/VarHandle" ∧ (parseMethodDescriptor yX3_isTight.desc).map (fun d => d.parameters.length) = some 3 := by decide +kernel
theorem dX3_chooseColumns_0 : decode cX3_chooseColumns 0 = .ok (.aload_n 0, 1) := dk_42 (by decide +kernel)
theorem dX3_chooseColumns_1 : decode cX3_chooseColumns 1 = .ok (.iconst 0, 1) := dk_3 (by decide +kernel)
theorem dX3_chooseColumns_2 : decode cX3_chooseColumns 2 = .ok (.putfield 222, 3) := dk_181 (by decide +kernel)
theorem dX3_chooseColumns_5 : decode cX3_chooseColumns 5 = .ok (.iconst 0, 1) := dk_3 (by decide +kernel)
theorem dX3_chooseColumns_6 : decode cX3_chooseColumns 6 = .ok (.istore_n 2, 1) := dk_61 (by decide +kernel)
theorem dX3_chooseColumns_7 : decode cX3_chooseColumns 7 = .ok (.iload_n 2, 1) := dk_28 (by decide +kernel)
theorem dX3_chooseColumns_8 : decode cX3_chooseColumns 8 = .ok (.aload_n 0, 1) := dk_42 (by decide +kernel)
theorem dX3_chooseColumns_9 : decode cX3_chooseColumns 9 = .ok (.getfield 59, 3) := dk_180 (by decide +kernel)
theorem dX3_chooseColumns_12 : decode cX3_chooseColumns 12 = .ok (.invokevirtual 113, 3) := dk_182 (by decide +kernel)
theorem dX3_chooseColumns_15 : decode cX3_chooseColumns 15 = .ok (.if_icmp .ge 86, 3) := dk_162 (by decide +kernel)
theorem dX3_chooseColumns_18 : decode cX3_chooseColumns 18 = .ok (.iconst 1, 1) := dk_4 (by decide +kernel)
theorem dX3_chooseColumns_19 : decode cX3_chooseColumns 19 = .ok (.istore_n 3, 1) := dk_62 (by decide +kernel)
theorem dX3_chooseColumns_20 : decode cX3_chooseColumns 20 = .ok (.iload_n 3, 1) := dk_29 (by decide +kernel)
theorem dX3_chooseColumns_21 : decode cX3_chooseColumns 21 = .ok (.aload_n 0, 1) := dk_42 (by decide +kernel)
theorem dX3_chooseColumns_22 : decode cX3_chooseColumns 22 = .ok (.getfield 59, 3) := dk_180 (by decide +kernel)
theorem dX3_chooseColumns_25 : decode cX3_chooseColumns 25 = .ok (.iload_n 2, 1) := dk_28 (by decide +kernel)
theorem dX3_chooseColumns_26 : decode cX3_chooseColumns 26 = .ok (.invokevirtual 179, 3) := dk_182 (by decide +kernel)
theorem dX3_chooseColumns_29 : decode cX3_chooseColumns 29 = .ok (.ifCond .eq 7, 3) := dk_153 (by decide +kernel)
theorem dX3_chooseColumns_32 : decode cX3_chooseColumns 32 = .ok (.iconst (-1), 1) := dk_2 (by decide +kernel)
theorem dX3_chooseColumns_33 : decode cX3_chooseColumns 33 = .ok (.goto 4, 3) := dk_167 (by decide +kernel)
theorem dX3_chooseColumns_36 : decode cX3_chooseColumns 36 = .ok (.iconst 1, 1) := dk_4 (by decide +kernel)
theorem dX3_chooseColumns_37 : decode cX3_chooseColumns 37 = .ok (.if_icmp .lt 58, 3) := dk_161 (by decide +kernel)
theorem dX3_chooseColumns_40 : decode cX3_chooseColumns 40 = .ok (.aload_n 0, 1) := dk_42 (by decide +kernel)
theorem dX3_chooseColumns_41 : decode cX3_chooseColumns 41 = .ok (.getfield 222, 3) := dk_180 (by decide +kernel)
theorem dX3_chooseColumns_44 : decode cX3_chooseColumns 44 = .ok (.bipush 40, 2) := dk_16 (by decide +kernel)
theorem dX3_chooseColumns_46 : decode cX3_chooseColumns 46 = .ok (.if_icmp .ge 43, 3) := dk_162 (by decide +kernel)
theorem dX3_chooseColumns_49 : decode cX3_chooseColumns 49 = .ok (.aload_n 0, 1) := dk_42 (by decide +kernel)
theorem dX3_chooseColumns_50 : decode cX3_chooseColumns 50 = .ok (.iload_n 2, 1) := dk_28 (by decide +kernel)
theorem dX3_chooseColumns_51 : decode cX3_chooseColumns 51 = .ok (.iload_n 3, 1) := dk_29 (by decide +kernel)
theorem dX3_chooseColumns_52 : decode cX3_chooseColumns 52 = .ok (.iload_n 1, 1) := dk_27 (by decide +kernel)
theorem dX3_chooseColumns_53 : decode cX3_chooseColumns 53 = .ok (.invokevirtual 225, 3) := dk_182 (by decide +kernel)
theorem dX3_chooseColumns_56 : decode cX3_chooseColumns 56 = .ok (.ifCond .eq 33, 3) := dk_153 (by decide +kernel)
theorem dX3_chooseColumns_59 : decode cX3_chooseColumns 59 = .ok (.aload_n 0, 1) := dk_42 (by decide +kernel)
theorem dX3_chooseColumns_60 : decode cX3_chooseColumns 60 = .ok (.getfield 52, 3) := dk_180 (by decide +kernel)
theorem dX3_chooseColumns_63 : decode cX3_chooseColumns 63 = .ok (.aload_n 0, 1) := dk_42 (by decide +kernel)
theorem dX3_chooseColumns_64 : decode cX3_chooseColumns 64 = .ok (.getfield 222, 3) := dk_180 (by decide +kernel)
theorem dX3_chooseColumns_67 : decode cX3_chooseColumns 67 = .ok (.iload_n 2, 1) := dk_28 (by decide +kernel)
theorem dX3_chooseColumns_68 : decode cX3_chooseColumns 68 = .ok (.iastore, 1) := dk_79 (by decide +kernel)
theorem dX3_chooseColumns_69 : decode cX3_chooseColumns 69 = .ok (.aload_n 0, 1) := dk_42 (by decide +kernel)
theorem dX3_chooseColumns_70 : decode cX3_chooseColumns 70 = .ok (.getfield 56, 3) := dk_180 (by decide +kernel)
theorem dX3_chooseColumns_73 : decode cX3_chooseColumns 73 = .ok (.aload_n 0, 1) := dk_42 (by decide +kernel)
theorem dX3_chooseColumns_74 : decode cX3_chooseColumns 74 = .ok (.getfield 222, 3) := dk_180 (by decide +kernel)
theorem dX3_chooseColumns_77 : decode cX3_chooseColumns 77 = .ok (.iload_n 3, 1) := dk_29 (by decide +kernel)
theorem dX3_chooseColumns_78 : decode cX3_chooseColumns 78 = .ok (.iastore, 1) := dk_79 (by decide +kernel)
theorem dX3_chooseColumns_79 : decode cX3_chooseColumns 79 = .ok (.aload_n 0, 1) := dk_42 (by decide +kernel)
theorem dX3_chooseColumns_80 : decode cX3_chooseColumns 80 = .ok (.dup, 1) := dk_89 (by decide +kernel)
theorem dX3_chooseColumns_81 : decode cX3_chooseColumns 81 = .ok (.getfield 222, 3) := dk_180 (by decide +kernel)
theorem dX3_chooseColumns_84 : decode cX3_chooseColumns 84 = .ok (.iconst 1, 1) := dk_4 (by decide +kernel)
theorem dX3_chooseColumns_85 : decode cX3_chooseColumns 85 = .ok (.iadd, 1) := dk_96 (by decide +kernel)
theorem dX3_chooseColumns_86 : decode cX3_chooseColumns 86 = .ok (.putfield 222, 3) := dk_181 (by decide +kernel)
theorem dX3_chooseColumns_89 : decode cX3_chooseColumns 89 = .ok (.iinc 3 (-2), 3) := dk_132 (by decide +kernel)
theorem dX3_chooseColumns_92 : decode cX3_chooseColumns 92 = .ok (.goto (-72), 3) := dk_167 (by decide +kernel)
theorem dX3_chooseColumns_95 : decode cX3_chooseColumns 95 = .ok (.iinc 2 1, 3) := dk_132 (by decide +kernel)
theorem dX3_chooseColumns_98 : decode cX3_chooseColumns 98 = .ok (.goto (-91), 3) := dk_167 (by decide +kernel)
theorem dX3_chooseColumns_101 : decode cX3_chooseColumns 101 = .ok (.return_, 1) := dk_177 (by decide +kernel)
def wsMX3_chooseColumns : List Cond := .code yX3_chooseColumns cX3_chooseColumns 4 none :: ([.fieldLink RX3 222 "OptimaWorks$Prover" "columns" "I", .fieldLink RX3 59 "OptimaWorks$Prover" "model" "LOptimaWorks$Model;", .fieldLink RX3 52 "OptimaWorks$Prover" "need" "[I", .fieldLink RX3 56 "OptimaWorks$Prover" "turn" "[I"] ++ wsX30 ++ (wsV RX3 113 RX1 yX1_needs wsMX1_needs) ++ (wsV RX3 179 RX1 yX1_isEvenNeed wsMX1_isEvenNeed) ++ (wsV RX3 225 RX3 yX3_isTight wsMX3_isTight))
theorem iwsMX3_chooseColumns_in3 : ∀ w ∈ wsX30, w ∈ wsMX3_chooseColumns := fun _ h => List.mem_cons_of_mem _ (List.mem_append_left _ (List.mem_append_left _ (List.mem_append_left _ (List.mem_append_right _ h))))
theorem gwsMX3_chooseColumns_0 : GoodIn wsMX3_chooseColumns (wsV RX3 113 RX1 yX1_needs wsMX1_needs) := goodIn_sub (fun _ h => List.mem_cons_of_mem _ (List.mem_append_left _ (List.mem_append_left _ (List.mem_append_right _ h)))) (gdV (by decide +kernel) gdwsMX1_needs)
theorem gwsMX3_chooseColumns_1 : GoodIn wsMX3_chooseColumns (wsV RX3 179 RX1 yX1_isEvenNeed wsMX1_isEvenNeed) := goodIn_sub (fun _ h => List.mem_cons_of_mem _ (List.mem_append_left _ (List.mem_append_right _ h))) (gdV (by decide +kernel) gdwsMX1_isEvenNeed)
theorem gwsMX3_chooseColumns_2 : GoodIn wsMX3_chooseColumns (wsV RX3 225 RX3 yX3_isTight wsMX3_isTight) := goodIn_sub (fun _ h => List.mem_cons_of_mem _ (List.mem_append_right _ h)) (gdV (by decide +kernel) gdwsMX3_isTight)
theorem gdwsMX3_chooseColumns : wsMX3_chooseColumns.all goodWord = true := gdC rfl (gdA (gdA (gdA (gdA (by decide +kernel : ([.fieldLink RX3 222 "OptimaWorks$Prover" "columns" "I", .fieldLink RX3 59 "OptimaWorks$Prover" "model" "LOptimaWorks$Model;", .fieldLink RX3 52 "OptimaWorks$Prover" "need" "[I", .fieldLink RX3 56 "OptimaWorks$Prover" "turn" "[I"] : List Cond).all goodWord = true) gdwsX30) (gdV (by decide +kernel) gdwsMX1_needs)) (gdV (by decide +kernel) gdwsMX1_isEvenNeed)) (gdV (by decide +kernel) gdwsMX3_isTight))
theorem hm_m_X3_chooseColumns_0 : (.fieldLink RX3 222 "OptimaWorks$Prover" "columns" "I" : Cond) ∈ wsMX3_chooseColumns := by decide +kernel
theorem hm_m_X3_chooseColumns_1 : (.fieldLink RX3 59 "OptimaWorks$Prover" "model" "LOptimaWorks$Model;" : Cond) ∈ wsMX3_chooseColumns := by decide +kernel
set_option maxHeartbeats 4000000 in
set_option maxRecDepth 100000 in
/-- the columns are chosen -/
theorem m_X3_chooseColumns (l : Launch) (dC : Nat → ClassId) (dI : Nat → Nat → Nat) (hG : Nat → Nat) (aG : Nat → Nat) (kG : Nat → ClassId) (hM : Nat → Nat) (hO : Nat → Nat) (hQ : Nat → Nat) (hw : Nat → Nat) (iG_made : Int32) (iG_keptNeeds : Int32) (fG_kept : Nat → Int32) (fG_need : Nat → Int32) (fG_turn : Nat → Int32) (iG_columns : Int32) (aO : Nat → Nat) (kO : Nat → ClassId) (iO_answered : Int32) (iO_searched : Int32) (iO_searchedRelaxed : Int32) (iO_counted : Int32) (fO_countedCase : Nat → Int32) (gO_goalNumber : Nat → Int64) (gO_goalScale : Nat → Int64) (fO_start : Nat → Int32) (fO_column : Nat → Int32) (fO_chosen : Nat → Int32) (aM : Nat → Nat) (kM : Nat → ClassId) (iM_stands : Int32) (iM_variables : Int32) (iM_rows : Int32) (iM_goals : Int32) (iM_differents : Int32) (iM_cases : Int32) (fM_from : Nat → Int32) (fM_to : Nat → Int32) (fM_whole : Nat → Int32) (fM_ways : Nat → Int32) (iM_plainRows : Int32) (fM_plainRow : Nat → Int32) (fM_kept : Nat → Int32) (fM_goalOver : Nat → Int32) (fM_goalUnder : Nat → Int32) (fM_goalMax : Nat → Int32) (fM_different : Nat → Int32) (aQ : Nat → Nat) (kQ : Nat → ClassId) (fQ_inside : Nat → Int32) (fQ_outside : Nat → Int32) (fQ_shut : Nat → Int32) (iQ_rows : Int32) (iQ_allRows : Int32) (iQ_columns : Int32) (nW : Nat) (lw : Nat → Nat) (kw : ClassId) (wl : Nat → Int32) (wb : Nat → Int32) (wG : Nat → Nat → Int64) (p1 : Int32) (b_iG_made : 0 ≤ iG_made.toInt ∧ iG_made.toInt ≤ 1) (b_fG_need : ∀ q : Nat, 0 ≤ (fG_need q).toInt ∧ (fG_need q).toInt ≤ 27) (b_iG_columns : 0 ≤ iG_columns.toInt ∧ iG_columns.toInt ≤ 40) (b_iO_answered : 0 ≤ iO_answered.toInt ∧ iO_answered.toInt ≤ 1) (b_iO_searched : 0 ≤ iO_searched.toInt ∧ iO_searched.toInt ≤ 1) (b_iO_searchedRelaxed : 0 ≤ iO_searchedRelaxed.toInt ∧ iO_searchedRelaxed.toInt ≤ 1) (b_iO_counted : (-1) ≤ iO_counted.toInt ∧ iO_counted.toInt ≤ 64) (b_fO_countedCase : ∀ q : Nat, 0 ≤ (fO_countedCase q).toInt ∧ (fO_countedCase q).toInt ≤ 200000) (b_fO_column : ∀ q : Nat, (-1) ≤ (fO_column q).toInt ∧ (fO_column q).toInt ≤ 8) (b_fO_chosen : ∀ q : Nat, 0 ≤ (fO_chosen q).toInt ∧ (fO_chosen q).toInt ≤ 2) (b_iM_stands : 0 ≤ iM_stands.toInt ∧ iM_stands.toInt ≤ 1) (b_iM_variables : 0 ≤ iM_variables.toInt ∧ iM_variables.toInt ≤ 8) (b_iM_rows : 0 ≤ iM_rows.toInt ∧ iM_rows.toInt ≤ 12) (b_iM_goals : 0 ≤ iM_goals.toInt ∧ iM_goals.toInt ≤ 3) (b_iM_differents : 0 ≤ iM_differents.toInt ∧ iM_differents.toInt ≤ 8) (b_iM_cases : 0 ≤ iM_cases.toInt ∧ iM_cases.toInt ≤ 200000) (b_fM_ways : ∀ q : Nat, 0 ≤ (fM_ways q).toInt ∧ (fM_ways q).toInt ≤ 3) (b_iM_plainRows : 0 ≤ iM_plainRows.toInt ∧ iM_plainRows.toInt ≤ 12) (b_fM_plainRow : ∀ q : Nat, 0 ≤ (fM_plainRow q).toInt ∧ (fM_plainRow q).toInt ≤ 11) (b_pr : iM_plainRows.toInt ≤ iM_rows.toInt) (b_iQ_rows : 0 ≤ iQ_rows.toInt ∧ iQ_rows.toInt ≤ 40) (b_iQ_allRows : 0 ≤ iQ_allRows.toInt ∧ iQ_allRows.toInt ≤ 40) (b_iQ_columns : 0 ≤ iQ_columns.toInt ∧ iQ_columns.toInt ≤ 40) (b_tb : TbO iQ_rows iQ_allRows iQ_columns) (b_wl : ∀ q : Nat, 0 ≤ (wl q).toInt ∧ (wl q).toInt ≤ 14) (b_wb : ∀ q : Nat, 0 ≤ (wb q).toInt ∧ (wb q).toInt ≤ 1) (hnW : 474 ≤ nW) (sz : Nat) : Met l yX3_chooseColumns wsMX3_chooseColumns ({ frames := 5, cells := 0, slots := 0, locals := 109 }) (va_Pc [.ref (hG 0), .int p1] (fun U => U.heap.size = sz ∧ va_P (dC, dI) vwCl (WG hG aG kG hM hO hQ hw iG_made iG_keptNeeds fG_kept fG_need fG_turn iG_columns ++ (WO hO aO kO hM hQ hw iO_answered iO_searched iO_searchedRelaxed iO_counted fO_countedCase gO_goalNumber gO_goalScale fO_start fO_column fO_chosen ++ (WM hM aM kM iM_stands iM_variables iM_rows iM_goals iM_differents iM_cases fM_from fM_to fM_whole fM_ways iM_plainRows fM_plainRow fM_kept fM_goalOver fM_goalUnder fM_goalMax fM_different ++ (WQ hQ aQ kQ hw fQ_inside fQ_outside fQ_shut iQ_rows iQ_allRows iQ_columns ++ (WW nW hw lw kw wl wb wG))))) U.heap ∧ va_K (dC, dI) vwCl (tG kG ++ (tO kO ++ (tM kM ++ (tQ kQ ++ (tW kw))))) U ∧ va_D (fun _ => True) (WG hG aG kG hM hO hQ hw iG_made iG_keptNeeds fG_kept fG_need fG_turn iG_columns ++ (WO hO aO kO hM hQ hw iO_answered iO_searched iO_searchedRelaxed iO_counted fO_countedCase gO_goalNumber gO_goalScale fO_start fO_column fO_chosen ++ (WM hM aM kM iM_stands iM_variables iM_rows iM_goals iM_differents iM_cases fM_from fM_to fM_whole fM_ways iM_plainRows fM_plainRow fM_kept fM_goalOver fM_goalUnder fM_goalMax fM_different ++ (WQ hQ aQ kQ hw fQ_inside fQ_outside fQ_shut iQ_rows iQ_allRows iQ_columns ++ (WW nW hw lw kw wl wb wG))))))) (va_Qv (fun (u : (Nat → Int32) × (Nat → Int32) × (Int32) × (Nat → Int32) × (Nat → Int32) × (Nat → Nat → Int64)) => (∀ q : Nat, 0 ≤ ((u.1) q).toInt ∧ ((u.1) q).toInt ≤ 27) ∧ (0 ≤ (u.2.2.1).toInt ∧ (u.2.2.1).toInt ≤ 40) ∧ (∀ q : Nat, 0 ≤ ((u.2.2.2.1) q).toInt ∧ ((u.2.2.2.1) q).toInt ≤ 14) ∧ (∀ q : Nat, 0 ≤ ((u.2.2.2.2.1) q).toInt ∧ ((u.2.2.2.2.1) q).toInt ≤ 1) ∧ (NdOc (u.1) (u.2.2.1).toInt (iM_plainRows.toInt + 2 * iM_variables.toInt))) (fun (u : (Nat → Int32) × (Nat → Int32) × (Int32) × (Nat → Int32) × (Nat → Int32) × (Nat → Nat → Int64)) t => va_P (dC, dI) vwCl (WG hG aG kG hM hO hQ hw iG_made iG_keptNeeds fG_kept (u.1) (u.2.1) (u.2.2.1) ++ (WO hO aO kO hM hQ hw iO_answered iO_searched iO_searchedRelaxed iO_counted fO_countedCase gO_goalNumber gO_goalScale fO_start fO_column fO_chosen ++ (WM hM aM kM iM_stands iM_variables iM_rows iM_goals iM_differents iM_cases fM_from fM_to fM_whole fM_ways iM_plainRows fM_plainRow fM_kept fM_goalOver fM_goalUnder fM_goalMax fM_different ++ (WQ hQ aQ kQ hw fQ_inside fQ_outside fQ_shut iQ_rows iQ_allRows iQ_columns ++ (WW nW hw lw kw (u.2.2.2.1) (u.2.2.2.2.1) (u.2.2.2.2.2)))))) t.heap ∧ va_D (va_A (WG hG aG kG hM hO hQ hw iG_made iG_keptNeeds fG_kept fG_need fG_turn iG_columns ++ (WO hO aO kO hM hQ hw iO_answered iO_searched iO_searchedRelaxed iO_counted fO_countedCase gO_goalNumber gO_goalScale fO_start fO_column fO_chosen ++ (WM hM aM kM iM_stands iM_variables iM_rows iM_goals iM_differents iM_cases fM_from fM_to fM_whole fM_ways iM_plainRows fM_plainRow fM_kept fM_goalOver fM_goalUnder fM_goalMax fM_different ++ (WQ hQ aQ kQ hw fQ_inside fQ_outside fQ_shut iQ_rows iQ_allRows iQ_columns ++ (WW nW hw lw kw wl wb wG))))) sz) (WG hG aG kG hM hO hQ hw iG_made iG_keptNeeds fG_kept (u.1) (u.2.1) (u.2.2.1) ++ (WO hO aO kO hM hQ hw iO_answered iO_searched iO_searchedRelaxed iO_counted fO_countedCase gO_goalNumber gO_goalScale fO_start fO_column fO_chosen ++ (WM hM aM kM iM_stands iM_variables iM_rows iM_goals iM_differents iM_cases fM_from fM_to fM_whole fM_ways iM_plainRows fM_plainRow fM_kept fM_goalOver fM_goalUnder fM_goalMax fM_different ++ (WQ hQ aQ kQ hw fQ_inside fQ_outside fQ_shut iQ_rows iQ_allRows iQ_columns ++ (WW nW hw lw kw (u.2.2.2.1) (u.2.2.2.2.1) (u.2.2.2.2.2))))))) (va_A (WG hG aG kG hM hO hQ hw iG_made iG_keptNeeds fG_kept fG_need fG_turn iG_columns ++ (WO hO aO kO hM hQ hw iO_answered iO_searched iO_searchedRelaxed iO_counted fO_countedCase gO_goalNumber gO_goalScale fO_start fO_column fO_chosen ++ (WM hM aM kM iM_stands iM_variables iM_rows iM_goals iM_differents iM_cases fM_from fM_to fM_whole fM_ways iM_plainRows fM_plainRow fM_kept fM_goalOver fM_goalUnder fM_goalMax fM_different ++ (WQ hQ aQ kQ hw fQ_inside fQ_outside fQ_shut iQ_rows iQ_allRows iQ_columns ++ (WW nW hw lw kw wl wb wG))))) sz)) 0 0 (va_A (WG hG aG kG hM hO hQ hw iG_made iG_keptNeeds fG_kept fG_need fG_turn iG_columns ++ (WO hO aO kO hM hQ hw iO_answered iO_searched iO_searchedRelaxed iO_counted fO_countedCase gO_goalNumber gO_goalScale fO_start fO_column fO_chosen ++ (WM hM aM kM iM_stands iM_variables iM_rows iM_goals iM_differents iM_cases fM_from fM_to fM_whole fM_ways iM_plainRows fM_plainRow fM_kept fM_goalOver fM_goalUnder fM_goalMax fM_different ++ (WQ hQ aQ kQ hw fQ_inside fQ_outside fQ_shut iQ_rows iQ_allRows iQ_columns ++ (WW nW hw lw kw wl wb wG))))) sz) := by
  refine Met.ofW (cc := cX3_chooseColumns) (maxL := 4) (ret := none) (by decide) rfl ?_
  intro p e s m args below meth c s₁ B hml hv
  obtain ⟨rfl, hsz, hP, hK, hD0⟩ := hv
  have hx := B.exec
  have hb := B.bytes
  have hr := B.returns
  have hts := atoms_spec (ws := wsMX3_chooseColumns) B.pre
  have hown : s.vm.findClass RX3 = some m.cls := findClass_of_methodNamed B.named
  have hlocks := B.notSynchronized
  subst hsz
  have hD := hD0.self (sz := s.heap.size)
  generalize hAe : va_A (WG hG aG kG hM hO hQ hw iG_made iG_keptNeeds fG_kept fG_need fG_turn iG_columns ++ (WO hO aO kO hM hQ hw iO_answered iO_searched iO_searchedRelaxed iO_counted fO_countedCase gO_goalNumber gO_goalScale fO_start fO_column fO_chosen ++ (WM hM aM kM iM_stands iM_variables iM_rows iM_goals iM_differents iM_cases fM_from fM_to fM_whole fM_ways iM_plainRows fM_plainRow fM_kept fM_goalOver fM_goalUnder fM_goalMax fM_different ++ (WQ hQ aQ kQ hw fQ_inside fQ_outside fQ_shut iQ_rows iQ_allRows iQ_columns ++ (WW nW hw lw kw wl wb wG))))) s.heap.size = A at hD ⊢
  have hA : ∀ q : Nat, s.heap.size ≤ q → A q := fun q h => by rw [← hAe]; exact Or.inr h
  have hS : va_S A s.heap s.heap [] := va_S.rf
  have hl := lv_entry ([.ref (hG 0), .int p1]) (n := 4) (Nat.le_of_ble_eq_true rfl)
  rw [lg_entry_eq]
  generalize (lg_sl ([.ref (hG 0), .int p1]) ++ List.replicate (4 - (lg_sl ([.ref (hG 0), .int p1])).length) Slot.unset).toArray = ls at hl ⊢
  have hl : lv_has ls 4 [(0, .ref (hG 0)), (1, .int p1)] := hl
  refine lv_aload_n hx hb dX3_chooseColumns_0 rfl (lv_at hl 0 rfl) ?_
  refine lv_iconst (v := 0) hx hb dX3_chooseColumns_1 (by decide) ?_
  refine va_put (D := (dC, dI)) (ci := 3) (v := .int 0) (ty := .int) (C := RX3) (T := TX3) (N := 17) hx hb hts iwsMX3_chooseColumns_in3 tyX3 tyX3_ok nmX3 hown hK hP hD hS 0 rfl rfl 16 (by decide) (hts _ hm_m_X3_chooseColumns_0) (fun _ h9 => h9) rfl (by decide +kernel) rfl rfl (Nat.le_of_ble_eq_true rfl) dX3_chooseColumns_2 (fun H locs hP hD hS => ?_)
  have hP : va_P (dC, dI) vwCl (WG hG aG kG hM hO hQ hw iG_made iG_keptNeeds fG_kept fG_need fG_turn 0 ++ (WO hO aO kO hM hQ hw iO_answered iO_searched iO_searchedRelaxed iO_counted fO_countedCase gO_goalNumber gO_goalScale fO_start fO_column fO_chosen ++ (WM hM aM kM iM_stands iM_variables iM_rows iM_goals iM_differents iM_cases fM_from fM_to fM_whole fM_ways iM_plainRows fM_plainRow fM_kept fM_goalOver fM_goalUnder fM_goalMax fM_different ++ (WQ hQ aQ kQ hw fQ_inside fQ_outside fQ_shut iQ_rows iQ_allRows iQ_columns ++ (WW nW hw lw kw wl wb wG))))) H := hP
  have hD := fz_sd hP (hD) rfl
  refine lv_iconst (v := 0) hx hb dX3_chooseColumns_5 (by decide) ?_
  refine lv_istore_n hx hb dX3_chooseColumns_6 rfl hl (by decide) rfl (fun ls (hl : lv_has ls _ ([(2, .int 0), (0, .ref (hG 0)), (1, .int p1)])) => ?_)
  have hl : lv_has _ _ ([(2, .int 0), (0, .ref (hG 0)), (1, .int p1)]) := lv_sub hl [0, 1, 2] rfl
  refine (fun (loop : ∀ (n9 : Nat) (fG_need_x7 : Nat → Int32) (fG_turn_x7 : Nat → Int32) (iG_columns_x7 : Int32) (wl_x7 : Nat → Int32) (wb_x7 : Nat → Int32) (wG_x7 : Nat → Nat → Int64) (l2_x7 : Int32) (H : Heap) (locs : List Loc) (ls : Array Slot), (∀ q : Nat, 0 ≤ (fG_need_x7 q).toInt ∧ (fG_need_x7 q).toInt ≤ 27) → (0 ≤ iG_columns_x7.toInt ∧ iG_columns_x7.toInt ≤ 40) → (∀ q : Nat, 0 ≤ (wl_x7 q).toInt ∧ (wl_x7 q).toInt ≤ 14) → (∀ q : Nat, 0 ≤ (wb_x7 q).toInt ∧ (wb_x7 q).toInt ≤ 1) → (0 ≤ l2_x7.toInt ∧ l2_x7.toInt ≤ 28) → (NdOc fG_need_x7 iG_columns_x7.toInt (iM_plainRows.toInt + 2 * iM_variables.toInt)) → (28 - l2_x7.toInt < ((n9 : Nat) : Int)) → va_P (dC, dI) vwCl (WG hG aG kG hM hO hQ hw iG_made iG_keptNeeds fG_kept fG_need_x7 fG_turn_x7 iG_columns_x7 ++ (WO hO aO kO hM hQ hw iO_answered iO_searched iO_searchedRelaxed iO_counted fO_countedCase gO_goalNumber gO_goalScale fO_start fO_column fO_chosen ++ (WM hM aM kM iM_stands iM_variables iM_rows iM_goals iM_differents iM_cases fM_from fM_to fM_whole fM_ways iM_plainRows fM_plainRow fM_kept fM_goalOver fM_goalUnder fM_goalMax fM_different ++ (WQ hQ aQ kQ hw fQ_inside fQ_outside fQ_shut iQ_rows iQ_allRows iQ_columns ++ (WW nW hw lw kw wl_x7 wb_x7 wG_x7))))) H → va_D A (WG hG aG kG hM hO hQ hw iG_made iG_keptNeeds fG_kept fG_need_x7 fG_turn_x7 iG_columns_x7 ++ (WO hO aO kO hM hQ hw iO_answered iO_searched iO_searchedRelaxed iO_counted fO_countedCase gO_goalNumber gO_goalScale fO_start fO_column fO_chosen ++ (WM hM aM kM iM_stands iM_variables iM_rows iM_goals iM_differents iM_cases fM_from fM_to fM_whole fM_ways iM_plainRows fM_plainRow fM_kept fM_goalOver fM_goalUnder fM_goalMax fM_different ++ (WQ hQ aQ kQ hw fQ_inside fQ_outside fQ_shut iQ_rows iQ_allRows iQ_columns ++ (WW nW hw lw kw wl_x7 wb_x7 wG_x7))))) → va_S A s.heap H locs → lv_has ls 4 [(2, .int l2_x7), (0, .ref (hG 0)), (1, .int p1)] → W p l e _ s m _ below meth c H locs 0 0 _ (F0 m 7 ls [])) => loop (29) fG_need fG_turn 0 wl wb wG 0 _ _ _ b_fG_need (show 0 ≤ (0 : Int32).toInt ∧ (0 : Int32).toInt ≤ 40 from by decide) b_wl b_wb (show 0 ≤ (0 : Int32).toInt ∧ (0 : Int32).toInt ≤ 28 from by decide) (show NdOc fG_need (0 : Int32).toInt (iM_plainRows.toInt + 2 * iM_variables.toInt) from by first | assumption | exact NdOc.zero) ((by have e9 : (0 : Int32).toInt = 0 := (by decide : (0 : Int32).toInt = 0); omega)) hP hD hS hl) ?_
  intro n9
  induction n9 with
  | zero => intro fG_need_x7 fG_turn_x7 iG_columns_x7 wl_x7 wb_x7 wG_x7 l2_x7 H locs ls b_fG_need_x7 b_iG_columns_x7 b_wl_x7 b_wb_x7 b_l2_x7 hNd hf9; exact False.elim (by omega)
  | succ n9 ihx7 =>
    intro fG_need_x7 fG_turn_x7 iG_columns_x7 wl_x7 wb_x7 wG_x7 l2_x7 H locs ls b_fG_need_x7 b_iG_columns_x7 b_wl_x7 b_wb_x7 b_l2_x7 hNd hfx7 hP hD hS hl
    refine lv_iload_n hx hb dX3_chooseColumns_7 rfl (lv_at hl 0 rfl) ?_
    refine lv_aload_n hx hb dX3_chooseColumns_8 rfl (lv_at hl 1 rfl) ?_
    refine va_get (D := (dC, dI)) (ci := 3) (v := .ref (hM 0)) (C := RX3) (T := TX3) (N := 17) hx hb hts iwsMX3_chooseColumns_in3 hown hK hP 0 rfl rfl 0 (by decide) (hts _ hm_m_X3_chooseColumns_1) (fun _ h9 => h9) rfl dX3_chooseColumns_9 ?_
    have p9 := cj_5_2 (WG hG aG kG hM hO hQ hw iG_made iG_keptNeeds fG_kept fG_need_x7 fG_turn_x7 iG_columns_x7) (WO hO aO kO hM hQ hw iO_answered iO_searched iO_searchedRelaxed iO_counted fO_countedCase gO_goalNumber gO_goalScale fO_start fO_column fO_chosen) (WM hM aM kM iM_stands iM_variables iM_rows iM_goals iM_differents iM_cases fM_from fM_to fM_whole fM_ways iM_plainRows fM_plainRow fM_kept fM_goalOver fM_goalUnder fM_goalMax fM_different) (WQ hQ aQ kQ hw fQ_inside fQ_outside fQ_shut iQ_rows iQ_allRows iQ_columns) (WW nW hw lw kw wl_x7 wb_x7 wG_x7)
    have hPc := hP.mem (fun q h => p9.mem_iff.mpr (List.mem_append_left _ h))
    have hDc := (hD.perm p9).left
    have hKc : va_K (dC, dI) vwCl (tM kM) _ := hK.sub [15, 16, 17, 18, 19, 20, 21, 22, 23, 24] rfl
    have hFc := freeG p9 hD hS hA
    refine va_calli (va_runV (As := []) (rest := [.int l2_x7]) ⟨hx, hb, hml, hown, hts⟩ (m_X1_needs l dC dI hM aM kM iM_stands iM_variables iM_rows iM_goals iM_differents iM_cases fM_from fM_to fM_whole fM_ways iM_plainRows fM_plainRow fM_kept fM_goalOver fM_goalUnder fM_goalMax fM_different (b_iM_stands) (b_iM_variables) (b_iM_rows) (b_iM_goals) (b_iM_differents) (b_iM_cases) b_fM_ways (b_iM_plainRows) b_fM_plainRow (by first | with_reducible assumption | omega | assumption) H.size) (cwV 0 hts gwsMX3_chooseColumns_0 rfl rfl rfl hd_yX1_needs_RX1 (by decide +kernel)) (fz_pre (va_recv hK hP (ci := 1) (q0 := 17) rfl rfl) hPc hKc hDc) rfl rfl hl.1 rfl (lv_room (Nat.le_of_ble_eq_true rfl)) dX3_chooseColumns_12 (by decide +kernel)) hS (fun q _ h => hFc q h) hFc (fun r111 u t9_ H locs ht hvm hw9 hB9 hz1 hk1 hS => ?_)
    revert hw9
    refine fz_a2 ?_
    intro b_r111 f111_0
    have p8 := p9
    obtain ⟨hP, hD⟩ := frameG p9 p8 hP hD hk1 hFc (fz_P ht hB9.1) hB9.2
    refine lv_icmp_ge (tgt := 101) hx hb dX3_chooseColumns_15 (by decide) (fun c_15 => ?_) (fun c_15 => ?_)
    · have t_15 : l2_x7.toInt ≥ r111.toInt := toI_ge c_15 rfl rfl
      refine W.widen (k := 0) (n := 0) (by decide +kernel) (by decide +kernel) ?_
      exact W.vret hx hb hr (fun t9_ ht hW => ⟨⟨(fG_need_x7, fG_turn_x7, iG_columns_x7, wl_x7, wb_x7, wG_x7), rfl, ⟨b_fG_need_x7, b_iG_columns_x7, b_wl_x7, b_wb_x7, (by (try dsimp only); exact (hNd))⟩, by rw [ht]; exact hP, hD⟩, hS.F ht⟩) hS.2.2 dX3_chooseColumns_101
    · have t_15 : ¬ l2_x7.toInt ≥ r111.toInt := toI_nge c_15 rfl rfl
      refine lv_iconst (v := 1) hx hb dX3_chooseColumns_18 (by decide) ?_
      refine lv_istore_n hx hb dX3_chooseColumns_19 rfl hl (by decide) rfl (fun ls (hl : lv_has ls _ ([(3, .int 1), (2, .int l2_x7), (0, .ref (hG 0)), (1, .int p1)])) => ?_)
      have hl : lv_has _ _ ([(3, .int 1), (2, .int l2_x7), (0, .ref (hG 0)), (1, .int p1)]) := lv_sub hl [0, 1, 2, 3] rfl
      refine (fun (loop : ∀ (n9 : Nat) (fG_need_x20 : Nat → Int32) (fG_turn_x20 : Nat → Int32) (iG_columns_x20 : Int32) (wl_x20 : Nat → Int32) (wb_x20 : Nat → Int32) (wG_x20 : Nat → Nat → Int64) (l3_x20 : Int32) (H : Heap) (locs : List Loc) (ls : Array Slot), (∀ q : Nat, 0 ≤ (fG_need_x20 q).toInt ∧ (fG_need_x20 q).toInt ≤ 27) → (0 ≤ iG_columns_x20.toInt ∧ iG_columns_x20.toInt ≤ 40) → (∀ q : Nat, 0 ≤ (wl_x20 q).toInt ∧ (wl_x20 q).toInt ≤ 14) → (∀ q : Nat, 0 ≤ (wb_x20 q).toInt ∧ (wb_x20 q).toInt ≤ 1) → ((-3) ≤ l3_x20.toInt ∧ l3_x20.toInt ≤ 1) → (NdOc fG_need_x20 iG_columns_x20.toInt (iM_plainRows.toInt + 2 * iM_variables.toInt)) → (l3_x20.toInt - (-3) < ((n9 : Nat) : Int)) → va_P (dC, dI) vwCl (WG hG aG kG hM hO hQ hw iG_made iG_keptNeeds fG_kept fG_need_x20 fG_turn_x20 iG_columns_x20 ++ (WO hO aO kO hM hQ hw iO_answered iO_searched iO_searchedRelaxed iO_counted fO_countedCase gO_goalNumber gO_goalScale fO_start fO_column fO_chosen ++ (WM hM aM kM iM_stands iM_variables iM_rows iM_goals iM_differents iM_cases fM_from fM_to fM_whole fM_ways iM_plainRows fM_plainRow fM_kept fM_goalOver fM_goalUnder fM_goalMax fM_different ++ (WQ hQ aQ kQ hw fQ_inside fQ_outside fQ_shut iQ_rows iQ_allRows iQ_columns ++ (WW nW hw lw kw wl_x20 wb_x20 wG_x20))))) H → va_D A (WG hG aG kG hM hO hQ hw iG_made iG_keptNeeds fG_kept fG_need_x20 fG_turn_x20 iG_columns_x20 ++ (WO hO aO kO hM hQ hw iO_answered iO_searched iO_searchedRelaxed iO_counted fO_countedCase gO_goalNumber gO_goalScale fO_start fO_column fO_chosen ++ (WM hM aM kM iM_stands iM_variables iM_rows iM_goals iM_differents iM_cases fM_from fM_to fM_whole fM_ways iM_plainRows fM_plainRow fM_kept fM_goalOver fM_goalUnder fM_goalMax fM_different ++ (WQ hQ aQ kQ hw fQ_inside fQ_outside fQ_shut iQ_rows iQ_allRows iQ_columns ++ (WW nW hw lw kw wl_x20 wb_x20 wG_x20))))) → va_S A s.heap H locs → lv_has ls 4 [(3, .int l3_x20), (2, .int l2_x7), (0, .ref (hG 0)), (1, .int p1)] → W p l e _ s m _ below meth c H locs 0 0 _ (F0 m 20 ls [])) => loop (5) fG_need_x7 fG_turn_x7 iG_columns_x7 wl_x7 wb_x7 wG_x7 1 _ _ _ b_fG_need_x7 (b_iG_columns_x7) b_wl_x7 b_wb_x7 (show (-3) ≤ (1 : Int32).toInt ∧ (1 : Int32).toInt ≤ 1 from by decide) (show NdOc fG_need_x7 iG_columns_x7.toInt (iM_plainRows.toInt + 2 * iM_variables.toInt) from by first | assumption | exact NdOc.zero) ((by have e9 : (1 : Int32).toInt = 1 := (by decide : (1 : Int32).toInt = 1); omega)) hP hD hS hl) ?_
      intro n9
      induction n9 with
      | zero => intro fG_need_x20 fG_turn_x20 iG_columns_x20 wl_x20 wb_x20 wG_x20 l3_x20 H locs ls b_fG_need_x20 b_iG_columns_x20 b_wl_x20 b_wb_x20 b_l3_x20 hNd hf9; exact False.elim (by omega)
      | succ n9 ihx20 =>
        intro fG_need_x20 fG_turn_x20 iG_columns_x20 wl_x20 wb_x20 wG_x20 l3_x20 H locs ls b_fG_need_x20 b_iG_columns_x20 b_wl_x20 b_wb_x20 b_l3_x20 hNd hfx20 hP hD hS hl
        refine lv_iload_n hx hb dX3_chooseColumns_20 rfl (lv_at hl 0 rfl) ?_
        refine lv_aload_n hx hb dX3_chooseColumns_21 rfl (lv_at hl 2 rfl) ?_
        refine va_get (D := (dC, dI)) (ci := 3) (v := .ref (hM 0)) (C := RX3) (T := TX3) (N := 17) hx hb hts iwsMX3_chooseColumns_in3 hown hK hP 0 rfl rfl 0 (by decide) (hts _ hm_m_X3_chooseColumns_1) (fun _ h9 => h9) rfl dX3_chooseColumns_22 ?_
        refine lv_iload_n hx hb dX3_chooseColumns_25 rfl (lv_at hl 1 rfl) ?_
        have p9 := cj_5_2 (WG hG aG kG hM hO hQ hw iG_made iG_keptNeeds fG_kept fG_need_x20 fG_turn_x20 iG_columns_x20) (WO hO aO kO hM hQ hw iO_answered iO_searched iO_searchedRelaxed iO_counted fO_countedCase gO_goalNumber gO_goalScale fO_start fO_column fO_chosen) (WM hM aM kM iM_stands iM_variables iM_rows iM_goals iM_differents iM_cases fM_from fM_to fM_whole fM_ways iM_plainRows fM_plainRow fM_kept fM_goalOver fM_goalUnder fM_goalMax fM_different) (WQ hQ aQ kQ hw fQ_inside fQ_outside fQ_shut iQ_rows iQ_allRows iQ_columns) (WW nW hw lw kw wl_x20 wb_x20 wG_x20)
        have hPc := hP.mem (fun q h => p9.mem_iff.mpr (List.mem_append_left _ h))
        have hDc := (hD.perm p9).left
        have hKc : va_K (dC, dI) vwCl (tM kM) _ := hK.sub [15, 16, 17, 18, 19, 20, 21, 22, 23, 24] rfl
        have hFc := freeG p9 hD hS hA
        refine va_calli (va_runV (As := [.int l2_x7]) (rest := [.int l3_x20]) ⟨hx, hb, hml, hown, hts⟩ (m_X1_isEvenNeed l dC dI hM aM kM iM_stands iM_variables iM_rows iM_goals iM_differents iM_cases fM_from fM_to fM_whole fM_ways iM_plainRows fM_plainRow fM_kept fM_goalOver fM_goalUnder fM_goalMax fM_different l2_x7 (b_iM_stands) (b_iM_variables) (b_iM_rows) (b_iM_goals) (b_iM_differents) (b_iM_cases) b_fM_ways (b_iM_plainRows) b_fM_plainRow (by first | with_reducible assumption | omega | assumption) (by first | exact b_l2_x7 | with_reducible assumption | exact ⟨by omega, by omega⟩ | assumption) (by omega) H.size) (cwV 1 hts gwsMX3_chooseColumns_1 rfl rfl rfl hd_yX1_isEvenNeed_RX1 (by decide +kernel)) (fz_pre (va_recv hK hP (ci := 1) (q0 := 17) rfl rfl) hPc hKc hDc) rfl rfl hl.1 rfl (lv_room (Nat.le_of_ble_eq_true rfl)) dX3_chooseColumns_26 (by decide +kernel)) hS (fun q _ h => hFc q h) hFc (fun r157 u t9_ H locs ht hvm hw9 hB9 hz1 hk1 hS => ?_)
        revert hw9
        refine fz_a2 ?_
        intro b_r157 f157_0
        have p8 := p9
        obtain ⟨hP, hD⟩ := frameG p9 p8 hP hD hk1 hFc (fz_P ht hB9.1) hB9.2
        refine W.cut (pc := 37) (fun H locs ls stk => ∃ (k0_j36 : Int32), ((-1) ≤ k0_j36.toInt ∧ k0_j36.toInt ≤ 1) ∧  stk = [.int k0_j36, .int l3_x20] ∧ va_P (dC, dI) vwCl (WG hG aG kG hM hO hQ hw iG_made iG_keptNeeds fG_kept fG_need_x20 fG_turn_x20 iG_columns_x20 ++ (WO hO aO kO hM hQ hw iO_answered iO_searched iO_searchedRelaxed iO_counted fO_countedCase gO_goalNumber gO_goalScale fO_start fO_column fO_chosen ++ (WM hM aM kM iM_stands iM_variables iM_rows iM_goals iM_differents iM_cases fM_from fM_to fM_whole fM_ways iM_plainRows fM_plainRow fM_kept fM_goalOver fM_goalUnder fM_goalMax fM_different ++ (WQ hQ aQ kQ hw fQ_inside fQ_outside fQ_shut iQ_rows iQ_allRows iQ_columns ++ (WW nW hw lw kw wl_x20 wb_x20 wG_x20))))) H ∧ va_D A (WG hG aG kG hM hO hQ hw iG_made iG_keptNeeds fG_kept fG_need_x20 fG_turn_x20 iG_columns_x20 ++ (WO hO aO kO hM hQ hw iO_answered iO_searched iO_searchedRelaxed iO_counted fO_countedCase gO_goalNumber gO_goalScale fO_start fO_column fO_chosen ++ (WM hM aM kM iM_stands iM_variables iM_rows iM_goals iM_differents iM_cases fM_from fM_to fM_whole fM_ways iM_plainRows fM_plainRow fM_kept fM_goalOver fM_goalUnder fM_goalMax fM_different ++ (WQ hQ aQ kQ hw fQ_inside fQ_outside fQ_shut iQ_rows iQ_allRows iQ_columns ++ (WW nW hw lw kw wl_x20 wb_x20 wG_x20))))) ∧ va_S A s.heap H locs ∧ lv_has ls 4 [(3, .int l3_x20), (2, .int l2_x7), (0, .ref (hG 0)), (1, .int p1)]) (fun join36 => ?_) ?_
        · refine lv_if_eq (tgt := 36) hx hb dX3_chooseColumns_29 (by decide) (fun c_29 => ?_) (fun c_29 => ?_)
          · have t_29 : r157.toInt = 0 := toI_eq c_29 rfl (by decide : (0 : Int32).toInt = 0)
            refine lv_iconst (v := 1) hx hb dX3_chooseColumns_36 (by decide) ?_
            have hl : lv_has _ _ ([(3, .int l3_x20), (2, .int l2_x7), (0, .ref (hG 0)), (1, .int p1)]) := lv_sub hl [0, 1, 2, 3] rfl
            exact join36 _ _ _ _ ⟨1, (show (-1) ≤ (1 : Int32).toInt ∧ (1 : Int32).toInt ≤ 1 from by decide), rfl, hP, hD, hS, hl⟩
          · have t_29 : ¬ r157.toInt = 0 := toI_neq c_29 rfl (by decide : (0 : Int32).toInt = 0)
            refine lv_iconst (v := (-1)) hx hb dX3_chooseColumns_32 (by decide) ?_
            refine lv_goto (tgt := 37) hx hb dX3_chooseColumns_33 (by decide) ?_
            have hl : lv_has _ _ ([(3, .int l3_x20), (2, .int l2_x7), (0, .ref (hG 0)), (1, .int p1)]) := lv_sub hl [0, 1, 2, 3] rfl
            exact join36 _ _ _ _ ⟨(-1), (show (-1) ≤ ((-1) : Int32).toInt ∧ ((-1) : Int32).toInt ≤ 1 from by decide), rfl, hP, hD, hS, hl⟩
        · rintro H locs ls stk ⟨k0_j36, b_k0_j36, rfl, hP, hD, hS, hl⟩
          refine lv_icmp_lt (tgt := 95) hx hb dX3_chooseColumns_37 (by decide) (fun c_37 => ?_) (fun c_37 => ?_)
          · have t_37 : l3_x20.toInt < k0_j36.toInt := toI_lt c_37 rfl rfl
            refine lv_iinc (v := (iI (l2_x7.toInt + 1))) hx hb dX3_chooseColumns_95 hl (k := 1) rfl (iI_add2 (iI_of _) (by decide : (1 : Int32) = iI 1)) (by decide) rfl (fun ls (hl : lv_has ls _ ([(2, .int (iI (l2_x7.toInt + 1))), (3, .int l3_x20), (0, .ref (hG 0)), (1, .int p1)])) => ?_)
            refine lv_goto (tgt := 7) hx hb dX3_chooseColumns_98 (by decide) ?_
            have hl : lv_has _ _ ([(2, .int (iI (l2_x7.toInt + 1))), (0, .ref (hG 0)), (1, .int p1)]) := lv_sub hl [0, 2, 3] rfl
            exact ihx7 fG_need_x20 fG_turn_x20 iG_columns_x20 wl_x20 wb_x20 wG_x20 (iI (l2_x7.toInt + 1)) _ _ _ b_fG_need_x20 (b_iG_columns_x20) b_wl_x20 b_wb_x20 (iI_rng (Int.le_trans (by decide) (Int.add_le_add (b_l2_x7.1) (Int.le_refl _))) (by omega) (by decide) (by decide)) (show NdOc fG_need_x20 iG_columns_x20.toInt (iM_plainRows.toInt + 2 * iM_variables.toInt) from by first | assumption | exact NdOc.push hNd (by assumption) (by omega) (by omega) (by omega) (iI_t (by omega) (by omega))) (by have e9 : ((iI (l2_x7.toInt + 1))).toInt = (l2_x7.toInt + 1) := (iI_t (Int.le_trans (by decide) (Int.add_le_add (b_l2_x7.1) (Int.le_refl _))) (Int.le_trans (Int.add_le_add (b_l2_x7.2) (Int.le_refl _)) (by decide))); omega) hP hD hS hl
          · have t_37 : ¬ l3_x20.toInt < k0_j36.toInt := toI_nlt c_37 rfl rfl
            refine lv_aload_n hx hb dX3_chooseColumns_40 rfl (lv_at hl 2 rfl) ?_
            refine va_get (D := (dC, dI)) (ci := 3) (v := .int iG_columns_x20) (C := RX3) (T := TX3) (N := 17) hx hb hts iwsMX3_chooseColumns_in3 hown hK hP 0 rfl rfl 16 (by decide) (hts _ hm_m_X3_chooseColumns_0) (fun _ h9 => h9) rfl dX3_chooseColumns_41 ?_
            refine lv_bipush (v := 40) hx hb dX3_chooseColumns_44 (by decide) ?_
            refine lv_icmp_ge (tgt := 89) hx hb dX3_chooseColumns_46 (by decide) (fun c_46 => ?_) (fun c_46 => ?_)
            · have t_46 : iG_columns_x20.toInt ≥ 40 := toI_ge c_46 rfl (by decide : (40 : Int32).toInt = 40)
              refine lv_iinc (v := (iI (l3_x20.toInt + (-2)))) hx hb dX3_chooseColumns_89 hl (k := 0) rfl (iI_add2 (iI_of _) (by decide : ((-2) : Int32) = iI (-2))) (by decide) rfl (fun ls (hl : lv_has ls _ ([(3, .int (iI (l3_x20.toInt + (-2)))), (2, .int l2_x7), (0, .ref (hG 0)), (1, .int p1)])) => ?_)
              refine lv_goto (tgt := 20) hx hb dX3_chooseColumns_92 (by decide) ?_
              have hl : lv_has _ _ ([(3, .int (iI (l3_x20.toInt + (-2)))), (2, .int l2_x7), (0, .ref (hG 0)), (1, .int p1)]) := lv_sub hl [0, 1, 2, 3] rfl
              exact ihx20 fG_need_x20 fG_turn_x20 iG_columns_x20 wl_x20 wb_x20 wG_x20 (iI (l3_x20.toInt + (-2))) _ _ _ b_fG_need_x20 (b_iG_columns_x20) b_wl_x20 b_wb_x20 (iI_rng (by omega) (Int.le_trans (Int.add_le_add (b_l3_x20.2) (Int.le_refl _)) (by decide)) (by decide) (by decide)) (show NdOc fG_need_x20 iG_columns_x20.toInt (iM_plainRows.toInt + 2 * iM_variables.toInt) from by first | assumption | exact NdOc.push hNd (by assumption) (by omega) (by omega) (by omega) (iI_t (by omega) (by omega))) (by have e9 : ((iI (l3_x20.toInt + (-2)))).toInt = (l3_x20.toInt + (-2)) := (iI_t (Int.le_trans (by decide) (Int.add_le_add (b_l3_x20.1) (Int.le_refl _))) (Int.le_trans (Int.add_le_add (b_l3_x20.2) (Int.le_refl _)) (by decide))); omega) hP hD hS hl
            · have t_46 : ¬ iG_columns_x20.toInt ≥ 40 := toI_nge c_46 rfl (by decide : (40 : Int32).toInt = 40)
              refine lv_aload_n hx hb dX3_chooseColumns_49 rfl (lv_at hl 2 rfl) ?_
              refine lv_iload_n hx hb dX3_chooseColumns_50 rfl (lv_at hl 1 rfl) ?_
              refine lv_iload_n hx hb dX3_chooseColumns_51 rfl (lv_at hl 0 rfl) ?_
              refine lv_iload_n hx hb dX3_chooseColumns_52 rfl (lv_at hl 3 rfl) ?_
              have hFc := allFree hD hS hA
              refine va_calli (va_runV (As := [.int l2_x7, .int l3_x20, .int p1]) (rest := []) ⟨hx, hb, hml, hown, hts⟩ (m_X3_isTight l dC dI hG aG kG hM hO hQ hw iG_made iG_keptNeeds fG_kept fG_need_x20 fG_turn_x20 iG_columns_x20 aO kO iO_answered iO_searched iO_searchedRelaxed iO_counted fO_countedCase gO_goalNumber gO_goalScale fO_start fO_column fO_chosen aM kM iM_stands iM_variables iM_rows iM_goals iM_differents iM_cases fM_from fM_to fM_whole fM_ways iM_plainRows fM_plainRow fM_kept fM_goalOver fM_goalUnder fM_goalMax fM_different aQ kQ fQ_inside fQ_outside fQ_shut iQ_rows iQ_allRows iQ_columns nW lw kw wl_x20 wb_x20 wG_x20 l2_x7 l3_x20 p1 (b_iG_made) b_fG_need_x20 (b_iG_columns_x20) (b_iO_answered) (b_iO_searched) (b_iO_searchedRelaxed) (b_iO_counted) b_fO_countedCase b_fO_column b_fO_chosen (b_iM_stands) (b_iM_variables) (b_iM_rows) (b_iM_goals) (b_iM_differents) (b_iM_cases) b_fM_ways (b_iM_plainRows) b_fM_plainRow (by first | with_reducible assumption | omega | assumption) (b_iQ_rows) (b_iQ_allRows) (b_iQ_columns) (by first | with_reducible assumption | omega | assumption) b_wl_x20 b_wb_x20 (by first | exact b_l2_x7 | with_reducible assumption | exact ⟨by omega, by omega⟩ | assumption) (by omega) (by omega) H.size) (cwV 3 hts gwsMX3_chooseColumns_2 rfl rfl rfl hd_yX3_isTight_RX3 (by decide +kernel)) (fz_pre (va_recv hK hP (ci := 3) (q0 := 0) rfl rfl) hP hK hD) rfl rfl hl.1 rfl (lv_room (Nat.le_of_ble_eq_true rfl)) dX3_chooseColumns_53 (by decide +kernel)) hS (fun q _ h => hFc q h) hFc (fun r162 u t9_ H locs ht hvm hw9 hB9 hz1 hk1 hS => ?_)
              revert u hw9 hB9
              refine fz_p3 ?_
              intro wl_162 wb_162 wG_162 hw9 hB9
              try dsimp only at hw9 hB9
              revert hw9
              refine fz_a3 ?_
              intro b_wl_162 b_wb_162 b_r162
              have hP : va_P (dC, dI) vwCl (WG hG aG kG hM hO hQ hw iG_made iG_keptNeeds fG_kept fG_need_x20 fG_turn_x20 iG_columns_x20 ++ (WO hO aO kO hM hQ hw iO_answered iO_searched iO_searchedRelaxed iO_counted fO_countedCase gO_goalNumber gO_goalScale fO_start fO_column fO_chosen ++ (WM hM aM kM iM_stands iM_variables iM_rows iM_goals iM_differents iM_cases fM_from fM_to fM_whole fM_ways iM_plainRows fM_plainRow fM_kept fM_goalOver fM_goalUnder fM_goalMax fM_different ++ (WQ hQ aQ kQ hw fQ_inside fQ_outside fQ_shut iQ_rows iQ_allRows iQ_columns ++ (WW nW hw lw kw wl_162 wb_162 wG_162))))) H := fz_P ht hB9.1
              have hD := fz_sd hP (hB9.2.weaken (fun _ q _ h => hFc q.1 h)) rfl
              refine lv_if_eq (tgt := 89) hx hb dX3_chooseColumns_56 (by decide) (fun c_56 => ?_) (fun c_56 => ?_)
              · have t_56 : r162.toInt = 0 := toI_eq c_56 rfl (by decide : (0 : Int32).toInt = 0)
                refine lv_iinc (v := (iI (l3_x20.toInt + (-2)))) hx hb dX3_chooseColumns_89 hl (k := 0) rfl (iI_add2 (iI_of _) (by decide : ((-2) : Int32) = iI (-2))) (by decide) rfl (fun ls (hl : lv_has ls _ ([(3, .int (iI (l3_x20.toInt + (-2)))), (2, .int l2_x7), (0, .ref (hG 0)), (1, .int p1)])) => ?_)
                refine lv_goto (tgt := 20) hx hb dX3_chooseColumns_92 (by decide) ?_
                have hl : lv_has _ _ ([(3, .int (iI (l3_x20.toInt + (-2)))), (2, .int l2_x7), (0, .ref (hG 0)), (1, .int p1)]) := lv_sub hl [0, 1, 2, 3] rfl
                exact ihx20 fG_need_x20 fG_turn_x20 iG_columns_x20 wl_162 wb_162 wG_162 (iI (l3_x20.toInt + (-2))) _ _ _ b_fG_need_x20 (b_iG_columns_x20) b_wl_162 b_wb_162 (iI_rng (by omega) (Int.le_trans (Int.add_le_add (b_l3_x20.2) (Int.le_refl _)) (by decide)) (by decide) (by decide)) (show NdOc fG_need_x20 iG_columns_x20.toInt (iM_plainRows.toInt + 2 * iM_variables.toInt) from by first | assumption | exact NdOc.push hNd (by assumption) (by omega) (by omega) (by omega) (iI_t (by omega) (by omega))) (by have e9 : ((iI (l3_x20.toInt + (-2)))).toInt = (l3_x20.toInt + (-2)) := (iI_t (Int.le_trans (by decide) (Int.add_le_add (b_l3_x20.1) (Int.le_refl _))) (Int.le_trans (Int.add_le_add (b_l3_x20.2) (Int.le_refl _)) (by decide))); omega) hP hD hS hl
              · have t_56 : ¬ r162.toInt = 0 := toI_neq c_56 rfl (by decide : (0 : Int32).toInt = 0)
                refine lv_aload_n hx hb dX3_chooseColumns_59 rfl (lv_at hl 2 rfl) ?_
                refine va_get (D := (dC, dI)) (ci := 3) (v := .ref (aG 3)) (C := RX3) (T := TX3) (N := 17) hx hb hts iwsMX3_chooseColumns_in3 hown hK hP 0 rfl rfl 14 (by decide) (hts (.fieldLink RX3 52 "OptimaWorks$Prover" "need" "[I") (by decide +kernel)) (fun _ h9 => h9) rfl dX3_chooseColumns_60 ?_
                refine lv_aload_n hx hb dX3_chooseColumns_63 rfl (lv_at hl 2 rfl) ?_
                refine va_get (D := (dC, dI)) (ci := 3) (v := .int iG_columns_x20) (C := RX3) (T := TX3) (N := 17) hx hb hts iwsMX3_chooseColumns_in3 hown hK hP 0 rfl rfl 16 (by decide) (hts _ hm_m_X3_chooseColumns_0) (fun _ h9 => h9) rfl dX3_chooseColumns_64 ?_
                refine lv_iload_n hx hb dX3_chooseColumns_67 rfl (lv_at hl 1 rfl) ?_
                refine va_iast (cA := kG 3) (n := 40) (f := fG_need_x20) hx hb hK hP hD hS 4 3 rfl rfl (vp_in_iff.mpr ⟨b_iG_columns_x20.1, (Int.lt_of_lt_of_le (Int.not_le.mp t_46) (by decide))⟩) dX3_chooseColumns_68 (fun H locs hP hD hS => ?_)
                obtain ⟨u163, hu163⟩ : ∃ f9, f9 = upd fG_need_x20 (iG_columns_x20).toNatClampNeg l2_x7 := ⟨_, rfl⟩
                have hP : va_P (dC, dI) vwCl (WG hG aG kG hM hO hQ hw iG_made iG_keptNeeds fG_kept u163 fG_turn_x20 iG_columns_x20 ++ (WO hO aO kO hM hQ hw iO_answered iO_searched iO_searchedRelaxed iO_counted fO_countedCase gO_goalNumber gO_goalScale fO_start fO_column fO_chosen ++ (WM hM aM kM iM_stands iM_variables iM_rows iM_goals iM_differents iM_cases fM_from fM_to fM_whole fM_ways iM_plainRows fM_plainRow fM_kept fM_goalOver fM_goalUnder fM_goalMax fM_different ++ (WQ hQ aQ kQ hw fQ_inside fQ_outside fQ_shut iQ_rows iQ_allRows iQ_columns ++ (WW nW hw lw kw wl_162 wb_162 wG_162))))) H := by rw [hu163]; exact hP
                have hD : va_D A (WG hG aG kG hM hO hQ hw iG_made iG_keptNeeds fG_kept u163 fG_turn_x20 iG_columns_x20 ++ (WO hO aO kO hM hQ hw iO_answered iO_searched iO_searchedRelaxed iO_counted fO_countedCase gO_goalNumber gO_goalScale fO_start fO_column fO_chosen ++ (WM hM aM kM iM_stands iM_variables iM_rows iM_goals iM_differents iM_cases fM_from fM_to fM_whole fM_ways iM_plainRows fM_plainRow fM_kept fM_goalOver fM_goalUnder fM_goalMax fM_different ++ (WQ hQ aQ kQ hw fQ_inside fQ_outside fQ_shut iQ_rows iQ_allRows iQ_columns ++ (WW nW hw lw kw wl_162 wb_162 wG_162))))) := by rw [hu163]; exact hD
                have b_u163 : ∀ q : Nat, 0 ≤ (u163 q).toInt ∧ (u163 q).toInt ≤ 27 := by rw [hu163]; exact upd_r b_fG_need_x20 (by first | exact b_l2_x7 | with_reducible assumption | exact ⟨by omega, by omega⟩ | assumption)
                have b1_u163 : u163 = upd fG_need_x20 (iG_columns_x20).toNatClampNeg l2_x7 := hu163
                clear hu163
                refine lv_aload_n hx hb dX3_chooseColumns_69 rfl (lv_at hl 2 rfl) ?_
                refine va_get (D := (dC, dI)) (ci := 3) (v := .ref (aG 4)) (C := RX3) (T := TX3) (N := 17) hx hb hts iwsMX3_chooseColumns_in3 hown hK hP 0 rfl rfl 15 (by decide) (hts (.fieldLink RX3 56 "OptimaWorks$Prover" "turn" "[I") (by decide +kernel)) (fun _ h9 => h9) rfl dX3_chooseColumns_70 ?_
                refine lv_aload_n hx hb dX3_chooseColumns_73 rfl (lv_at hl 2 rfl) ?_
                refine va_get (D := (dC, dI)) (ci := 3) (v := .int iG_columns_x20) (C := RX3) (T := TX3) (N := 17) hx hb hts iwsMX3_chooseColumns_in3 hown hK hP 0 rfl rfl 16 (by decide) (hts _ hm_m_X3_chooseColumns_0) (fun _ h9 => h9) rfl dX3_chooseColumns_74 ?_
                refine lv_iload_n hx hb dX3_chooseColumns_77 rfl (lv_at hl 0 rfl) ?_
                refine va_iast (cA := kG 4) (n := 40) (f := fG_turn_x20) hx hb hK hP hD hS 5 4 rfl rfl (vp_in_iff.mpr ⟨b_iG_columns_x20.1, (Int.lt_of_lt_of_le (Int.not_le.mp t_46) (by decide))⟩) dX3_chooseColumns_78 (fun H locs hP hD hS => ?_)
                obtain ⟨u164, hu164⟩ : ∃ f9, f9 = upd fG_turn_x20 (iG_columns_x20).toNatClampNeg l3_x20 := ⟨_, rfl⟩
                have hP : va_P (dC, dI) vwCl (WG hG aG kG hM hO hQ hw iG_made iG_keptNeeds fG_kept u163 u164 iG_columns_x20 ++ (WO hO aO kO hM hQ hw iO_answered iO_searched iO_searchedRelaxed iO_counted fO_countedCase gO_goalNumber gO_goalScale fO_start fO_column fO_chosen ++ (WM hM aM kM iM_stands iM_variables iM_rows iM_goals iM_differents iM_cases fM_from fM_to fM_whole fM_ways iM_plainRows fM_plainRow fM_kept fM_goalOver fM_goalUnder fM_goalMax fM_different ++ (WQ hQ aQ kQ hw fQ_inside fQ_outside fQ_shut iQ_rows iQ_allRows iQ_columns ++ (WW nW hw lw kw wl_162 wb_162 wG_162))))) H := by rw [hu164]; exact hP
                have hD : va_D A (WG hG aG kG hM hO hQ hw iG_made iG_keptNeeds fG_kept u163 u164 iG_columns_x20 ++ (WO hO aO kO hM hQ hw iO_answered iO_searched iO_searchedRelaxed iO_counted fO_countedCase gO_goalNumber gO_goalScale fO_start fO_column fO_chosen ++ (WM hM aM kM iM_stands iM_variables iM_rows iM_goals iM_differents iM_cases fM_from fM_to fM_whole fM_ways iM_plainRows fM_plainRow fM_kept fM_goalOver fM_goalUnder fM_goalMax fM_different ++ (WQ hQ aQ kQ hw fQ_inside fQ_outside fQ_shut iQ_rows iQ_allRows iQ_columns ++ (WW nW hw lw kw wl_162 wb_162 wG_162))))) := by rw [hu164]; exact hD
                clear hu164
                refine lv_aload_n hx hb dX3_chooseColumns_79 rfl (lv_at hl 2 rfl) ?_
                refine lv_dup hx hb dX3_chooseColumns_80 rfl ?_
                refine va_get (D := (dC, dI)) (ci := 3) (v := .int iG_columns_x20) (C := RX3) (T := TX3) (N := 17) hx hb hts iwsMX3_chooseColumns_in3 hown hK hP 0 rfl rfl 16 (by decide) (hts _ hm_m_X3_chooseColumns_0) (fun _ h9 => h9) rfl dX3_chooseColumns_81 ?_
                refine lv_iconst (v := 1) hx hb dX3_chooseColumns_84 (by decide) ?_
                refine lv_iadd hx hb dX3_chooseColumns_85 ?_
                refine lv_topi (fun y165 hy165 => ?_)
                obtain rfl : (iI (iG_columns_x20.toInt + 1)) = y165 := (hy165.trans (iI_add2 (iI_of _) (by decide : (1 : Int32) = iI 1))).symm
                refine va_put (D := (dC, dI)) (ci := 3) (v := .int (iI (iG_columns_x20.toInt + 1))) (ty := .int) (C := RX3) (T := TX3) (N := 17) hx hb hts iwsMX3_chooseColumns_in3 tyX3 tyX3_ok nmX3 hown hK hP hD hS 0 rfl rfl 16 (by decide) (hts _ hm_m_X3_chooseColumns_0) (fun _ h9 => h9) rfl (by decide +kernel) rfl rfl (Nat.le_of_ble_eq_true rfl) dX3_chooseColumns_86 (fun H locs hP hD hS => ?_)
                have hP : va_P (dC, dI) vwCl (WG hG aG kG hM hO hQ hw iG_made iG_keptNeeds fG_kept u163 u164 (iI (iG_columns_x20.toInt + 1)) ++ (WO hO aO kO hM hQ hw iO_answered iO_searched iO_searchedRelaxed iO_counted fO_countedCase gO_goalNumber gO_goalScale fO_start fO_column fO_chosen ++ (WM hM aM kM iM_stands iM_variables iM_rows iM_goals iM_differents iM_cases fM_from fM_to fM_whole fM_ways iM_plainRows fM_plainRow fM_kept fM_goalOver fM_goalUnder fM_goalMax fM_different ++ (WQ hQ aQ kQ hw fQ_inside fQ_outside fQ_shut iQ_rows iQ_allRows iQ_columns ++ (WW nW hw lw kw wl_162 wb_162 wG_162))))) H := hP
                have hD := fz_sd hP (hD) rfl
                refine lv_iinc (v := (iI (l3_x20.toInt + (-2)))) hx hb dX3_chooseColumns_89 hl (k := 0) rfl (iI_add2 (iI_of _) (by decide : ((-2) : Int32) = iI (-2))) (by decide) rfl (fun ls (hl : lv_has ls _ ([(3, .int (iI (l3_x20.toInt + (-2)))), (2, .int l2_x7), (0, .ref (hG 0)), (1, .int p1)])) => ?_)
                refine lv_goto (tgt := 20) hx hb dX3_chooseColumns_92 (by decide) ?_
                have hl : lv_has _ _ ([(3, .int (iI (l3_x20.toInt + (-2)))), (2, .int l2_x7), (0, .ref (hG 0)), (1, .int p1)]) := lv_sub hl [0, 1, 2, 3] rfl
                exact ihx20 u163 u164 (iI (iG_columns_x20.toInt + 1)) wl_162 wb_162 wG_162 (iI (l3_x20.toInt + (-2))) _ _ _ b_u163 (iI_rng (Int.le_trans (by decide) (Int.add_le_add (b_iG_columns_x20.1) (Int.le_refl _))) (by omega) (by decide) (by decide)) b_wl_162 b_wb_162 (iI_rng (by omega) (Int.le_trans (Int.add_le_add (b_l3_x20.2) (Int.le_refl _)) (by decide)) (by decide) (by decide)) (show NdOc u163 (iI (iG_columns_x20.toInt + 1)).toInt (iM_plainRows.toInt + 2 * iM_variables.toInt) from by first | assumption | exact NdOc.push hNd (by assumption) (by omega) (by omega) (by omega) (iI_t (by omega) (by omega))) (by have e9 : ((iI (l3_x20.toInt + (-2)))).toInt = (l3_x20.toInt + (-2)) := (iI_t (Int.le_trans (by decide) (Int.add_le_add (b_l3_x20.1) (Int.le_refl _))) (Int.le_trans (Int.add_le_add (b_l3_x20.2) (Int.le_refl _)) (by decide))); omega) hP hD hS hl
theorem dX3_layMultipliers_0 : decode cX3_layMultipliers 0 = .ok (.iload_n 1, 1) := dk_27 (by decide +kernel)
theorem dX3_layMultipliers_1 : decode cX3_layMultipliers 1 = .ok (.ifCond .eq 15, 3) := dk_153 (by decide +kernel)
theorem dX3_layMultipliers_4 : decode cX3_layMultipliers 4 = .ok (.aload_n 0, 1) := dk_42 (by decide +kernel)
theorem dX3_layMultipliers_5 : decode cX3_layMultipliers 5 = .ok (.getfield 59, 3) := dk_180 (by decide +kernel)
theorem dX3_layMultipliers_8 : decode cX3_layMultipliers 8 = .ok (.getfield 173, 3) := dk_180 (by decide +kernel)
theorem dX3_layMultipliers_11 : decode cX3_layMultipliers 11 = .ok (.iconst 1, 1) := dk_4 (by decide +kernel)
theorem dX3_layMultipliers_12 : decode cX3_layMultipliers 12 = .ok (.iadd, 1) := dk_96 (by decide +kernel)
theorem dX3_layMultipliers_13 : decode cX3_layMultipliers 13 = .ok (.goto 10, 3) := dk_167 (by decide +kernel)
theorem dX3_layMultipliers_16 : decode cX3_layMultipliers 16 = .ok (.aload_n 0, 1) := dk_42 (by decide +kernel)
theorem dX3_layMultipliers_17 : decode cX3_layMultipliers 17 = .ok (.getfield 59, 3) := dk_180 (by decide +kernel)
theorem dX3_layMultipliers_20 : decode cX3_layMultipliers 20 = .ok (.getfield 173, 3) := dk_180 (by decide +kernel)
theorem dX3_layMultipliers_23 : decode cX3_layMultipliers 23 = .ok (.istore_n 2, 1) := dk_61 (by decide +kernel)
theorem dX3_layMultipliers_24 : decode cX3_layMultipliers 24 = .ok (.aload_n 0, 1) := dk_42 (by decide +kernel)
theorem dX3_layMultipliers_25 : decode cX3_layMultipliers 25 = .ok (.getfield 71, 3) := dk_180 (by decide +kernel)
theorem dX3_layMultipliers_28 : decode cX3_layMultipliers 28 = .ok (.iload_n 2, 1) := dk_28 (by decide +kernel)
theorem dX3_layMultipliers_29 : decode cX3_layMultipliers 29 = .ok (.iconst 0, 1) := dk_3 (by decide +kernel)
theorem dX3_layMultipliers_30 : decode cX3_layMultipliers 30 = .ok (.aload_n 0, 1) := dk_42 (by decide +kernel)
theorem dX3_layMultipliers_31 : decode cX3_layMultipliers 31 = .ok (.getfield 222, 3) := dk_180 (by decide +kernel)
theorem dX3_layMultipliers_34 : decode cX3_layMultipliers 34 = .ok (.invokevirtual 182, 3) := dk_182 (by decide +kernel)
theorem dX3_layMultipliers_37 : decode cX3_layMultipliers 37 = .ok (.iconst 0, 1) := dk_3 (by decide +kernel)
theorem dX3_layMultipliers_38 : decode cX3_layMultipliers 38 = .ok (.istore_n 3, 1) := dk_62 (by decide +kernel)
theorem dX3_layMultipliers_39 : decode cX3_layMultipliers 39 = .ok (.iload_n 3, 1) := dk_29 (by decide +kernel)
theorem dX3_layMultipliers_40 : decode cX3_layMultipliers 40 = .ok (.aload_n 0, 1) := dk_42 (by decide +kernel)
theorem dX3_layMultipliers_41 : decode cX3_layMultipliers 41 = .ok (.getfield 59, 3) := dk_180 (by decide +kernel)
theorem dX3_layMultipliers_44 : decode cX3_layMultipliers 44 = .ok (.getfield 173, 3) := dk_180 (by decide +kernel)
theorem dX3_layMultipliers_47 : decode cX3_layMultipliers 47 = .ok (.if_icmp .ge 102, 3) := dk_162 (by decide +kernel)
theorem dX3_layMultipliers_50 : decode cX3_layMultipliers 50 = .ok (.iconst 0, 1) := dk_3 (by decide +kernel)
theorem dX3_layMultipliers_51 : decode cX3_layMultipliers 51 = .ok (.istore 4, 2) := dk_54 (by decide +kernel)
theorem dX3_layMultipliers_53 : decode cX3_layMultipliers 53 = .ok (.iload 4, 2) := dk_21 (by decide +kernel)
theorem dX3_layMultipliers_55 : decode cX3_layMultipliers 55 = .ok (.aload_n 0, 1) := dk_42 (by decide +kernel)
theorem dX3_layMultipliers_56 : decode cX3_layMultipliers 56 = .ok (.getfield 222, 3) := dk_180 (by decide +kernel)
theorem dX3_layMultipliers_59 : decode cX3_layMultipliers 59 = .ok (.if_icmp .ge 48, 3) := dk_162 (by decide +kernel)
theorem dX3_layMultipliers_62 : decode cX3_layMultipliers 62 = .ok (.aload_n 0, 1) := dk_42 (by decide +kernel)
theorem dX3_layMultipliers_63 : decode cX3_layMultipliers 63 = .ok (.getfield 71, 3) := dk_180 (by decide +kernel)
theorem dX3_layMultipliers_66 : decode cX3_layMultipliers 66 = .ok (.iload_n 3, 1) := dk_29 (by decide +kernel)
theorem dX3_layMultipliers_67 : decode cX3_layMultipliers 67 = .ok (.iload 4, 2) := dk_21 (by decide +kernel)
theorem dX3_layMultipliers_69 : decode cX3_layMultipliers 69 = .ok (.iconst 1, 1) := dk_4 (by decide +kernel)
theorem dX3_layMultipliers_70 : decode cX3_layMultipliers 70 = .ok (.iadd, 1) := dk_96 (by decide +kernel)
theorem dX3_layMultipliers_71 : decode cX3_layMultipliers 71 = .ok (.invokevirtual 140, 3) := dk_182 (by decide +kernel)
theorem dX3_layMultipliers_74 : decode cX3_layMultipliers 74 = .ok (.aload_n 0, 1) := dk_42 (by decide +kernel)
theorem dX3_layMultipliers_75 : decode cX3_layMultipliers 75 = .ok (.getfield 56, 3) := dk_180 (by decide +kernel)
theorem dX3_layMultipliers_78 : decode cX3_layMultipliers 78 = .ok (.iload 4, 2) := dk_21 (by decide +kernel)
theorem dX3_layMultipliers_80 : decode cX3_layMultipliers 80 = .ok (.iaload, 1) := dk_46 (by decide +kernel)
theorem dX3_layMultipliers_81 : decode cX3_layMultipliers 81 = .ok (.aload_n 0, 1) := dk_42 (by decide +kernel)
theorem dX3_layMultipliers_82 : decode cX3_layMultipliers 82 = .ok (.getfield 59, 3) := dk_180 (by decide +kernel)
theorem dX3_layMultipliers_85 : decode cX3_layMultipliers 85 = .ok (.aload_n 0, 1) := dk_42 (by decide +kernel)
theorem dX3_layMultipliers_86 : decode cX3_layMultipliers 86 = .ok (.getfield 52, 3) := dk_180 (by decide +kernel)
theorem dX3_layMultipliers_89 : decode cX3_layMultipliers 89 = .ok (.iload 4, 2) := dk_21 (by decide +kernel)
theorem dX3_layMultipliers_91 : decode cX3_layMultipliers 91 = .ok (.iaload, 1) := dk_46 (by decide +kernel)
theorem dX3_layMultipliers_92 : decode cX3_layMultipliers 92 = .ok (.iload_n 3, 1) := dk_29 (by decide +kernel)
theorem dX3_layMultipliers_93 : decode cX3_layMultipliers 93 = .ok (.invokevirtual 216, 3) := dk_182 (by decide +kernel)
theorem dX3_layMultipliers_96 : decode cX3_layMultipliers 96 = .ok (.imul, 1) := dk_104 (by decide +kernel)
theorem dX3_layMultipliers_97 : decode cX3_layMultipliers 97 = .ok (.i2l, 1) := dk_133 (by decide +kernel)
theorem dX3_layMultipliers_98 : decode cX3_layMultipliers 98 = .ok (.invokevirtual 128, 3) := dk_182 (by decide +kernel)
theorem dX3_layMultipliers_101 : decode cX3_layMultipliers 101 = .ok (.iinc 4 1, 3) := dk_132 (by decide +kernel)
theorem dX3_layMultipliers_104 : decode cX3_layMultipliers 104 = .ok (.goto (-51), 3) := dk_167 (by decide +kernel)
theorem dX3_layMultipliers_107 : decode cX3_layMultipliers 107 = .ok (.iload_n 1, 1) := dk_27 (by decide +kernel)
theorem dX3_layMultipliers_108 : decode cX3_layMultipliers 108 = .ok (.ifCond .ne 35, 3) := dk_154 (by decide +kernel)
theorem dX3_layMultipliers_111 : decode cX3_layMultipliers 111 = .ok (.aload_n 0, 1) := dk_42 (by decide +kernel)
theorem dX3_layMultipliers_112 : decode cX3_layMultipliers 112 = .ok (.getfield 59, 3) := dk_180 (by decide +kernel)
theorem dX3_layMultipliers_115 : decode cX3_layMultipliers 115 = .ok (.getfield 83, 3) := dk_180 (by decide +kernel)
theorem dX3_layMultipliers_118 : decode cX3_layMultipliers 118 = .ok (.ifCond .le 25, 3) := dk_158 (by decide +kernel)
theorem dX3_layMultipliers_121 : decode cX3_layMultipliers 121 = .ok (.aload_n 0, 1) := dk_42 (by decide +kernel)
theorem dX3_layMultipliers_122 : decode cX3_layMultipliers 122 = .ok (.getfield 71, 3) := dk_180 (by decide +kernel)
theorem dX3_layMultipliers_125 : decode cX3_layMultipliers 125 = .ok (.iload_n 3, 1) := dk_29 (by decide +kernel)
theorem dX3_layMultipliers_126 : decode cX3_layMultipliers 126 = .ok (.iconst 0, 1) := dk_3 (by decide +kernel)
theorem dX3_layMultipliers_127 : decode cX3_layMultipliers 127 = .ok (.invokevirtual 140, 3) := dk_182 (by decide +kernel)
theorem dX3_layMultipliers_130 : decode cX3_layMultipliers 130 = .ok (.aload_n 0, 1) := dk_42 (by decide +kernel)
theorem dX3_layMultipliers_131 : decode cX3_layMultipliers 131 = .ok (.getfield 63, 3) := dk_180 (by decide +kernel)
theorem dX3_layMultipliers_134 : decode cX3_layMultipliers 134 = .ok (.iconst 0, 1) := dk_3 (by decide +kernel)
theorem dX3_layMultipliers_135 : decode cX3_layMultipliers 135 = .ok (.iload_n 3, 1) := dk_29 (by decide +kernel)
theorem dX3_layMultipliers_136 : decode cX3_layMultipliers 136 = .ok (.invokevirtual 235, 3) := dk_182 (by decide +kernel)
theorem dX3_layMultipliers_139 : decode cX3_layMultipliers 139 = .ok (.lneg, 1) := dk_117 (by decide +kernel)
theorem dX3_layMultipliers_140 : decode cX3_layMultipliers 140 = .ok (.invokevirtual 128, 3) := dk_182 (by decide +kernel)
theorem dX3_layMultipliers_143 : decode cX3_layMultipliers 143 = .ok (.iinc 3 1, 3) := dk_132 (by decide +kernel)
theorem dX3_layMultipliers_146 : decode cX3_layMultipliers 146 = .ok (.goto (-107), 3) := dk_167 (by decide +kernel)
theorem dX3_layMultipliers_149 : decode cX3_layMultipliers 149 = .ok (.iload_n 1, 1) := dk_27 (by decide +kernel)
theorem dX3_layMultipliers_150 : decode cX3_layMultipliers 150 = .ok (.ifCond .eq 61, 3) := dk_153 (by decide +kernel)
theorem dX3_layMultipliers_153 : decode cX3_layMultipliers 153 = .ok (.iconst 0, 1) := dk_3 (by decide +kernel)
theorem dX3_layMultipliers_154 : decode cX3_layMultipliers 154 = .ok (.istore_n 3, 1) := dk_62 (by decide +kernel)
theorem dX3_layMultipliers_155 : decode cX3_layMultipliers 155 = .ok (.iload_n 3, 1) := dk_29 (by decide +kernel)
theorem dX3_layMultipliers_156 : decode cX3_layMultipliers 156 = .ok (.aload_n 0, 1) := dk_42 (by decide +kernel)
theorem dX3_layMultipliers_157 : decode cX3_layMultipliers 157 = .ok (.getfield 222, 3) := dk_180 (by decide +kernel)
theorem dX3_layMultipliers_160 : decode cX3_layMultipliers 160 = .ok (.if_icmp .ge 30, 3) := dk_162 (by decide +kernel)
theorem dX3_layMultipliers_163 : decode cX3_layMultipliers 163 = .ok (.aload_n 0, 1) := dk_42 (by decide +kernel)
theorem dX3_layMultipliers_164 : decode cX3_layMultipliers 164 = .ok (.getfield 71, 3) := dk_180 (by decide +kernel)
theorem dX3_layMultipliers_167 : decode cX3_layMultipliers 167 = .ok (.aload_n 0, 1) := dk_42 (by decide +kernel)
theorem dX3_layMultipliers_168 : decode cX3_layMultipliers 168 = .ok (.getfield 59, 3) := dk_180 (by decide +kernel)
theorem dX3_layMultipliers_171 : decode cX3_layMultipliers 171 = .ok (.getfield 173, 3) := dk_180 (by decide +kernel)
theorem dX3_layMultipliers_174 : decode cX3_layMultipliers 174 = .ok (.iload_n 3, 1) := dk_29 (by decide +kernel)
theorem dX3_layMultipliers_175 : decode cX3_layMultipliers 175 = .ok (.iconst 1, 1) := dk_4 (by decide +kernel)
theorem dX3_layMultipliers_176 : decode cX3_layMultipliers 176 = .ok (.iadd, 1) := dk_96 (by decide +kernel)
theorem dX3_layMultipliers_177 : decode cX3_layMultipliers 177 = .ok (.invokevirtual 140, 3) := dk_182 (by decide +kernel)
theorem dX3_layMultipliers_180 : decode cX3_layMultipliers 180 = .ok (.lconst 1, 1) := dk_10 (by decide +kernel)
theorem dX3_layMultipliers_181 : decode cX3_layMultipliers 181 = .ok (.invokevirtual 128, 3) := dk_182 (by decide +kernel)
theorem dX3_layMultipliers_184 : decode cX3_layMultipliers 184 = .ok (.iinc 3 1, 3) := dk_132 (by decide +kernel)
theorem dX3_layMultipliers_187 : decode cX3_layMultipliers 187 = .ok (.goto (-32), 3) := dk_167 (by decide +kernel)
theorem dX3_layMultipliers_190 : decode cX3_layMultipliers 190 = .ok (.aload_n 0, 1) := dk_42 (by decide +kernel)
theorem dX3_layMultipliers_191 : decode cX3_layMultipliers 191 = .ok (.getfield 71, 3) := dk_180 (by decide +kernel)
theorem dX3_layMultipliers_194 : decode cX3_layMultipliers 194 = .ok (.aload_n 0, 1) := dk_42 (by decide +kernel)
theorem dX3_layMultipliers_195 : decode cX3_layMultipliers 195 = .ok (.getfield 59, 3) := dk_180 (by decide +kernel)
theorem dX3_layMultipliers_198 : decode cX3_layMultipliers 198 = .ok (.getfield 173, 3) := dk_180 (by decide +kernel)
theorem dX3_layMultipliers_201 : decode cX3_layMultipliers 201 = .ok (.iconst 0, 1) := dk_3 (by decide +kernel)
theorem dX3_layMultipliers_202 : decode cX3_layMultipliers 202 = .ok (.invokevirtual 140, 3) := dk_182 (by decide +kernel)
theorem dX3_layMultipliers_205 : decode cX3_layMultipliers 205 = .ok (.ldc2_w 211, 3) := dk_20 (by decide +kernel)
theorem dX3_layMultipliers_208 : decode cX3_layMultipliers 208 = .ok (.invokevirtual 128, 3) := dk_182 (by decide +kernel)
theorem dX3_layMultipliers_211 : decode cX3_layMultipliers 211 = .ok (.iconst 0, 1) := dk_3 (by decide +kernel)
theorem dX3_layMultipliers_212 : decode cX3_layMultipliers 212 = .ok (.istore_n 3, 1) := dk_62 (by decide +kernel)
theorem dX3_layMultipliers_213 : decode cX3_layMultipliers 213 = .ok (.iload_n 3, 1) := dk_29 (by decide +kernel)
theorem dX3_layMultipliers_214 : decode cX3_layMultipliers 214 = .ok (.iload_n 2, 1) := dk_28 (by decide +kernel)
theorem dX3_layMultipliers_215 : decode cX3_layMultipliers 215 = .ok (.if_icmp .ge 18, 3) := dk_162 (by decide +kernel)
theorem dX3_layMultipliers_218 : decode cX3_layMultipliers 218 = .ok (.aload_n 0, 1) := dk_42 (by decide +kernel)
theorem dX3_layMultipliers_219 : decode cX3_layMultipliers 219 = .ok (.getfield 71, 3) := dk_180 (by decide +kernel)
theorem dX3_layMultipliers_222 : decode cX3_layMultipliers 222 = .ok (.iload_n 3, 1) := dk_29 (by decide +kernel)
theorem dX3_layMultipliers_223 : decode cX3_layMultipliers 223 = .ok (.invokevirtual 239, 3) := dk_182 (by decide +kernel)
theorem dX3_layMultipliers_226 : decode cX3_layMultipliers 226 = .ok (.pop, 1) := dk_87 (by decide +kernel)
theorem dX3_layMultipliers_227 : decode cX3_layMultipliers 227 = .ok (.iinc 3 1, 3) := dk_132 (by decide +kernel)
theorem dX3_layMultipliers_230 : decode cX3_layMultipliers 230 = .ok (.goto (-17), 3) := dk_167 (by decide +kernel)
theorem dX3_layMultipliers_233 : decode cX3_layMultipliers 233 = .ok (.aload_n 0, 1) := dk_42 (by decide +kernel)
theorem dX3_layMultipliers_234 : decode cX3_layMultipliers 234 = .ok (.getfield 71, 3) := dk_180 (by decide +kernel)
theorem dX3_layMultipliers_237 : decode cX3_layMultipliers 237 = .ok (.invokevirtual 193, 3) := dk_182 (by decide +kernel)
theorem dX3_layMultipliers_240 : decode cX3_layMultipliers 240 = .ok (.pop, 1) := dk_87 (by decide +kernel)
theorem dX3_layMultipliers_241 : decode cX3_layMultipliers 241 = .ok (.return_, 1) := dk_177 (by decide +kernel)
def wsMX3_layMultipliers : List Cond := .code yX3_layMultipliers cX3_layMultipliers 5 none :: ([.fieldLink RX3 59 "OptimaWorks$Prover" "model" "LOptimaWorks$Model;", .fieldLink RX3 173 "OptimaWorks$Model" "variables" "I", .fieldLink RX3 71 "OptimaWorks$Prover" "tableau" "LOptimaWorks$Tableau;", .fieldLink RX3 222 "OptimaWorks$Prover" "columns" "I", .fieldLink RX3 56 "OptimaWorks$Prover" "turn" "[I", .fieldLink RX3 52 "OptimaWorks$Prover" "need" "[I", .fieldLink RX3 83 "OptimaWorks$Model" "goals" "I", .fieldLink RX3 63 "OptimaWorks$Prover" "solver" "LOptimaWorks$Solver;", .constantLong RX3 211 (-1)] ++ wsX10 ++ wsX30 ++ (wsV RX3 182 RX6 yX6_begin wsMX6_begin) ++ (wsV RX3 140 RX6 yX6_cellAt wsMX6_cellAt) ++ (wsV RX3 216 RX1 yX1_needNumber wsMX1_needNumber) ++ (wsV RX3 128 RX8 yX8_setLong wsMX8_setLong) ++ (wsV RX3 235 RX5 yX5_scaledNumber wsMX5_scaledNumber) ++ (wsV RX3 239 RX6 yX6_holdAtNought wsMX6_holdAtNought) ++ (wsV RX3 193 RX6 yX6_canKeep wsMX6_canKeep))
theorem iwsMX3_layMultipliers_in1 : ∀ w ∈ wsX10, w ∈ wsMX3_layMultipliers := fun _ h => List.mem_cons_of_mem _ (List.mem_append_left _ (List.mem_append_left _ (List.mem_append_left _ (List.mem_append_left _ (List.mem_append_left _ (List.mem_append_left _ (List.mem_append_left _ (List.mem_append_left _ (List.mem_append_right _ h)))))))))
theorem iwsMX3_layMultipliers_in3 : ∀ w ∈ wsX30, w ∈ wsMX3_layMultipliers := fun _ h => List.mem_cons_of_mem _ (List.mem_append_left _ (List.mem_append_left _ (List.mem_append_left _ (List.mem_append_left _ (List.mem_append_left _ (List.mem_append_left _ (List.mem_append_left _ (List.mem_append_right _ h))))))))
theorem gwsMX3_layMultipliers_0 : GoodIn wsMX3_layMultipliers (wsV RX3 182 RX6 yX6_begin wsMX6_begin) := goodIn_sub (fun _ h => List.mem_cons_of_mem _ (List.mem_append_left _ (List.mem_append_left _ (List.mem_append_left _ (List.mem_append_left _ (List.mem_append_left _ (List.mem_append_left _ (List.mem_append_right _ h)))))))) (gdV (by decide +kernel) gdwsMX6_begin)
theorem gwsMX3_layMultipliers_1 : GoodIn wsMX3_layMultipliers (wsV RX3 140 RX6 yX6_cellAt wsMX6_cellAt) := goodIn_sub (fun _ h => List.mem_cons_of_mem _ (List.mem_append_left _ (List.mem_append_left _ (List.mem_append_left _ (List.mem_append_left _ (List.mem_append_left _ (List.mem_append_right _ h))))))) (gdV (by decide +kernel) gdwsMX6_cellAt)
theorem gwsMX3_layMultipliers_2 : GoodIn wsMX3_layMultipliers (wsV RX3 216 RX1 yX1_needNumber wsMX1_needNumber) := goodIn_sub (fun _ h => List.mem_cons_of_mem _ (List.mem_append_left _ (List.mem_append_left _ (List.mem_append_left _ (List.mem_append_left _ (List.mem_append_right _ h)))))) (gdV (by decide +kernel) gdwsMX1_needNumber)
theorem gwsMX3_layMultipliers_3 : GoodIn wsMX3_layMultipliers (wsV RX3 128 RX8 yX8_setLong wsMX8_setLong) := goodIn_sub (fun _ h => List.mem_cons_of_mem _ (List.mem_append_left _ (List.mem_append_left _ (List.mem_append_left _ (List.mem_append_right _ h))))) (gdV (by decide +kernel) gdwsMX8_setLong)
theorem gwsMX3_layMultipliers_4 : GoodIn wsMX3_layMultipliers (wsV RX3 235 RX5 yX5_scaledNumber wsMX5_scaledNumber) := goodIn_sub (fun _ h => List.mem_cons_of_mem _ (List.mem_append_left _ (List.mem_append_left _ (List.mem_append_right _ h)))) (gdV (by decide +kernel) gdwsMX5_scaledNumber)
theorem gwsMX3_layMultipliers_5 : GoodIn wsMX3_layMultipliers (wsV RX3 239 RX6 yX6_holdAtNought wsMX6_holdAtNought) := goodIn_sub (fun _ h => List.mem_cons_of_mem _ (List.mem_append_left _ (List.mem_append_right _ h))) (gdV (by decide +kernel) gdwsMX6_holdAtNought)
theorem gwsMX3_layMultipliers_6 : GoodIn wsMX3_layMultipliers (wsV RX3 193 RX6 yX6_canKeep wsMX6_canKeep) := goodIn_sub (fun _ h => List.mem_cons_of_mem _ (List.mem_append_right _ h)) (gdV (by decide +kernel) gdwsMX6_canKeep)
theorem gdwsMX3_layMultipliers : wsMX3_layMultipliers.all goodWord = true := gdC rfl (gdA (gdA (gdA (gdA (gdA (gdA (gdA (gdA (gdA (by decide +kernel : ([.fieldLink RX3 59 "OptimaWorks$Prover" "model" "LOptimaWorks$Model;", .fieldLink RX3 173 "OptimaWorks$Model" "variables" "I", .fieldLink RX3 71 "OptimaWorks$Prover" "tableau" "LOptimaWorks$Tableau;", .fieldLink RX3 222 "OptimaWorks$Prover" "columns" "I", .fieldLink RX3 56 "OptimaWorks$Prover" "turn" "[I", .fieldLink RX3 52 "OptimaWorks$Prover" "need" "[I", .fieldLink RX3 83 "OptimaWorks$Model" "goals" "I", .fieldLink RX3 63 "OptimaWorks$Prover" "solver" "LOptimaWorks$Solver;", .constantLong RX3 211 (-1)] : List Cond).all goodWord = true) gdwsX10) gdwsX30) (gdV (by decide +kernel) gdwsMX6_begin)) (gdV (by decide +kernel) gdwsMX6_cellAt)) (gdV (by decide +kernel) gdwsMX1_needNumber)) (gdV (by decide +kernel) gdwsMX8_setLong)) (gdV (by decide +kernel) gdwsMX5_scaledNumber)) (gdV (by decide +kernel) gdwsMX6_holdAtNought)) (gdV (by decide +kernel) gdwsMX6_canKeep))
theorem hm_m_X3_layMultipliers_0 : (.fieldLink RX3 59 "OptimaWorks$Prover" "model" "LOptimaWorks$Model;" : Cond) ∈ wsMX3_layMultipliers := by decide +kernel
theorem hm_m_X3_layMultipliers_1 : (.fieldLink RX3 173 "OptimaWorks$Model" "variables" "I" : Cond) ∈ wsMX3_layMultipliers := by decide +kernel
theorem hm_m_X3_layMultipliers_2 : (.fieldLink RX3 71 "OptimaWorks$Prover" "tableau" "LOptimaWorks$Tableau;" : Cond) ∈ wsMX3_layMultipliers := by decide +kernel
theorem hm_m_X3_layMultipliers_3 : (.fieldLink RX3 222 "OptimaWorks$Prover" "columns" "I" : Cond) ∈ wsMX3_layMultipliers := by decide +kernel
set_option maxHeartbeats 4000000 in
set_option maxRecDepth 100000 in
/-- the multipliers are laid out -/
theorem m_X3_layMultipliers (l : Launch) (dC : Nat → ClassId) (dI : Nat → Nat → Nat) (hG : Nat → Nat) (aG : Nat → Nat) (kG : Nat → ClassId) (hM : Nat → Nat) (hO : Nat → Nat) (hQ : Nat → Nat) (hw : Nat → Nat) (iG_made : Int32) (iG_keptNeeds : Int32) (fG_kept : Nat → Int32) (fG_need : Nat → Int32) (fG_turn : Nat → Int32) (iG_columns : Int32) (aO : Nat → Nat) (kO : Nat → ClassId) (iO_answered : Int32) (iO_searched : Int32) (iO_searchedRelaxed : Int32) (iO_counted : Int32) (fO_countedCase : Nat → Int32) (gO_goalNumber : Nat → Int64) (gO_goalScale : Nat → Int64) (fO_start : Nat → Int32) (fO_column : Nat → Int32) (fO_chosen : Nat → Int32) (aM : Nat → Nat) (kM : Nat → ClassId) (iM_stands : Int32) (iM_variables : Int32) (iM_rows : Int32) (iM_goals : Int32) (iM_differents : Int32) (iM_cases : Int32) (fM_from : Nat → Int32) (fM_to : Nat → Int32) (fM_whole : Nat → Int32) (fM_ways : Nat → Int32) (iM_plainRows : Int32) (fM_plainRow : Nat → Int32) (fM_kept : Nat → Int32) (fM_goalOver : Nat → Int32) (fM_goalUnder : Nat → Int32) (fM_goalMax : Nat → Int32) (fM_different : Nat → Int32) (aQ : Nat → Nat) (kQ : Nat → ClassId) (fQ_inside : Nat → Int32) (fQ_outside : Nat → Int32) (fQ_shut : Nat → Int32) (iQ_rows : Int32) (iQ_allRows : Int32) (iQ_columns : Int32) (nW : Nat) (lw : Nat → Nat) (kw : ClassId) (wl : Nat → Int32) (wb : Nat → Int32) (wG : Nat → Nat → Int64) (p1 : Int32) (b_iG_made : 0 ≤ iG_made.toInt ∧ iG_made.toInt ≤ 1) (b_fG_need : ∀ q : Nat, 0 ≤ (fG_need q).toInt ∧ (fG_need q).toInt ≤ 27) (b_iG_columns : 0 ≤ iG_columns.toInt ∧ iG_columns.toInt ≤ 40) (b_iO_answered : 0 ≤ iO_answered.toInt ∧ iO_answered.toInt ≤ 1) (b_iO_searched : 0 ≤ iO_searched.toInt ∧ iO_searched.toInt ≤ 1) (b_iO_searchedRelaxed : 0 ≤ iO_searchedRelaxed.toInt ∧ iO_searchedRelaxed.toInt ≤ 1) (b_iO_counted : (-1) ≤ iO_counted.toInt ∧ iO_counted.toInt ≤ 64) (b_fO_countedCase : ∀ q : Nat, 0 ≤ (fO_countedCase q).toInt ∧ (fO_countedCase q).toInt ≤ 200000) (b_fO_column : ∀ q : Nat, (-1) ≤ (fO_column q).toInt ∧ (fO_column q).toInt ≤ 8) (b_fO_chosen : ∀ q : Nat, 0 ≤ (fO_chosen q).toInt ∧ (fO_chosen q).toInt ≤ 2) (b_iM_stands : 0 ≤ iM_stands.toInt ∧ iM_stands.toInt ≤ 1) (b_iM_variables : 0 ≤ iM_variables.toInt ∧ iM_variables.toInt ≤ 8) (b_iM_rows : 0 ≤ iM_rows.toInt ∧ iM_rows.toInt ≤ 12) (b_iM_goals : 0 ≤ iM_goals.toInt ∧ iM_goals.toInt ≤ 3) (b_iM_differents : 0 ≤ iM_differents.toInt ∧ iM_differents.toInt ≤ 8) (b_iM_cases : 0 ≤ iM_cases.toInt ∧ iM_cases.toInt ≤ 200000) (b_fM_ways : ∀ q : Nat, 0 ≤ (fM_ways q).toInt ∧ (fM_ways q).toInt ≤ 3) (b_iM_plainRows : 0 ≤ iM_plainRows.toInt ∧ iM_plainRows.toInt ≤ 12) (b_fM_plainRow : ∀ q : Nat, 0 ≤ (fM_plainRow q).toInt ∧ (fM_plainRow q).toInt ≤ 11) (b_pr : iM_plainRows.toInt ≤ iM_rows.toInt) (b_iQ_rows : 0 ≤ iQ_rows.toInt ∧ iQ_rows.toInt ≤ 40) (b_iQ_allRows : 0 ≤ iQ_allRows.toInt ∧ iQ_allRows.toInt ≤ 40) (b_iQ_columns : 0 ≤ iQ_columns.toInt ∧ iQ_columns.toInt ≤ 40) (b_tb : TbO iQ_rows iQ_allRows iQ_columns) (b_wl : ∀ q : Nat, 0 ≤ (wl q).toInt ∧ (wl q).toInt ≤ 14) (b_wb : ∀ q : Nat, 0 ≤ (wb q).toInt ∧ (wb q).toInt ≤ 1) (hnW : 474 ≤ nW) (hNd : NdOc fG_need iG_columns.toInt (iM_plainRows.toInt + 2 * iM_variables.toInt)) (sz : Nat) : Met l yX3_layMultipliers wsMX3_layMultipliers ({ frames := 6, cells := 0, slots := 0, locals := 154 }) (va_Pc [.ref (hG 0), .int p1] (fun U => U.heap.size = sz ∧ va_P (dC, dI) vwCl (WG hG aG kG hM hO hQ hw iG_made iG_keptNeeds fG_kept fG_need fG_turn iG_columns ++ (WO hO aO kO hM hQ hw iO_answered iO_searched iO_searchedRelaxed iO_counted fO_countedCase gO_goalNumber gO_goalScale fO_start fO_column fO_chosen ++ (WM hM aM kM iM_stands iM_variables iM_rows iM_goals iM_differents iM_cases fM_from fM_to fM_whole fM_ways iM_plainRows fM_plainRow fM_kept fM_goalOver fM_goalUnder fM_goalMax fM_different ++ (WQ hQ aQ kQ hw fQ_inside fQ_outside fQ_shut iQ_rows iQ_allRows iQ_columns ++ (WW nW hw lw kw wl wb wG))))) U.heap ∧ va_K (dC, dI) vwCl (tG kG ++ (tO kO ++ (tM kM ++ (tQ kQ ++ (tW kw))))) U ∧ va_D (fun _ => True) (WG hG aG kG hM hO hQ hw iG_made iG_keptNeeds fG_kept fG_need fG_turn iG_columns ++ (WO hO aO kO hM hQ hw iO_answered iO_searched iO_searchedRelaxed iO_counted fO_countedCase gO_goalNumber gO_goalScale fO_start fO_column fO_chosen ++ (WM hM aM kM iM_stands iM_variables iM_rows iM_goals iM_differents iM_cases fM_from fM_to fM_whole fM_ways iM_plainRows fM_plainRow fM_kept fM_goalOver fM_goalUnder fM_goalMax fM_different ++ (WQ hQ aQ kQ hw fQ_inside fQ_outside fQ_shut iQ_rows iQ_allRows iQ_columns ++ (WW nW hw lw kw wl wb wG))))))) (va_Qv (fun (u : (Nat → Int32) × (Nat → Int32) × (Nat → Int32) × (Int32) × (Int32) × (Int32) × (Nat → Int32) × (Nat → Int32) × (Nat → Nat → Int64)) => (0 ≤ (u.2.2.2.1).toInt ∧ (u.2.2.2.1).toInt ≤ 40) ∧ (0 ≤ (u.2.2.2.2.1).toInt ∧ (u.2.2.2.2.1).toInt ≤ 40) ∧ (0 ≤ (u.2.2.2.2.2.1).toInt ∧ (u.2.2.2.2.2.1).toInt ≤ 40) ∧ (∀ q : Nat, 0 ≤ ((u.2.2.2.2.2.2.1) q).toInt ∧ ((u.2.2.2.2.2.2.1) q).toInt ≤ 14) ∧ (∀ q : Nat, 0 ≤ ((u.2.2.2.2.2.2.2.1) q).toInt ∧ ((u.2.2.2.2.2.2.2.1) q).toInt ≤ 1) ∧ (TbO (u.2.2.2.1) (u.2.2.2.2.1) (u.2.2.2.2.2.1))) (fun (u : (Nat → Int32) × (Nat → Int32) × (Nat → Int32) × (Int32) × (Int32) × (Int32) × (Nat → Int32) × (Nat → Int32) × (Nat → Nat → Int64)) t => va_P (dC, dI) vwCl (WG hG aG kG hM hO hQ hw iG_made iG_keptNeeds fG_kept fG_need fG_turn iG_columns ++ (WO hO aO kO hM hQ hw iO_answered iO_searched iO_searchedRelaxed iO_counted fO_countedCase gO_goalNumber gO_goalScale fO_start fO_column fO_chosen ++ (WM hM aM kM iM_stands iM_variables iM_rows iM_goals iM_differents iM_cases fM_from fM_to fM_whole fM_ways iM_plainRows fM_plainRow fM_kept fM_goalOver fM_goalUnder fM_goalMax fM_different ++ (WQ hQ aQ kQ hw (u.1) (u.2.1) (u.2.2.1) (u.2.2.2.1) (u.2.2.2.2.1) (u.2.2.2.2.2.1) ++ (WW nW hw lw kw (u.2.2.2.2.2.2.1) (u.2.2.2.2.2.2.2.1) (u.2.2.2.2.2.2.2.2)))))) t.heap ∧ va_D (va_A (WG hG aG kG hM hO hQ hw iG_made iG_keptNeeds fG_kept fG_need fG_turn iG_columns ++ (WO hO aO kO hM hQ hw iO_answered iO_searched iO_searchedRelaxed iO_counted fO_countedCase gO_goalNumber gO_goalScale fO_start fO_column fO_chosen ++ (WM hM aM kM iM_stands iM_variables iM_rows iM_goals iM_differents iM_cases fM_from fM_to fM_whole fM_ways iM_plainRows fM_plainRow fM_kept fM_goalOver fM_goalUnder fM_goalMax fM_different ++ (WQ hQ aQ kQ hw fQ_inside fQ_outside fQ_shut iQ_rows iQ_allRows iQ_columns ++ (WW nW hw lw kw wl wb wG))))) sz) (WG hG aG kG hM hO hQ hw iG_made iG_keptNeeds fG_kept fG_need fG_turn iG_columns ++ (WO hO aO kO hM hQ hw iO_answered iO_searched iO_searchedRelaxed iO_counted fO_countedCase gO_goalNumber gO_goalScale fO_start fO_column fO_chosen ++ (WM hM aM kM iM_stands iM_variables iM_rows iM_goals iM_differents iM_cases fM_from fM_to fM_whole fM_ways iM_plainRows fM_plainRow fM_kept fM_goalOver fM_goalUnder fM_goalMax fM_different ++ (WQ hQ aQ kQ hw (u.1) (u.2.1) (u.2.2.1) (u.2.2.2.1) (u.2.2.2.2.1) (u.2.2.2.2.2.1) ++ (WW nW hw lw kw (u.2.2.2.2.2.2.1) (u.2.2.2.2.2.2.2.1) (u.2.2.2.2.2.2.2.2))))))) (va_A (WG hG aG kG hM hO hQ hw iG_made iG_keptNeeds fG_kept fG_need fG_turn iG_columns ++ (WO hO aO kO hM hQ hw iO_answered iO_searched iO_searchedRelaxed iO_counted fO_countedCase gO_goalNumber gO_goalScale fO_start fO_column fO_chosen ++ (WM hM aM kM iM_stands iM_variables iM_rows iM_goals iM_differents iM_cases fM_from fM_to fM_whole fM_ways iM_plainRows fM_plainRow fM_kept fM_goalOver fM_goalUnder fM_goalMax fM_different ++ (WQ hQ aQ kQ hw fQ_inside fQ_outside fQ_shut iQ_rows iQ_allRows iQ_columns ++ (WW nW hw lw kw wl wb wG))))) sz)) 0 0 (va_A (WG hG aG kG hM hO hQ hw iG_made iG_keptNeeds fG_kept fG_need fG_turn iG_columns ++ (WO hO aO kO hM hQ hw iO_answered iO_searched iO_searchedRelaxed iO_counted fO_countedCase gO_goalNumber gO_goalScale fO_start fO_column fO_chosen ++ (WM hM aM kM iM_stands iM_variables iM_rows iM_goals iM_differents iM_cases fM_from fM_to fM_whole fM_ways iM_plainRows fM_plainRow fM_kept fM_goalOver fM_goalUnder fM_goalMax fM_different ++ (WQ hQ aQ kQ hw fQ_inside fQ_outside fQ_shut iQ_rows iQ_allRows iQ_columns ++ (WW nW hw lw kw wl wb wG))))) sz) := by
  refine Met.ofW (cc := cX3_layMultipliers) (maxL := 5) (ret := none) (by decide) rfl ?_
  intro p e s m args below meth c s₁ B hml hv
  obtain ⟨rfl, hsz, hP, hK, hD0⟩ := hv
  have hx := B.exec
  have hb := B.bytes
  have hr := B.returns
  have hts := atoms_spec (ws := wsMX3_layMultipliers) B.pre
  have hown : s.vm.findClass RX3 = some m.cls := findClass_of_methodNamed B.named
  have hlocks := B.notSynchronized
  subst hsz
  have hD := hD0.self (sz := s.heap.size)
  generalize hAe : va_A (WG hG aG kG hM hO hQ hw iG_made iG_keptNeeds fG_kept fG_need fG_turn iG_columns ++ (WO hO aO kO hM hQ hw iO_answered iO_searched iO_searchedRelaxed iO_counted fO_countedCase gO_goalNumber gO_goalScale fO_start fO_column fO_chosen ++ (WM hM aM kM iM_stands iM_variables iM_rows iM_goals iM_differents iM_cases fM_from fM_to fM_whole fM_ways iM_plainRows fM_plainRow fM_kept fM_goalOver fM_goalUnder fM_goalMax fM_different ++ (WQ hQ aQ kQ hw fQ_inside fQ_outside fQ_shut iQ_rows iQ_allRows iQ_columns ++ (WW nW hw lw kw wl wb wG))))) s.heap.size = A at hD ⊢
  have hA : ∀ q : Nat, s.heap.size ≤ q → A q := fun q h => by rw [← hAe]; exact Or.inr h
  have hS : va_S A s.heap s.heap [] := va_S.rf
  have hl := lv_entry ([.ref (hG 0), .int p1]) (n := 5) (Nat.le_of_ble_eq_true rfl)
  rw [lg_entry_eq]
  generalize (lg_sl ([.ref (hG 0), .int p1]) ++ List.replicate (5 - (lg_sl ([.ref (hG 0), .int p1])).length) Slot.unset).toArray = ls at hl ⊢
  have hl : lv_has ls 5 [(0, .ref (hG 0)), (1, .int p1)] := hl
  refine lv_iload_n hx hb dX3_layMultipliers_0 rfl (lv_at hl 1 rfl) ?_
  refine W.cut (pc := 23) (fun H locs ls stk => ∃ (k0_j23 : Int32), (0 ≤ k0_j23.toInt ∧ k0_j23.toInt ≤ 9) ∧  stk = [.int k0_j23] ∧ va_P (dC, dI) vwCl (WG hG aG kG hM hO hQ hw iG_made iG_keptNeeds fG_kept fG_need fG_turn iG_columns ++ (WO hO aO kO hM hQ hw iO_answered iO_searched iO_searchedRelaxed iO_counted fO_countedCase gO_goalNumber gO_goalScale fO_start fO_column fO_chosen ++ (WM hM aM kM iM_stands iM_variables iM_rows iM_goals iM_differents iM_cases fM_from fM_to fM_whole fM_ways iM_plainRows fM_plainRow fM_kept fM_goalOver fM_goalUnder fM_goalMax fM_different ++ (WQ hQ aQ kQ hw fQ_inside fQ_outside fQ_shut iQ_rows iQ_allRows iQ_columns ++ (WW nW hw lw kw wl wb wG))))) H ∧ va_D A (WG hG aG kG hM hO hQ hw iG_made iG_keptNeeds fG_kept fG_need fG_turn iG_columns ++ (WO hO aO kO hM hQ hw iO_answered iO_searched iO_searchedRelaxed iO_counted fO_countedCase gO_goalNumber gO_goalScale fO_start fO_column fO_chosen ++ (WM hM aM kM iM_stands iM_variables iM_rows iM_goals iM_differents iM_cases fM_from fM_to fM_whole fM_ways iM_plainRows fM_plainRow fM_kept fM_goalOver fM_goalUnder fM_goalMax fM_different ++ (WQ hQ aQ kQ hw fQ_inside fQ_outside fQ_shut iQ_rows iQ_allRows iQ_columns ++ (WW nW hw lw kw wl wb wG))))) ∧ va_S A s.heap H locs ∧ lv_has ls 5 [(0, .ref (hG 0)), (1, .int p1)]) (fun join23 => ?_) ?_
  · refine lv_if_eq (tgt := 16) hx hb dX3_layMultipliers_1 (by decide) (fun c_1 => ?_) (fun c_1 => ?_)
    · have t_1 : p1.toInt = 0 := toI_eq c_1 rfl (by decide : (0 : Int32).toInt = 0)
      refine lv_aload_n hx hb dX3_layMultipliers_16 rfl (lv_at hl 0 rfl) ?_
      refine va_get (D := (dC, dI)) (ci := 3) (v := .ref (hM 0)) (C := RX3) (T := TX3) (N := 17) hx hb hts iwsMX3_layMultipliers_in3 hown hK hP 0 rfl rfl 0 (by decide) (hts _ hm_m_X3_layMultipliers_0) (fun _ h9 => h9) rfl dX3_layMultipliers_17 ?_
      refine va_get (D := (dC, dI)) (ci := 1) (v := .int iM_variables) (C := RX1) (T := TX1) (N := 17) hx hb hts iwsMX3_layMultipliers_in1 hown hK hP 17 rfl rfl 1 (by decide) (hts _ hm_m_X3_layMultipliers_1) (fun _ h9 => h9) rfl dX3_layMultipliers_20 ?_
      have hl : lv_has _ _ ([(0, .ref (hG 0)), (1, .int p1)]) := lv_sub hl [0, 1] rfl
      exact join23 _ _ _ _ ⟨iM_variables, (⟨b_iM_variables.1, Int.le_trans b_iM_variables.2 (by decide)⟩), rfl, hP, hD, hS, hl⟩
    · have t_1 : ¬ p1.toInt = 0 := toI_neq c_1 rfl (by decide : (0 : Int32).toInt = 0)
      refine lv_aload_n hx hb dX3_layMultipliers_4 rfl (lv_at hl 0 rfl) ?_
      refine va_get (D := (dC, dI)) (ci := 3) (v := .ref (hM 0)) (C := RX3) (T := TX3) (N := 17) hx hb hts iwsMX3_layMultipliers_in3 hown hK hP 0 rfl rfl 0 (by decide) (hts _ hm_m_X3_layMultipliers_0) (fun _ h9 => h9) rfl dX3_layMultipliers_5 ?_
      refine va_get (D := (dC, dI)) (ci := 1) (v := .int iM_variables) (C := RX1) (T := TX1) (N := 17) hx hb hts iwsMX3_layMultipliers_in1 hown hK hP 17 rfl rfl 1 (by decide) (hts _ hm_m_X3_layMultipliers_1) (fun _ h9 => h9) rfl dX3_layMultipliers_8 ?_
      refine lv_iconst (v := 1) hx hb dX3_layMultipliers_11 (by decide) ?_
      refine lv_iadd hx hb dX3_layMultipliers_12 ?_
      refine lv_topi (fun y2 hy2 => ?_)
      obtain rfl : (iI (iM_variables.toInt + 1)) = y2 := (hy2.trans (iI_add2 (iI_of _) (by decide : (1 : Int32) = iI 1))).symm
      refine lv_goto (tgt := 23) hx hb dX3_layMultipliers_13 (by decide) ?_
      have hl : lv_has _ _ ([(0, .ref (hG 0)), (1, .int p1)]) := lv_sub hl [0, 1] rfl
      exact join23 _ _ _ _ ⟨(iI (iM_variables.toInt + 1)), (iI_rng (Int.le_trans (by decide) (Int.add_le_add (b_iM_variables.1) (Int.le_refl _))) (Int.le_trans (Int.add_le_add (b_iM_variables.2) (Int.le_refl _)) (by decide)) (by decide) (by decide)), rfl, hP, hD, hS, hl⟩
  · rintro H locs ls stk ⟨k0_j23, b_k0_j23, rfl, hP, hD, hS, hl⟩
    refine lv_istore_n hx hb dX3_layMultipliers_23 rfl hl (by decide) rfl (fun ls (hl : lv_has ls _ ([(2, .int k0_j23), (0, .ref (hG 0)), (1, .int p1)])) => ?_)
    refine lv_aload_n hx hb dX3_layMultipliers_24 rfl (lv_at hl 1 rfl) ?_
    refine va_get (D := (dC, dI)) (ci := 3) (v := .ref (hQ 0)) (C := RX3) (T := TX3) (N := 17) hx hb hts iwsMX3_layMultipliers_in3 hown hK hP 0 rfl rfl 2 (by decide) (hts _ hm_m_X3_layMultipliers_2) (fun _ h9 => h9) rfl dX3_layMultipliers_25 ?_
    refine lv_iload_n hx hb dX3_layMultipliers_28 rfl (lv_at hl 0 rfl) ?_
    refine lv_iconst (v := 0) hx hb dX3_layMultipliers_29 (by decide) ?_
    refine lv_aload_n hx hb dX3_layMultipliers_30 rfl (lv_at hl 1 rfl) ?_
    refine va_get (D := (dC, dI)) (ci := 3) (v := .int iG_columns) (C := RX3) (T := TX3) (N := 17) hx hb hts iwsMX3_layMultipliers_in3 hown hK hP 0 rfl rfl 16 (by decide) (hts _ hm_m_X3_layMultipliers_3) (fun _ h9 => h9) rfl dX3_layMultipliers_31 ?_
    have p9 := cj_5_3_4 (WG hG aG kG hM hO hQ hw iG_made iG_keptNeeds fG_kept fG_need fG_turn iG_columns) (WO hO aO kO hM hQ hw iO_answered iO_searched iO_searchedRelaxed iO_counted fO_countedCase gO_goalNumber gO_goalScale fO_start fO_column fO_chosen) (WM hM aM kM iM_stands iM_variables iM_rows iM_goals iM_differents iM_cases fM_from fM_to fM_whole fM_ways iM_plainRows fM_plainRow fM_kept fM_goalOver fM_goalUnder fM_goalMax fM_different) (WQ hQ aQ kQ hw fQ_inside fQ_outside fQ_shut iQ_rows iQ_allRows iQ_columns) (WW nW hw lw kw wl wb wG)
    have hPc := hP.mem (fun q h => p9.mem_iff.mpr (List.mem_append_left _ h))
    have hDc := (hD.perm p9).left
    have hKc : va_K (dC, dI) vwCl (tQ kQ ++ (tW kw)) _ := hK.sub [25, 26, 27, 28, 29] rfl
    have hFc := freeG p9 hD hS hA
    refine va_callv (va_runV (As := [.int k0_j23, .int 0, .int iG_columns]) (rest := []) ⟨hx, hb, hml, hown, hts⟩ (m_X6_begin l dC dI hQ aQ kQ hw fQ_inside fQ_outside fQ_shut iQ_rows iQ_allRows iQ_columns nW lw kw wl wb wG k0_j23 0 iG_columns (b_iQ_rows) (b_iQ_allRows) (b_iQ_columns) (by first | with_reducible assumption | omega | assumption) b_wl b_wb (⟨b_k0_j23.1, Int.le_trans b_k0_j23.2 (by decide)⟩) (show 0 ≤ (0 : Int32).toInt ∧ (0 : Int32).toInt ≤ 40 from by decide) (b_iG_columns) (by omega) (by have h8 : (0 : Int32).toInt = 0 := (by decide); omega) (mul9 (by omega) (by omega) (by omega) (by omega)) H.size) (cwV 3 hts gwsMX3_layMultipliers_0 rfl rfl rfl hd_yX6_begin_RX6 (by decide +kernel)) (fz_pre (va_recv hK hP (ci := 6) (q0 := 28) rfl rfl) hPc hKc hDc) rfl rfl hl.1 rfl (lv_room (Nat.le_of_ble_eq_true rfl)) dX3_layMultipliers_34 (by decide +kernel)) hS (fun q _ h => hFc q h) hFc (fun u t9_ H locs ht hvm hw9 hB9 hz1 hk1 hS => ?_)
    revert u hw9 hB9
    refine fz_p9 ?_
    intro fQ_inside_3 fQ_outside_3 fQ_shut_3 iQ_rows_3 iQ_allRows_3 iQ_columns_3 wl_3 wb_3 wG_3 hw9 hB9
    try dsimp only at hw9 hB9
    revert hw9
    refine fz_a9 ?_
    intro b_iQ_rows_3 b_iQ_allRows_3 b_iQ_columns_3 b_wl_3 b_wb_3 b_tb_3 f3_0 f3_1 f3_2
    have p8 := cj_5_3_4 (WG hG aG kG hM hO hQ hw iG_made iG_keptNeeds fG_kept fG_need fG_turn iG_columns) (WO hO aO kO hM hQ hw iO_answered iO_searched iO_searchedRelaxed iO_counted fO_countedCase gO_goalNumber gO_goalScale fO_start fO_column fO_chosen) (WM hM aM kM iM_stands iM_variables iM_rows iM_goals iM_differents iM_cases fM_from fM_to fM_whole fM_ways iM_plainRows fM_plainRow fM_kept fM_goalOver fM_goalUnder fM_goalMax fM_different) (WQ hQ aQ kQ hw fQ_inside_3 fQ_outside_3 fQ_shut_3 iQ_rows_3 iQ_allRows_3 iQ_columns_3) (WW nW hw lw kw wl_3 wb_3 wG_3)
    obtain ⟨hP, hD⟩ := frameG p9 p8 hP hD hk1 hFc (fz_P ht hB9.1) hB9.2
    have hb3 := f3_2
    refine lv_iconst (v := 0) hx hb dX3_layMultipliers_37 (by decide) ?_
    refine lv_istore_n hx hb dX3_layMultipliers_38 rfl hl (by decide) rfl (fun ls (hl : lv_has ls _ ([(3, .int 0), (2, .int k0_j23), (0, .ref (hG 0)), (1, .int p1)])) => ?_)
    have hl : lv_has _ _ ([(3, .int 0), (2, .int k0_j23), (0, .ref (hG 0)), (1, .int p1)]) := lv_sub hl [0, 1, 2, 3] rfl
    refine (fun (loop : ∀ (n9 : Nat) (wl_x39 : Nat → Int32) (wb_x39 : Nat → Int32) (wG_x39 : Nat → Nat → Int64) (l3_x39 : Int32) (H : Heap) (locs : List Loc) (ls : Array Slot), (∀ q : Nat, 0 ≤ (wl_x39 q).toInt ∧ (wl_x39 q).toInt ≤ 14) → (∀ q : Nat, 0 ≤ (wb_x39 q).toInt ∧ (wb_x39 q).toInt ≤ 1) → (0 ≤ l3_x39.toInt ∧ l3_x39.toInt ≤ 8) → (8 - l3_x39.toInt < ((n9 : Nat) : Int)) → va_P (dC, dI) vwCl (WG hG aG kG hM hO hQ hw iG_made iG_keptNeeds fG_kept fG_need fG_turn iG_columns ++ (WO hO aO kO hM hQ hw iO_answered iO_searched iO_searchedRelaxed iO_counted fO_countedCase gO_goalNumber gO_goalScale fO_start fO_column fO_chosen ++ (WM hM aM kM iM_stands iM_variables iM_rows iM_goals iM_differents iM_cases fM_from fM_to fM_whole fM_ways iM_plainRows fM_plainRow fM_kept fM_goalOver fM_goalUnder fM_goalMax fM_different ++ (WQ hQ aQ kQ hw fQ_inside_3 fQ_outside_3 fQ_shut_3 iQ_rows_3 iQ_allRows_3 iQ_columns_3 ++ (WW nW hw lw kw wl_x39 wb_x39 wG_x39))))) H → va_D A (WG hG aG kG hM hO hQ hw iG_made iG_keptNeeds fG_kept fG_need fG_turn iG_columns ++ (WO hO aO kO hM hQ hw iO_answered iO_searched iO_searchedRelaxed iO_counted fO_countedCase gO_goalNumber gO_goalScale fO_start fO_column fO_chosen ++ (WM hM aM kM iM_stands iM_variables iM_rows iM_goals iM_differents iM_cases fM_from fM_to fM_whole fM_ways iM_plainRows fM_plainRow fM_kept fM_goalOver fM_goalUnder fM_goalMax fM_different ++ (WQ hQ aQ kQ hw fQ_inside_3 fQ_outside_3 fQ_shut_3 iQ_rows_3 iQ_allRows_3 iQ_columns_3 ++ (WW nW hw lw kw wl_x39 wb_x39 wG_x39))))) → va_S A s.heap H locs → lv_has ls 5 [(3, .int l3_x39), (2, .int k0_j23), (0, .ref (hG 0)), (1, .int p1)] → W p l e _ s m _ below meth c H locs 0 0 _ (F0 m 39 ls [])) => loop (9) wl_3 wb_3 wG_3 0 _ _ _ b_wl_3 b_wb_3 (show 0 ≤ (0 : Int32).toInt ∧ (0 : Int32).toInt ≤ 8 from by decide) ((by have e9 : (0 : Int32).toInt = 0 := (by decide : (0 : Int32).toInt = 0); omega)) hP hD hS hl) ?_
    intro n9
    induction n9 with
    | zero => intro wl_x39 wb_x39 wG_x39 l3_x39 H locs ls b_wl_x39 b_wb_x39 b_l3_x39 hf9; exact False.elim (by omega)
    | succ n9 ihx39 =>
      intro wl_x39 wb_x39 wG_x39 l3_x39 H locs ls b_wl_x39 b_wb_x39 b_l3_x39 hfx39 hP hD hS hl
      refine lv_iload_n hx hb dX3_layMultipliers_39 rfl (lv_at hl 0 rfl) ?_
      refine lv_aload_n hx hb dX3_layMultipliers_40 rfl (lv_at hl 2 rfl) ?_
      refine va_get (D := (dC, dI)) (ci := 3) (v := .ref (hM 0)) (C := RX3) (T := TX3) (N := 17) hx hb hts iwsMX3_layMultipliers_in3 hown hK hP 0 rfl rfl 0 (by decide) (hts _ hm_m_X3_layMultipliers_0) (fun _ h9 => h9) rfl dX3_layMultipliers_41 ?_
      refine va_get (D := (dC, dI)) (ci := 1) (v := .int iM_variables) (C := RX1) (T := TX1) (N := 17) hx hb hts iwsMX3_layMultipliers_in1 hown hK hP 17 rfl rfl 1 (by decide) (hts _ hm_m_X3_layMultipliers_1) (fun _ h9 => h9) rfl dX3_layMultipliers_44 ?_
      refine lv_icmp_ge (tgt := 149) hx hb dX3_layMultipliers_47 (by decide) (fun c_47 => ?_) (fun c_47 => ?_)
      · have t_47 : l3_x39.toInt ≥ iM_variables.toInt := toI_ge c_47 rfl rfl
        refine lv_iload_n hx hb dX3_layMultipliers_149 rfl (lv_at hl 3 rfl) ?_
        refine W.cut (pc := 211) (fun H locs ls stk => ∃ (wl_j41 : Nat → Int32) (wb_j41 : Nat → Int32) (wG_j41 : Nat → Nat → Int64) (l3_j41 : Int32), (∀ q : Nat, 0 ≤ (wl_j41 q).toInt ∧ (wl_j41 q).toInt ≤ 14) ∧ (∀ q : Nat, 0 ≤ (wb_j41 q).toInt ∧ (wb_j41 q).toInt ≤ 1) ∧ (0 ≤ l3_j41.toInt ∧ l3_j41.toInt ≤ 40) ∧  stk = [] ∧ va_P (dC, dI) vwCl (WG hG aG kG hM hO hQ hw iG_made iG_keptNeeds fG_kept fG_need fG_turn iG_columns ++ (WO hO aO kO hM hQ hw iO_answered iO_searched iO_searchedRelaxed iO_counted fO_countedCase gO_goalNumber gO_goalScale fO_start fO_column fO_chosen ++ (WM hM aM kM iM_stands iM_variables iM_rows iM_goals iM_differents iM_cases fM_from fM_to fM_whole fM_ways iM_plainRows fM_plainRow fM_kept fM_goalOver fM_goalUnder fM_goalMax fM_different ++ (WQ hQ aQ kQ hw fQ_inside_3 fQ_outside_3 fQ_shut_3 iQ_rows_3 iQ_allRows_3 iQ_columns_3 ++ (WW nW hw lw kw wl_j41 wb_j41 wG_j41))))) H ∧ va_D A (WG hG aG kG hM hO hQ hw iG_made iG_keptNeeds fG_kept fG_need fG_turn iG_columns ++ (WO hO aO kO hM hQ hw iO_answered iO_searched iO_searchedRelaxed iO_counted fO_countedCase gO_goalNumber gO_goalScale fO_start fO_column fO_chosen ++ (WM hM aM kM iM_stands iM_variables iM_rows iM_goals iM_differents iM_cases fM_from fM_to fM_whole fM_ways iM_plainRows fM_plainRow fM_kept fM_goalOver fM_goalUnder fM_goalMax fM_different ++ (WQ hQ aQ kQ hw fQ_inside_3 fQ_outside_3 fQ_shut_3 iQ_rows_3 iQ_allRows_3 iQ_columns_3 ++ (WW nW hw lw kw wl_j41 wb_j41 wG_j41))))) ∧ va_S A s.heap H locs ∧ lv_has ls 5 [(3, .int l3_j41), (2, .int k0_j23), (0, .ref (hG 0)), (1, .int p1)]) (fun join41 => ?_) ?_
        · refine lv_if_eq (tgt := 211) hx hb dX3_layMultipliers_150 (by decide) (fun c_150 => ?_) (fun c_150 => ?_)
          · have t_150 : p1.toInt = 0 := toI_eq c_150 rfl (by decide : (0 : Int32).toInt = 0)
            have hl : lv_has _ _ ([(3, .int l3_x39), (2, .int k0_j23), (0, .ref (hG 0)), (1, .int p1)]) := lv_sub hl [0, 1, 2, 3] rfl
            exact join41 _ _ _ _ ⟨wl_x39, wb_x39, wG_x39, l3_x39, b_wl_x39, b_wb_x39, (⟨b_l3_x39.1, Int.le_trans b_l3_x39.2 (by decide)⟩), rfl, hP, hD, hS, hl⟩
          · have t_150 : ¬ p1.toInt = 0 := toI_neq c_150 rfl (by decide : (0 : Int32).toInt = 0)
            refine lv_iconst (v := 0) hx hb dX3_layMultipliers_153 (by decide) ?_
            refine lv_istore_n hx hb dX3_layMultipliers_154 rfl hl (by decide) rfl (fun ls (hl : lv_has ls _ ([(3, .int 0), (2, .int k0_j23), (0, .ref (hG 0)), (1, .int p1)])) => ?_)
            have hl : lv_has _ _ ([(3, .int 0), (2, .int k0_j23), (0, .ref (hG 0)), (1, .int p1)]) := lv_sub hl [0, 1, 2, 3] rfl
            refine (fun (loop : ∀ (n9 : Nat) (wl_x155 : Nat → Int32) (wb_x155 : Nat → Int32) (wG_x155 : Nat → Nat → Int64) (l3_x155 : Int32) (H : Heap) (locs : List Loc) (ls : Array Slot), (∀ q : Nat, 0 ≤ (wl_x155 q).toInt ∧ (wl_x155 q).toInt ≤ 14) → (∀ q : Nat, 0 ≤ (wb_x155 q).toInt ∧ (wb_x155 q).toInt ≤ 1) → (0 ≤ l3_x155.toInt ∧ l3_x155.toInt ≤ 40) → (40 - l3_x155.toInt < ((n9 : Nat) : Int)) → va_P (dC, dI) vwCl (WG hG aG kG hM hO hQ hw iG_made iG_keptNeeds fG_kept fG_need fG_turn iG_columns ++ (WO hO aO kO hM hQ hw iO_answered iO_searched iO_searchedRelaxed iO_counted fO_countedCase gO_goalNumber gO_goalScale fO_start fO_column fO_chosen ++ (WM hM aM kM iM_stands iM_variables iM_rows iM_goals iM_differents iM_cases fM_from fM_to fM_whole fM_ways iM_plainRows fM_plainRow fM_kept fM_goalOver fM_goalUnder fM_goalMax fM_different ++ (WQ hQ aQ kQ hw fQ_inside_3 fQ_outside_3 fQ_shut_3 iQ_rows_3 iQ_allRows_3 iQ_columns_3 ++ (WW nW hw lw kw wl_x155 wb_x155 wG_x155))))) H → va_D A (WG hG aG kG hM hO hQ hw iG_made iG_keptNeeds fG_kept fG_need fG_turn iG_columns ++ (WO hO aO kO hM hQ hw iO_answered iO_searched iO_searchedRelaxed iO_counted fO_countedCase gO_goalNumber gO_goalScale fO_start fO_column fO_chosen ++ (WM hM aM kM iM_stands iM_variables iM_rows iM_goals iM_differents iM_cases fM_from fM_to fM_whole fM_ways iM_plainRows fM_plainRow fM_kept fM_goalOver fM_goalUnder fM_goalMax fM_different ++ (WQ hQ aQ kQ hw fQ_inside_3 fQ_outside_3 fQ_shut_3 iQ_rows_3 iQ_allRows_3 iQ_columns_3 ++ (WW nW hw lw kw wl_x155 wb_x155 wG_x155))))) → va_S A s.heap H locs → lv_has ls 5 [(3, .int l3_x155), (2, .int k0_j23), (0, .ref (hG 0)), (1, .int p1)] → W p l e _ s m _ below meth c H locs 0 0 _ (F0 m 155 ls [])) => loop (41) wl_x39 wb_x39 wG_x39 0 _ _ _ b_wl_x39 b_wb_x39 (show 0 ≤ (0 : Int32).toInt ∧ (0 : Int32).toInt ≤ 40 from by decide) ((by have e9 : (0 : Int32).toInt = 0 := (by decide : (0 : Int32).toInt = 0); omega)) hP hD hS hl) ?_
            intro n9
            induction n9 with
            | zero => intro wl_x155 wb_x155 wG_x155 l3_x155 H locs ls b_wl_x155 b_wb_x155 b_l3_x155 hf9; exact False.elim (by omega)
            | succ n9 ihx155 =>
              intro wl_x155 wb_x155 wG_x155 l3_x155 H locs ls b_wl_x155 b_wb_x155 b_l3_x155 hfx155 hP hD hS hl
              refine lv_iload_n hx hb dX3_layMultipliers_155 rfl (lv_at hl 0 rfl) ?_
              refine lv_aload_n hx hb dX3_layMultipliers_156 rfl (lv_at hl 2 rfl) ?_
              refine va_get (D := (dC, dI)) (ci := 3) (v := .int iG_columns) (C := RX3) (T := TX3) (N := 17) hx hb hts iwsMX3_layMultipliers_in3 hown hK hP 0 rfl rfl 16 (by decide) (hts _ hm_m_X3_layMultipliers_3) (fun _ h9 => h9) rfl dX3_layMultipliers_157 ?_
              refine lv_icmp_ge (tgt := 190) hx hb dX3_layMultipliers_160 (by decide) (fun c_160 => ?_) (fun c_160 => ?_)
              · have t_160 : l3_x155.toInt ≥ iG_columns.toInt := toI_ge c_160 rfl rfl
                refine lv_aload_n hx hb dX3_layMultipliers_190 rfl (lv_at hl 2 rfl) ?_
                refine va_get (D := (dC, dI)) (ci := 3) (v := .ref (hQ 0)) (C := RX3) (T := TX3) (N := 17) hx hb hts iwsMX3_layMultipliers_in3 hown hK hP 0 rfl rfl 2 (by decide) (hts _ hm_m_X3_layMultipliers_2) (fun _ h9 => h9) rfl dX3_layMultipliers_191 ?_
                refine lv_aload_n hx hb dX3_layMultipliers_194 rfl (lv_at hl 2 rfl) ?_
                refine va_get (D := (dC, dI)) (ci := 3) (v := .ref (hM 0)) (C := RX3) (T := TX3) (N := 17) hx hb hts iwsMX3_layMultipliers_in3 hown hK hP 0 rfl rfl 0 (by decide) (hts _ hm_m_X3_layMultipliers_0) (fun _ h9 => h9) rfl dX3_layMultipliers_195 ?_
                refine va_get (D := (dC, dI)) (ci := 1) (v := .int iM_variables) (C := RX1) (T := TX1) (N := 17) hx hb hts iwsMX3_layMultipliers_in1 hown hK hP 17 rfl rfl 1 (by decide) (hts _ hm_m_X3_layMultipliers_1) (fun _ h9 => h9) rfl dX3_layMultipliers_198 ?_
                refine lv_iconst (v := 0) hx hb dX3_layMultipliers_201 (by decide) ?_
                have p9 := cj_5_3_4 (WG hG aG kG hM hO hQ hw iG_made iG_keptNeeds fG_kept fG_need fG_turn iG_columns) (WO hO aO kO hM hQ hw iO_answered iO_searched iO_searchedRelaxed iO_counted fO_countedCase gO_goalNumber gO_goalScale fO_start fO_column fO_chosen) (WM hM aM kM iM_stands iM_variables iM_rows iM_goals iM_differents iM_cases fM_from fM_to fM_whole fM_ways iM_plainRows fM_plainRow fM_kept fM_goalOver fM_goalUnder fM_goalMax fM_different) (WQ hQ aQ kQ hw fQ_inside_3 fQ_outside_3 fQ_shut_3 iQ_rows_3 iQ_allRows_3 iQ_columns_3) (WW nW hw lw kw wl_x155 wb_x155 wG_x155)
                have hPc := hP.mem (fun q h => p9.mem_iff.mpr (List.mem_append_left _ h))
                have hDc := (hD.perm p9).left
                have hKc : va_K (dC, dI) vwCl (tQ kQ ++ (tW kw)) _ := hK.sub [25, 26, 27, 28, 29] rfl
                have hFc := freeG p9 hD hS hA
                refine va_callr (va_runV (As := [.int iM_variables, .int 0]) (rest := []) ⟨hx, hb, hml, hown, hts⟩ (m_X6_cellAt l dC dI hQ aQ kQ hw fQ_inside_3 fQ_outside_3 fQ_shut_3 iQ_rows_3 iQ_allRows_3 iQ_columns_3 nW lw kw wl_x155 wb_x155 wG_x155 iM_variables 0 (b_iQ_rows_3) (b_iQ_allRows_3) (b_iQ_columns_3) (by first | with_reducible assumption | omega | assumption) b_wl_x155 b_wb_x155 (⟨b_iM_variables.1, Int.le_trans b_iM_variables.2 (by decide)⟩) (show 0 ≤ (0 : Int32).toInt ∧ (0 : Int32).toInt ≤ 40 from by decide) (by omega) ((FitR.small (I := 8) (C := 40) (by omega) (by omega) (by omega) (by omega) (by decide)).ix0 (by omega)) H.size) (cwV 2 hts gwsMX3_layMultipliers_1 rfl rfl rfl hd_yX6_cellAt_RX6 (by decide +kernel)) (fz_pre (va_recv hK hP (ci := 6) (q0 := 28) rfl rfl) hPc hKc hDc) rfl rfl hl.1 rfl (lv_room (Nat.le_of_ble_eq_true rfl)) dX3_layMultipliers_202 (by decide +kernel)) hS (fun q _ h => hFc q h) hFc (fun kR_521 ra521 t9_ H locs ht hvm hw9 hB9 hz1 hk1 hS => ?_)
                revert hB9
                refine fz_a2 ?_
                intro hra hB9
                subst hra
                have f521_0 := hw9
                try dsimp only at f521_0
                have p8 := p9
                obtain ⟨hP, hD⟩ := frameG p9 p8 hP hD hk1 hFc (fz_P ht hB9.1) hB9.2
                refine lv_ldc2 (v := (-1)) hx hb hown (hts (.constantLong RX3 211 (-1)) (by decide +kernel)) dX3_layMultipliers_205 ?_
                have p9 := cj_5_4 (WG hG aG kG hM hO hQ hw iG_made iG_keptNeeds fG_kept fG_need fG_turn iG_columns) (WO hO aO kO hM hQ hw iO_answered iO_searched iO_searchedRelaxed iO_counted fO_countedCase gO_goalNumber gO_goalScale fO_start fO_column fO_chosen) (WM hM aM kM iM_stands iM_variables iM_rows iM_goals iM_differents iM_cases fM_from fM_to fM_whole fM_ways iM_plainRows fM_plainRow fM_kept fM_goalOver fM_goalUnder fM_goalMax fM_different) (WQ hQ aQ kQ hw fQ_inside_3 fQ_outside_3 fQ_shut_3 iQ_rows_3 iQ_allRows_3 iQ_columns_3) (WW nW hw lw kw wl_x155 wb_x155 wG_x155)
                have hPc := hP.mem (fun q h => p9.mem_iff.mpr (List.mem_append_left _ h))
                have hDc := (hD.perm p9).left
                have hKc : va_K (dC, dI) vwCl (tW kw) _ := hK.sub [29] rfl
                have hFc := freeG p9 hD hS hA
                refine va_callv (va_runV (As := [.long (-1)]) (rest := []) ⟨hx, hb, hml, hown, hts⟩ (m_X8_setLong l dC dI nW hw lw kw wl_x155 wb_x155 wG_x155 kR_521 (-1) b_wl_x155 b_wb_x155 (by first | with_reducible assumption | omega | (rw [iI_t (by omega) (by omega)]; omega) | decide | assumption) H.size) (cwV 1 hts gwsMX3_layMultipliers_3 rfl rfl rfl hd_yX8_setLong_RX8 (by decide +kernel)) (fz_pre (va_recv hK hP (ci := 8) (q0 := 6 + (11 + (11 + (5 + (kR_521))))) rfl (apR rfl (apR rfl (apR rfl (apR rfl (WW_o (by omega))))))) hPc hKc hDc) rfl rfl hl.1 rfl (lv_room (Nat.le_of_ble_eq_true rfl)) dX3_layMultipliers_208 (by decide +kernel)) hS (fun q _ h => hFc q h) hFc (fun u t9_ H locs ht hvm hw9 hB9 hz1 hk1 hS => ?_)
                revert u hw9 hB9
                refine fz_p3 ?_
                intro wl_522 wb_522 wG_522 hw9 hB9
                try dsimp only at hw9 hB9
                revert hw9
                refine fz_a2 ?_
                intro b_wl_522 b_wb_522
                have p8 := cj_5_4 (WG hG aG kG hM hO hQ hw iG_made iG_keptNeeds fG_kept fG_need fG_turn iG_columns) (WO hO aO kO hM hQ hw iO_answered iO_searched iO_searchedRelaxed iO_counted fO_countedCase gO_goalNumber gO_goalScale fO_start fO_column fO_chosen) (WM hM aM kM iM_stands iM_variables iM_rows iM_goals iM_differents iM_cases fM_from fM_to fM_whole fM_ways iM_plainRows fM_plainRow fM_kept fM_goalOver fM_goalUnder fM_goalMax fM_different) (WQ hQ aQ kQ hw fQ_inside_3 fQ_outside_3 fQ_shut_3 iQ_rows_3 iQ_allRows_3 iQ_columns_3) (WW nW hw lw kw wl_522 wb_522 wG_522)
                obtain ⟨hP, hD⟩ := frameG p9 p8 hP hD hk1 hFc (fz_P ht hB9.1) hB9.2
                have hl : lv_has _ _ ([(3, .int l3_x155), (2, .int k0_j23), (0, .ref (hG 0)), (1, .int p1)]) := lv_sub hl [0, 1, 2, 3] rfl
                exact join41 _ _ _ _ ⟨wl_522, wb_522, wG_522, l3_x155, b_wl_522, b_wb_522, (b_l3_x155), rfl, hP, hD, hS, hl⟩
              · have t_160 : ¬ l3_x155.toInt ≥ iG_columns.toInt := toI_nge c_160 rfl rfl
                refine lv_aload_n hx hb dX3_layMultipliers_163 rfl (lv_at hl 2 rfl) ?_
                refine va_get (D := (dC, dI)) (ci := 3) (v := .ref (hQ 0)) (C := RX3) (T := TX3) (N := 17) hx hb hts iwsMX3_layMultipliers_in3 hown hK hP 0 rfl rfl 2 (by decide) (hts _ hm_m_X3_layMultipliers_2) (fun _ h9 => h9) rfl dX3_layMultipliers_164 ?_
                refine lv_aload_n hx hb dX3_layMultipliers_167 rfl (lv_at hl 2 rfl) ?_
                refine va_get (D := (dC, dI)) (ci := 3) (v := .ref (hM 0)) (C := RX3) (T := TX3) (N := 17) hx hb hts iwsMX3_layMultipliers_in3 hown hK hP 0 rfl rfl 0 (by decide) (hts _ hm_m_X3_layMultipliers_0) (fun _ h9 => h9) rfl dX3_layMultipliers_168 ?_
                refine va_get (D := (dC, dI)) (ci := 1) (v := .int iM_variables) (C := RX1) (T := TX1) (N := 17) hx hb hts iwsMX3_layMultipliers_in1 hown hK hP 17 rfl rfl 1 (by decide) (hts _ hm_m_X3_layMultipliers_1) (fun _ h9 => h9) rfl dX3_layMultipliers_171 ?_
                refine lv_iload_n hx hb dX3_layMultipliers_174 rfl (lv_at hl 0 rfl) ?_
                refine lv_iconst (v := 1) hx hb dX3_layMultipliers_175 (by decide) ?_
                refine lv_iadd hx hb dX3_layMultipliers_176 ?_
                refine lv_topi (fun y523 hy523 => ?_)
                obtain rfl : (iI (l3_x155.toInt + 1)) = y523 := (hy523.trans (iI_add2 (iI_of _) (by decide : (1 : Int32) = iI 1))).symm
                have p9 := cj_5_3_4 (WG hG aG kG hM hO hQ hw iG_made iG_keptNeeds fG_kept fG_need fG_turn iG_columns) (WO hO aO kO hM hQ hw iO_answered iO_searched iO_searchedRelaxed iO_counted fO_countedCase gO_goalNumber gO_goalScale fO_start fO_column fO_chosen) (WM hM aM kM iM_stands iM_variables iM_rows iM_goals iM_differents iM_cases fM_from fM_to fM_whole fM_ways iM_plainRows fM_plainRow fM_kept fM_goalOver fM_goalUnder fM_goalMax fM_different) (WQ hQ aQ kQ hw fQ_inside_3 fQ_outside_3 fQ_shut_3 iQ_rows_3 iQ_allRows_3 iQ_columns_3) (WW nW hw lw kw wl_x155 wb_x155 wG_x155)
                have hPc := hP.mem (fun q h => p9.mem_iff.mpr (List.mem_append_left _ h))
                have hDc := (hD.perm p9).left
                have hKc : va_K (dC, dI) vwCl (tQ kQ ++ (tW kw)) _ := hK.sub [25, 26, 27, 28, 29] rfl
                have hFc := freeG p9 hD hS hA
                refine va_callr (va_runV (As := [.int iM_variables, .int (iI (l3_x155.toInt + 1))]) (rest := []) ⟨hx, hb, hml, hown, hts⟩ (m_X6_cellAt l dC dI hQ aQ kQ hw fQ_inside_3 fQ_outside_3 fQ_shut_3 iQ_rows_3 iQ_allRows_3 iQ_columns_3 nW lw kw wl_x155 wb_x155 wG_x155 iM_variables (iI (l3_x155.toInt + 1)) (b_iQ_rows_3) (b_iQ_allRows_3) (b_iQ_columns_3) (by first | with_reducible assumption | omega | assumption) b_wl_x155 b_wb_x155 (⟨b_iM_variables.1, Int.le_trans b_iM_variables.2 (by decide)⟩) (iI_rng (Int.le_trans (by decide) (Int.add_le_add (b_l3_x155.1) (Int.le_refl _))) (by omega) (by decide) (by decide)) (by omega) ((by have h9 := (FitR.small (I := 8) (C := 40) (by omega) (by omega) (by omega) (by omega) (by decide) : FitR iM_variables.toInt iQ_columns_3.toInt).ix (j := (l3_x155.toInt + 1)) (by omega) (by omega); rw [iI_t (E := l3_x155.toInt + 1) (by omega) (by omega)]; exact h9)) H.size) (cwV 2 hts gwsMX3_layMultipliers_1 rfl rfl rfl hd_yX6_cellAt_RX6 (by decide +kernel)) (fz_pre (va_recv hK hP (ci := 6) (q0 := 28) rfl rfl) hPc hKc hDc) rfl rfl hl.1 rfl (lv_room (Nat.le_of_ble_eq_true rfl)) dX3_layMultipliers_177 (by decide +kernel)) hS (fun q _ h => hFc q h) hFc (fun kR_524 ra524 t9_ H locs ht hvm hw9 hB9 hz1 hk1 hS => ?_)
                revert hB9
                refine fz_a2 ?_
                intro hra hB9
                subst hra
                have f524_0 := hw9
                try dsimp only at f524_0
                have p8 := p9
                obtain ⟨hP, hD⟩ := frameG p9 p8 hP hD hk1 hFc (fz_P ht hB9.1) hB9.2
                refine lv_lconst (v := 1) hx hb dX3_layMultipliers_180 (by decide) ?_
                have p9 := cj_5_4 (WG hG aG kG hM hO hQ hw iG_made iG_keptNeeds fG_kept fG_need fG_turn iG_columns) (WO hO aO kO hM hQ hw iO_answered iO_searched iO_searchedRelaxed iO_counted fO_countedCase gO_goalNumber gO_goalScale fO_start fO_column fO_chosen) (WM hM aM kM iM_stands iM_variables iM_rows iM_goals iM_differents iM_cases fM_from fM_to fM_whole fM_ways iM_plainRows fM_plainRow fM_kept fM_goalOver fM_goalUnder fM_goalMax fM_different) (WQ hQ aQ kQ hw fQ_inside_3 fQ_outside_3 fQ_shut_3 iQ_rows_3 iQ_allRows_3 iQ_columns_3) (WW nW hw lw kw wl_x155 wb_x155 wG_x155)
                have hPc := hP.mem (fun q h => p9.mem_iff.mpr (List.mem_append_left _ h))
                have hDc := (hD.perm p9).left
                have hKc : va_K (dC, dI) vwCl (tW kw) _ := hK.sub [29] rfl
                have hFc := freeG p9 hD hS hA
                refine va_callv (va_runV (As := [.long 1]) (rest := []) ⟨hx, hb, hml, hown, hts⟩ (m_X8_setLong l dC dI nW hw lw kw wl_x155 wb_x155 wG_x155 kR_524 1 b_wl_x155 b_wb_x155 (by first | with_reducible assumption | omega | (rw [iI_t (by omega) (by omega)]; omega) | decide | assumption) H.size) (cwV 1 hts gwsMX3_layMultipliers_3 rfl rfl rfl hd_yX8_setLong_RX8 (by decide +kernel)) (fz_pre (va_recv hK hP (ci := 8) (q0 := 6 + (11 + (11 + (5 + (kR_524))))) rfl (apR rfl (apR rfl (apR rfl (apR rfl (WW_o (by omega))))))) hPc hKc hDc) rfl rfl hl.1 rfl (lv_room (Nat.le_of_ble_eq_true rfl)) dX3_layMultipliers_181 (by decide +kernel)) hS (fun q _ h => hFc q h) hFc (fun u t9_ H locs ht hvm hw9 hB9 hz1 hk1 hS => ?_)
                revert u hw9 hB9
                refine fz_p3 ?_
                intro wl_525 wb_525 wG_525 hw9 hB9
                try dsimp only at hw9 hB9
                revert hw9
                refine fz_a2 ?_
                intro b_wl_525 b_wb_525
                have p8 := cj_5_4 (WG hG aG kG hM hO hQ hw iG_made iG_keptNeeds fG_kept fG_need fG_turn iG_columns) (WO hO aO kO hM hQ hw iO_answered iO_searched iO_searchedRelaxed iO_counted fO_countedCase gO_goalNumber gO_goalScale fO_start fO_column fO_chosen) (WM hM aM kM iM_stands iM_variables iM_rows iM_goals iM_differents iM_cases fM_from fM_to fM_whole fM_ways iM_plainRows fM_plainRow fM_kept fM_goalOver fM_goalUnder fM_goalMax fM_different) (WQ hQ aQ kQ hw fQ_inside_3 fQ_outside_3 fQ_shut_3 iQ_rows_3 iQ_allRows_3 iQ_columns_3) (WW nW hw lw kw wl_525 wb_525 wG_525)
                obtain ⟨hP, hD⟩ := frameG p9 p8 hP hD hk1 hFc (fz_P ht hB9.1) hB9.2
                refine lv_iinc (v := (iI (l3_x155.toInt + 1))) hx hb dX3_layMultipliers_184 hl (k := 0) rfl (iI_add2 (iI_of _) (by decide : (1 : Int32) = iI 1)) (by decide) rfl (fun ls (hl : lv_has ls _ ([(3, .int (iI (l3_x155.toInt + 1))), (2, .int k0_j23), (0, .ref (hG 0)), (1, .int p1)])) => ?_)
                refine lv_goto (tgt := 155) hx hb dX3_layMultipliers_187 (by decide) ?_
                have hl : lv_has _ _ ([(3, .int (iI (l3_x155.toInt + 1))), (2, .int k0_j23), (0, .ref (hG 0)), (1, .int p1)]) := lv_sub hl [0, 1, 2, 3] rfl
                exact ihx155 wl_525 wb_525 wG_525 (iI (l3_x155.toInt + 1)) _ _ _ b_wl_525 b_wb_525 (iI_rng (Int.le_trans (by decide) (Int.add_le_add (b_l3_x155.1) (Int.le_refl _))) (by omega) (by decide) (by decide)) (by have e9 : ((iI (l3_x155.toInt + 1))).toInt = (l3_x155.toInt + 1) := (iI_t (Int.le_trans (by decide) (Int.add_le_add (b_l3_x155.1) (Int.le_refl _))) (Int.le_trans (Int.add_le_add (b_l3_x155.2) (Int.le_refl _)) (by decide))); omega) hP hD hS hl
        · rintro H locs ls stk ⟨wl_j41, wb_j41, wG_j41, l3_j41, b_wl_j41, b_wb_j41, b_l3_j41, rfl, hP, hD, hS, hl⟩
          refine lv_iconst (v := 0) hx hb dX3_layMultipliers_211 (by decide) ?_
          refine lv_istore_n hx hb dX3_layMultipliers_212 rfl hl (by decide) rfl (fun ls (hl : lv_has ls _ ([(3, .int 0), (2, .int k0_j23), (0, .ref (hG 0)), (1, .int p1)])) => ?_)
          have hl : lv_has _ _ ([(3, .int 0), (2, .int k0_j23), (0, .ref (hG 0)), (1, .int p1)]) := lv_sub hl [0, 1, 2, 3] rfl
          refine (fun (loop : ∀ (n9 : Nat) (fQ_inside_x213 : Nat → Int32) (fQ_outside_x213 : Nat → Int32) (fQ_shut_x213 : Nat → Int32) (wl_x213 : Nat → Int32) (wb_x213 : Nat → Int32) (wG_x213 : Nat → Nat → Int64) (l3_x213 : Int32) (H : Heap) (locs : List Loc) (ls : Array Slot), (∀ q : Nat, 0 ≤ (wl_x213 q).toInt ∧ (wl_x213 q).toInt ≤ 14) → (∀ q : Nat, 0 ≤ (wb_x213 q).toInt ∧ (wb_x213 q).toInt ≤ 1) → (0 ≤ l3_x213.toInt ∧ l3_x213.toInt ≤ 9) → (9 - l3_x213.toInt < ((n9 : Nat) : Int)) → va_P (dC, dI) vwCl (WG hG aG kG hM hO hQ hw iG_made iG_keptNeeds fG_kept fG_need fG_turn iG_columns ++ (WO hO aO kO hM hQ hw iO_answered iO_searched iO_searchedRelaxed iO_counted fO_countedCase gO_goalNumber gO_goalScale fO_start fO_column fO_chosen ++ (WM hM aM kM iM_stands iM_variables iM_rows iM_goals iM_differents iM_cases fM_from fM_to fM_whole fM_ways iM_plainRows fM_plainRow fM_kept fM_goalOver fM_goalUnder fM_goalMax fM_different ++ (WQ hQ aQ kQ hw fQ_inside_x213 fQ_outside_x213 fQ_shut_x213 iQ_rows_3 iQ_allRows_3 iQ_columns_3 ++ (WW nW hw lw kw wl_x213 wb_x213 wG_x213))))) H → va_D A (WG hG aG kG hM hO hQ hw iG_made iG_keptNeeds fG_kept fG_need fG_turn iG_columns ++ (WO hO aO kO hM hQ hw iO_answered iO_searched iO_searchedRelaxed iO_counted fO_countedCase gO_goalNumber gO_goalScale fO_start fO_column fO_chosen ++ (WM hM aM kM iM_stands iM_variables iM_rows iM_goals iM_differents iM_cases fM_from fM_to fM_whole fM_ways iM_plainRows fM_plainRow fM_kept fM_goalOver fM_goalUnder fM_goalMax fM_different ++ (WQ hQ aQ kQ hw fQ_inside_x213 fQ_outside_x213 fQ_shut_x213 iQ_rows_3 iQ_allRows_3 iQ_columns_3 ++ (WW nW hw lw kw wl_x213 wb_x213 wG_x213))))) → va_S A s.heap H locs → lv_has ls 5 [(3, .int l3_x213), (2, .int k0_j23), (0, .ref (hG 0)), (1, .int p1)] → W p l e _ s m _ below meth c H locs 0 0 _ (F0 m 213 ls [])) => loop (10) fQ_inside_3 fQ_outside_3 fQ_shut_3 wl_j41 wb_j41 wG_j41 0 _ _ _ b_wl_j41 b_wb_j41 (show 0 ≤ (0 : Int32).toInt ∧ (0 : Int32).toInt ≤ 9 from by decide) ((by have e9 : (0 : Int32).toInt = 0 := (by decide : (0 : Int32).toInt = 0); omega)) hP hD hS hl) ?_
          intro n9
          induction n9 with
          | zero => intro fQ_inside_x213 fQ_outside_x213 fQ_shut_x213 wl_x213 wb_x213 wG_x213 l3_x213 H locs ls b_wl_x213 b_wb_x213 b_l3_x213 hf9; exact False.elim (by omega)
          | succ n9 ihx213 =>
            intro fQ_inside_x213 fQ_outside_x213 fQ_shut_x213 wl_x213 wb_x213 wG_x213 l3_x213 H locs ls b_wl_x213 b_wb_x213 b_l3_x213 hfx213 hP hD hS hl
            refine lv_iload_n hx hb dX3_layMultipliers_213 rfl (lv_at hl 0 rfl) ?_
            refine lv_iload_n hx hb dX3_layMultipliers_214 rfl (lv_at hl 1 rfl) ?_
            refine lv_icmp_ge (tgt := 233) hx hb dX3_layMultipliers_215 (by decide) (fun c_215 => ?_) (fun c_215 => ?_)
            · have t_215 : l3_x213.toInt ≥ k0_j23.toInt := toI_ge c_215 rfl rfl
              refine lv_aload_n hx hb dX3_layMultipliers_233 rfl (lv_at hl 2 rfl) ?_
              refine va_get (D := (dC, dI)) (ci := 3) (v := .ref (hQ 0)) (C := RX3) (T := TX3) (N := 17) hx hb hts iwsMX3_layMultipliers_in3 hown hK hP 0 rfl rfl 2 (by decide) (hts _ hm_m_X3_layMultipliers_2) (fun _ h9 => h9) rfl dX3_layMultipliers_234 ?_
              have p9 := cj_5_3_4 (WG hG aG kG hM hO hQ hw iG_made iG_keptNeeds fG_kept fG_need fG_turn iG_columns) (WO hO aO kO hM hQ hw iO_answered iO_searched iO_searchedRelaxed iO_counted fO_countedCase gO_goalNumber gO_goalScale fO_start fO_column fO_chosen) (WM hM aM kM iM_stands iM_variables iM_rows iM_goals iM_differents iM_cases fM_from fM_to fM_whole fM_ways iM_plainRows fM_plainRow fM_kept fM_goalOver fM_goalUnder fM_goalMax fM_different) (WQ hQ aQ kQ hw fQ_inside_x213 fQ_outside_x213 fQ_shut_x213 iQ_rows_3 iQ_allRows_3 iQ_columns_3) (WW nW hw lw kw wl_x213 wb_x213 wG_x213)
              have hPc := hP.mem (fun q h => p9.mem_iff.mpr (List.mem_append_left _ h))
              have hDc := (hD.perm p9).left
              have hKc : va_K (dC, dI) vwCl (tQ kQ ++ (tW kw)) _ := hK.sub [25, 26, 27, 28, 29] rfl
              have hFc := freeG p9 hD hS hA
              refine va_calli (va_runV (As := []) (rest := []) ⟨hx, hb, hml, hown, hts⟩ (m_X6_canKeep l dC dI hQ aQ kQ hw fQ_inside_x213 fQ_outside_x213 fQ_shut_x213 iQ_rows_3 iQ_allRows_3 iQ_columns_3 nW lw kw wl_x213 wb_x213 wG_x213 (b_iQ_rows_3) (b_iQ_allRows_3) (b_iQ_columns_3) (by first | with_reducible assumption | omega | assumption) b_wl_x213 b_wb_x213 (by omega) H.size) (cwV 0 hts gwsMX3_layMultipliers_6 rfl rfl rfl hd_yX6_canKeep_RX6 (by decide +kernel)) (fz_pre (va_recv hK hP (ci := 6) (q0 := 28) rfl rfl) hPc hKc hDc) rfl rfl hl.1 rfl (lv_room (Nat.le_of_ble_eq_true rfl)) dX3_layMultipliers_237 (by decide +kernel)) hS (fun q _ h => hFc q h) hFc (fun r533 u t9_ H locs ht hvm hw9 hB9 hz1 hk1 hS => ?_)
              revert u hw9 hB9
              refine fz_p5 ?_
              intro fQ_inside_533 fQ_outside_533 wl_533 wb_533 wG_533 hw9 hB9
              try dsimp only at hw9 hB9
              revert hw9
              refine fz_a3 ?_
              intro b_wl_533 b_wb_533 b_r533
              have p8 := cj_5_3_4 (WG hG aG kG hM hO hQ hw iG_made iG_keptNeeds fG_kept fG_need fG_turn iG_columns) (WO hO aO kO hM hQ hw iO_answered iO_searched iO_searchedRelaxed iO_counted fO_countedCase gO_goalNumber gO_goalScale fO_start fO_column fO_chosen) (WM hM aM kM iM_stands iM_variables iM_rows iM_goals iM_differents iM_cases fM_from fM_to fM_whole fM_ways iM_plainRows fM_plainRow fM_kept fM_goalOver fM_goalUnder fM_goalMax fM_different) (WQ hQ aQ kQ hw fQ_inside_533 fQ_outside_533 fQ_shut_x213 iQ_rows_3 iQ_allRows_3 iQ_columns_3) (WW nW hw lw kw wl_533 wb_533 wG_533)
              obtain ⟨hP, hD⟩ := frameG p9 p8 hP hD hk1 hFc (fz_P ht hB9.1) hB9.2
              refine lv_pop hx hb dX3_layMultipliers_240 rfl ?_
              refine W.widen (k := 0) (n := 0) (by decide +kernel) (by decide +kernel) ?_
              exact W.vret hx hb hr (fun t9_ ht hW => ⟨⟨(fQ_inside_533, fQ_outside_533, fQ_shut_x213, iQ_rows_3, iQ_allRows_3, iQ_columns_3, wl_533, wb_533, wG_533), rfl, ⟨b_iQ_rows_3, b_iQ_allRows_3, b_iQ_columns_3, b_wl_533, b_wb_533, (by (try dsimp only); exact (by first | with_reducible assumption | omega | assumption))⟩, by rw [ht]; exact hP, hD⟩, hS.F ht⟩) hS.2.2 dX3_layMultipliers_241
            · have t_215 : ¬ l3_x213.toInt ≥ k0_j23.toInt := toI_nge c_215 rfl rfl
              refine lv_aload_n hx hb dX3_layMultipliers_218 rfl (lv_at hl 2 rfl) ?_
              refine va_get (D := (dC, dI)) (ci := 3) (v := .ref (hQ 0)) (C := RX3) (T := TX3) (N := 17) hx hb hts iwsMX3_layMultipliers_in3 hown hK hP 0 rfl rfl 2 (by decide) (hts _ hm_m_X3_layMultipliers_2) (fun _ h9 => h9) rfl dX3_layMultipliers_219 ?_
              refine lv_iload_n hx hb dX3_layMultipliers_222 rfl (lv_at hl 0 rfl) ?_
              have p9 := cj_5_3_4 (WG hG aG kG hM hO hQ hw iG_made iG_keptNeeds fG_kept fG_need fG_turn iG_columns) (WO hO aO kO hM hQ hw iO_answered iO_searched iO_searchedRelaxed iO_counted fO_countedCase gO_goalNumber gO_goalScale fO_start fO_column fO_chosen) (WM hM aM kM iM_stands iM_variables iM_rows iM_goals iM_differents iM_cases fM_from fM_to fM_whole fM_ways iM_plainRows fM_plainRow fM_kept fM_goalOver fM_goalUnder fM_goalMax fM_different) (WQ hQ aQ kQ hw fQ_inside_x213 fQ_outside_x213 fQ_shut_x213 iQ_rows_3 iQ_allRows_3 iQ_columns_3) (WW nW hw lw kw wl_x213 wb_x213 wG_x213)
              have hPc := hP.mem (fun q h => p9.mem_iff.mpr (List.mem_append_left _ h))
              have hDc := (hD.perm p9).left
              have hKc : va_K (dC, dI) vwCl (tQ kQ ++ (tW kw)) _ := hK.sub [25, 26, 27, 28, 29] rfl
              have hFc := freeG p9 hD hS hA
              refine va_calli (va_runV (As := [.int l3_x213]) (rest := []) ⟨hx, hb, hml, hown, hts⟩ (m_X6_holdAtNought l dC dI hQ aQ kQ hw fQ_inside_x213 fQ_outside_x213 fQ_shut_x213 iQ_rows_3 iQ_allRows_3 iQ_columns_3 nW lw kw wl_x213 wb_x213 wG_x213 l3_x213 (b_iQ_rows_3) (b_iQ_allRows_3) (b_iQ_columns_3) (by first | with_reducible assumption | omega | assumption) b_wl_x213 b_wb_x213 (⟨b_l3_x213.1, Int.le_trans b_l3_x213.2 (by decide)⟩) (by omega) (FitR.small (I := 8) (C := 40) (by omega) (by omega) (by omega) (by omega) (by decide)) H.size) (cwV 1 hts gwsMX3_layMultipliers_5 rfl rfl rfl hd_yX6_holdAtNought_RX6 (by decide +kernel)) (fz_pre (va_recv hK hP (ci := 6) (q0 := 28) rfl rfl) hPc hKc hDc) rfl rfl hl.1 rfl (lv_room (Nat.le_of_ble_eq_true rfl)) dX3_layMultipliers_223 (by decide +kernel)) hS (fun q _ h => hFc q h) hFc (fun r534 u t9_ H locs ht hvm hw9 hB9 hz1 hk1 hS => ?_)
              revert u hw9 hB9
              refine fz_p6 ?_
              intro fQ_inside_534 fQ_outside_534 fQ_shut_534 wl_534 wb_534 wG_534 hw9 hB9
              try dsimp only at hw9 hB9
              revert hw9
              refine fz_a3 ?_
              intro b_wl_534 b_wb_534 b_r534
              have p8 := cj_5_3_4 (WG hG aG kG hM hO hQ hw iG_made iG_keptNeeds fG_kept fG_need fG_turn iG_columns) (WO hO aO kO hM hQ hw iO_answered iO_searched iO_searchedRelaxed iO_counted fO_countedCase gO_goalNumber gO_goalScale fO_start fO_column fO_chosen) (WM hM aM kM iM_stands iM_variables iM_rows iM_goals iM_differents iM_cases fM_from fM_to fM_whole fM_ways iM_plainRows fM_plainRow fM_kept fM_goalOver fM_goalUnder fM_goalMax fM_different) (WQ hQ aQ kQ hw fQ_inside_534 fQ_outside_534 fQ_shut_534 iQ_rows_3 iQ_allRows_3 iQ_columns_3) (WW nW hw lw kw wl_534 wb_534 wG_534)
              obtain ⟨hP, hD⟩ := frameG p9 p8 hP hD hk1 hFc (fz_P ht hB9.1) hB9.2
              refine lv_pop hx hb dX3_layMultipliers_226 rfl ?_
              refine lv_iinc (v := (iI (l3_x213.toInt + 1))) hx hb dX3_layMultipliers_227 hl (k := 0) rfl (iI_add2 (iI_of _) (by decide : (1 : Int32) = iI 1)) (by decide) rfl (fun ls (hl : lv_has ls _ ([(3, .int (iI (l3_x213.toInt + 1))), (2, .int k0_j23), (0, .ref (hG 0)), (1, .int p1)])) => ?_)
              refine lv_goto (tgt := 213) hx hb dX3_layMultipliers_230 (by decide) ?_
              have hl : lv_has _ _ ([(3, .int (iI (l3_x213.toInt + 1))), (2, .int k0_j23), (0, .ref (hG 0)), (1, .int p1)]) := lv_sub hl [0, 1, 2, 3] rfl
              exact ihx213 fQ_inside_534 fQ_outside_534 fQ_shut_534 wl_534 wb_534 wG_534 (iI (l3_x213.toInt + 1)) _ _ _ b_wl_534 b_wb_534 (iI_rng (Int.le_trans (by decide) (Int.add_le_add (b_l3_x213.1) (Int.le_refl _))) (by omega) (by decide) (by decide)) (by have e9 : ((iI (l3_x213.toInt + 1))).toInt = (l3_x213.toInt + 1) := (iI_t (Int.le_trans (by decide) (Int.add_le_add (b_l3_x213.1) (Int.le_refl _))) (Int.le_trans (Int.add_le_add (b_l3_x213.2) (Int.le_refl _)) (by decide))); omega) hP hD hS hl
      · have t_47 : ¬ l3_x39.toInt ≥ iM_variables.toInt := toI_nge c_47 rfl rfl
        refine lv_iconst (v := 0) hx hb dX3_layMultipliers_50 (by decide) ?_
        refine lv_istore hx hb dX3_layMultipliers_51 hl (by decide) rfl (fun ls (hl : lv_has ls _ ([(4, .int 0), (3, .int l3_x39), (2, .int k0_j23), (0, .ref (hG 0)), (1, .int p1)])) => ?_)
        have hl : lv_has _ _ ([(4, .int 0), (3, .int l3_x39), (2, .int k0_j23), (0, .ref (hG 0)), (1, .int p1)]) := lv_sub hl [0, 1, 2, 3, 4] rfl
        refine (fun (loop : ∀ (n9 : Nat) (wl_x53 : Nat → Int32) (wb_x53 : Nat → Int32) (wG_x53 : Nat → Nat → Int64) (l4_x53 : Int32) (H : Heap) (locs : List Loc) (ls : Array Slot), (∀ q : Nat, 0 ≤ (wl_x53 q).toInt ∧ (wl_x53 q).toInt ≤ 14) → (∀ q : Nat, 0 ≤ (wb_x53 q).toInt ∧ (wb_x53 q).toInt ≤ 1) → (0 ≤ l4_x53.toInt ∧ l4_x53.toInt ≤ 40) → (40 - l4_x53.toInt < ((n9 : Nat) : Int)) → va_P (dC, dI) vwCl (WG hG aG kG hM hO hQ hw iG_made iG_keptNeeds fG_kept fG_need fG_turn iG_columns ++ (WO hO aO kO hM hQ hw iO_answered iO_searched iO_searchedRelaxed iO_counted fO_countedCase gO_goalNumber gO_goalScale fO_start fO_column fO_chosen ++ (WM hM aM kM iM_stands iM_variables iM_rows iM_goals iM_differents iM_cases fM_from fM_to fM_whole fM_ways iM_plainRows fM_plainRow fM_kept fM_goalOver fM_goalUnder fM_goalMax fM_different ++ (WQ hQ aQ kQ hw fQ_inside_3 fQ_outside_3 fQ_shut_3 iQ_rows_3 iQ_allRows_3 iQ_columns_3 ++ (WW nW hw lw kw wl_x53 wb_x53 wG_x53))))) H → va_D A (WG hG aG kG hM hO hQ hw iG_made iG_keptNeeds fG_kept fG_need fG_turn iG_columns ++ (WO hO aO kO hM hQ hw iO_answered iO_searched iO_searchedRelaxed iO_counted fO_countedCase gO_goalNumber gO_goalScale fO_start fO_column fO_chosen ++ (WM hM aM kM iM_stands iM_variables iM_rows iM_goals iM_differents iM_cases fM_from fM_to fM_whole fM_ways iM_plainRows fM_plainRow fM_kept fM_goalOver fM_goalUnder fM_goalMax fM_different ++ (WQ hQ aQ kQ hw fQ_inside_3 fQ_outside_3 fQ_shut_3 iQ_rows_3 iQ_allRows_3 iQ_columns_3 ++ (WW nW hw lw kw wl_x53 wb_x53 wG_x53))))) → va_S A s.heap H locs → lv_has ls 5 [(4, .int l4_x53), (3, .int l3_x39), (2, .int k0_j23), (0, .ref (hG 0)), (1, .int p1)] → W p l e _ s m _ below meth c H locs 0 0 _ (F0 m 53 ls [])) => loop (41) wl_x39 wb_x39 wG_x39 0 _ _ _ b_wl_x39 b_wb_x39 (show 0 ≤ (0 : Int32).toInt ∧ (0 : Int32).toInt ≤ 40 from by decide) ((by have e9 : (0 : Int32).toInt = 0 := (by decide : (0 : Int32).toInt = 0); omega)) hP hD hS hl) ?_
        intro n9
        induction n9 with
        | zero => intro wl_x53 wb_x53 wG_x53 l4_x53 H locs ls b_wl_x53 b_wb_x53 b_l4_x53 hf9; exact False.elim (by omega)
        | succ n9 ihx53 =>
          intro wl_x53 wb_x53 wG_x53 l4_x53 H locs ls b_wl_x53 b_wb_x53 b_l4_x53 hfx53 hP hD hS hl
          refine lv_iload hx hb dX3_layMultipliers_53 (lv_at hl 0 rfl) ?_
          refine lv_aload_n hx hb dX3_layMultipliers_55 rfl (lv_at hl 3 rfl) ?_
          refine va_get (D := (dC, dI)) (ci := 3) (v := .int iG_columns) (C := RX3) (T := TX3) (N := 17) hx hb hts iwsMX3_layMultipliers_in3 hown hK hP 0 rfl rfl 16 (by decide) (hts _ hm_m_X3_layMultipliers_3) (fun _ h9 => h9) rfl dX3_layMultipliers_56 ?_
          refine lv_icmp_ge (tgt := 107) hx hb dX3_layMultipliers_59 (by decide) (fun c_59 => ?_) (fun c_59 => ?_)
          · have t_59 : l4_x53.toInt ≥ iG_columns.toInt := toI_ge c_59 rfl rfl
            refine lv_iload_n hx hb dX3_layMultipliers_107 rfl (lv_at hl 4 rfl) ?_
            refine W.cut (pc := 143) (fun H locs ls stk => ∃ (wl_j44 : Nat → Int32) (wb_j44 : Nat → Int32) (wG_j44 : Nat → Nat → Int64), (∀ q : Nat, 0 ≤ (wl_j44 q).toInt ∧ (wl_j44 q).toInt ≤ 14) ∧ (∀ q : Nat, 0 ≤ (wb_j44 q).toInt ∧ (wb_j44 q).toInt ≤ 1) ∧  stk = [] ∧ va_P (dC, dI) vwCl (WG hG aG kG hM hO hQ hw iG_made iG_keptNeeds fG_kept fG_need fG_turn iG_columns ++ (WO hO aO kO hM hQ hw iO_answered iO_searched iO_searchedRelaxed iO_counted fO_countedCase gO_goalNumber gO_goalScale fO_start fO_column fO_chosen ++ (WM hM aM kM iM_stands iM_variables iM_rows iM_goals iM_differents iM_cases fM_from fM_to fM_whole fM_ways iM_plainRows fM_plainRow fM_kept fM_goalOver fM_goalUnder fM_goalMax fM_different ++ (WQ hQ aQ kQ hw fQ_inside_3 fQ_outside_3 fQ_shut_3 iQ_rows_3 iQ_allRows_3 iQ_columns_3 ++ (WW nW hw lw kw wl_j44 wb_j44 wG_j44))))) H ∧ va_D A (WG hG aG kG hM hO hQ hw iG_made iG_keptNeeds fG_kept fG_need fG_turn iG_columns ++ (WO hO aO kO hM hQ hw iO_answered iO_searched iO_searchedRelaxed iO_counted fO_countedCase gO_goalNumber gO_goalScale fO_start fO_column fO_chosen ++ (WM hM aM kM iM_stands iM_variables iM_rows iM_goals iM_differents iM_cases fM_from fM_to fM_whole fM_ways iM_plainRows fM_plainRow fM_kept fM_goalOver fM_goalUnder fM_goalMax fM_different ++ (WQ hQ aQ kQ hw fQ_inside_3 fQ_outside_3 fQ_shut_3 iQ_rows_3 iQ_allRows_3 iQ_columns_3 ++ (WW nW hw lw kw wl_j44 wb_j44 wG_j44))))) ∧ va_S A s.heap H locs ∧ lv_has ls 5 [(4, .int l4_x53), (3, .int l3_x39), (2, .int k0_j23), (0, .ref (hG 0)), (1, .int p1)]) (fun join44 => ?_) ?_
            · refine lv_if_ne (tgt := 143) hx hb dX3_layMultipliers_108 (by decide) (fun c_108 => ?_) (fun c_108 => ?_)
              · have t_108 : p1.toInt ≠ 0 := toI_ne c_108 rfl (by decide : (0 : Int32).toInt = 0)
                have hl : lv_has _ _ ([(4, .int l4_x53), (3, .int l3_x39), (2, .int k0_j23), (0, .ref (hG 0)), (1, .int p1)]) := lv_sub hl [0, 1, 2, 3, 4] rfl
                exact join44 _ _ _ _ ⟨wl_x53, wb_x53, wG_x53, b_wl_x53, b_wb_x53, rfl, hP, hD, hS, hl⟩
              · have t_108 : p1.toInt = 0 := toI_nne c_108 rfl (by decide : (0 : Int32).toInt = 0)
                refine lv_aload_n hx hb dX3_layMultipliers_111 rfl (lv_at hl 3 rfl) ?_
                refine va_get (D := (dC, dI)) (ci := 3) (v := .ref (hM 0)) (C := RX3) (T := TX3) (N := 17) hx hb hts iwsMX3_layMultipliers_in3 hown hK hP 0 rfl rfl 0 (by decide) (hts _ hm_m_X3_layMultipliers_0) (fun _ h9 => h9) rfl dX3_layMultipliers_112 ?_
                refine va_get (D := (dC, dI)) (ci := 1) (v := .int iM_goals) (C := RX1) (T := TX1) (N := 17) hx hb hts iwsMX3_layMultipliers_in1 hown hK hP 17 rfl rfl 3 (by decide) (hts (.fieldLink RX3 83 "OptimaWorks$Model" "goals" "I") (by decide +kernel)) (fun _ h9 => h9) rfl dX3_layMultipliers_115 ?_
                refine lv_if_le (tgt := 143) hx hb dX3_layMultipliers_118 (by decide) (fun c_118 => ?_) (fun c_118 => ?_)
                · have t_118 : iM_goals.toInt ≤ 0 := toI_le c_118 rfl (by decide : (0 : Int32).toInt = 0)
                  have hl : lv_has _ _ ([(4, .int l4_x53), (3, .int l3_x39), (2, .int k0_j23), (0, .ref (hG 0)), (1, .int p1)]) := lv_sub hl [0, 1, 2, 3, 4] rfl
                  exact join44 _ _ _ _ ⟨wl_x53, wb_x53, wG_x53, b_wl_x53, b_wb_x53, rfl, hP, hD, hS, hl⟩
                · have t_118 : ¬ iM_goals.toInt ≤ 0 := toI_nle c_118 rfl (by decide : (0 : Int32).toInt = 0)
                  refine lv_aload_n hx hb dX3_layMultipliers_121 rfl (lv_at hl 3 rfl) ?_
                  refine va_get (D := (dC, dI)) (ci := 3) (v := .ref (hQ 0)) (C := RX3) (T := TX3) (N := 17) hx hb hts iwsMX3_layMultipliers_in3 hown hK hP 0 rfl rfl 2 (by decide) (hts _ hm_m_X3_layMultipliers_2) (fun _ h9 => h9) rfl dX3_layMultipliers_122 ?_
                  refine lv_iload_n hx hb dX3_layMultipliers_125 rfl (lv_at hl 1 rfl) ?_
                  refine lv_iconst (v := 0) hx hb dX3_layMultipliers_126 (by decide) ?_
                  have p9 := cj_5_3_4 (WG hG aG kG hM hO hQ hw iG_made iG_keptNeeds fG_kept fG_need fG_turn iG_columns) (WO hO aO kO hM hQ hw iO_answered iO_searched iO_searchedRelaxed iO_counted fO_countedCase gO_goalNumber gO_goalScale fO_start fO_column fO_chosen) (WM hM aM kM iM_stands iM_variables iM_rows iM_goals iM_differents iM_cases fM_from fM_to fM_whole fM_ways iM_plainRows fM_plainRow fM_kept fM_goalOver fM_goalUnder fM_goalMax fM_different) (WQ hQ aQ kQ hw fQ_inside_3 fQ_outside_3 fQ_shut_3 iQ_rows_3 iQ_allRows_3 iQ_columns_3) (WW nW hw lw kw wl_x53 wb_x53 wG_x53)
                  have hPc := hP.mem (fun q h => p9.mem_iff.mpr (List.mem_append_left _ h))
                  have hDc := (hD.perm p9).left
                  have hKc : va_K (dC, dI) vwCl (tQ kQ ++ (tW kw)) _ := hK.sub [25, 26, 27, 28, 29] rfl
                  have hFc := freeG p9 hD hS hA
                  refine va_callr (va_runV (As := [.int l3_x39, .int 0]) (rest := []) ⟨hx, hb, hml, hown, hts⟩ (m_X6_cellAt l dC dI hQ aQ kQ hw fQ_inside_3 fQ_outside_3 fQ_shut_3 iQ_rows_3 iQ_allRows_3 iQ_columns_3 nW lw kw wl_x53 wb_x53 wG_x53 l3_x39 0 (b_iQ_rows_3) (b_iQ_allRows_3) (b_iQ_columns_3) (by first | with_reducible assumption | omega | assumption) b_wl_x53 b_wb_x53 (⟨b_l3_x39.1, Int.le_trans b_l3_x39.2 (by decide)⟩) (show 0 ≤ (0 : Int32).toInt ∧ (0 : Int32).toInt ≤ 40 from by decide) (by omega) ((FitR.small (I := 8) (C := 40) (by omega) (by omega) (by omega) (by omega) (by decide)).ix0 (by omega)) H.size) (cwV 2 hts gwsMX3_layMultipliers_1 rfl rfl rfl hd_yX6_cellAt_RX6 (by decide +kernel)) (fz_pre (va_recv hK hP (ci := 6) (q0 := 28) rfl rfl) hPc hKc hDc) rfl rfl hl.1 rfl (lv_room (Nat.le_of_ble_eq_true rfl)) dX3_layMultipliers_127 (by decide +kernel)) hS (fun q _ h => hFc q h) hFc (fun kR_595 ra595 t9_ H locs ht hvm hw9 hB9 hz1 hk1 hS => ?_)
                  revert hB9
                  refine fz_a2 ?_
                  intro hra hB9
                  subst hra
                  have f595_0 := hw9
                  try dsimp only at f595_0
                  have p8 := p9
                  obtain ⟨hP, hD⟩ := frameG p9 p8 hP hD hk1 hFc (fz_P ht hB9.1) hB9.2
                  refine lv_aload_n hx hb dX3_layMultipliers_130 rfl (lv_at hl 3 rfl) ?_
                  refine va_get (D := (dC, dI)) (ci := 3) (v := .ref (hO 0)) (C := RX3) (T := TX3) (N := 17) hx hb hts iwsMX3_layMultipliers_in3 hown hK hP 0 rfl rfl 1 (by decide) (hts (.fieldLink RX3 63 "OptimaWorks$Prover" "solver" "LOptimaWorks$Solver;") (by decide +kernel)) (fun _ h9 => h9) rfl dX3_layMultipliers_131 ?_
                  refine lv_iconst (v := 0) hx hb dX3_layMultipliers_134 (by decide) ?_
                  refine lv_iload_n hx hb dX3_layMultipliers_135 rfl (lv_at hl 1 rfl) ?_
                  have p9 := cj_5_1_2_3_4 (WG hG aG kG hM hO hQ hw iG_made iG_keptNeeds fG_kept fG_need fG_turn iG_columns) (WO hO aO kO hM hQ hw iO_answered iO_searched iO_searchedRelaxed iO_counted fO_countedCase gO_goalNumber gO_goalScale fO_start fO_column fO_chosen) (WM hM aM kM iM_stands iM_variables iM_rows iM_goals iM_differents iM_cases fM_from fM_to fM_whole fM_ways iM_plainRows fM_plainRow fM_kept fM_goalOver fM_goalUnder fM_goalMax fM_different) (WQ hQ aQ kQ hw fQ_inside_3 fQ_outside_3 fQ_shut_3 iQ_rows_3 iQ_allRows_3 iQ_columns_3) (WW nW hw lw kw wl_x53 wb_x53 wG_x53)
                  have hPc := hP.mem (fun q h => p9.mem_iff.mpr (List.mem_append_left _ h))
                  have hDc := (hD.perm p9).left
                  have hKc : va_K (dC, dI) vwCl (tO kO ++ (tM kM ++ (tQ kQ ++ (tW kw)))) _ := hK.sub [5, 6, 7, 8, 9, 10, 11, 12, 13, 14, 15, 16, 17, 18, 19, 20, 21, 22, 23, 24, 25, 26, 27, 28, 29] rfl
                  have hFc := freeG p9 hD hS hA
                  refine va_calll (va_runV (As := [.int 0, .int l3_x39]) (rest := [.ref (hw kR_595)]) ⟨hx, hb, hml, hown, hts⟩ (m_X5_scaledNumber l dC dI hO aO kO hM hQ hw iO_answered iO_searched iO_searchedRelaxed iO_counted fO_countedCase gO_goalNumber gO_goalScale fO_start fO_column fO_chosen aM kM iM_stands iM_variables iM_rows iM_goals iM_differents iM_cases fM_from fM_to fM_whole fM_ways iM_plainRows fM_plainRow fM_kept fM_goalOver fM_goalUnder fM_goalMax fM_different aQ kQ fQ_inside_3 fQ_outside_3 fQ_shut_3 iQ_rows_3 iQ_allRows_3 iQ_columns_3 nW lw kw wl_x53 wb_x53 wG_x53 0 l3_x39 (b_iO_answered) (b_iO_searched) (b_iO_searchedRelaxed) (b_iO_counted) b_fO_countedCase b_fO_column b_fO_chosen (b_iM_stands) (b_iM_variables) (b_iM_rows) (b_iM_goals) (b_iM_differents) (b_iM_cases) b_fM_ways (b_iM_plainRows) b_fM_plainRow (by first | with_reducible assumption | omega | assumption) (b_iQ_rows_3) (b_iQ_allRows_3) (b_iQ_columns_3) (by first | with_reducible assumption | omega | assumption) b_wl_x53 b_wb_x53 (show 0 ≤ (0 : Int32).toInt ∧ (0 : Int32).toInt ≤ 2 from by decide) (by first | exact b_l3_x39 | with_reducible assumption | exact ⟨by omega, by omega⟩ | assumption) (by omega) H.size) (cwV 2 hts gwsMX3_layMultipliers_4 rfl rfl rfl hd_yX5_scaledNumber_RX5 (by decide +kernel)) (fz_pre (va_recv hK hP (ci := 5) (q0 := 6) rfl rfl) hPc hKc hDc) rfl rfl hl.1 rfl (lv_room (Nat.le_of_ble_eq_true rfl)) dX3_layMultipliers_136 (by decide +kernel)) hS (fun q _ h => hFc q h) hFc (fun r596 u t9_ H locs ht hvm hw9 hB9 hz1 hk1 hS => ?_)
                  clear hw9
                  have p8 := p9
                  obtain ⟨hP, hD⟩ := frameG p9 p8 hP hD hk1 hFc (fz_P ht hB9.1) hB9.2
                  refine lv_lneg hx hb dX3_layMultipliers_139 ?_
                  refine lv_topl (fun v597 hv597 => ?_)
                  clear hv597
                  have p9 := cj_5_4 (WG hG aG kG hM hO hQ hw iG_made iG_keptNeeds fG_kept fG_need fG_turn iG_columns) (WO hO aO kO hM hQ hw iO_answered iO_searched iO_searchedRelaxed iO_counted fO_countedCase gO_goalNumber gO_goalScale fO_start fO_column fO_chosen) (WM hM aM kM iM_stands iM_variables iM_rows iM_goals iM_differents iM_cases fM_from fM_to fM_whole fM_ways iM_plainRows fM_plainRow fM_kept fM_goalOver fM_goalUnder fM_goalMax fM_different) (WQ hQ aQ kQ hw fQ_inside_3 fQ_outside_3 fQ_shut_3 iQ_rows_3 iQ_allRows_3 iQ_columns_3) (WW nW hw lw kw wl_x53 wb_x53 wG_x53)
                  have hPc := hP.mem (fun q h => p9.mem_iff.mpr (List.mem_append_left _ h))
                  have hDc := (hD.perm p9).left
                  have hKc : va_K (dC, dI) vwCl (tW kw) _ := hK.sub [29] rfl
                  have hFc := freeG p9 hD hS hA
                  refine va_callv (va_runV (As := [.long v597]) (rest := []) ⟨hx, hb, hml, hown, hts⟩ (m_X8_setLong l dC dI nW hw lw kw wl_x53 wb_x53 wG_x53 kR_595 v597 b_wl_x53 b_wb_x53 (by first | with_reducible assumption | omega | (rw [iI_t (by omega) (by omega)]; omega) | decide | assumption) H.size) (cwV 1 hts gwsMX3_layMultipliers_3 rfl rfl rfl hd_yX8_setLong_RX8 (by decide +kernel)) (fz_pre (va_recv hK hP (ci := 8) (q0 := 6 + (11 + (11 + (5 + (kR_595))))) rfl (apR rfl (apR rfl (apR rfl (apR rfl (WW_o (by omega))))))) hPc hKc hDc) rfl rfl hl.1 rfl (lv_room (Nat.le_of_ble_eq_true rfl)) dX3_layMultipliers_140 (by decide +kernel)) hS (fun q _ h => hFc q h) hFc (fun u t9_ H locs ht hvm hw9 hB9 hz1 hk1 hS => ?_)
                  revert u hw9 hB9
                  refine fz_p3 ?_
                  intro wl_598 wb_598 wG_598 hw9 hB9
                  try dsimp only at hw9 hB9
                  revert hw9
                  refine fz_a2 ?_
                  intro b_wl_598 b_wb_598
                  have p8 := cj_5_4 (WG hG aG kG hM hO hQ hw iG_made iG_keptNeeds fG_kept fG_need fG_turn iG_columns) (WO hO aO kO hM hQ hw iO_answered iO_searched iO_searchedRelaxed iO_counted fO_countedCase gO_goalNumber gO_goalScale fO_start fO_column fO_chosen) (WM hM aM kM iM_stands iM_variables iM_rows iM_goals iM_differents iM_cases fM_from fM_to fM_whole fM_ways iM_plainRows fM_plainRow fM_kept fM_goalOver fM_goalUnder fM_goalMax fM_different) (WQ hQ aQ kQ hw fQ_inside_3 fQ_outside_3 fQ_shut_3 iQ_rows_3 iQ_allRows_3 iQ_columns_3) (WW nW hw lw kw wl_598 wb_598 wG_598)
                  obtain ⟨hP, hD⟩ := frameG p9 p8 hP hD hk1 hFc (fz_P ht hB9.1) hB9.2
                  have hl : lv_has _ _ ([(4, .int l4_x53), (3, .int l3_x39), (2, .int k0_j23), (0, .ref (hG 0)), (1, .int p1)]) := lv_sub hl [0, 1, 2, 3, 4] rfl
                  exact join44 _ _ _ _ ⟨wl_598, wb_598, wG_598, b_wl_598, b_wb_598, rfl, hP, hD, hS, hl⟩
            · rintro H locs ls stk ⟨wl_j44, wb_j44, wG_j44, b_wl_j44, b_wb_j44, rfl, hP, hD, hS, hl⟩
              refine lv_iinc (v := (iI (l3_x39.toInt + 1))) hx hb dX3_layMultipliers_143 hl (k := 1) rfl (iI_add2 (iI_of _) (by decide : (1 : Int32) = iI 1)) (by decide) rfl (fun ls (hl : lv_has ls _ ([(3, .int (iI (l3_x39.toInt + 1))), (4, .int l4_x53), (2, .int k0_j23), (0, .ref (hG 0)), (1, .int p1)])) => ?_)
              refine lv_goto (tgt := 39) hx hb dX3_layMultipliers_146 (by decide) ?_
              have hl : lv_has _ _ ([(3, .int (iI (l3_x39.toInt + 1))), (2, .int k0_j23), (0, .ref (hG 0)), (1, .int p1)]) := lv_sub hl [0, 2, 3, 4] rfl
              exact ihx39 wl_j44 wb_j44 wG_j44 (iI (l3_x39.toInt + 1)) _ _ _ b_wl_j44 b_wb_j44 (iI_rng (Int.le_trans (by decide) (Int.add_le_add (b_l3_x39.1) (Int.le_refl _))) (by omega) (by decide) (by decide)) (by have e9 : ((iI (l3_x39.toInt + 1))).toInt = (l3_x39.toInt + 1) := (iI_t (Int.le_trans (by decide) (Int.add_le_add (b_l3_x39.1) (Int.le_refl _))) (Int.le_trans (Int.add_le_add (b_l3_x39.2) (Int.le_refl _)) (by decide))); omega) hP hD hS hl
          · have t_59 : ¬ l4_x53.toInt ≥ iG_columns.toInt := toI_nge c_59 rfl rfl
            refine lv_aload_n hx hb dX3_layMultipliers_62 rfl (lv_at hl 3 rfl) ?_
            refine va_get (D := (dC, dI)) (ci := 3) (v := .ref (hQ 0)) (C := RX3) (T := TX3) (N := 17) hx hb hts iwsMX3_layMultipliers_in3 hown hK hP 0 rfl rfl 2 (by decide) (hts _ hm_m_X3_layMultipliers_2) (fun _ h9 => h9) rfl dX3_layMultipliers_63 ?_
            refine lv_iload_n hx hb dX3_layMultipliers_66 rfl (lv_at hl 1 rfl) ?_
            refine lv_iload hx hb dX3_layMultipliers_67 (lv_at hl 0 rfl) ?_
            refine lv_iconst (v := 1) hx hb dX3_layMultipliers_69 (by decide) ?_
            refine lv_iadd hx hb dX3_layMultipliers_70 ?_
            refine lv_topi (fun y599 hy599 => ?_)
            obtain rfl : (iI (l4_x53.toInt + 1)) = y599 := (hy599.trans (iI_add2 (iI_of _) (by decide : (1 : Int32) = iI 1))).symm
            have p9 := cj_5_3_4 (WG hG aG kG hM hO hQ hw iG_made iG_keptNeeds fG_kept fG_need fG_turn iG_columns) (WO hO aO kO hM hQ hw iO_answered iO_searched iO_searchedRelaxed iO_counted fO_countedCase gO_goalNumber gO_goalScale fO_start fO_column fO_chosen) (WM hM aM kM iM_stands iM_variables iM_rows iM_goals iM_differents iM_cases fM_from fM_to fM_whole fM_ways iM_plainRows fM_plainRow fM_kept fM_goalOver fM_goalUnder fM_goalMax fM_different) (WQ hQ aQ kQ hw fQ_inside_3 fQ_outside_3 fQ_shut_3 iQ_rows_3 iQ_allRows_3 iQ_columns_3) (WW nW hw lw kw wl_x53 wb_x53 wG_x53)
            have hPc := hP.mem (fun q h => p9.mem_iff.mpr (List.mem_append_left _ h))
            have hDc := (hD.perm p9).left
            have hKc : va_K (dC, dI) vwCl (tQ kQ ++ (tW kw)) _ := hK.sub [25, 26, 27, 28, 29] rfl
            have hFc := freeG p9 hD hS hA
            refine va_callr (va_runV (As := [.int l3_x39, .int (iI (l4_x53.toInt + 1))]) (rest := []) ⟨hx, hb, hml, hown, hts⟩ (m_X6_cellAt l dC dI hQ aQ kQ hw fQ_inside_3 fQ_outside_3 fQ_shut_3 iQ_rows_3 iQ_allRows_3 iQ_columns_3 nW lw kw wl_x53 wb_x53 wG_x53 l3_x39 (iI (l4_x53.toInt + 1)) (b_iQ_rows_3) (b_iQ_allRows_3) (b_iQ_columns_3) (by first | with_reducible assumption | omega | assumption) b_wl_x53 b_wb_x53 (⟨b_l3_x39.1, Int.le_trans b_l3_x39.2 (by decide)⟩) (iI_rng (Int.le_trans (by decide) (Int.add_le_add (b_l4_x53.1) (Int.le_refl _))) (by omega) (by decide) (by decide)) (by omega) ((by have h9 := (FitR.small (I := 8) (C := 40) (by omega) (by omega) (by omega) (by omega) (by decide) : FitR l3_x39.toInt iQ_columns_3.toInt).ix (j := (l4_x53.toInt + 1)) (by omega) (by omega); rw [iI_t (E := l4_x53.toInt + 1) (by omega) (by omega)]; exact h9)) H.size) (cwV 2 hts gwsMX3_layMultipliers_1 rfl rfl rfl hd_yX6_cellAt_RX6 (by decide +kernel)) (fz_pre (va_recv hK hP (ci := 6) (q0 := 28) rfl rfl) hPc hKc hDc) rfl rfl hl.1 rfl (lv_room (Nat.le_of_ble_eq_true rfl)) dX3_layMultipliers_71 (by decide +kernel)) hS (fun q _ h => hFc q h) hFc (fun kR_600 ra600 t9_ H locs ht hvm hw9 hB9 hz1 hk1 hS => ?_)
            revert hB9
            refine fz_a2 ?_
            intro hra hB9
            subst hra
            have f600_0 := hw9
            try dsimp only at f600_0
            have p8 := p9
            obtain ⟨hP, hD⟩ := frameG p9 p8 hP hD hk1 hFc (fz_P ht hB9.1) hB9.2
            refine lv_aload_n hx hb dX3_layMultipliers_74 rfl (lv_at hl 3 rfl) ?_
            refine va_get (D := (dC, dI)) (ci := 3) (v := .ref (aG 4)) (C := RX3) (T := TX3) (N := 17) hx hb hts iwsMX3_layMultipliers_in3 hown hK hP 0 rfl rfl 15 (by decide) (hts (.fieldLink RX3 56 "OptimaWorks$Prover" "turn" "[I") (by decide +kernel)) (fun _ h9 => h9) rfl dX3_layMultipliers_75 ?_
            refine lv_iload hx hb dX3_layMultipliers_78 (lv_at hl 0 rfl) ?_
            refine va_iald (cA := kG 4) (n := 40) (f := fG_turn) hx hb hK hP 5 4 rfl rfl (vp_in_iff.mpr ⟨b_l4_x53.1, (Int.lt_of_lt_of_le (Int.not_le.mp t_59) (Int.le_trans b_iG_columns.2 (by decide)))⟩) dX3_layMultipliers_80 ?_
            refine lv_topi (fun v601 hv601 => ?_)
            clear hv601
            refine lv_aload_n hx hb dX3_layMultipliers_81 rfl (lv_at hl 3 rfl) ?_
            refine va_get (D := (dC, dI)) (ci := 3) (v := .ref (hM 0)) (C := RX3) (T := TX3) (N := 17) hx hb hts iwsMX3_layMultipliers_in3 hown hK hP 0 rfl rfl 0 (by decide) (hts _ hm_m_X3_layMultipliers_0) (fun _ h9 => h9) rfl dX3_layMultipliers_82 ?_
            refine lv_aload_n hx hb dX3_layMultipliers_85 rfl (lv_at hl 3 rfl) ?_
            refine va_get (D := (dC, dI)) (ci := 3) (v := .ref (aG 3)) (C := RX3) (T := TX3) (N := 17) hx hb hts iwsMX3_layMultipliers_in3 hown hK hP 0 rfl rfl 14 (by decide) (hts (.fieldLink RX3 52 "OptimaWorks$Prover" "need" "[I") (by decide +kernel)) (fun _ h9 => h9) rfl dX3_layMultipliers_86 ?_
            refine lv_iload hx hb dX3_layMultipliers_89 (lv_at hl 0 rfl) ?_
            refine va_iald (cA := kG 3) (n := 40) (f := fG_need) hx hb hK hP 4 3 rfl rfl (vp_in_iff.mpr ⟨b_l4_x53.1, (Int.lt_of_lt_of_le (Int.not_le.mp t_59) (Int.le_trans b_iG_columns.2 (by decide)))⟩) dX3_layMultipliers_91 ?_
            refine lv_topi (fun v602 hv602 => ?_)
            have b_v602 : 0 ≤ v602.toInt ∧ v602.toInt < iM_plainRows.toInt + 2 * iM_variables.toInt := by rw [hv602]; exact NdOc.at hNd (by omega) (by omega)
            have b1_v602 : 0 ≤ v602.toInt ∧ v602.toInt ≤ 27 := by rw [hv602]; exact b_fG_need _
            clear hv602
            refine lv_iload_n hx hb dX3_layMultipliers_92 rfl (lv_at hl 1 rfl) ?_
            have p9 := cj_5_2 (WG hG aG kG hM hO hQ hw iG_made iG_keptNeeds fG_kept fG_need fG_turn iG_columns) (WO hO aO kO hM hQ hw iO_answered iO_searched iO_searchedRelaxed iO_counted fO_countedCase gO_goalNumber gO_goalScale fO_start fO_column fO_chosen) (WM hM aM kM iM_stands iM_variables iM_rows iM_goals iM_differents iM_cases fM_from fM_to fM_whole fM_ways iM_plainRows fM_plainRow fM_kept fM_goalOver fM_goalUnder fM_goalMax fM_different) (WQ hQ aQ kQ hw fQ_inside_3 fQ_outside_3 fQ_shut_3 iQ_rows_3 iQ_allRows_3 iQ_columns_3) (WW nW hw lw kw wl_x53 wb_x53 wG_x53)
            have hPc := hP.mem (fun q h => p9.mem_iff.mpr (List.mem_append_left _ h))
            have hDc := (hD.perm p9).left
            have hKc : va_K (dC, dI) vwCl (tM kM) _ := hK.sub [15, 16, 17, 18, 19, 20, 21, 22, 23, 24] rfl
            have hFc := freeG p9 hD hS hA
            refine va_calli (va_runV (As := [.int v602, .int l3_x39]) (rest := [.int v601, .ref (hw kR_600)]) ⟨hx, hb, hml, hown, hts⟩ (m_X1_needNumber l dC dI hM aM kM iM_stands iM_variables iM_rows iM_goals iM_differents iM_cases fM_from fM_to fM_whole fM_ways iM_plainRows fM_plainRow fM_kept fM_goalOver fM_goalUnder fM_goalMax fM_different v602 l3_x39 (b_iM_stands) (b_iM_variables) (b_iM_rows) (b_iM_goals) (b_iM_differents) (b_iM_cases) b_fM_ways (b_iM_plainRows) b_fM_plainRow (by first | with_reducible assumption | omega | assumption) (by first | exact b_v602 | with_reducible assumption | exact ⟨by omega, by omega⟩ | assumption) (by first | exact b_l3_x39 | with_reducible assumption | exact ⟨by omega, by omega⟩ | assumption) (by omega) H.size) (cwV 2 hts gwsMX3_layMultipliers_2 rfl rfl rfl hd_yX1_needNumber_RX1 (by decide +kernel)) (fz_pre (va_recv hK hP (ci := 1) (q0 := 17) rfl rfl) hPc hKc hDc) rfl rfl hl.1 rfl (lv_room (Nat.le_of_ble_eq_true rfl)) dX3_layMultipliers_93 (by decide +kernel)) hS (fun q _ h => hFc q h) hFc (fun r603 u t9_ H locs ht hvm hw9 hB9 hz1 hk1 hS => ?_)
            clear hw9
            have p8 := p9
            obtain ⟨hP, hD⟩ := frameG p9 p8 hP hD hk1 hFc (fz_P ht hB9.1) hB9.2
            refine lv_imul hx hb dX3_layMultipliers_96 ?_
            refine lv_topi (fun y604 hy604 => ?_)
            obtain rfl : (iI (v601.toInt * r603.toInt)) = y604 := (hy604.trans (iI_mul2 (iI_of _) (iI_of _))).symm
            refine lv_i2l hx hb dX3_layMultipliers_97 rfl ?_
            refine lv_topl (fun v605 hv605 => ?_)
            clear hv605
            have p9 := cj_5_4 (WG hG aG kG hM hO hQ hw iG_made iG_keptNeeds fG_kept fG_need fG_turn iG_columns) (WO hO aO kO hM hQ hw iO_answered iO_searched iO_searchedRelaxed iO_counted fO_countedCase gO_goalNumber gO_goalScale fO_start fO_column fO_chosen) (WM hM aM kM iM_stands iM_variables iM_rows iM_goals iM_differents iM_cases fM_from fM_to fM_whole fM_ways iM_plainRows fM_plainRow fM_kept fM_goalOver fM_goalUnder fM_goalMax fM_different) (WQ hQ aQ kQ hw fQ_inside_3 fQ_outside_3 fQ_shut_3 iQ_rows_3 iQ_allRows_3 iQ_columns_3) (WW nW hw lw kw wl_x53 wb_x53 wG_x53)
            have hPc := hP.mem (fun q h => p9.mem_iff.mpr (List.mem_append_left _ h))
            have hDc := (hD.perm p9).left
            have hKc : va_K (dC, dI) vwCl (tW kw) _ := hK.sub [29] rfl
            have hFc := freeG p9 hD hS hA
            refine va_callv (va_runV (As := [.long v605]) (rest := []) ⟨hx, hb, hml, hown, hts⟩ (m_X8_setLong l dC dI nW hw lw kw wl_x53 wb_x53 wG_x53 kR_600 v605 b_wl_x53 b_wb_x53 (by first | with_reducible assumption | omega | (rw [iI_t (by omega) (by omega)]; omega) | decide | assumption) H.size) (cwV 1 hts gwsMX3_layMultipliers_3 rfl rfl rfl hd_yX8_setLong_RX8 (by decide +kernel)) (fz_pre (va_recv hK hP (ci := 8) (q0 := 6 + (11 + (11 + (5 + (kR_600))))) rfl (apR rfl (apR rfl (apR rfl (apR rfl (WW_o (by omega))))))) hPc hKc hDc) rfl rfl hl.1 rfl (lv_room (Nat.le_of_ble_eq_true rfl)) dX3_layMultipliers_98 (by decide +kernel)) hS (fun q _ h => hFc q h) hFc (fun u t9_ H locs ht hvm hw9 hB9 hz1 hk1 hS => ?_)
            revert u hw9 hB9
            refine fz_p3 ?_
            intro wl_606 wb_606 wG_606 hw9 hB9
            try dsimp only at hw9 hB9
            revert hw9
            refine fz_a2 ?_
            intro b_wl_606 b_wb_606
            have p8 := cj_5_4 (WG hG aG kG hM hO hQ hw iG_made iG_keptNeeds fG_kept fG_need fG_turn iG_columns) (WO hO aO kO hM hQ hw iO_answered iO_searched iO_searchedRelaxed iO_counted fO_countedCase gO_goalNumber gO_goalScale fO_start fO_column fO_chosen) (WM hM aM kM iM_stands iM_variables iM_rows iM_goals iM_differents iM_cases fM_from fM_to fM_whole fM_ways iM_plainRows fM_plainRow fM_kept fM_goalOver fM_goalUnder fM_goalMax fM_different) (WQ hQ aQ kQ hw fQ_inside_3 fQ_outside_3 fQ_shut_3 iQ_rows_3 iQ_allRows_3 iQ_columns_3) (WW nW hw lw kw wl_606 wb_606 wG_606)
            obtain ⟨hP, hD⟩ := frameG p9 p8 hP hD hk1 hFc (fz_P ht hB9.1) hB9.2
            refine lv_iinc (v := (iI (l4_x53.toInt + 1))) hx hb dX3_layMultipliers_101 hl (k := 0) rfl (iI_add2 (iI_of _) (by decide : (1 : Int32) = iI 1)) (by decide) rfl (fun ls (hl : lv_has ls _ ([(4, .int (iI (l4_x53.toInt + 1))), (3, .int l3_x39), (2, .int k0_j23), (0, .ref (hG 0)), (1, .int p1)])) => ?_)
            refine lv_goto (tgt := 53) hx hb dX3_layMultipliers_104 (by decide) ?_
            have hl : lv_has _ _ ([(4, .int (iI (l4_x53.toInt + 1))), (3, .int l3_x39), (2, .int k0_j23), (0, .ref (hG 0)), (1, .int p1)]) := lv_sub hl [0, 1, 2, 3, 4] rfl
            exact ihx53 wl_606 wb_606 wG_606 (iI (l4_x53.toInt + 1)) _ _ _ b_wl_606 b_wb_606 (iI_rng (Int.le_trans (by decide) (Int.add_le_add (b_l4_x53.1) (Int.le_refl _))) (by omega) (by decide) (by decide)) (by have e9 : ((iI (l4_x53.toInt + 1))).toInt = (l4_x53.toInt + 1) := (iI_t (Int.le_trans (by decide) (Int.add_le_add (b_l4_x53.1) (Int.le_refl _))) (Int.le_trans (Int.add_le_add (b_l4_x53.2) (Int.le_refl _)) (by decide))); omega) hP hD hS hl
end

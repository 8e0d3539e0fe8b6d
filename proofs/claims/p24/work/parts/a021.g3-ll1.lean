section
theorem hd_yX5_scaleOf_RX5 : yX5_scaleOf.cls = RX5 ∧ yX5_scaleOf.cls ≠ "java/lang/invoke/MethodHandle" ∧ yX5_scaleOf.cls ≠ "java/lang/invoke/VarHandle" ∧ (parseMethodDescriptor yX5_scaleOf.desc).map (fun d => d.parameters.length) = some 1 := by decide +kernel
theorem hd_yX3_takeColumn_RX3 : yX3_takeColumn.cls = RX3 ∧ yX3_takeColumn.cls ≠ "java/lang/invoke/MethodHandle" ∧ yX3_takeColumn.cls ≠ "java/lang/invoke/VarHandle" ∧ (parseMethodDescriptor yX3_takeColumn.desc).map (fun d => d.parameters.length) = some 2 := by decide +kernel
theorem hd_yX3_layNeed_RX3 : yX3_layNeed.cls = RX3 ∧ yX3_layNeed.cls ≠ "java/lang/invoke/MethodHandle" ∧ yX3_layNeed.cls ≠ "java/lang/invoke/VarHandle" ∧ (parseMethodDescriptor yX3_layNeed.desc).map (fun d => d.parameters.length) = some 3 := by decide +kernel
def wsMX5_takeNumbers_p : List Cond := .code yX5_takeNumbers cX5_takeNumbers 4 none :: ([.fieldLink RX5 74 "OptimaWorks$Solver" "model" "LOptimaWorks$Model;", .fieldLink RX5 112 "OptimaWorks$Model" "variables" "I", .fieldLink RX5 12 "OptimaWorks$Solver" "tableau" "LOptimaWorks$Tableau;", .fieldLink RX5 253 "OptimaWorks$Tableau" "under" "LOptimaWorks$Whole;", .fieldLink RX5 35 "OptimaWorks$Solver" "start" "[I", .fieldLink RX5 38 "OptimaWorks$Solver" "column" "[I"] ++ wsX10 ++ wsX50 ++ wsX60 ++ (wsV RX5 184 RX8 yX8_setLong wsMX8_setLong) ++ (wsV RX5 211 RX5 yX5_addTimes wsMX5_addTimes) ++ (wsV RX5 265 RX6 yX6_rowOf wsMX6_rowOf) ++ (wsV RX5 177 RX6 yX6_cellAt wsMX6_cellAt) ++ (wsV RX5 259 RX8 yX8_add wsMX8_add))
theorem iwsMX5_takeNumbers_p_in1 : ∀ w ∈ wsX10, w ∈ wsMX5_takeNumbers_p := fun _ h => List.mem_cons_of_mem _ (List.mem_append_left _ (List.mem_append_left _ (List.mem_append_left _ (List.mem_append_left _ (List.mem_append_left _ (List.mem_append_left _ (List.mem_append_left _ (List.mem_append_right _ h))))))))
theorem iwsMX5_takeNumbers_p_in5 : ∀ w ∈ wsX50, w ∈ wsMX5_takeNumbers_p := fun _ h => List.mem_cons_of_mem _ (List.mem_append_left _ (List.mem_append_left _ (List.mem_append_left _ (List.mem_append_left _ (List.mem_append_left _ (List.mem_append_left _ (List.mem_append_right _ h)))))))
theorem iwsMX5_takeNumbers_p_in6 : ∀ w ∈ wsX60, w ∈ wsMX5_takeNumbers_p := fun _ h => List.mem_cons_of_mem _ (List.mem_append_left _ (List.mem_append_left _ (List.mem_append_left _ (List.mem_append_left _ (List.mem_append_left _ (List.mem_append_right _ h))))))
theorem gwsMX5_takeNumbers_p_0 : GoodIn wsMX5_takeNumbers_p (wsV RX5 184 RX8 yX8_setLong wsMX8_setLong) := goodIn_sub (fun _ h => List.mem_cons_of_mem _ (List.mem_append_left _ (List.mem_append_left _ (List.mem_append_left _ (List.mem_append_left _ (List.mem_append_right _ h)))))) (gdV (by decide +kernel) gdwsMX8_setLong)
theorem gwsMX5_takeNumbers_p_1 : GoodIn wsMX5_takeNumbers_p (wsV RX5 211 RX5 yX5_addTimes wsMX5_addTimes) := goodIn_sub (fun _ h => List.mem_cons_of_mem _ (List.mem_append_left _ (List.mem_append_left _ (List.mem_append_left _ (List.mem_append_right _ h))))) (gdV (by decide +kernel) gdwsMX5_addTimes)
theorem gwsMX5_takeNumbers_p_2 : GoodIn wsMX5_takeNumbers_p (wsV RX5 265 RX6 yX6_rowOf wsMX6_rowOf) := goodIn_sub (fun _ h => List.mem_cons_of_mem _ (List.mem_append_left _ (List.mem_append_left _ (List.mem_append_right _ h)))) (gdV (by decide +kernel) gdwsMX6_rowOf)
theorem gwsMX5_takeNumbers_p_3 : GoodIn wsMX5_takeNumbers_p (wsV RX5 177 RX6 yX6_cellAt wsMX6_cellAt) := goodIn_sub (fun _ h => List.mem_cons_of_mem _ (List.mem_append_left _ (List.mem_append_right _ h))) (gdV (by decide +kernel) gdwsMX6_cellAt)
theorem gwsMX5_takeNumbers_p_4 : GoodIn wsMX5_takeNumbers_p (wsV RX5 259 RX8 yX8_add wsMX8_add) := goodIn_sub (fun _ h => List.mem_cons_of_mem _ (List.mem_append_right _ h)) (gdV (by decide +kernel) gdwsMX8_add)
theorem gdwsMX5_takeNumbers_p : wsMX5_takeNumbers_p.all goodWord = true := gdC rfl (gdA (gdA (gdA (gdA (gdA (gdA (gdA (gdA (by decide +kernel : ([.fieldLink RX5 74 "OptimaWorks$Solver" "model" "LOptimaWorks$Model;", .fieldLink RX5 112 "OptimaWorks$Model" "variables" "I", .fieldLink RX5 12 "OptimaWorks$Solver" "tableau" "LOptimaWorks$Tableau;", .fieldLink RX5 253 "OptimaWorks$Tableau" "under" "LOptimaWorks$Whole;", .fieldLink RX5 35 "OptimaWorks$Solver" "start" "[I", .fieldLink RX5 38 "OptimaWorks$Solver" "column" "[I"] : List Cond).all goodWord = true) gdwsX10) gdwsX50) gdwsX60) (gdV (by decide +kernel) gdwsMX8_setLong)) (gdV (by decide +kernel) gdwsMX5_addTimes)) (gdV (by decide +kernel) gdwsMX6_rowOf)) (gdV (by decide +kernel) gdwsMX6_cellAt)) (gdV (by decide +kernel) gdwsMX8_add))
theorem hm_m_X5_takeNumbers_p_0 : (.fieldLink RX5 12 "OptimaWorks$Solver" "tableau" "LOptimaWorks$Tableau;" : Cond) ∈ wsMX5_takeNumbers_p := by decide +kernel
theorem hm_m_X5_takeNumbers_p_1 : (.fieldLink RX5 38 "OptimaWorks$Solver" "column" "[I" : Cond) ∈ wsMX5_takeNumbers_p := by decide +kernel
set_option maxHeartbeats 4000000 in
set_option maxRecDepth 100000 in
/-- the numbers of the best place -/
theorem m_X5_takeNumbers_p (l : Launch) (dC : Nat → ClassId) (dI : Nat → Nat → Nat) (hG : Nat → Nat) (aG : Nat → Nat) (kG : Nat → ClassId) (hM : Nat → Nat) (hO : Nat → Nat) (hQ : Nat → Nat) (hw : Nat → Nat) (iG_made : Int32) (iG_keptNeeds : Int32) (fG_kept : Nat → Int32) (fG_need : Nat → Int32) (fG_turn : Nat → Int32) (iG_columns : Int32) (aO : Nat → Nat) (kO : Nat → ClassId) (iO_answered : Int32) (iO_searched : Int32) (iO_searchedRelaxed : Int32) (iO_counted : Int32) (fO_countedCase : Nat → Int32) (gO_goalNumber : Nat → Int64) (gO_goalScale : Nat → Int64) (fO_start : Nat → Int32) (fO_column : Nat → Int32) (fO_chosen : Nat → Int32) (aM : Nat → Nat) (kM : Nat → ClassId) (iM_stands : Int32) (iM_variables : Int32) (iM_rows : Int32) (iM_goals : Int32) (iM_differents : Int32) (iM_cases : Int32) (fM_from : Nat → Int32) (fM_to : Nat → Int32) (fM_whole : Nat → Int32) (fM_ways : Nat → Int32) (iM_plainRows : Int32) (fM_plainRow : Nat → Int32) (fM_kept : Nat → Int32) (fM_goalOver : Nat → Int32) (fM_goalUnder : Nat → Int32) (fM_goalMax : Nat → Int32) (fM_different : Nat → Int32) (aQ : Nat → Nat) (kQ : Nat → ClassId) (fQ_inside : Nat → Int32) (fQ_outside : Nat → Int32) (fQ_shut : Nat → Int32) (iQ_rows : Int32) (iQ_allRows : Int32) (iQ_columns : Int32) (nW : Nat) (lw : Nat → Nat) (kw : ClassId) (wl : Nat → Int32) (wb : Nat → Int32) (wG : Nat → Nat → Int64) (b_iG_made : 0 ≤ iG_made.toInt ∧ iG_made.toInt ≤ 1) (b_fG_need : ∀ q : Nat, 0 ≤ (fG_need q).toInt ∧ (fG_need q).toInt ≤ 27) (b_iG_columns : 0 ≤ iG_columns.toInt ∧ iG_columns.toInt ≤ 40) (b_iO_answered : 0 ≤ iO_answered.toInt ∧ iO_answered.toInt ≤ 1) (b_iO_searched : 0 ≤ iO_searched.toInt ∧ iO_searched.toInt ≤ 1) (b_iO_searchedRelaxed : 0 ≤ iO_searchedRelaxed.toInt ∧ iO_searchedRelaxed.toInt ≤ 1) (b_iO_counted : (-1) ≤ iO_counted.toInt ∧ iO_counted.toInt ≤ 64) (b_fO_countedCase : ∀ q : Nat, 0 ≤ (fO_countedCase q).toInt ∧ (fO_countedCase q).toInt ≤ 200000) (b_fO_column : ∀ q : Nat, (-1) ≤ (fO_column q).toInt ∧ (fO_column q).toInt ≤ 8) (b_fO_chosen : ∀ q : Nat, 0 ≤ (fO_chosen q).toInt ∧ (fO_chosen q).toInt ≤ 2) (b_iM_stands : 0 ≤ iM_stands.toInt ∧ iM_stands.toInt ≤ 1) (b_iM_variables : 0 ≤ iM_variables.toInt ∧ iM_variables.toInt ≤ 8) (b_iM_rows : 0 ≤ iM_rows.toInt ∧ iM_rows.toInt ≤ 12) (b_iM_goals : 0 ≤ iM_goals.toInt ∧ iM_goals.toInt ≤ 3) (b_iM_differents : 0 ≤ iM_differents.toInt ∧ iM_differents.toInt ≤ 8) (b_iM_cases : 0 ≤ iM_cases.toInt ∧ iM_cases.toInt ≤ 200000) (b_fM_ways : ∀ q : Nat, 0 ≤ (fM_ways q).toInt ∧ (fM_ways q).toInt ≤ 3) (b_iM_plainRows : 0 ≤ iM_plainRows.toInt ∧ iM_plainRows.toInt ≤ 12) (b_fM_plainRow : ∀ q : Nat, 0 ≤ (fM_plainRow q).toInt ∧ (fM_plainRow q).toInt ≤ 11) (b_pr : iM_plainRows.toInt ≤ iM_rows.toInt) (b_iQ_rows : 0 ≤ iQ_rows.toInt ∧ iQ_rows.toInt ≤ 40) (b_iQ_allRows : 0 ≤ iQ_allRows.toInt ∧ iQ_allRows.toInt ≤ 40) (b_iQ_columns : 0 ≤ iQ_columns.toInt ∧ iQ_columns.toInt ≤ 40) (b_tb : TbO iQ_rows iQ_allRows iQ_columns) (b_wl : ∀ q : Nat, 0 ≤ (wl q).toInt ∧ (wl q).toInt ≤ 14) (b_wb : ∀ q : Nat, 0 ≤ (wb q).toInt ∧ (wb q).toInt ≤ 1) (hnW : 474 ≤ nW) (hc8 : iQ_columns.toInt ≤ 8) (sz : Nat) : Met l yX5_takeNumbers wsMX5_takeNumbers_p ({ frames := 4, cells := 0, slots := 0, locals := 85 }) (va_Pc [.ref (hO 0), .ref (aG 2)] (fun U => U.heap.size = sz ∧ va_P (dC, dI) vwCl (WG hG aG kG hM hO hQ hw iG_made iG_keptNeeds fG_kept fG_need fG_turn iG_columns ++ (WO hO aO kO hM hQ hw iO_answered iO_searched iO_searchedRelaxed iO_counted fO_countedCase gO_goalNumber gO_goalScale fO_start fO_column fO_chosen ++ (WM hM aM kM iM_stands iM_variables iM_rows iM_goals iM_differents iM_cases fM_from fM_to fM_whole fM_ways iM_plainRows fM_plainRow fM_kept fM_goalOver fM_goalUnder fM_goalMax fM_different ++ (WQ hQ aQ kQ hw fQ_inside fQ_outside fQ_shut iQ_rows iQ_allRows iQ_columns ++ (WW nW hw lw kw wl wb wG))))) U.heap ∧ va_K (dC, dI) vwCl (tG kG ++ (tO kO ++ (tM kM ++ (tQ kQ ++ (tW kw))))) U ∧ va_D (fun _ => True) (WG hG aG kG hM hO hQ hw iG_made iG_keptNeeds fG_kept fG_need fG_turn iG_columns ++ (WO hO aO kO hM hQ hw iO_answered iO_searched iO_searchedRelaxed iO_counted fO_countedCase gO_goalNumber gO_goalScale fO_start fO_column fO_chosen ++ (WM hM aM kM iM_stands iM_variables iM_rows iM_goals iM_differents iM_cases fM_from fM_to fM_whole fM_ways iM_plainRows fM_plainRow fM_kept fM_goalOver fM_goalUnder fM_goalMax fM_different ++ (WQ hQ aQ kQ hw fQ_inside fQ_outside fQ_shut iQ_rows iQ_allRows iQ_columns ++ (WW nW hw lw kw wl wb wG))))))) (va_Qv (fun (u : (Nat → Int32) × (Nat → Int32) × (Nat → Nat → Int64)) => (∀ q : Nat, 0 ≤ ((u.1) q).toInt ∧ ((u.1) q).toInt ≤ 14) ∧ (∀ q : Nat, 0 ≤ ((u.2.1) q).toInt ∧ ((u.2.1) q).toInt ≤ 1)) (fun (u : (Nat → Int32) × (Nat → Int32) × (Nat → Nat → Int64)) t => va_P (dC, dI) vwCl (WG hG aG kG hM hO hQ hw iG_made iG_keptNeeds fG_kept fG_need fG_turn iG_columns ++ (WO hO aO kO hM hQ hw iO_answered iO_searched iO_searchedRelaxed iO_counted fO_countedCase gO_goalNumber gO_goalScale fO_start fO_column fO_chosen ++ (WM hM aM kM iM_stands iM_variables iM_rows iM_goals iM_differents iM_cases fM_from fM_to fM_whole fM_ways iM_plainRows fM_plainRow fM_kept fM_goalOver fM_goalUnder fM_goalMax fM_different ++ (WQ hQ aQ kQ hw fQ_inside fQ_outside fQ_shut iQ_rows iQ_allRows iQ_columns ++ (WW nW hw lw kw (u.1) (u.2.1) (u.2.2)))))) t.heap ∧ va_D (va_A (WG hG aG kG hM hO hQ hw iG_made iG_keptNeeds fG_kept fG_need fG_turn iG_columns ++ (WO hO aO kO hM hQ hw iO_answered iO_searched iO_searchedRelaxed iO_counted fO_countedCase gO_goalNumber gO_goalScale fO_start fO_column fO_chosen ++ (WM hM aM kM iM_stands iM_variables iM_rows iM_goals iM_differents iM_cases fM_from fM_to fM_whole fM_ways iM_plainRows fM_plainRow fM_kept fM_goalOver fM_goalUnder fM_goalMax fM_different ++ (WQ hQ aQ kQ hw fQ_inside fQ_outside fQ_shut iQ_rows iQ_allRows iQ_columns ++ (WW nW hw lw kw wl wb wG))))) sz) (WG hG aG kG hM hO hQ hw iG_made iG_keptNeeds fG_kept fG_need fG_turn iG_columns ++ (WO hO aO kO hM hQ hw iO_answered iO_searched iO_searchedRelaxed iO_counted fO_countedCase gO_goalNumber gO_goalScale fO_start fO_column fO_chosen ++ (WM hM aM kM iM_stands iM_variables iM_rows iM_goals iM_differents iM_cases fM_from fM_to fM_whole fM_ways iM_plainRows fM_plainRow fM_kept fM_goalOver fM_goalUnder fM_goalMax fM_different ++ (WQ hQ aQ kQ hw fQ_inside fQ_outside fQ_shut iQ_rows iQ_allRows iQ_columns ++ (WW nW hw lw kw (u.1) (u.2.1) (u.2.2))))))) (va_A (WG hG aG kG hM hO hQ hw iG_made iG_keptNeeds fG_kept fG_need fG_turn iG_columns ++ (WO hO aO kO hM hQ hw iO_answered iO_searched iO_searchedRelaxed iO_counted fO_countedCase gO_goalNumber gO_goalScale fO_start fO_column fO_chosen ++ (WM hM aM kM iM_stands iM_variables iM_rows iM_goals iM_differents iM_cases fM_from fM_to fM_whole fM_ways iM_plainRows fM_plainRow fM_kept fM_goalOver fM_goalUnder fM_goalMax fM_different ++ (WQ hQ aQ kQ hw fQ_inside fQ_outside fQ_shut iQ_rows iQ_allRows iQ_columns ++ (WW nW hw lw kw wl wb wG))))) sz)) 0 0 (va_A (WG hG aG kG hM hO hQ hw iG_made iG_keptNeeds fG_kept fG_need fG_turn iG_columns ++ (WO hO aO kO hM hQ hw iO_answered iO_searched iO_searchedRelaxed iO_counted fO_countedCase gO_goalNumber gO_goalScale fO_start fO_column fO_chosen ++ (WM hM aM kM iM_stands iM_variables iM_rows iM_goals iM_differents iM_cases fM_from fM_to fM_whole fM_ways iM_plainRows fM_plainRow fM_kept fM_goalOver fM_goalUnder fM_goalMax fM_different ++ (WQ hQ aQ kQ hw fQ_inside fQ_outside fQ_shut iQ_rows iQ_allRows iQ_columns ++ (WW nW hw lw kw wl wb wG))))) sz) := by
  refine Met.ofW (cc := cX5_takeNumbers) (maxL := 4) (ret := none) (by decide) rfl ?_
  intro p e s m args below meth c s₁ B hml hv
  obtain ⟨rfl, hsz, hP, hK, hD0⟩ := hv
  have hx := B.exec
  have hb := B.bytes
  have hr := B.returns
  have hts := atoms_spec (ws := wsMX5_takeNumbers_p) B.pre
  have hown : s.vm.findClass RX5 = some m.cls := findClass_of_methodNamed B.named
  have hlocks := B.notSynchronized
  subst hsz
  have hD := hD0.self (sz := s.heap.size)
  generalize hAe : va_A (WG hG aG kG hM hO hQ hw iG_made iG_keptNeeds fG_kept fG_need fG_turn iG_columns ++ (WO hO aO kO hM hQ hw iO_answered iO_searched iO_searchedRelaxed iO_counted fO_countedCase gO_goalNumber gO_goalScale fO_start fO_column fO_chosen ++ (WM hM aM kM iM_stands iM_variables iM_rows iM_goals iM_differents iM_cases fM_from fM_to fM_whole fM_ways iM_plainRows fM_plainRow fM_kept fM_goalOver fM_goalUnder fM_goalMax fM_different ++ (WQ hQ aQ kQ hw fQ_inside fQ_outside fQ_shut iQ_rows iQ_allRows iQ_columns ++ (WW nW hw lw kw wl wb wG))))) s.heap.size = A at hD ⊢
  have hA : ∀ q : Nat, s.heap.size ≤ q → A q := fun q h => by rw [← hAe]; exact Or.inr h
  have hS : va_S A s.heap s.heap [] := va_S.rf
  have hl := lv_entry ([.ref (hO 0), .ref (aG 2)]) (n := 4) (Nat.le_of_ble_eq_true rfl)
  rw [lg_entry_eq]
  generalize (lg_sl ([.ref (hO 0), .ref (aG 2)]) ++ List.replicate (4 - (lg_sl ([.ref (hO 0), .ref (aG 2)])).length) Slot.unset).toArray = ls at hl ⊢
  have hl : lv_has ls 4 [(0, .ref (hO 0)), (1, .ref (aG 2))] := hl
  refine lv_iconst (v := 0) hx hb dX5_takeNumbers_0 (by decide) ?_
  refine lv_istore_n hx hb dX5_takeNumbers_1 rfl hl (by decide) rfl (fun ls (hl : lv_has ls _ ([(2, .int 0), (0, .ref (hO 0)), (1, .ref (aG 2))])) => ?_)
  have hl : lv_has _ _ ([(2, .int 0), (0, .ref (hO 0)), (1, .ref (aG 2))]) := lv_sub hl [0, 1, 2] rfl
  refine (fun (loop : ∀ (n9 : Nat) (wl_x2 : Nat → Int32) (wb_x2 : Nat → Int32) (wG_x2 : Nat → Nat → Int64) (l2_x2 : Int32) (H : Heap) (locs : List Loc) (ls : Array Slot), (∀ q : Nat, 0 ≤ (wl_x2 q).toInt ∧ (wl_x2 q).toInt ≤ 14) → (∀ q : Nat, 0 ≤ (wb_x2 q).toInt ∧ (wb_x2 q).toInt ≤ 1) → (0 ≤ l2_x2.toInt ∧ l2_x2.toInt ≤ 8) → (8 - l2_x2.toInt < ((n9 : Nat) : Int)) → va_P (dC, dI) vwCl (WG hG aG kG hM hO hQ hw iG_made iG_keptNeeds fG_kept fG_need fG_turn iG_columns ++ (WO hO aO kO hM hQ hw iO_answered iO_searched iO_searchedRelaxed iO_counted fO_countedCase gO_goalNumber gO_goalScale fO_start fO_column fO_chosen ++ (WM hM aM kM iM_stands iM_variables iM_rows iM_goals iM_differents iM_cases fM_from fM_to fM_whole fM_ways iM_plainRows fM_plainRow fM_kept fM_goalOver fM_goalUnder fM_goalMax fM_different ++ (WQ hQ aQ kQ hw fQ_inside fQ_outside fQ_shut iQ_rows iQ_allRows iQ_columns ++ (WW nW hw lw kw wl_x2 wb_x2 wG_x2))))) H → va_D A (WG hG aG kG hM hO hQ hw iG_made iG_keptNeeds fG_kept fG_need fG_turn iG_columns ++ (WO hO aO kO hM hQ hw iO_answered iO_searched iO_searchedRelaxed iO_counted fO_countedCase gO_goalNumber gO_goalScale fO_start fO_column fO_chosen ++ (WM hM aM kM iM_stands iM_variables iM_rows iM_goals iM_differents iM_cases fM_from fM_to fM_whole fM_ways iM_plainRows fM_plainRow fM_kept fM_goalOver fM_goalUnder fM_goalMax fM_different ++ (WQ hQ aQ kQ hw fQ_inside fQ_outside fQ_shut iQ_rows iQ_allRows iQ_columns ++ (WW nW hw lw kw wl_x2 wb_x2 wG_x2))))) → va_S A s.heap H locs → lv_has ls 4 [(2, .int l2_x2), (0, .ref (hO 0)), (1, .ref (aG 2))] → W p l e _ s m _ below meth c H locs 0 0 _ (F0 m 2 ls [])) => loop (9) wl wb wG 0 _ _ _ b_wl b_wb (show 0 ≤ (0 : Int32).toInt ∧ (0 : Int32).toInt ≤ 8 from by decide) ((by have e9 : (0 : Int32).toInt = 0 := (by decide : (0 : Int32).toInt = 0); omega)) hP hD hS hl) ?_
  intro n9
  induction n9 with
  | zero => intro wl_x2 wb_x2 wG_x2 l2_x2 H locs ls b_wl_x2 b_wb_x2 b_l2_x2 hf9; exact False.elim (by omega)
  | succ n9 ihx2 =>
    intro wl_x2 wb_x2 wG_x2 l2_x2 H locs ls b_wl_x2 b_wb_x2 b_l2_x2 hfx2 hP hD hS hl
    refine lv_iload_n hx hb dX5_takeNumbers_2 rfl (lv_at hl 0 rfl) ?_
    refine lv_aload_n hx hb dX5_takeNumbers_3 rfl (lv_at hl 1 rfl) ?_
    refine va_get (D := (dC, dI)) (ci := 5) (v := .ref (hM 0)) (C := RX5) (T := TX5) (N := 19) hx hb hts iwsMX5_takeNumbers_p_in5 hown hK hP 6 rfl rfl 0 (by decide) (hts (.fieldLink RX5 74 "OptimaWorks$Solver" "model" "LOptimaWorks$Model;") (by decide +kernel)) (fun _ h9 => h9) rfl dX5_takeNumbers_4 ?_
    refine va_get (D := (dC, dI)) (ci := 1) (v := .int iM_variables) (C := RX1) (T := TX1) (N := 17) hx hb hts iwsMX5_takeNumbers_p_in1 hown hK hP 17 rfl rfl 1 (by decide) (hts (.fieldLink RX5 112 "OptimaWorks$Model" "variables" "I") (by decide +kernel)) (fun _ h9 => h9) rfl dX5_takeNumbers_7 ?_
    refine lv_icmp_ge (tgt := 97) hx hb dX5_takeNumbers_10 (by decide) (fun c_10 => ?_) (fun c_10 => ?_)
    · have t_10 : l2_x2.toInt ≥ iM_variables.toInt := toI_ge c_10 rfl rfl
      refine W.widen (k := 0) (n := 0) (by decide +kernel) (by decide +kernel) ?_
      exact W.vret hx hb hr (fun t9_ ht hW => ⟨⟨(wl_x2, wb_x2, wG_x2), rfl, ⟨b_wl_x2, b_wb_x2⟩, by rw [ht]; exact hP, hD⟩, hS.F ht⟩) hS.2.2 dX5_takeNumbers_97
    · have t_10 : ¬ l2_x2.toInt ≥ iM_variables.toInt := toI_nge c_10 rfl rfl
      refine lv_aload_n hx hb dX5_takeNumbers_13 rfl (lv_at hl 2 rfl) ?_
      refine lv_iload_n hx hb dX5_takeNumbers_14 rfl (lv_at hl 0 rfl) ?_
      refine va_aldq (cA := kG 2) (n := 8) (f := fun q => some (hw (463 + q))) hx hb hK hP 3 2 rfl rfl (vp_in_iff.mpr ⟨b_l2_x2.1, (Int.lt_of_lt_of_le (Int.not_le.mp t_10) (Int.le_trans b_iM_variables.2 (by decide)))⟩) dX5_takeNumbers_15 ?_
      obtain ⟨k81, hk81, b_k81⟩ : ∃ k9 : Nat, k9 = 463 + (l2_x2).toNatClampNeg ∧ (463 ≤ k9 ∧ k9 < 471 ∧ (k9 : Int) = 463 + l2_x2.toInt) := ⟨_, rfl, ald_k (x := (l2_x2)) (o := 463) (n := 8) rfl (by omega) (by omega)⟩
      refine W.eq (g2 := F0 m 16 ls [.ref (hw k81)]) (by rw [hk81]; rfl) ?_
      clear hk81
      refine lv_lconst (v := 0) hx hb dX5_takeNumbers_16 (by decide) ?_
      have p9 := cj_5_4 (WG hG aG kG hM hO hQ hw iG_made iG_keptNeeds fG_kept fG_need fG_turn iG_columns) (WO hO aO kO hM hQ hw iO_answered iO_searched iO_searchedRelaxed iO_counted fO_countedCase gO_goalNumber gO_goalScale fO_start fO_column fO_chosen) (WM hM aM kM iM_stands iM_variables iM_rows iM_goals iM_differents iM_cases fM_from fM_to fM_whole fM_ways iM_plainRows fM_plainRow fM_kept fM_goalOver fM_goalUnder fM_goalMax fM_different) (WQ hQ aQ kQ hw fQ_inside fQ_outside fQ_shut iQ_rows iQ_allRows iQ_columns) (WW nW hw lw kw wl_x2 wb_x2 wG_x2)
      have hPc := hP.mem (fun q h => p9.mem_iff.mpr (List.mem_append_left _ h))
      have hDc := (hD.perm p9).left
      have hKc : va_K (dC, dI) vwCl (tW kw) _ := hK.sub [29] rfl
      have hFc := freeG p9 hD hS hA
      refine va_callv (va_runV (As := [.long 0]) (rest := []) ⟨hx, hb, hml, hown, hts⟩ (m_X8_setLong l dC dI nW hw lw kw wl_x2 wb_x2 wG_x2 k81 0 b_wl_x2 b_wb_x2 (by first | with_reducible assumption | omega | (rw [iI_t (by omega) (by omega)]; omega) | decide | assumption) H.size) (cwV 1 hts gwsMX5_takeNumbers_p_0 rfl rfl rfl hd_yX8_setLong_RX8 (by decide +kernel)) (fz_pre (va_recv hK hP (ci := 8) (q0 := 6 + (11 + (11 + (5 + (k81))))) rfl (apR rfl (apR rfl (apR rfl (apR rfl (WW_o (by omega))))))) hPc hKc hDc) rfl rfl hl.1 rfl (lv_room (Nat.le_of_ble_eq_true rfl)) dX5_takeNumbers_17 (by decide +kernel)) hS (fun q _ h => hFc q h) hFc (fun u t9_ H locs ht hvm hw9 hB9 hz1 hk1 hS => ?_)
      revert u hw9 hB9
      refine fz_p3 ?_
      intro wl_82 wb_82 wG_82 hw9 hB9
      try dsimp only at hw9 hB9
      revert hw9
      refine fz_a2 ?_
      intro b_wl_82 b_wb_82
      have p8 := cj_5_4 (WG hG aG kG hM hO hQ hw iG_made iG_keptNeeds fG_kept fG_need fG_turn iG_columns) (WO hO aO kO hM hQ hw iO_answered iO_searched iO_searchedRelaxed iO_counted fO_countedCase gO_goalNumber gO_goalScale fO_start fO_column fO_chosen) (WM hM aM kM iM_stands iM_variables iM_rows iM_goals iM_differents iM_cases fM_from fM_to fM_whole fM_ways iM_plainRows fM_plainRow fM_kept fM_goalOver fM_goalUnder fM_goalMax fM_different) (WQ hQ aQ kQ hw fQ_inside fQ_outside fQ_shut iQ_rows iQ_allRows iQ_columns) (WW nW hw lw kw wl_82 wb_82 wG_82)
      obtain ⟨hP, hD⟩ := frameG p9 p8 hP hD hk1 hFc (fz_P ht hB9.1) hB9.2
      refine lv_aload_n hx hb dX5_takeNumbers_20 rfl (lv_at hl 1 rfl) ?_
      refine lv_aload_n hx hb dX5_takeNumbers_21 rfl (lv_at hl 2 rfl) ?_
      refine lv_iload_n hx hb dX5_takeNumbers_22 rfl (lv_at hl 0 rfl) ?_
      refine va_aldq (cA := kG 2) (n := 8) (f := fun q => some (hw (463 + q))) hx hb hK hP 3 2 rfl rfl (vp_in_iff.mpr ⟨b_l2_x2.1, (Int.lt_of_lt_of_le (Int.not_le.mp t_10) (Int.le_trans b_iM_variables.2 (by decide)))⟩) dX5_takeNumbers_23 ?_
      obtain ⟨k83, hk83, b_k83⟩ : ∃ k9 : Nat, k9 = 463 + (l2_x2).toNatClampNeg ∧ (463 ≤ k9 ∧ k9 < 471 ∧ (k9 : Int) = 463 + l2_x2.toInt) := ⟨_, rfl, ald_k (x := (l2_x2)) (o := 463) (n := 8) rfl (by omega) (by omega)⟩
      refine W.eq (g2 := F0 m 24 ls [.ref (hw k83), .ref (hO 0)]) (by rw [hk83]; rfl) ?_
      clear hk83
      refine lv_aload_n hx hb dX5_takeNumbers_24 rfl (lv_at hl 1 rfl) ?_
      refine va_get (D := (dC, dI)) (ci := 5) (v := .ref (hQ 0)) (C := RX5) (T := TX5) (N := 19) hx hb hts iwsMX5_takeNumbers_p_in5 hown hK hP 6 rfl rfl 1 (by decide) (hts _ hm_m_X5_takeNumbers_p_0) (fun _ h9 => h9) rfl dX5_takeNumbers_25 ?_
      refine va_get (D := (dC, dI)) (ci := 6) (v := .ref (hw 400)) (C := RX6) (T := TX6) (N := 13) hx hb hts iwsMX5_takeNumbers_p_in6 hown hK hP 28 rfl rfl 4 (by decide) (hts (.fieldLink RX5 253 "OptimaWorks$Tableau" "under" "LOptimaWorks$Whole;") (by decide +kernel)) (fun _ h9 => h9) rfl dX5_takeNumbers_28 ?_
      refine lv_aload_n hx hb dX5_takeNumbers_31 rfl (lv_at hl 1 rfl) ?_
      refine va_get (D := (dC, dI)) (ci := 5) (v := .ref (aO 3)) (C := RX5) (T := TX5) (N := 19) hx hb hts iwsMX5_takeNumbers_p_in5 hown hK hP 6 rfl rfl 9 (by decide) (hts (.fieldLink RX5 35 "OptimaWorks$Solver" "start" "[I") (by decide +kernel)) (fun _ h9 => h9) rfl dX5_takeNumbers_32 ?_
      refine lv_iload_n hx hb dX5_takeNumbers_35 rfl (lv_at hl 0 rfl) ?_
      refine va_iald (cA := kO 3) (n := 8) (f := fO_start) hx hb hK hP 10 8 rfl rfl (vp_in_iff.mpr ⟨b_l2_x2.1, (Int.lt_of_lt_of_le (Int.not_le.mp t_10) (Int.le_trans b_iM_variables.2 (by decide)))⟩) dX5_takeNumbers_36 ?_
      refine lv_topi (fun v84 hv84 => ?_)
      clear hv84
      refine lv_i2l hx hb dX5_takeNumbers_37 rfl ?_
      refine lv_topl (fun v85 hv85 => ?_)
      clear hv85
      have p9 := cj_5_1_2_3_4 (WG hG aG kG hM hO hQ hw iG_made iG_keptNeeds fG_kept fG_need fG_turn iG_columns) (WO hO aO kO hM hQ hw iO_answered iO_searched iO_searchedRelaxed iO_counted fO_countedCase gO_goalNumber gO_goalScale fO_start fO_column fO_chosen) (WM hM aM kM iM_stands iM_variables iM_rows iM_goals iM_differents iM_cases fM_from fM_to fM_whole fM_ways iM_plainRows fM_plainRow fM_kept fM_goalOver fM_goalUnder fM_goalMax fM_different) (WQ hQ aQ kQ hw fQ_inside fQ_outside fQ_shut iQ_rows iQ_allRows iQ_columns) (WW nW hw lw kw wl_82 wb_82 wG_82)
      have hPc := hP.mem (fun q h => p9.mem_iff.mpr (List.mem_append_left _ h))
      have hDc := (hD.perm p9).left
      have hKc : va_K (dC, dI) vwCl (tO kO ++ (tM kM ++ (tQ kQ ++ (tW kw)))) _ := hK.sub [5, 6, 7, 8, 9, 10, 11, 12, 13, 14, 15, 16, 17, 18, 19, 20, 21, 22, 23, 24, 25, 26, 27, 28, 29] rfl
      have hFc := freeG p9 hD hS hA
      refine va_callv (va_runV (As := [.ref (hw k83), .ref (hw 400), .long v85]) (rest := []) ⟨hx, hb, hml, hown, hts⟩ (m_X5_addTimes l dC dI hO aO kO hM hQ hw iO_answered iO_searched iO_searchedRelaxed iO_counted fO_countedCase gO_goalNumber gO_goalScale fO_start fO_column fO_chosen aM kM iM_stands iM_variables iM_rows iM_goals iM_differents iM_cases fM_from fM_to fM_whole fM_ways iM_plainRows fM_plainRow fM_kept fM_goalOver fM_goalUnder fM_goalMax fM_different aQ kQ fQ_inside fQ_outside fQ_shut iQ_rows iQ_allRows iQ_columns nW lw kw wl_82 wb_82 wG_82 k83 400 v85 (b_iO_answered) (b_iO_searched) (b_iO_searchedRelaxed) (b_iO_counted) b_fO_countedCase b_fO_column b_fO_chosen (b_iM_stands) (b_iM_variables) (b_iM_rows) (b_iM_goals) (b_iM_differents) (b_iM_cases) b_fM_ways (b_iM_plainRows) b_fM_plainRow (by first | with_reducible assumption | omega | assumption) (b_iQ_rows) (b_iQ_allRows) (b_iQ_columns) (by first | with_reducible assumption | omega | assumption) b_wl_82 b_wb_82 (by omega) (by first | with_reducible assumption | omega | (rw [iI_t (by omega) (by omega)]; omega) | decide | assumption) (by first | with_reducible assumption | omega | (rw [iI_t (by omega) (by omega)]; omega) | decide | assumption) H.size) (cwV 3 hts gwsMX5_takeNumbers_p_1 rfl rfl rfl hd_yX5_addTimes_RX5 (by decide +kernel)) (fz_pre (va_recv hK hP (ci := 5) (q0 := 6) rfl rfl) hPc hKc hDc) rfl rfl hl.1 rfl (lv_room (Nat.le_of_ble_eq_true rfl)) dX5_takeNumbers_38 (by decide +kernel)) hS (fun q _ h => hFc q h) hFc (fun u t9_ H locs ht hvm hw9 hB9 hz1 hk1 hS => ?_)
      revert u hw9 hB9
      refine fz_p3 ?_
      intro wl_86 wb_86 wG_86 hw9 hB9
      try dsimp only at hw9 hB9
      revert hw9
      refine fz_a2 ?_
      intro b_wl_86 b_wb_86
      have p8 := cj_5_1_2_3_4 (WG hG aG kG hM hO hQ hw iG_made iG_keptNeeds fG_kept fG_need fG_turn iG_columns) (WO hO aO kO hM hQ hw iO_answered iO_searched iO_searchedRelaxed iO_counted fO_countedCase gO_goalNumber gO_goalScale fO_start fO_column fO_chosen) (WM hM aM kM iM_stands iM_variables iM_rows iM_goals iM_differents iM_cases fM_from fM_to fM_whole fM_ways iM_plainRows fM_plainRow fM_kept fM_goalOver fM_goalUnder fM_goalMax fM_different) (WQ hQ aQ kQ hw fQ_inside fQ_outside fQ_shut iQ_rows iQ_allRows iQ_columns) (WW nW hw lw kw wl_86 wb_86 wG_86)
      obtain ⟨hP, hD⟩ := frameG p9 p8 hP hD hk1 hFc (fz_P ht hB9.1) hB9.2
      refine lv_aload_n hx hb dX5_takeNumbers_41 rfl (lv_at hl 1 rfl) ?_
      refine va_get (D := (dC, dI)) (ci := 5) (v := .ref (aO 4)) (C := RX5) (T := TX5) (N := 19) hx hb hts iwsMX5_takeNumbers_p_in5 hown hK hP 6 rfl rfl 10 (by decide) (hts _ hm_m_X5_takeNumbers_p_1) (fun _ h9 => h9) rfl dX5_takeNumbers_42 ?_
      refine lv_iload_n hx hb dX5_takeNumbers_45 rfl (lv_at hl 0 rfl) ?_
      refine va_iald (cA := kO 4) (n := 8) (f := fO_column) hx hb hK hP 11 9 rfl rfl (vp_in_iff.mpr ⟨b_l2_x2.1, (Int.lt_of_lt_of_le (Int.not_le.mp t_10) (Int.le_trans b_iM_variables.2 (by decide)))⟩) dX5_takeNumbers_46 ?_
      refine lv_topi (fun v87 hv87 => ?_)
      have b_v87 : (-1) ≤ v87.toInt ∧ v87.toInt ≤ 8 := by rw [hv87]; exact b_fO_column _
      clear hv87
      refine lv_iconst (v := (-1)) hx hb dX5_takeNumbers_47 (by decide) ?_
      refine lv_icmp_ne (tgt := 55) hx hb dX5_takeNumbers_48 (by decide) (fun c_48 => ?_) (fun c_48 => ?_)
      · have t_48 : v87.toInt ≠ (-1) := toI_ne c_48 rfl (by decide : ((-1) : Int32).toInt = (-1))
        refine lv_aload_n hx hb dX5_takeNumbers_55 rfl (lv_at hl 1 rfl) ?_
        refine va_get (D := (dC, dI)) (ci := 5) (v := .ref (hQ 0)) (C := RX5) (T := TX5) (N := 19) hx hb hts iwsMX5_takeNumbers_p_in5 hown hK hP 6 rfl rfl 1 (by decide) (hts _ hm_m_X5_takeNumbers_p_0) (fun _ h9 => h9) rfl dX5_takeNumbers_56 ?_
        refine lv_aload_n hx hb dX5_takeNumbers_59 rfl (lv_at hl 1 rfl) ?_
        refine va_get (D := (dC, dI)) (ci := 5) (v := .ref (aO 4)) (C := RX5) (T := TX5) (N := 19) hx hb hts iwsMX5_takeNumbers_p_in5 hown hK hP 6 rfl rfl 10 (by decide) (hts _ hm_m_X5_takeNumbers_p_1) (fun _ h9 => h9) rfl dX5_takeNumbers_60 ?_
        refine lv_iload_n hx hb dX5_takeNumbers_63 rfl (lv_at hl 0 rfl) ?_
        refine va_iald (cA := kO 4) (n := 8) (f := fO_column) hx hb hK hP 11 9 rfl rfl (vp_in_iff.mpr ⟨b_l2_x2.1, (Int.lt_of_lt_of_le (Int.not_le.mp t_10) (Int.le_trans b_iM_variables.2 (by decide)))⟩) dX5_takeNumbers_64 ?_
        refine lv_topi (fun v88 hv88 => ?_)
        have b_v88 : (-1) ≤ v88.toInt ∧ v88.toInt ≤ 8 := by rw [hv88]; exact b_fO_column _
        clear hv88
        refine lv_iconst (v := 1) hx hb dX5_takeNumbers_65 (by decide) ?_
        refine lv_isub hx hb dX5_takeNumbers_66 ?_
        refine lv_topi (fun y89 hy89 => ?_)
        obtain rfl : (iI (v88.toInt - 1)) = y89 := (hy89.trans (iI_sub2 (iI_of _) (by decide : (1 : Int32) = iI 1))).symm
        have p9 := cj_5_3_4 (WG hG aG kG hM hO hQ hw iG_made iG_keptNeeds fG_kept fG_need fG_turn iG_columns) (WO hO aO kO hM hQ hw iO_answered iO_searched iO_searchedRelaxed iO_counted fO_countedCase gO_goalNumber gO_goalScale fO_start fO_column fO_chosen) (WM hM aM kM iM_stands iM_variables iM_rows iM_goals iM_differents iM_cases fM_from fM_to fM_whole fM_ways iM_plainRows fM_plainRow fM_kept fM_goalOver fM_goalUnder fM_goalMax fM_different) (WQ hQ aQ kQ hw fQ_inside fQ_outside fQ_shut iQ_rows iQ_allRows iQ_columns) (WW nW hw lw kw wl_86 wb_86 wG_86)
        have hPc := hP.mem (fun q h => p9.mem_iff.mpr (List.mem_append_left _ h))
        have hDc := (hD.perm p9).left
        have hKc : va_K (dC, dI) vwCl (tQ kQ ++ (tW kw)) _ := hK.sub [25, 26, 27, 28, 29] rfl
        have hFc := freeG p9 hD hS hA
        refine va_calli (va_runV (As := [.int (iI (v88.toInt - 1))]) (rest := []) ⟨hx, hb, hml, hown, hts⟩ (m_X6_rowOf l dC dI hQ aQ kQ hw fQ_inside fQ_outside fQ_shut iQ_rows iQ_allRows iQ_columns nW lw kw wl_86 wb_86 wG_86 (iI (v88.toInt - 1)) (b_iQ_rows) (b_iQ_allRows) (b_iQ_columns) (by first | with_reducible assumption | omega | assumption) b_wl_86 b_wb_86 (by omega) H.size) (cwV 1 hts gwsMX5_takeNumbers_p_2 rfl rfl rfl hd_yX6_rowOf_RX6 (by decide +kernel)) (fz_pre (va_recv hK hP (ci := 6) (q0 := 28) rfl rfl) hPc hKc hDc) rfl rfl hl.1 rfl (lv_room (Nat.le_of_ble_eq_true rfl)) dX5_takeNumbers_67 (by decide +kernel)) hS (fun q _ h => hFc q h) hFc (fun r90 u t9_ H locs ht hvm hw9 hB9 hz1 hk1 hS => ?_)
        revert hw9
        refine fz_a2 ?_
        intro b_r90 f90_0
        have p8 := p9
        obtain ⟨hP, hD⟩ := frameG p9 p8 hP hD hk1 hFc (fz_P ht hB9.1) hB9.2
        refine lv_istore_n hx hb dX5_takeNumbers_70 rfl hl (by decide) rfl (fun ls (hl : lv_has ls _ ([(3, .int r90), (2, .int l2_x2), (0, .ref (hO 0)), (1, .ref (aG 2))])) => ?_)
        refine lv_iload_n hx hb dX5_takeNumbers_71 rfl (lv_at hl 0 rfl) ?_
        refine lv_iconst (v := (-1)) hx hb dX5_takeNumbers_72 (by decide) ?_
        refine W.cut (pc := 91) (fun H locs ls stk => ∃ (wl_j12 : Nat → Int32) (wb_j12 : Nat → Int32) (wG_j12 : Nat → Nat → Int64), (∀ q : Nat, 0 ≤ (wl_j12 q).toInt ∧ (wl_j12 q).toInt ≤ 14) ∧ (∀ q : Nat, 0 ≤ (wb_j12 q).toInt ∧ (wb_j12 q).toInt ≤ 1) ∧  stk = [] ∧ va_P (dC, dI) vwCl (WG hG aG kG hM hO hQ hw iG_made iG_keptNeeds fG_kept fG_need fG_turn iG_columns ++ (WO hO aO kO hM hQ hw iO_answered iO_searched iO_searchedRelaxed iO_counted fO_countedCase gO_goalNumber gO_goalScale fO_start fO_column fO_chosen ++ (WM hM aM kM iM_stands iM_variables iM_rows iM_goals iM_differents iM_cases fM_from fM_to fM_whole fM_ways iM_plainRows fM_plainRow fM_kept fM_goalOver fM_goalUnder fM_goalMax fM_different ++ (WQ hQ aQ kQ hw fQ_inside fQ_outside fQ_shut iQ_rows iQ_allRows iQ_columns ++ (WW nW hw lw kw wl_j12 wb_j12 wG_j12))))) H ∧ va_D A (WG hG aG kG hM hO hQ hw iG_made iG_keptNeeds fG_kept fG_need fG_turn iG_columns ++ (WO hO aO kO hM hQ hw iO_answered iO_searched iO_searchedRelaxed iO_counted fO_countedCase gO_goalNumber gO_goalScale fO_start fO_column fO_chosen ++ (WM hM aM kM iM_stands iM_variables iM_rows iM_goals iM_differents iM_cases fM_from fM_to fM_whole fM_ways iM_plainRows fM_plainRow fM_kept fM_goalOver fM_goalUnder fM_goalMax fM_different ++ (WQ hQ aQ kQ hw fQ_inside fQ_outside fQ_shut iQ_rows iQ_allRows iQ_columns ++ (WW nW hw lw kw wl_j12 wb_j12 wG_j12))))) ∧ va_S A s.heap H locs ∧ lv_has ls 4 [(3, .int r90), (2, .int l2_x2), (0, .ref (hO 0)), (1, .ref (aG 2))]) (fun join12 => ?_) ?_
        · refine lv_icmp_eq (tgt := 91) hx hb dX5_takeNumbers_73 (by decide) (fun c_73 => ?_) (fun c_73 => ?_)
          · have t_73 : r90.toInt = (-1) := toI_eq c_73 rfl (by decide : ((-1) : Int32).toInt = (-1))
            have hl : lv_has _ _ ([(3, .int r90), (2, .int l2_x2), (0, .ref (hO 0)), (1, .ref (aG 2))]) := lv_sub hl [0, 1, 2, 3] rfl
            exact join12 _ _ _ _ ⟨wl_86, wb_86, wG_86, b_wl_86, b_wb_86, rfl, hP, hD, hS, hl⟩
          · have t_73 : ¬ r90.toInt = (-1) := toI_neq c_73 rfl (by decide : ((-1) : Int32).toInt = (-1))
            refine lv_aload_n hx hb dX5_takeNumbers_76 rfl (lv_at hl 3 rfl) ?_
            refine lv_iload_n hx hb dX5_takeNumbers_77 rfl (lv_at hl 1 rfl) ?_
            refine va_aldq (cA := kG 2) (n := 8) (f := fun q => some (hw (463 + q))) hx hb hK hP 3 2 rfl rfl (vp_in_iff.mpr ⟨b_l2_x2.1, (by omega)⟩) dX5_takeNumbers_78 ?_
            obtain ⟨k94, hk94, b_k94⟩ : ∃ k9 : Nat, k9 = 463 + (l2_x2).toNatClampNeg ∧ (463 ≤ k9 ∧ k9 < 471 ∧ (k9 : Int) = 463 + l2_x2.toInt) := ⟨_, rfl, ald_k (x := (l2_x2)) (o := 463) (n := 8) rfl (by omega) (by omega)⟩
            refine W.eq (g2 := F0 m 79 ls [.ref (hw k94)]) (by rw [hk94]; rfl) ?_
            clear hk94
            refine lv_aload_n hx hb dX5_takeNumbers_79 rfl (lv_at hl 2 rfl) ?_
            refine va_get (D := (dC, dI)) (ci := 5) (v := .ref (hQ 0)) (C := RX5) (T := TX5) (N := 19) hx hb hts iwsMX5_takeNumbers_p_in5 hown hK hP 6 rfl rfl 1 (by decide) (hts _ hm_m_X5_takeNumbers_p_0) (fun _ h9 => h9) rfl dX5_takeNumbers_80 ?_
            refine lv_iload_n hx hb dX5_takeNumbers_83 rfl (lv_at hl 0 rfl) ?_
            refine lv_iconst (v := 0) hx hb dX5_takeNumbers_84 (by decide) ?_
            have p9 := cj_5_3_4 (WG hG aG kG hM hO hQ hw iG_made iG_keptNeeds fG_kept fG_need fG_turn iG_columns) (WO hO aO kO hM hQ hw iO_answered iO_searched iO_searchedRelaxed iO_counted fO_countedCase gO_goalNumber gO_goalScale fO_start fO_column fO_chosen) (WM hM aM kM iM_stands iM_variables iM_rows iM_goals iM_differents iM_cases fM_from fM_to fM_whole fM_ways iM_plainRows fM_plainRow fM_kept fM_goalOver fM_goalUnder fM_goalMax fM_different) (WQ hQ aQ kQ hw fQ_inside fQ_outside fQ_shut iQ_rows iQ_allRows iQ_columns) (WW nW hw lw kw wl_86 wb_86 wG_86)
            have hPc := hP.mem (fun q h => p9.mem_iff.mpr (List.mem_append_left _ h))
            have hDc := (hD.perm p9).left
            have hKc : va_K (dC, dI) vwCl (tQ kQ ++ (tW kw)) _ := hK.sub [25, 26, 27, 28, 29] rfl
            have hFc := freeG p9 hD hS hA
            refine va_callr (va_runV (As := [.int r90, .int 0]) (rest := [.ref (hw k94)]) ⟨hx, hb, hml, hown, hts⟩ (m_X6_cellAt l dC dI hQ aQ kQ hw fQ_inside fQ_outside fQ_shut iQ_rows iQ_allRows iQ_columns nW lw kw wl_86 wb_86 wG_86 r90 0 (b_iQ_rows) (b_iQ_allRows) (b_iQ_columns) (by first | with_reducible assumption | omega | assumption) b_wl_86 b_wb_86 (by first | exact b_r90 | with_reducible assumption | exact ⟨by omega, by omega⟩ | assumption) (show 0 ≤ (0 : Int32).toInt ∧ (0 : Int32).toInt ≤ 40 from by decide) (by omega) (cell_ix0 b_tb (by omega) (by have h9 := b_tb.1; omega) (by omega)) H.size) (cwV 2 hts gwsMX5_takeNumbers_p_3 rfl rfl rfl hd_yX6_cellAt_RX6 (by decide +kernel)) (fz_pre (va_recv hK hP (ci := 6) (q0 := 28) rfl rfl) hPc hKc hDc) rfl rfl hl.1 rfl (lv_room (Nat.le_of_ble_eq_true rfl)) dX5_takeNumbers_85 (by decide +kernel)) hS (fun q _ h => hFc q h) hFc (fun kR_95 ra95 t9_ H locs ht hvm hw9 hB9 hz1 hk1 hS => ?_)
            revert hB9
            refine fz_a2 ?_
            intro hra hB9
            subst hra
            have f95_0 := hw9
            try dsimp only at f95_0
            have p8 := p9
            obtain ⟨hP, hD⟩ := frameG p9 p8 hP hD hk1 hFc (fz_P ht hB9.1) hB9.2
            have p9 := cj_5_4 (WG hG aG kG hM hO hQ hw iG_made iG_keptNeeds fG_kept fG_need fG_turn iG_columns) (WO hO aO kO hM hQ hw iO_answered iO_searched iO_searchedRelaxed iO_counted fO_countedCase gO_goalNumber gO_goalScale fO_start fO_column fO_chosen) (WM hM aM kM iM_stands iM_variables iM_rows iM_goals iM_differents iM_cases fM_from fM_to fM_whole fM_ways iM_plainRows fM_plainRow fM_kept fM_goalOver fM_goalUnder fM_goalMax fM_different) (WQ hQ aQ kQ hw fQ_inside fQ_outside fQ_shut iQ_rows iQ_allRows iQ_columns) (WW nW hw lw kw wl_86 wb_86 wG_86)
            have hPc := hP.mem (fun q h => p9.mem_iff.mpr (List.mem_append_left _ h))
            have hDc := (hD.perm p9).left
            have hKc : va_K (dC, dI) vwCl (tW kw) _ := hK.sub [29] rfl
            have hFc := freeG p9 hD hS hA
            refine va_callv (va_runV (As := [.ref (hw kR_95)]) (rest := []) ⟨hx, hb, hml, hown, hts⟩ (m_X8_add l dC dI nW hw lw kw wl_86 wb_86 wG_86 k94 kR_95 b_wl_86 b_wb_86 (by first | with_reducible assumption | omega | (rw [iI_t (by omega) (by omega)]; omega) | decide | assumption) (by first | with_reducible assumption | omega | (rw [iI_t (by omega) (by omega)]; omega) | decide | assumption) H.size) (cwV 1 hts gwsMX5_takeNumbers_p_4 rfl rfl rfl hd_yX8_add_RX8 (by decide +kernel)) (fz_pre (va_recv hK hP (ci := 8) (q0 := 6 + (11 + (11 + (5 + (k94))))) rfl (apR rfl (apR rfl (apR rfl (apR rfl (WW_o (by omega))))))) hPc hKc hDc) rfl rfl hl.1 rfl (lv_room (Nat.le_of_ble_eq_true rfl)) dX5_takeNumbers_88 (by decide +kernel)) hS (fun q _ h => hFc q h) hFc (fun u t9_ H locs ht hvm hw9 hB9 hz1 hk1 hS => ?_)
            revert u hw9 hB9
            refine fz_p3 ?_
            intro wl_96 wb_96 wG_96 hw9 hB9
            try dsimp only at hw9 hB9
            revert hw9
            refine fz_a2 ?_
            intro b_wl_96 b_wb_96
            have p8 := cj_5_4 (WG hG aG kG hM hO hQ hw iG_made iG_keptNeeds fG_kept fG_need fG_turn iG_columns) (WO hO aO kO hM hQ hw iO_answered iO_searched iO_searchedRelaxed iO_counted fO_countedCase gO_goalNumber gO_goalScale fO_start fO_column fO_chosen) (WM hM aM kM iM_stands iM_variables iM_rows iM_goals iM_differents iM_cases fM_from fM_to fM_whole fM_ways iM_plainRows fM_plainRow fM_kept fM_goalOver fM_goalUnder fM_goalMax fM_different) (WQ hQ aQ kQ hw fQ_inside fQ_outside fQ_shut iQ_rows iQ_allRows iQ_columns) (WW nW hw lw kw wl_96 wb_96 wG_96)
            obtain ⟨hP, hD⟩ := frameG p9 p8 hP hD hk1 hFc (fz_P ht hB9.1) hB9.2
            have hl : lv_has _ _ ([(3, .int r90), (2, .int l2_x2), (0, .ref (hO 0)), (1, .ref (aG 2))]) := lv_sub hl [0, 1, 2, 3] rfl
            exact join12 _ _ _ _ ⟨wl_96, wb_96, wG_96, b_wl_96, b_wb_96, rfl, hP, hD, hS, hl⟩
        · rintro H locs ls stk ⟨wl_j12, wb_j12, wG_j12, b_wl_j12, b_wb_j12, rfl, hP, hD, hS, hl⟩
          refine lv_iinc (v := (iI (l2_x2.toInt + 1))) hx hb dX5_takeNumbers_91 hl (k := 1) rfl (iI_add2 (iI_of _) (by decide : (1 : Int32) = iI 1)) (by decide) rfl (fun ls (hl : lv_has ls _ ([(2, .int (iI (l2_x2.toInt + 1))), (3, .int r90), (0, .ref (hO 0)), (1, .ref (aG 2))])) => ?_)
          refine lv_goto (tgt := 2) hx hb dX5_takeNumbers_94 (by decide) ?_
          have hl : lv_has _ _ ([(2, .int (iI (l2_x2.toInt + 1))), (0, .ref (hO 0)), (1, .ref (aG 2))]) := lv_sub hl [0, 2, 3] rfl
          exact ihx2 wl_j12 wb_j12 wG_j12 (iI (l2_x2.toInt + 1)) _ _ _ b_wl_j12 b_wb_j12 (iI_rng (Int.le_trans (by decide) (Int.add_le_add (b_l2_x2.1) (Int.le_refl _))) (by omega) (by decide) (by decide)) (by have e9 : ((iI (l2_x2.toInt + 1))).toInt = (l2_x2.toInt + 1) := (iI_t (Int.le_trans (by decide) (Int.add_le_add (b_l2_x2.1) (Int.le_refl _))) (Int.le_trans (Int.add_le_add (b_l2_x2.2) (Int.le_refl _)) (by decide))); omega) hP hD hS hl
      · have t_48 : v87.toInt = (-1) := toI_nne c_48 rfl (by decide : ((-1) : Int32).toInt = (-1))
        refine lv_iconst (v := (-1)) hx hb dX5_takeNumbers_51 (by decide) ?_
        refine lv_goto (tgt := 70) hx hb dX5_takeNumbers_52 (by decide) ?_
        refine lv_istore_n hx hb dX5_takeNumbers_70 rfl hl (by decide) rfl (fun ls (hl : lv_has ls _ ([(3, .int (-1)), (2, .int l2_x2), (0, .ref (hO 0)), (1, .ref (aG 2))])) => ?_)
        refine lv_iload_n hx hb dX5_takeNumbers_71 rfl (lv_at hl 0 rfl) ?_
        refine lv_iconst (v := (-1)) hx hb dX5_takeNumbers_72 (by decide) ?_
        refine lv_icmp_eq (tgt := 91) hx hb dX5_takeNumbers_73 (by decide) (fun _ => ?_) (fun c9 => absurd (by decide) c9)
        refine lv_iinc (v := (iI (l2_x2.toInt + 1))) hx hb dX5_takeNumbers_91 hl (k := 1) rfl (iI_add2 (iI_of _) (by decide : (1 : Int32) = iI 1)) (by decide) rfl (fun ls (hl : lv_has ls _ ([(2, .int (iI (l2_x2.toInt + 1))), (3, .int (-1)), (0, .ref (hO 0)), (1, .ref (aG 2))])) => ?_)
        refine lv_goto (tgt := 2) hx hb dX5_takeNumbers_94 (by decide) ?_
        have hl : lv_has _ _ ([(2, .int (iI (l2_x2.toInt + 1))), (0, .ref (hO 0)), (1, .ref (aG 2))]) := lv_sub hl [0, 2, 3] rfl
        exact ihx2 wl_86 wb_86 wG_86 (iI (l2_x2.toInt + 1)) _ _ _ b_wl_86 b_wb_86 (iI_rng (Int.le_trans (by decide) (Int.add_le_add (b_l2_x2.1) (Int.le_refl _))) (by omega) (by decide) (by decide)) (by have e9 : ((iI (l2_x2.toInt + 1))).toInt = (l2_x2.toInt + 1) := (iI_t (Int.le_trans (by decide) (Int.add_le_add (b_l2_x2.1) (Int.le_refl _))) (Int.le_trans (Int.add_le_add (b_l2_x2.2) (Int.le_refl _)) (by decide))); omega) hP hD hS hl
theorem dX3_findBest_0 : decode cX3_findBest 0 = .ok (.aload_n 0, 1) := dk_42 (by decide +kernel)
theorem dX3_findBest_1 : decode cX3_findBest 1 = .ok (.getfield 43, 3) := dk_180 (by decide +kernel)
theorem dX3_findBest_4 : decode cX3_findBest 4 = .ok (.lconst 0, 1) := dk_9 (by decide +kernel)
theorem dX3_findBest_5 : decode cX3_findBest 5 = .ok (.invokevirtual 128, 3) := dk_182 (by decide +kernel)
theorem dX3_findBest_8 : decode cX3_findBest 8 = .ok (.aload_n 0, 1) := dk_42 (by decide +kernel)
theorem dX3_findBest_9 : decode cX3_findBest 9 = .ok (.getfield 30, 3) := dk_180 (by decide +kernel)
theorem dX3_findBest_12 : decode cX3_findBest 12 = .ok (.lconst 1, 1) := dk_10 (by decide +kernel)
theorem dX3_findBest_13 : decode cX3_findBest 13 = .ok (.invokevirtual 128, 3) := dk_182 (by decide +kernel)
theorem dX3_findBest_16 : decode cX3_findBest 16 = .ok (.aload_n 0, 1) := dk_42 (by decide +kernel)
theorem dX3_findBest_17 : decode cX3_findBest 17 = .ok (.getfield 34, 3) := dk_180 (by decide +kernel)
theorem dX3_findBest_20 : decode cX3_findBest 20 = .ok (.lconst 0, 1) := dk_9 (by decide +kernel)
theorem dX3_findBest_21 : decode cX3_findBest 21 = .ok (.invokevirtual 128, 3) := dk_182 (by decide +kernel)
theorem dX3_findBest_24 : decode cX3_findBest 24 = .ok (.aload_n 0, 1) := dk_42 (by decide +kernel)
theorem dX3_findBest_25 : decode cX3_findBest 25 = .ok (.getfield 37, 3) := dk_180 (by decide +kernel)
theorem dX3_findBest_28 : decode cX3_findBest 28 = .ok (.lconst 1, 1) := dk_10 (by decide +kernel)
theorem dX3_findBest_29 : decode cX3_findBest 29 = .ok (.invokevirtual 128, 3) := dk_182 (by decide +kernel)
theorem dX3_findBest_32 : decode cX3_findBest 32 = .ok (.aload_n 0, 1) := dk_42 (by decide +kernel)
theorem dX3_findBest_33 : decode cX3_findBest 33 = .ok (.getfield 59, 3) := dk_180 (by decide +kernel)
theorem dX3_findBest_36 : decode cX3_findBest 36 = .ok (.getfield 83, 3) := dk_180 (by decide +kernel)
theorem dX3_findBest_39 : decode cX3_findBest 39 = .ok (.ifCond .le 105, 3) := dk_158 (by decide +kernel)
theorem dX3_findBest_42 : decode cX3_findBest 42 = .ok (.aload_n 0, 1) := dk_42 (by decide +kernel)
theorem dX3_findBest_43 : decode cX3_findBest 43 = .ok (.getfield 71, 3) := dk_180 (by decide +kernel)
theorem dX3_findBest_46 : decode cX3_findBest 46 = .ok (.invokevirtual 132, 3) := dk_182 (by decide +kernel)
theorem dX3_findBest_49 : decode cX3_findBest 49 = .ok (.istore_n 1, 1) := dk_60 (by decide +kernel)
theorem dX3_findBest_50 : decode cX3_findBest 50 = .ok (.aload_n 0, 1) := dk_42 (by decide +kernel)
theorem dX3_findBest_51 : decode cX3_findBest 51 = .ok (.getfield 71, 3) := dk_180 (by decide +kernel)
theorem dX3_findBest_54 : decode cX3_findBest 54 = .ok (.iload_n 1, 1) := dk_27 (by decide +kernel)
theorem dX3_findBest_55 : decode cX3_findBest 55 = .ok (.invokevirtual 137, 3) := dk_182 (by decide +kernel)
theorem dX3_findBest_58 : decode cX3_findBest 58 = .ok (.aload_n 0, 1) := dk_42 (by decide +kernel)
theorem dX3_findBest_59 : decode cX3_findBest 59 = .ok (.getfield 63, 3) := dk_180 (by decide +kernel)
theorem dX3_findBest_62 : decode cX3_findBest 62 = .ok (.iconst 0, 1) := dk_3 (by decide +kernel)
theorem dX3_findBest_63 : decode cX3_findBest 63 = .ok (.aload_n 0, 1) := dk_42 (by decide +kernel)
theorem dX3_findBest_64 : decode cX3_findBest 64 = .ok (.getfield 71, 3) := dk_180 (by decide +kernel)
theorem dX3_findBest_67 : decode cX3_findBest 67 = .ok (.iload_n 1, 1) := dk_27 (by decide +kernel)
theorem dX3_findBest_68 : decode cX3_findBest 68 = .ok (.iconst 0, 1) := dk_3 (by decide +kernel)
theorem dX3_findBest_69 : decode cX3_findBest 69 = .ok (.invokevirtual 140, 3) := dk_182 (by decide +kernel)
theorem dX3_findBest_72 : decode cX3_findBest 72 = .ok (.aload_n 0, 1) := dk_42 (by decide +kernel)
theorem dX3_findBest_73 : decode cX3_findBest 73 = .ok (.getfield 71, 3) := dk_180 (by decide +kernel)
theorem dX3_findBest_76 : decode cX3_findBest 76 = .ok (.getfield 144, 3) := dk_180 (by decide +kernel)
theorem dX3_findBest_79 : decode cX3_findBest 79 = .ok (.invokevirtual 145, 3) := dk_182 (by decide +kernel)
theorem dX3_findBest_82 : decode cX3_findBest 82 = .ok (.aload_n 0, 1) := dk_42 (by decide +kernel)
theorem dX3_findBest_83 : decode cX3_findBest 83 = .ok (.getfield 34, 3) := dk_180 (by decide +kernel)
theorem dX3_findBest_86 : decode cX3_findBest 86 = .ok (.aload_n 0, 1) := dk_42 (by decide +kernel)
theorem dX3_findBest_87 : decode cX3_findBest 87 = .ok (.getfield 63, 3) := dk_180 (by decide +kernel)
theorem dX3_findBest_90 : decode cX3_findBest 90 = .ok (.getfield 149, 3) := dk_180 (by decide +kernel)
theorem dX3_findBest_93 : decode cX3_findBest 93 = .ok (.invokevirtual 152, 3) := dk_182 (by decide +kernel)
theorem dX3_findBest_96 : decode cX3_findBest 96 = .ok (.aload_n 0, 1) := dk_42 (by decide +kernel)
theorem dX3_findBest_97 : decode cX3_findBest 97 = .ok (.getfield 37, 3) := dk_180 (by decide +kernel)
theorem dX3_findBest_100 : decode cX3_findBest 100 = .ok (.aload_n 0, 1) := dk_42 (by decide +kernel)
theorem dX3_findBest_101 : decode cX3_findBest 101 = .ok (.getfield 63, 3) := dk_180 (by decide +kernel)
theorem dX3_findBest_104 : decode cX3_findBest 104 = .ok (.getfield 156, 3) := dk_180 (by decide +kernel)
theorem dX3_findBest_107 : decode cX3_findBest 107 = .ok (.invokevirtual 152, 3) := dk_182 (by decide +kernel)
theorem dX3_findBest_110 : decode cX3_findBest 110 = .ok (.aload_n 0, 1) := dk_42 (by decide +kernel)
theorem dX3_findBest_111 : decode cX3_findBest 111 = .ok (.getfield 59, 3) := dk_180 (by decide +kernel)
theorem dX3_findBest_114 : decode cX3_findBest 114 = .ok (.getfield 159, 3) := dk_180 (by decide +kernel)
theorem dX3_findBest_117 : decode cX3_findBest 117 = .ok (.iconst 0, 1) := dk_3 (by decide +kernel)
theorem dX3_findBest_118 : decode cX3_findBest 118 = .ok (.baload, 1) := dk_51 (by decide +kernel)
theorem dX3_findBest_119 : decode cX3_findBest 119 = .ok (.ifCond .eq 10, 3) := dk_153 (by decide +kernel)
theorem dX3_findBest_122 : decode cX3_findBest 122 = .ok (.aload_n 0, 1) := dk_42 (by decide +kernel)
theorem dX3_findBest_123 : decode cX3_findBest 123 = .ok (.getfield 34, 3) := dk_180 (by decide +kernel)
theorem dX3_findBest_126 : decode cX3_findBest 126 = .ok (.invokevirtual 162, 3) := dk_182 (by decide +kernel)
theorem dX3_findBest_129 : decode cX3_findBest 129 = .ok (.aload_n 0, 1) := dk_42 (by decide +kernel)
theorem dX3_findBest_130 : decode cX3_findBest 130 = .ok (.getfield 30, 3) := dk_180 (by decide +kernel)
theorem dX3_findBest_133 : decode cX3_findBest 133 = .ok (.aload_n 0, 1) := dk_42 (by decide +kernel)
theorem dX3_findBest_134 : decode cX3_findBest 134 = .ok (.getfield 63, 3) := dk_180 (by decide +kernel)
theorem dX3_findBest_137 : decode cX3_findBest 137 = .ok (.iconst 0, 1) := dk_3 (by decide +kernel)
theorem dX3_findBest_138 : decode cX3_findBest 138 = .ok (.invokevirtual 165, 3) := dk_182 (by decide +kernel)
theorem dX3_findBest_141 : decode cX3_findBest 141 = .ok (.invokevirtual 128, 3) := dk_182 (by decide +kernel)
theorem dX3_findBest_144 : decode cX3_findBest 144 = .ok (.aload_n 0, 1) := dk_42 (by decide +kernel)
theorem dX3_findBest_145 : decode cX3_findBest 145 = .ok (.getfield 63, 3) := dk_180 (by decide +kernel)
theorem dX3_findBest_148 : decode cX3_findBest 148 = .ok (.aload_n 0, 1) := dk_42 (by decide +kernel)
theorem dX3_findBest_149 : decode cX3_findBest 149 = .ok (.getfield 40, 3) := dk_180 (by decide +kernel)
theorem dX3_findBest_152 : decode cX3_findBest 152 = .ok (.invokevirtual 169, 3) := dk_182 (by decide +kernel)
theorem dX3_findBest_155 : decode cX3_findBest 155 = .ok (.aload_n 0, 1) := dk_42 (by decide +kernel)
theorem dX3_findBest_156 : decode cX3_findBest 156 = .ok (.getfield 46, 3) := dk_180 (by decide +kernel)
theorem dX3_findBest_159 : decode cX3_findBest 159 = .ok (.aload_n 0, 1) := dk_42 (by decide +kernel)
theorem dX3_findBest_160 : decode cX3_findBest 160 = .ok (.getfield 71, 3) := dk_180 (by decide +kernel)
theorem dX3_findBest_163 : decode cX3_findBest 163 = .ok (.getfield 144, 3) := dk_180 (by decide +kernel)
theorem dX3_findBest_166 : decode cX3_findBest 166 = .ok (.invokevirtual 152, 3) := dk_182 (by decide +kernel)
theorem dX3_findBest_169 : decode cX3_findBest 169 = .ok (.return_, 1) := dk_177 (by decide +kernel)
def wsMX3_findBest : List Cond := .code yX3_findBest cX3_findBest 2 none :: ([.fieldLink RX3 43 "OptimaWorks$Prover" "shortfall" "LOptimaWorks$Whole;", .fieldLink RX3 30 "OptimaWorks$Prover" "multiplierUnder" "LOptimaWorks$Whole;", .fieldLink RX3 34 "OptimaWorks$Prover" "proved" "LOptimaWorks$Whole;", .fieldLink RX3 37 "OptimaWorks$Prover" "provedUnder" "LOptimaWorks$Whole;", .fieldLink RX3 59 "OptimaWorks$Prover" "model" "LOptimaWorks$Model;", .fieldLink RX3 83 "OptimaWorks$Model" "goals" "I", .fieldLink RX3 71 "OptimaWorks$Prover" "tableau" "LOptimaWorks$Tableau;", .fieldLink RX3 63 "OptimaWorks$Prover" "solver" "LOptimaWorks$Solver;", .fieldLink RX3 144 "OptimaWorks$Tableau" "under" "LOptimaWorks$Whole;", .fieldLink RX3 149 "OptimaWorks$Solver" "top" "LOptimaWorks$Whole;", .fieldLink RX3 156 "OptimaWorks$Solver" "bottom" "LOptimaWorks$Whole;", .fieldLink RX3 159 "OptimaWorks$Model" "goalMax" "[Z", .fieldLink RX3 40 "OptimaWorks$Prover" "place" "[LOptimaWorks$Whole;", .fieldLink RX3 46 "OptimaWorks$Prover" "under" "LOptimaWorks$Whole;"] ++ wsX10 ++ wsX30 ++ wsX50 ++ wsX60 ++ (wsV RX3 128 RX8 yX8_setLong wsMX8_setLong) ++ (wsV RX3 132 RX6 yX6_rowCount wsMX6_rowCount) ++ (wsV RX3 137 RX6 yX6_makeLeast wsMX6_makeLeast) ++ (wsV RX3 140 RX6 yX6_cellAt wsMX6_cellAt) ++ (wsV RX3 145 RX5 yX5_setGoal wsMX5_setGoal) ++ (wsV RX3 152 RX8 yX8_copy wsMX8_copy) ++ (wsV RX3 162 RX8 yX8_negate wsMX8_negate) ++ (wsV RX3 165 RX5 yX5_scaleOf wsMX5_scaleOf) ++ (wsV RX3 169 RX5 yX5_takeNumbers wsMX5_takeNumbers_p))
theorem iwsMX3_findBest_in1 : ∀ w ∈ wsX10, w ∈ wsMX3_findBest := fun _ h => List.mem_cons_of_mem _ (List.mem_append_left _ (List.mem_append_left _ (List.mem_append_left _ (List.mem_append_left _ (List.mem_append_left _ (List.mem_append_left _ (List.mem_append_left _ (List.mem_append_left _ (List.mem_append_left _ (List.mem_append_left _ (List.mem_append_left _ (List.mem_append_left _ (List.mem_append_right _ h)))))))))))))
theorem iwsMX3_findBest_in3 : ∀ w ∈ wsX30, w ∈ wsMX3_findBest := fun _ h => List.mem_cons_of_mem _ (List.mem_append_left _ (List.mem_append_left _ (List.mem_append_left _ (List.mem_append_left _ (List.mem_append_left _ (List.mem_append_left _ (List.mem_append_left _ (List.mem_append_left _ (List.mem_append_left _ (List.mem_append_left _ (List.mem_append_left _ (List.mem_append_right _ h))))))))))))
theorem iwsMX3_findBest_in5 : ∀ w ∈ wsX50, w ∈ wsMX3_findBest := fun _ h => List.mem_cons_of_mem _ (List.mem_append_left _ (List.mem_append_left _ (List.mem_append_left _ (List.mem_append_left _ (List.mem_append_left _ (List.mem_append_left _ (List.mem_append_left _ (List.mem_append_left _ (List.mem_append_left _ (List.mem_append_left _ (List.mem_append_right _ h)))))))))))
theorem iwsMX3_findBest_in6 : ∀ w ∈ wsX60, w ∈ wsMX3_findBest := fun _ h => List.mem_cons_of_mem _ (List.mem_append_left _ (List.mem_append_left _ (List.mem_append_left _ (List.mem_append_left _ (List.mem_append_left _ (List.mem_append_left _ (List.mem_append_left _ (List.mem_append_left _ (List.mem_append_left _ (List.mem_append_right _ h))))))))))
theorem gwsMX3_findBest_0 : GoodIn wsMX3_findBest (wsV RX3 128 RX8 yX8_setLong wsMX8_setLong) := goodIn_sub (fun _ h => List.mem_cons_of_mem _ (List.mem_append_left _ (List.mem_append_left _ (List.mem_append_left _ (List.mem_append_left _ (List.mem_append_left _ (List.mem_append_left _ (List.mem_append_left _ (List.mem_append_left _ (List.mem_append_right _ h)))))))))) (gdV (by decide +kernel) gdwsMX8_setLong)
theorem gwsMX3_findBest_1 : GoodIn wsMX3_findBest (wsV RX3 132 RX6 yX6_rowCount wsMX6_rowCount) := goodIn_sub (fun _ h => List.mem_cons_of_mem _ (List.mem_append_left _ (List.mem_append_left _ (List.mem_append_left _ (List.mem_append_left _ (List.mem_append_left _ (List.mem_append_left _ (List.mem_append_left _ (List.mem_append_right _ h))))))))) (gdV (by decide +kernel) gdwsMX6_rowCount)
theorem gwsMX3_findBest_2 : GoodIn wsMX3_findBest (wsV RX3 137 RX6 yX6_makeLeast wsMX6_makeLeast) := goodIn_sub (fun _ h => List.mem_cons_of_mem _ (List.mem_append_left _ (List.mem_append_left _ (List.mem_append_left _ (List.mem_append_left _ (List.mem_append_left _ (List.mem_append_left _ (List.mem_append_right _ h)))))))) (gdV (by decide +kernel) gdwsMX6_makeLeast)
theorem gwsMX3_findBest_3 : GoodIn wsMX3_findBest (wsV RX3 140 RX6 yX6_cellAt wsMX6_cellAt) := goodIn_sub (fun _ h => List.mem_cons_of_mem _ (List.mem_append_left _ (List.mem_append_left _ (List.mem_append_left _ (List.mem_append_left _ (List.mem_append_left _ (List.mem_append_right _ h))))))) (gdV (by decide +kernel) gdwsMX6_cellAt)
theorem gwsMX3_findBest_4 : GoodIn wsMX3_findBest (wsV RX3 145 RX5 yX5_setGoal wsMX5_setGoal) := goodIn_sub (fun _ h => List.mem_cons_of_mem _ (List.mem_append_left _ (List.mem_append_left _ (List.mem_append_left _ (List.mem_append_left _ (List.mem_append_right _ h)))))) (gdV (by decide +kernel) gdwsMX5_setGoal)
theorem gwsMX3_findBest_5 : GoodIn wsMX3_findBest (wsV RX3 152 RX8 yX8_copy wsMX8_copy) := goodIn_sub (fun _ h => List.mem_cons_of_mem _ (List.mem_append_left _ (List.mem_append_left _ (List.mem_append_left _ (List.mem_append_right _ h))))) (gdV (by decide +kernel) gdwsMX8_copy)
theorem gwsMX3_findBest_6 : GoodIn wsMX3_findBest (wsV RX3 162 RX8 yX8_negate wsMX8_negate) := goodIn_sub (fun _ h => List.mem_cons_of_mem _ (List.mem_append_left _ (List.mem_append_left _ (List.mem_append_right _ h)))) (gdV (by decide +kernel) gdwsMX8_negate)
theorem gwsMX3_findBest_7 : GoodIn wsMX3_findBest (wsV RX3 165 RX5 yX5_scaleOf wsMX5_scaleOf) := goodIn_sub (fun _ h => List.mem_cons_of_mem _ (List.mem_append_left _ (List.mem_append_right _ h))) (gdV (by decide +kernel) gdwsMX5_scaleOf)
theorem gwsMX3_findBest_8 : GoodIn wsMX3_findBest (wsV RX3 169 RX5 yX5_takeNumbers wsMX5_takeNumbers_p) := goodIn_sub (fun _ h => List.mem_cons_of_mem _ (List.mem_append_right _ h)) (gdV (by decide +kernel) gdwsMX5_takeNumbers_p)
theorem gdwsMX3_findBest : wsMX3_findBest.all goodWord = true := gdC rfl (gdA (gdA (gdA (gdA (gdA (gdA (gdA (gdA (gdA (gdA (gdA (gdA (gdA (by decide +kernel : ([.fieldLink RX3 43 "OptimaWorks$Prover" "shortfall" "LOptimaWorks$Whole;", .fieldLink RX3 30 "OptimaWorks$Prover" "multiplierUnder" "LOptimaWorks$Whole;", .fieldLink RX3 34 "OptimaWorks$Prover" "proved" "LOptimaWorks$Whole;", .fieldLink RX3 37 "OptimaWorks$Prover" "provedUnder" "LOptimaWorks$Whole;", .fieldLink RX3 59 "OptimaWorks$Prover" "model" "LOptimaWorks$Model;", .fieldLink RX3 83 "OptimaWorks$Model" "goals" "I", .fieldLink RX3 71 "OptimaWorks$Prover" "tableau" "LOptimaWorks$Tableau;", .fieldLink RX3 63 "OptimaWorks$Prover" "solver" "LOptimaWorks$Solver;", .fieldLink RX3 144 "OptimaWorks$Tableau" "under" "LOptimaWorks$Whole;", .fieldLink RX3 149 "OptimaWorks$Solver" "top" "LOptimaWorks$Whole;", .fieldLink RX3 156 "OptimaWorks$Solver" "bottom" "LOptimaWorks$Whole;", .fieldLink RX3 159 "OptimaWorks$Model" "goalMax" "[Z", .fieldLink RX3 40 "OptimaWorks$Prover" "place" "[LOptimaWorks$Whole;", .fieldLink RX3 46 "OptimaWorks$Prover" "under" "LOptimaWorks$Whole;"] : List Cond).all goodWord = true) gdwsX10) gdwsX30) gdwsX50) gdwsX60) (gdV (by decide +kernel) gdwsMX8_setLong)) (gdV (by decide +kernel) gdwsMX6_rowCount)) (gdV (by decide +kernel) gdwsMX6_makeLeast)) (gdV (by decide +kernel) gdwsMX6_cellAt)) (gdV (by decide +kernel) gdwsMX5_setGoal)) (gdV (by decide +kernel) gdwsMX8_copy)) (gdV (by decide +kernel) gdwsMX8_negate)) (gdV (by decide +kernel) gdwsMX5_scaleOf)) (gdV (by decide +kernel) gdwsMX5_takeNumbers_p))
theorem hm_m_X3_findBest_0 : (.fieldLink RX3 30 "OptimaWorks$Prover" "multiplierUnder" "LOptimaWorks$Whole;" : Cond) ∈ wsMX3_findBest := by decide +kernel
theorem hm_m_X3_findBest_1 : (.fieldLink RX3 34 "OptimaWorks$Prover" "proved" "LOptimaWorks$Whole;" : Cond) ∈ wsMX3_findBest := by decide +kernel
theorem hm_m_X3_findBest_2 : (.fieldLink RX3 37 "OptimaWorks$Prover" "provedUnder" "LOptimaWorks$Whole;" : Cond) ∈ wsMX3_findBest := by decide +kernel
theorem hm_m_X3_findBest_3 : (.fieldLink RX3 59 "OptimaWorks$Prover" "model" "LOptimaWorks$Model;" : Cond) ∈ wsMX3_findBest := by decide +kernel
theorem hm_m_X3_findBest_4 : (.fieldLink RX3 71 "OptimaWorks$Prover" "tableau" "LOptimaWorks$Tableau;" : Cond) ∈ wsMX3_findBest := by decide +kernel
theorem hm_m_X3_findBest_5 : (.fieldLink RX3 63 "OptimaWorks$Prover" "solver" "LOptimaWorks$Solver;" : Cond) ∈ wsMX3_findBest := by decide +kernel
theorem hm_m_X3_findBest_6 : (.fieldLink RX3 144 "OptimaWorks$Tableau" "under" "LOptimaWorks$Whole;" : Cond) ∈ wsMX3_findBest := by decide +kernel
set_option maxHeartbeats 4000000 in
set_option maxRecDepth 100000 in
/-- the best place -/
theorem m_X3_findBest (l : Launch) (dC : Nat → ClassId) (dI : Nat → Nat → Nat) (hG : Nat → Nat) (aG : Nat → Nat) (kG : Nat → ClassId) (hM : Nat → Nat) (hO : Nat → Nat) (hQ : Nat → Nat) (hw : Nat → Nat) (iG_made : Int32) (iG_keptNeeds : Int32) (fG_kept : Nat → Int32) (fG_need : Nat → Int32) (fG_turn : Nat → Int32) (iG_columns : Int32) (aO : Nat → Nat) (kO : Nat → ClassId) (iO_answered : Int32) (iO_searched : Int32) (iO_searchedRelaxed : Int32) (iO_counted : Int32) (fO_countedCase : Nat → Int32) (gO_goalNumber : Nat → Int64) (gO_goalScale : Nat → Int64) (fO_start : Nat → Int32) (fO_column : Nat → Int32) (fO_chosen : Nat → Int32) (aM : Nat → Nat) (kM : Nat → ClassId) (iM_stands : Int32) (iM_variables : Int32) (iM_rows : Int32) (iM_goals : Int32) (iM_differents : Int32) (iM_cases : Int32) (fM_from : Nat → Int32) (fM_to : Nat → Int32) (fM_whole : Nat → Int32) (fM_ways : Nat → Int32) (iM_plainRows : Int32) (fM_plainRow : Nat → Int32) (fM_kept : Nat → Int32) (fM_goalOver : Nat → Int32) (fM_goalUnder : Nat → Int32) (fM_goalMax : Nat → Int32) (fM_different : Nat → Int32) (aQ : Nat → Nat) (kQ : Nat → ClassId) (fQ_inside : Nat → Int32) (fQ_outside : Nat → Int32) (fQ_shut : Nat → Int32) (iQ_rows : Int32) (iQ_allRows : Int32) (iQ_columns : Int32) (nW : Nat) (lw : Nat → Nat) (kw : ClassId) (wl : Nat → Int32) (wb : Nat → Int32) (wG : Nat → Nat → Int64) (b_iG_made : 0 ≤ iG_made.toInt ∧ iG_made.toInt ≤ 1) (b_fG_need : ∀ q : Nat, 0 ≤ (fG_need q).toInt ∧ (fG_need q).toInt ≤ 27) (b_iG_columns : 0 ≤ iG_columns.toInt ∧ iG_columns.toInt ≤ 40) (b_iO_answered : 0 ≤ iO_answered.toInt ∧ iO_answered.toInt ≤ 1) (b_iO_searched : 0 ≤ iO_searched.toInt ∧ iO_searched.toInt ≤ 1) (b_iO_searchedRelaxed : 0 ≤ iO_searchedRelaxed.toInt ∧ iO_searchedRelaxed.toInt ≤ 1) (b_iO_counted : (-1) ≤ iO_counted.toInt ∧ iO_counted.toInt ≤ 64) (b_fO_countedCase : ∀ q : Nat, 0 ≤ (fO_countedCase q).toInt ∧ (fO_countedCase q).toInt ≤ 200000) (b_fO_column : ∀ q : Nat, (-1) ≤ (fO_column q).toInt ∧ (fO_column q).toInt ≤ 8) (b_fO_chosen : ∀ q : Nat, 0 ≤ (fO_chosen q).toInt ∧ (fO_chosen q).toInt ≤ 2) (b_iM_stands : 0 ≤ iM_stands.toInt ∧ iM_stands.toInt ≤ 1) (b_iM_variables : 0 ≤ iM_variables.toInt ∧ iM_variables.toInt ≤ 8) (b_iM_rows : 0 ≤ iM_rows.toInt ∧ iM_rows.toInt ≤ 12) (b_iM_goals : 0 ≤ iM_goals.toInt ∧ iM_goals.toInt ≤ 3) (b_iM_differents : 0 ≤ iM_differents.toInt ∧ iM_differents.toInt ≤ 8) (b_iM_cases : 0 ≤ iM_cases.toInt ∧ iM_cases.toInt ≤ 200000) (b_fM_ways : ∀ q : Nat, 0 ≤ (fM_ways q).toInt ∧ (fM_ways q).toInt ≤ 3) (b_iM_plainRows : 0 ≤ iM_plainRows.toInt ∧ iM_plainRows.toInt ≤ 12) (b_fM_plainRow : ∀ q : Nat, 0 ≤ (fM_plainRow q).toInt ∧ (fM_plainRow q).toInt ≤ 11) (b_pr : iM_plainRows.toInt ≤ iM_rows.toInt) (b_iQ_rows : 0 ≤ iQ_rows.toInt ∧ iQ_rows.toInt ≤ 40) (b_iQ_allRows : 0 ≤ iQ_allRows.toInt ∧ iQ_allRows.toInt ≤ 40) (b_iQ_columns : 0 ≤ iQ_columns.toInt ∧ iQ_columns.toInt ≤ 40) (b_tb : TbO iQ_rows iQ_allRows iQ_columns) (b_wl : ∀ q : Nat, 0 ≤ (wl q).toInt ∧ (wl q).toInt ≤ 14) (b_wb : ∀ q : Nat, 0 ≤ (wb q).toInt ∧ (wb q).toInt ≤ 1) (hnW : 474 ≤ nW) (hc8 : iQ_columns.toInt ≤ 8) (hr20 : iQ_rows.toInt ≤ 20) (sz : Nat) : Met l yX3_findBest wsMX3_findBest ({ frames := 6, cells := 0, slots := 0, locals := 155 }) (va_Pc [.ref (hG 0)] (fun U => U.heap.size = sz ∧ va_P (dC, dI) vwCl (WG hG aG kG hM hO hQ hw iG_made iG_keptNeeds fG_kept fG_need fG_turn iG_columns ++ (WO hO aO kO hM hQ hw iO_answered iO_searched iO_searchedRelaxed iO_counted fO_countedCase gO_goalNumber gO_goalScale fO_start fO_column fO_chosen ++ (WM hM aM kM iM_stands iM_variables iM_rows iM_goals iM_differents iM_cases fM_from fM_to fM_whole fM_ways iM_plainRows fM_plainRow fM_kept fM_goalOver fM_goalUnder fM_goalMax fM_different ++ (WQ hQ aQ kQ hw fQ_inside fQ_outside fQ_shut iQ_rows iQ_allRows iQ_columns ++ (WW nW hw lw kw wl wb wG))))) U.heap ∧ va_K (dC, dI) vwCl (tG kG ++ (tO kO ++ (tM kM ++ (tQ kQ ++ (tW kw))))) U ∧ va_D (fun _ => True) (WG hG aG kG hM hO hQ hw iG_made iG_keptNeeds fG_kept fG_need fG_turn iG_columns ++ (WO hO aO kO hM hQ hw iO_answered iO_searched iO_searchedRelaxed iO_counted fO_countedCase gO_goalNumber gO_goalScale fO_start fO_column fO_chosen ++ (WM hM aM kM iM_stands iM_variables iM_rows iM_goals iM_differents iM_cases fM_from fM_to fM_whole fM_ways iM_plainRows fM_plainRow fM_kept fM_goalOver fM_goalUnder fM_goalMax fM_different ++ (WQ hQ aQ kQ hw fQ_inside fQ_outside fQ_shut iQ_rows iQ_allRows iQ_columns ++ (WW nW hw lw kw wl wb wG))))))) (va_Qv (fun (u : (Nat → Int32) × (Nat → Int32) × (Nat → Int32) × (Nat → Int32) × (Nat → Int32) × (Nat → Nat → Int64)) => (∀ q : Nat, 0 ≤ ((u.2.2.2.1) q).toInt ∧ ((u.2.2.2.1) q).toInt ≤ 14) ∧ (∀ q : Nat, 0 ≤ ((u.2.2.2.2.1) q).toInt ∧ ((u.2.2.2.2.1) q).toInt ≤ 1)) (fun (u : (Nat → Int32) × (Nat → Int32) × (Nat → Int32) × (Nat → Int32) × (Nat → Int32) × (Nat → Nat → Int64)) t => va_P (dC, dI) vwCl (WG hG aG kG hM hO hQ hw iG_made iG_keptNeeds fG_kept fG_need fG_turn iG_columns ++ (WO hO aO kO hM hQ hw iO_answered iO_searched iO_searchedRelaxed iO_counted fO_countedCase gO_goalNumber gO_goalScale fO_start fO_column fO_chosen ++ (WM hM aM kM iM_stands iM_variables iM_rows iM_goals iM_differents iM_cases fM_from fM_to fM_whole fM_ways iM_plainRows fM_plainRow fM_kept fM_goalOver fM_goalUnder fM_goalMax fM_different ++ (WQ hQ aQ kQ hw (u.1) (u.2.1) (u.2.2.1) iQ_rows iQ_allRows iQ_columns ++ (WW nW hw lw kw (u.2.2.2.1) (u.2.2.2.2.1) (u.2.2.2.2.2)))))) t.heap ∧ va_D (va_A (WG hG aG kG hM hO hQ hw iG_made iG_keptNeeds fG_kept fG_need fG_turn iG_columns ++ (WO hO aO kO hM hQ hw iO_answered iO_searched iO_searchedRelaxed iO_counted fO_countedCase gO_goalNumber gO_goalScale fO_start fO_column fO_chosen ++ (WM hM aM kM iM_stands iM_variables iM_rows iM_goals iM_differents iM_cases fM_from fM_to fM_whole fM_ways iM_plainRows fM_plainRow fM_kept fM_goalOver fM_goalUnder fM_goalMax fM_different ++ (WQ hQ aQ kQ hw fQ_inside fQ_outside fQ_shut iQ_rows iQ_allRows iQ_columns ++ (WW nW hw lw kw wl wb wG))))) sz) (WG hG aG kG hM hO hQ hw iG_made iG_keptNeeds fG_kept fG_need fG_turn iG_columns ++ (WO hO aO kO hM hQ hw iO_answered iO_searched iO_searchedRelaxed iO_counted fO_countedCase gO_goalNumber gO_goalScale fO_start fO_column fO_chosen ++ (WM hM aM kM iM_stands iM_variables iM_rows iM_goals iM_differents iM_cases fM_from fM_to fM_whole fM_ways iM_plainRows fM_plainRow fM_kept fM_goalOver fM_goalUnder fM_goalMax fM_different ++ (WQ hQ aQ kQ hw (u.1) (u.2.1) (u.2.2.1) iQ_rows iQ_allRows iQ_columns ++ (WW nW hw lw kw (u.2.2.2.1) (u.2.2.2.2.1) (u.2.2.2.2.2))))))) (va_A (WG hG aG kG hM hO hQ hw iG_made iG_keptNeeds fG_kept fG_need fG_turn iG_columns ++ (WO hO aO kO hM hQ hw iO_answered iO_searched iO_searchedRelaxed iO_counted fO_countedCase gO_goalNumber gO_goalScale fO_start fO_column fO_chosen ++ (WM hM aM kM iM_stands iM_variables iM_rows iM_goals iM_differents iM_cases fM_from fM_to fM_whole fM_ways iM_plainRows fM_plainRow fM_kept fM_goalOver fM_goalUnder fM_goalMax fM_different ++ (WQ hQ aQ kQ hw fQ_inside fQ_outside fQ_shut iQ_rows iQ_allRows iQ_columns ++ (WW nW hw lw kw wl wb wG))))) sz)) 0 0 (va_A (WG hG aG kG hM hO hQ hw iG_made iG_keptNeeds fG_kept fG_need fG_turn iG_columns ++ (WO hO aO kO hM hQ hw iO_answered iO_searched iO_searchedRelaxed iO_counted fO_countedCase gO_goalNumber gO_goalScale fO_start fO_column fO_chosen ++ (WM hM aM kM iM_stands iM_variables iM_rows iM_goals iM_differents iM_cases fM_from fM_to fM_whole fM_ways iM_plainRows fM_plainRow fM_kept fM_goalOver fM_goalUnder fM_goalMax fM_different ++ (WQ hQ aQ kQ hw fQ_inside fQ_outside fQ_shut iQ_rows iQ_allRows iQ_columns ++ (WW nW hw lw kw wl wb wG))))) sz) := by
  refine Met.ofW (cc := cX3_findBest) (maxL := 2) (ret := none) (by decide) rfl ?_
  intro p e s m args below meth c s₁ B hml hv
  obtain ⟨rfl, hsz, hP, hK, hD0⟩ := hv
  have hx := B.exec
  have hb := B.bytes
  have hr := B.returns
  have hts := atoms_spec (ws := wsMX3_findBest) B.pre
  have hown : s.vm.findClass RX3 = some m.cls := findClass_of_methodNamed B.named
  have hlocks := B.notSynchronized
  subst hsz
  have hD := hD0.self (sz := s.heap.size)
  generalize hAe : va_A (WG hG aG kG hM hO hQ hw iG_made iG_keptNeeds fG_kept fG_need fG_turn iG_columns ++ (WO hO aO kO hM hQ hw iO_answered iO_searched iO_searchedRelaxed iO_counted fO_countedCase gO_goalNumber gO_goalScale fO_start fO_column fO_chosen ++ (WM hM aM kM iM_stands iM_variables iM_rows iM_goals iM_differents iM_cases fM_from fM_to fM_whole fM_ways iM_plainRows fM_plainRow fM_kept fM_goalOver fM_goalUnder fM_goalMax fM_different ++ (WQ hQ aQ kQ hw fQ_inside fQ_outside fQ_shut iQ_rows iQ_allRows iQ_columns ++ (WW nW hw lw kw wl wb wG))))) s.heap.size = A at hD ⊢
  have hA : ∀ q : Nat, s.heap.size ≤ q → A q := fun q h => by rw [← hAe]; exact Or.inr h
  have hS : va_S A s.heap s.heap [] := va_S.rf
  have hl := lv_entry ([.ref (hG 0)]) (n := 2) (Nat.le_of_ble_eq_true rfl)
  rw [lg_entry_eq]
  generalize (lg_sl ([.ref (hG 0)]) ++ List.replicate (2 - (lg_sl ([.ref (hG 0)])).length) Slot.unset).toArray = ls at hl ⊢
  have hl : lv_has ls 2 [(0, .ref (hG 0))] := hl
  refine lv_aload_n hx hb dX3_findBest_0 rfl (lv_at hl 0 rfl) ?_
  refine va_get (D := (dC, dI)) (ci := 3) (v := .ref (hw 471)) (C := RX3) (T := TX3) (N := 17) hx hb hts iwsMX3_findBest_in3 hown hK hP 0 rfl rfl 11 (by decide) (hts (.fieldLink RX3 43 "OptimaWorks$Prover" "shortfall" "LOptimaWorks$Whole;") (by decide +kernel)) (fun _ h9 => h9) rfl dX3_findBest_1 ?_
  refine lv_lconst (v := 0) hx hb dX3_findBest_4 (by decide) ?_
  have p9 := cj_5_4 (WG hG aG kG hM hO hQ hw iG_made iG_keptNeeds fG_kept fG_need fG_turn iG_columns) (WO hO aO kO hM hQ hw iO_answered iO_searched iO_searchedRelaxed iO_counted fO_countedCase gO_goalNumber gO_goalScale fO_start fO_column fO_chosen) (WM hM aM kM iM_stands iM_variables iM_rows iM_goals iM_differents iM_cases fM_from fM_to fM_whole fM_ways iM_plainRows fM_plainRow fM_kept fM_goalOver fM_goalUnder fM_goalMax fM_different) (WQ hQ aQ kQ hw fQ_inside fQ_outside fQ_shut iQ_rows iQ_allRows iQ_columns) (WW nW hw lw kw wl wb wG)
  have hPc := hP.mem (fun q h => p9.mem_iff.mpr (List.mem_append_left _ h))
  have hDc := (hD.perm p9).left
  have hKc : va_K (dC, dI) vwCl (tW kw) _ := hK.sub [29] rfl
  have hFc := freeG p9 hD hS hA
  refine va_callv (va_runV (As := [.long 0]) (rest := []) ⟨hx, hb, hml, hown, hts⟩ (m_X8_setLong l dC dI nW hw lw kw wl wb wG 471 0 b_wl b_wb (by first | with_reducible assumption | omega | (rw [iI_t (by omega) (by omega)]; omega) | decide | assumption) s.heap.size) (cwV 1 hts gwsMX3_findBest_0 rfl rfl rfl hd_yX8_setLong_RX8 (by decide +kernel)) (fz_pre (va_recv hK hP (ci := 8) (q0 := 6 + (11 + (11 + (5 + (471))))) rfl (apR rfl (apR rfl (apR rfl (apR rfl (WW_o (by omega))))))) hPc hKc hDc) rfl rfl hl.1 rfl (lv_room (Nat.le_of_ble_eq_true rfl)) dX3_findBest_5 (by decide +kernel)) hS (fun q _ h => hFc q h) hFc (fun u t9_ H locs ht hvm hw9 hB9 hz1 hk1 hS => ?_)
  revert u hw9 hB9
  refine fz_p3 ?_
  intro wl_1 wb_1 wG_1 hw9 hB9
  try dsimp only at hw9 hB9
  revert hw9
  refine fz_a2 ?_
  intro b_wl_1 b_wb_1
  have p8 := cj_5_4 (WG hG aG kG hM hO hQ hw iG_made iG_keptNeeds fG_kept fG_need fG_turn iG_columns) (WO hO aO kO hM hQ hw iO_answered iO_searched iO_searchedRelaxed iO_counted fO_countedCase gO_goalNumber gO_goalScale fO_start fO_column fO_chosen) (WM hM aM kM iM_stands iM_variables iM_rows iM_goals iM_differents iM_cases fM_from fM_to fM_whole fM_ways iM_plainRows fM_plainRow fM_kept fM_goalOver fM_goalUnder fM_goalMax fM_different) (WQ hQ aQ kQ hw fQ_inside fQ_outside fQ_shut iQ_rows iQ_allRows iQ_columns) (WW nW hw lw kw wl_1 wb_1 wG_1)
  obtain ⟨hP, hD⟩ := frameG p9 p8 hP hD hk1 hFc (fz_P ht hB9.1) hB9.2
  refine lv_aload_n hx hb dX3_findBest_8 rfl (lv_at hl 0 rfl) ?_
  refine va_get (D := (dC, dI)) (ci := 3) (v := .ref (hw 460)) (C := RX3) (T := TX3) (N := 17) hx hb hts iwsMX3_findBest_in3 hown hK hP 0 rfl rfl 7 (by decide) (hts _ hm_m_X3_findBest_0) (fun _ h9 => h9) rfl dX3_findBest_9 ?_
  refine lv_lconst (v := 1) hx hb dX3_findBest_12 (by decide) ?_
  have p9 := cj_5_4 (WG hG aG kG hM hO hQ hw iG_made iG_keptNeeds fG_kept fG_need fG_turn iG_columns) (WO hO aO kO hM hQ hw iO_answered iO_searched iO_searchedRelaxed iO_counted fO_countedCase gO_goalNumber gO_goalScale fO_start fO_column fO_chosen) (WM hM aM kM iM_stands iM_variables iM_rows iM_goals iM_differents iM_cases fM_from fM_to fM_whole fM_ways iM_plainRows fM_plainRow fM_kept fM_goalOver fM_goalUnder fM_goalMax fM_different) (WQ hQ aQ kQ hw fQ_inside fQ_outside fQ_shut iQ_rows iQ_allRows iQ_columns) (WW nW hw lw kw wl_1 wb_1 wG_1)
  have hPc := hP.mem (fun q h => p9.mem_iff.mpr (List.mem_append_left _ h))
  have hDc := (hD.perm p9).left
  have hKc : va_K (dC, dI) vwCl (tW kw) _ := hK.sub [29] rfl
  have hFc := freeG p9 hD hS hA
  refine va_callv (va_runV (As := [.long 1]) (rest := []) ⟨hx, hb, hml, hown, hts⟩ (m_X8_setLong l dC dI nW hw lw kw wl_1 wb_1 wG_1 460 1 b_wl_1 b_wb_1 (by first | with_reducible assumption | omega | (rw [iI_t (by omega) (by omega)]; omega) | decide | assumption) H.size) (cwV 1 hts gwsMX3_findBest_0 rfl rfl rfl hd_yX8_setLong_RX8 (by decide +kernel)) (fz_pre (va_recv hK hP (ci := 8) (q0 := 6 + (11 + (11 + (5 + (460))))) rfl (apR rfl (apR rfl (apR rfl (apR rfl (WW_o (by omega))))))) hPc hKc hDc) rfl rfl hl.1 rfl (lv_room (Nat.le_of_ble_eq_true rfl)) dX3_findBest_13 (by decide +kernel)) hS (fun q _ h => hFc q h) hFc (fun u t9_ H locs ht hvm hw9 hB9 hz1 hk1 hS => ?_)
  revert u hw9 hB9
  refine fz_p3 ?_
  intro wl_2 wb_2 wG_2 hw9 hB9
  try dsimp only at hw9 hB9
  revert hw9
  refine fz_a2 ?_
  intro b_wl_2 b_wb_2
  have p8 := cj_5_4 (WG hG aG kG hM hO hQ hw iG_made iG_keptNeeds fG_kept fG_need fG_turn iG_columns) (WO hO aO kO hM hQ hw iO_answered iO_searched iO_searchedRelaxed iO_counted fO_countedCase gO_goalNumber gO_goalScale fO_start fO_column fO_chosen) (WM hM aM kM iM_stands iM_variables iM_rows iM_goals iM_differents iM_cases fM_from fM_to fM_whole fM_ways iM_plainRows fM_plainRow fM_kept fM_goalOver fM_goalUnder fM_goalMax fM_different) (WQ hQ aQ kQ hw fQ_inside fQ_outside fQ_shut iQ_rows iQ_allRows iQ_columns) (WW nW hw lw kw wl_2 wb_2 wG_2)
  obtain ⟨hP, hD⟩ := frameG p9 p8 hP hD hk1 hFc (fz_P ht hB9.1) hB9.2
  refine lv_aload_n hx hb dX3_findBest_16 rfl (lv_at hl 0 rfl) ?_
  refine va_get (D := (dC, dI)) (ci := 3) (v := .ref (hw 461)) (C := RX3) (T := TX3) (N := 17) hx hb hts iwsMX3_findBest_in3 hown hK hP 0 rfl rfl 8 (by decide) (hts _ hm_m_X3_findBest_1) (fun _ h9 => h9) rfl dX3_findBest_17 ?_
  refine lv_lconst (v := 0) hx hb dX3_findBest_20 (by decide) ?_
  have p9 := cj_5_4 (WG hG aG kG hM hO hQ hw iG_made iG_keptNeeds fG_kept fG_need fG_turn iG_columns) (WO hO aO kO hM hQ hw iO_answered iO_searched iO_searchedRelaxed iO_counted fO_countedCase gO_goalNumber gO_goalScale fO_start fO_column fO_chosen) (WM hM aM kM iM_stands iM_variables iM_rows iM_goals iM_differents iM_cases fM_from fM_to fM_whole fM_ways iM_plainRows fM_plainRow fM_kept fM_goalOver fM_goalUnder fM_goalMax fM_different) (WQ hQ aQ kQ hw fQ_inside fQ_outside fQ_shut iQ_rows iQ_allRows iQ_columns) (WW nW hw lw kw wl_2 wb_2 wG_2)
  have hPc := hP.mem (fun q h => p9.mem_iff.mpr (List.mem_append_left _ h))
  have hDc := (hD.perm p9).left
  have hKc : va_K (dC, dI) vwCl (tW kw) _ := hK.sub [29] rfl
  have hFc := freeG p9 hD hS hA
  refine va_callv (va_runV (As := [.long 0]) (rest := []) ⟨hx, hb, hml, hown, hts⟩ (m_X8_setLong l dC dI nW hw lw kw wl_2 wb_2 wG_2 461 0 b_wl_2 b_wb_2 (by first | with_reducible assumption | omega | (rw [iI_t (by omega) (by omega)]; omega) | decide | assumption) H.size) (cwV 1 hts gwsMX3_findBest_0 rfl rfl rfl hd_yX8_setLong_RX8 (by decide +kernel)) (fz_pre (va_recv hK hP (ci := 8) (q0 := 6 + (11 + (11 + (5 + (461))))) rfl (apR rfl (apR rfl (apR rfl (apR rfl (WW_o (by omega))))))) hPc hKc hDc) rfl rfl hl.1 rfl (lv_room (Nat.le_of_ble_eq_true rfl)) dX3_findBest_21 (by decide +kernel)) hS (fun q _ h => hFc q h) hFc (fun u t9_ H locs ht hvm hw9 hB9 hz1 hk1 hS => ?_)
  revert u hw9 hB9
  refine fz_p3 ?_
  intro wl_3 wb_3 wG_3 hw9 hB9
  try dsimp only at hw9 hB9
  revert hw9
  refine fz_a2 ?_
  intro b_wl_3 b_wb_3
  have p8 := cj_5_4 (WG hG aG kG hM hO hQ hw iG_made iG_keptNeeds fG_kept fG_need fG_turn iG_columns) (WO hO aO kO hM hQ hw iO_answered iO_searched iO_searchedRelaxed iO_counted fO_countedCase gO_goalNumber gO_goalScale fO_start fO_column fO_chosen) (WM hM aM kM iM_stands iM_variables iM_rows iM_goals iM_differents iM_cases fM_from fM_to fM_whole fM_ways iM_plainRows fM_plainRow fM_kept fM_goalOver fM_goalUnder fM_goalMax fM_different) (WQ hQ aQ kQ hw fQ_inside fQ_outside fQ_shut iQ_rows iQ_allRows iQ_columns) (WW nW hw lw kw wl_3 wb_3 wG_3)
  obtain ⟨hP, hD⟩ := frameG p9 p8 hP hD hk1 hFc (fz_P ht hB9.1) hB9.2
  refine lv_aload_n hx hb dX3_findBest_24 rfl (lv_at hl 0 rfl) ?_
  refine va_get (D := (dC, dI)) (ci := 3) (v := .ref (hw 462)) (C := RX3) (T := TX3) (N := 17) hx hb hts iwsMX3_findBest_in3 hown hK hP 0 rfl rfl 9 (by decide) (hts _ hm_m_X3_findBest_2) (fun _ h9 => h9) rfl dX3_findBest_25 ?_
  refine lv_lconst (v := 1) hx hb dX3_findBest_28 (by decide) ?_
  have p9 := cj_5_4 (WG hG aG kG hM hO hQ hw iG_made iG_keptNeeds fG_kept fG_need fG_turn iG_columns) (WO hO aO kO hM hQ hw iO_answered iO_searched iO_searchedRelaxed iO_counted fO_countedCase gO_goalNumber gO_goalScale fO_start fO_column fO_chosen) (WM hM aM kM iM_stands iM_variables iM_rows iM_goals iM_differents iM_cases fM_from fM_to fM_whole fM_ways iM_plainRows fM_plainRow fM_kept fM_goalOver fM_goalUnder fM_goalMax fM_different) (WQ hQ aQ kQ hw fQ_inside fQ_outside fQ_shut iQ_rows iQ_allRows iQ_columns) (WW nW hw lw kw wl_3 wb_3 wG_3)
  have hPc := hP.mem (fun q h => p9.mem_iff.mpr (List.mem_append_left _ h))
  have hDc := (hD.perm p9).left
  have hKc : va_K (dC, dI) vwCl (tW kw) _ := hK.sub [29] rfl
  have hFc := freeG p9 hD hS hA
  refine va_callv (va_runV (As := [.long 1]) (rest := []) ⟨hx, hb, hml, hown, hts⟩ (m_X8_setLong l dC dI nW hw lw kw wl_3 wb_3 wG_3 462 1 b_wl_3 b_wb_3 (by first | with_reducible assumption | omega | (rw [iI_t (by omega) (by omega)]; omega) | decide | assumption) H.size) (cwV 1 hts gwsMX3_findBest_0 rfl rfl rfl hd_yX8_setLong_RX8 (by decide +kernel)) (fz_pre (va_recv hK hP (ci := 8) (q0 := 6 + (11 + (11 + (5 + (462))))) rfl (apR rfl (apR rfl (apR rfl (apR rfl (WW_o (by omega))))))) hPc hKc hDc) rfl rfl hl.1 rfl (lv_room (Nat.le_of_ble_eq_true rfl)) dX3_findBest_29 (by decide +kernel)) hS (fun q _ h => hFc q h) hFc (fun u t9_ H locs ht hvm hw9 hB9 hz1 hk1 hS => ?_)
  revert u hw9 hB9
  refine fz_p3 ?_
  intro wl_4 wb_4 wG_4 hw9 hB9
  try dsimp only at hw9 hB9
  revert hw9
  refine fz_a2 ?_
  intro b_wl_4 b_wb_4
  have p8 := cj_5_4 (WG hG aG kG hM hO hQ hw iG_made iG_keptNeeds fG_kept fG_need fG_turn iG_columns) (WO hO aO kO hM hQ hw iO_answered iO_searched iO_searchedRelaxed iO_counted fO_countedCase gO_goalNumber gO_goalScale fO_start fO_column fO_chosen) (WM hM aM kM iM_stands iM_variables iM_rows iM_goals iM_differents iM_cases fM_from fM_to fM_whole fM_ways iM_plainRows fM_plainRow fM_kept fM_goalOver fM_goalUnder fM_goalMax fM_different) (WQ hQ aQ kQ hw fQ_inside fQ_outside fQ_shut iQ_rows iQ_allRows iQ_columns) (WW nW hw lw kw wl_4 wb_4 wG_4)
  obtain ⟨hP, hD⟩ := frameG p9 p8 hP hD hk1 hFc (fz_P ht hB9.1) hB9.2
  refine lv_aload_n hx hb dX3_findBest_32 rfl (lv_at hl 0 rfl) ?_
  refine va_get (D := (dC, dI)) (ci := 3) (v := .ref (hM 0)) (C := RX3) (T := TX3) (N := 17) hx hb hts iwsMX3_findBest_in3 hown hK hP 0 rfl rfl 0 (by decide) (hts _ hm_m_X3_findBest_3) (fun _ h9 => h9) rfl dX3_findBest_33 ?_
  refine va_get (D := (dC, dI)) (ci := 1) (v := .int iM_goals) (C := RX1) (T := TX1) (N := 17) hx hb hts iwsMX3_findBest_in1 hown hK hP 17 rfl rfl 3 (by decide) (hts (.fieldLink RX3 83 "OptimaWorks$Model" "goals" "I") (by decide +kernel)) (fun _ h9 => h9) rfl dX3_findBest_36 ?_
  refine W.cut (pc := 144) (fun H locs ls stk => ∃ (fQ_inside_j5 : Nat → Int32) (fQ_outside_j5 : Nat → Int32) (fQ_shut_j5 : Nat → Int32) (wl_j5 : Nat → Int32) (wb_j5 : Nat → Int32) (wG_j5 : Nat → Nat → Int64), (∀ q : Nat, 0 ≤ (wl_j5 q).toInt ∧ (wl_j5 q).toInt ≤ 14) ∧ (∀ q : Nat, 0 ≤ (wb_j5 q).toInt ∧ (wb_j5 q).toInt ≤ 1) ∧  stk = [] ∧ va_P (dC, dI) vwCl (WG hG aG kG hM hO hQ hw iG_made iG_keptNeeds fG_kept fG_need fG_turn iG_columns ++ (WO hO aO kO hM hQ hw iO_answered iO_searched iO_searchedRelaxed iO_counted fO_countedCase gO_goalNumber gO_goalScale fO_start fO_column fO_chosen ++ (WM hM aM kM iM_stands iM_variables iM_rows iM_goals iM_differents iM_cases fM_from fM_to fM_whole fM_ways iM_plainRows fM_plainRow fM_kept fM_goalOver fM_goalUnder fM_goalMax fM_different ++ (WQ hQ aQ kQ hw fQ_inside_j5 fQ_outside_j5 fQ_shut_j5 iQ_rows iQ_allRows iQ_columns ++ (WW nW hw lw kw wl_j5 wb_j5 wG_j5))))) H ∧ va_D A (WG hG aG kG hM hO hQ hw iG_made iG_keptNeeds fG_kept fG_need fG_turn iG_columns ++ (WO hO aO kO hM hQ hw iO_answered iO_searched iO_searchedRelaxed iO_counted fO_countedCase gO_goalNumber gO_goalScale fO_start fO_column fO_chosen ++ (WM hM aM kM iM_stands iM_variables iM_rows iM_goals iM_differents iM_cases fM_from fM_to fM_whole fM_ways iM_plainRows fM_plainRow fM_kept fM_goalOver fM_goalUnder fM_goalMax fM_different ++ (WQ hQ aQ kQ hw fQ_inside_j5 fQ_outside_j5 fQ_shut_j5 iQ_rows iQ_allRows iQ_columns ++ (WW nW hw lw kw wl_j5 wb_j5 wG_j5))))) ∧ va_S A s.heap H locs ∧ lv_has ls 2 [(0, .ref (hG 0))]) (fun join5 => ?_) ?_
  · refine lv_if_le (tgt := 144) hx hb dX3_findBest_39 (by decide) (fun c_39 => ?_) (fun c_39 => ?_)
    · have t_39 : iM_goals.toInt ≤ 0 := toI_le c_39 rfl (by decide : (0 : Int32).toInt = 0)
      have hl : lv_has _ _ ([(0, .ref (hG 0))]) := lv_sub hl [0] rfl
      exact join5 _ _ _ _ ⟨fQ_inside, fQ_outside, fQ_shut, wl_4, wb_4, wG_4, b_wl_4, b_wb_4, rfl, hP, hD, hS, hl⟩
    · have t_39 : ¬ iM_goals.toInt ≤ 0 := toI_nle c_39 rfl (by decide : (0 : Int32).toInt = 0)
      refine lv_aload_n hx hb dX3_findBest_42 rfl (lv_at hl 0 rfl) ?_
      refine va_get (D := (dC, dI)) (ci := 3) (v := .ref (hQ 0)) (C := RX3) (T := TX3) (N := 17) hx hb hts iwsMX3_findBest_in3 hown hK hP 0 rfl rfl 2 (by decide) (hts _ hm_m_X3_findBest_4) (fun _ h9 => h9) rfl dX3_findBest_43 ?_
      have p9 := cj_5_3_4 (WG hG aG kG hM hO hQ hw iG_made iG_keptNeeds fG_kept fG_need fG_turn iG_columns) (WO hO aO kO hM hQ hw iO_answered iO_searched iO_searchedRelaxed iO_counted fO_countedCase gO_goalNumber gO_goalScale fO_start fO_column fO_chosen) (WM hM aM kM iM_stands iM_variables iM_rows iM_goals iM_differents iM_cases fM_from fM_to fM_whole fM_ways iM_plainRows fM_plainRow fM_kept fM_goalOver fM_goalUnder fM_goalMax fM_different) (WQ hQ aQ kQ hw fQ_inside fQ_outside fQ_shut iQ_rows iQ_allRows iQ_columns) (WW nW hw lw kw wl_4 wb_4 wG_4)
      have hPc := hP.mem (fun q h => p9.mem_iff.mpr (List.mem_append_left _ h))
      have hDc := (hD.perm p9).left
      have hKc : va_K (dC, dI) vwCl (tQ kQ ++ (tW kw)) _ := hK.sub [25, 26, 27, 28, 29] rfl
      have hFc := freeG p9 hD hS hA
      refine va_calli (va_runV (As := []) (rest := []) ⟨hx, hb, hml, hown, hts⟩ (m_X6_rowCount l dC dI hQ aQ kQ hw fQ_inside fQ_outside fQ_shut iQ_rows iQ_allRows iQ_columns nW lw kw wl_4 wb_4 wG_4 (b_iQ_rows) (b_iQ_allRows) (b_iQ_columns) (by first | with_reducible assumption | omega | assumption) b_wl_4 b_wb_4 (by omega) H.size) (cwV 0 hts gwsMX3_findBest_1 rfl rfl rfl hd_yX6_rowCount_RX6 (by decide +kernel)) (fz_pre (va_recv hK hP (ci := 6) (q0 := 28) rfl rfl) hPc hKc hDc) rfl rfl hl.1 rfl (lv_room (Nat.le_of_ble_eq_true rfl)) dX3_findBest_46 (by decide +kernel)) hS (fun q _ h => hFc q h) hFc (fun r16 u t9_ H locs ht hvm hw9 hB9 hz1 hk1 hS => ?_)
      revert hw9
      refine fz_a2 ?_
      intro b_r16 f16_0
      have p8 := p9
      obtain ⟨hP, hD⟩ := frameG p9 p8 hP hD hk1 hFc (fz_P ht hB9.1) hB9.2
      refine lv_istore_n hx hb dX3_findBest_49 rfl hl (by decide) rfl (fun ls (hl : lv_has ls _ ([(1, .int r16), (0, .ref (hG 0))])) => ?_)
      refine lv_aload_n hx hb dX3_findBest_50 rfl (lv_at hl 1 rfl) ?_
      refine va_get (D := (dC, dI)) (ci := 3) (v := .ref (hQ 0)) (C := RX3) (T := TX3) (N := 17) hx hb hts iwsMX3_findBest_in3 hown hK hP 0 rfl rfl 2 (by decide) (hts _ hm_m_X3_findBest_4) (fun _ h9 => h9) rfl dX3_findBest_51 ?_
      refine lv_iload_n hx hb dX3_findBest_54 rfl (lv_at hl 0 rfl) ?_
      have p9 := cj_5_3_4 (WG hG aG kG hM hO hQ hw iG_made iG_keptNeeds fG_kept fG_need fG_turn iG_columns) (WO hO aO kO hM hQ hw iO_answered iO_searched iO_searchedRelaxed iO_counted fO_countedCase gO_goalNumber gO_goalScale fO_start fO_column fO_chosen) (WM hM aM kM iM_stands iM_variables iM_rows iM_goals iM_differents iM_cases fM_from fM_to fM_whole fM_ways iM_plainRows fM_plainRow fM_kept fM_goalOver fM_goalUnder fM_goalMax fM_different) (WQ hQ aQ kQ hw fQ_inside fQ_outside fQ_shut iQ_rows iQ_allRows iQ_columns) (WW nW hw lw kw wl_4 wb_4 wG_4)
      have hPc := hP.mem (fun q h => p9.mem_iff.mpr (List.mem_append_left _ h))
      have hDc := (hD.perm p9).left
      have hKc : va_K (dC, dI) vwCl (tQ kQ ++ (tW kw)) _ := hK.sub [25, 26, 27, 28, 29] rfl
      have hFc := freeG p9 hD hS hA
      refine va_callv (va_runV (As := [.int r16]) (rest := []) ⟨hx, hb, hml, hown, hts⟩ (m_X6_makeLeast l dC dI hQ aQ kQ hw fQ_inside fQ_outside fQ_shut iQ_rows iQ_allRows iQ_columns nW lw kw wl_4 wb_4 wG_4 r16 (b_iQ_rows) (b_iQ_allRows) (b_iQ_columns) (by first | with_reducible assumption | omega | assumption) b_wl_4 b_wb_4 (by first | exact b_r16 | with_reducible assumption | exact ⟨by omega, by omega⟩ | assumption) (by omega) (FitR.small (I := 39) (C := 8) (by omega) (by omega) (by omega) (by omega) (by decide)) H.size) (cwV 1 hts gwsMX3_findBest_2 rfl rfl rfl hd_yX6_makeLeast_RX6 (by decide +kernel)) (fz_pre (va_recv hK hP (ci := 6) (q0 := 28) rfl rfl) hPc hKc hDc) rfl rfl hl.1 rfl (lv_room (Nat.le_of_ble_eq_true rfl)) dX3_findBest_55 (by decide +kernel)) hS (fun q _ h => hFc q h) hFc (fun u t9_ H locs ht hvm hw9 hB9 hz1 hk1 hS => ?_)
      revert u hw9 hB9
      refine fz_p6 ?_
      intro fQ_inside_17 fQ_outside_17 fQ_shut_17 wl_17 wb_17 wG_17 hw9 hB9
      try dsimp only at hw9 hB9
      revert hw9
      refine fz_a2 ?_
      intro b_wl_17 b_wb_17
      have p8 := cj_5_3_4 (WG hG aG kG hM hO hQ hw iG_made iG_keptNeeds fG_kept fG_need fG_turn iG_columns) (WO hO aO kO hM hQ hw iO_answered iO_searched iO_searchedRelaxed iO_counted fO_countedCase gO_goalNumber gO_goalScale fO_start fO_column fO_chosen) (WM hM aM kM iM_stands iM_variables iM_rows iM_goals iM_differents iM_cases fM_from fM_to fM_whole fM_ways iM_plainRows fM_plainRow fM_kept fM_goalOver fM_goalUnder fM_goalMax fM_different) (WQ hQ aQ kQ hw fQ_inside_17 fQ_outside_17 fQ_shut_17 iQ_rows iQ_allRows iQ_columns) (WW nW hw lw kw wl_17 wb_17 wG_17)
      obtain ⟨hP, hD⟩ := frameG p9 p8 hP hD hk1 hFc (fz_P ht hB9.1) hB9.2
      refine lv_aload_n hx hb dX3_findBest_58 rfl (lv_at hl 1 rfl) ?_
      refine va_get (D := (dC, dI)) (ci := 3) (v := .ref (hO 0)) (C := RX3) (T := TX3) (N := 17) hx hb hts iwsMX3_findBest_in3 hown hK hP 0 rfl rfl 1 (by decide) (hts _ hm_m_X3_findBest_5) (fun _ h9 => h9) rfl dX3_findBest_59 ?_
      refine lv_iconst (v := 0) hx hb dX3_findBest_62 (by decide) ?_
      refine lv_aload_n hx hb dX3_findBest_63 rfl (lv_at hl 1 rfl) ?_
      refine va_get (D := (dC, dI)) (ci := 3) (v := .ref (hQ 0)) (C := RX3) (T := TX3) (N := 17) hx hb hts iwsMX3_findBest_in3 hown hK hP 0 rfl rfl 2 (by decide) (hts _ hm_m_X3_findBest_4) (fun _ h9 => h9) rfl dX3_findBest_64 ?_
      refine lv_iload_n hx hb dX3_findBest_67 rfl (lv_at hl 0 rfl) ?_
      refine lv_iconst (v := 0) hx hb dX3_findBest_68 (by decide) ?_
      have p9 := cj_5_3_4 (WG hG aG kG hM hO hQ hw iG_made iG_keptNeeds fG_kept fG_need fG_turn iG_columns) (WO hO aO kO hM hQ hw iO_answered iO_searched iO_searchedRelaxed iO_counted fO_countedCase gO_goalNumber gO_goalScale fO_start fO_column fO_chosen) (WM hM aM kM iM_stands iM_variables iM_rows iM_goals iM_differents iM_cases fM_from fM_to fM_whole fM_ways iM_plainRows fM_plainRow fM_kept fM_goalOver fM_goalUnder fM_goalMax fM_different) (WQ hQ aQ kQ hw fQ_inside_17 fQ_outside_17 fQ_shut_17 iQ_rows iQ_allRows iQ_columns) (WW nW hw lw kw wl_17 wb_17 wG_17)
      have hPc := hP.mem (fun q h => p9.mem_iff.mpr (List.mem_append_left _ h))
      have hDc := (hD.perm p9).left
      have hKc : va_K (dC, dI) vwCl (tQ kQ ++ (tW kw)) _ := hK.sub [25, 26, 27, 28, 29] rfl
      have hFc := freeG p9 hD hS hA
      refine va_callr (va_runV (As := [.int r16, .int 0]) (rest := [.int 0, .ref (hO 0)]) ⟨hx, hb, hml, hown, hts⟩ (m_X6_cellAt l dC dI hQ aQ kQ hw fQ_inside_17 fQ_outside_17 fQ_shut_17 iQ_rows iQ_allRows iQ_columns nW lw kw wl_17 wb_17 wG_17 r16 0 (b_iQ_rows) (b_iQ_allRows) (b_iQ_columns) (by first | with_reducible assumption | omega | assumption) b_wl_17 b_wb_17 (by first | exact b_r16 | with_reducible assumption | exact ⟨by omega, by omega⟩ | assumption) (show 0 ≤ (0 : Int32).toInt ∧ (0 : Int32).toInt ≤ 40 from by decide) (by omega) ((FitR.small (I := 39) (C := 8) (by omega) (by omega) (by omega) (by omega) (by decide)).ix0 (by omega)) H.size) (cwV 2 hts gwsMX3_findBest_3 rfl rfl rfl hd_yX6_cellAt_RX6 (by decide +kernel)) (fz_pre (va_recv hK hP (ci := 6) (q0 := 28) rfl rfl) hPc hKc hDc) rfl rfl hl.1 rfl (lv_room (Nat.le_of_ble_eq_true rfl)) dX3_findBest_69 (by decide +kernel)) hS (fun q _ h => hFc q h) hFc (fun kR_18 ra18 t9_ H locs ht hvm hw9 hB9 hz1 hk1 hS => ?_)
      revert hB9
      refine fz_a2 ?_
      intro hra hB9
      subst hra
      have f18_0 := hw9
      try dsimp only at f18_0
      have p8 := p9
      obtain ⟨hP, hD⟩ := frameG p9 p8 hP hD hk1 hFc (fz_P ht hB9.1) hB9.2
      refine lv_aload_n hx hb dX3_findBest_72 rfl (lv_at hl 1 rfl) ?_
      refine va_get (D := (dC, dI)) (ci := 3) (v := .ref (hQ 0)) (C := RX3) (T := TX3) (N := 17) hx hb hts iwsMX3_findBest_in3 hown hK hP 0 rfl rfl 2 (by decide) (hts _ hm_m_X3_findBest_4) (fun _ h9 => h9) rfl dX3_findBest_73 ?_
      refine va_get (D := (dC, dI)) (ci := 6) (v := .ref (hw 400)) (C := RX6) (T := TX6) (N := 13) hx hb hts iwsMX3_findBest_in6 hown hK hP 28 rfl rfl 4 (by decide) (hts _ hm_m_X3_findBest_6) (fun _ h9 => h9) rfl dX3_findBest_76 ?_
      have p9 := cj_5_1_2_3_4 (WG hG aG kG hM hO hQ hw iG_made iG_keptNeeds fG_kept fG_need fG_turn iG_columns) (WO hO aO kO hM hQ hw iO_answered iO_searched iO_searchedRelaxed iO_counted fO_countedCase gO_goalNumber gO_goalScale fO_start fO_column fO_chosen) (WM hM aM kM iM_stands iM_variables iM_rows iM_goals iM_differents iM_cases fM_from fM_to fM_whole fM_ways iM_plainRows fM_plainRow fM_kept fM_goalOver fM_goalUnder fM_goalMax fM_different) (WQ hQ aQ kQ hw fQ_inside_17 fQ_outside_17 fQ_shut_17 iQ_rows iQ_allRows iQ_columns) (WW nW hw lw kw wl_17 wb_17 wG_17)
      have hPc := hP.mem (fun q h => p9.mem_iff.mpr (List.mem_append_left _ h))
      have hDc := (hD.perm p9).left
      have hKc : va_K (dC, dI) vwCl (tO kO ++ (tM kM ++ (tQ kQ ++ (tW kw)))) _ := hK.sub [5, 6, 7, 8, 9, 10, 11, 12, 13, 14, 15, 16, 17, 18, 19, 20, 21, 22, 23, 24, 25, 26, 27, 28, 29] rfl
      have hFc := freeG p9 hD hS hA
      refine va_callv (va_runV (As := [.int 0, .ref (hw kR_18), .ref (hw 400)]) (rest := []) ⟨hx, hb, hml, hown, hts⟩ (m_X5_setGoal l dC dI hO aO kO hM hQ hw iO_answered iO_searched iO_searchedRelaxed iO_counted fO_countedCase gO_goalNumber gO_goalScale fO_start fO_column fO_chosen aM kM iM_stands iM_variables iM_rows iM_goals iM_differents iM_cases fM_from fM_to fM_whole fM_ways iM_plainRows fM_plainRow fM_kept fM_goalOver fM_goalUnder fM_goalMax fM_different aQ kQ fQ_inside_17 fQ_outside_17 fQ_shut_17 iQ_rows iQ_allRows iQ_columns nW lw kw wl_17 wb_17 wG_17 kR_18 400 0 (b_iO_answered) (b_iO_searched) (b_iO_searchedRelaxed) (b_iO_counted) b_fO_countedCase b_fO_column b_fO_chosen (b_iM_stands) (b_iM_variables) (b_iM_rows) (b_iM_goals) (b_iM_differents) (b_iM_cases) b_fM_ways (b_iM_plainRows) b_fM_plainRow (by first | with_reducible assumption | omega | assumption) (b_iQ_rows) (b_iQ_allRows) (b_iQ_columns) (by first | with_reducible assumption | omega | assumption) b_wl_17 b_wb_17 (show 0 ≤ (0 : Int32).toInt ∧ (0 : Int32).toInt ≤ 2 from by decide) (by omega) (by first | with_reducible assumption | omega | (rw [iI_t (by omega) (by omega)]; omega) | decide | assumption) (by first | with_reducible assumption | omega | (rw [iI_t (by omega) (by omega)]; omega) | decide | assumption) H.size) (cwV 3 hts gwsMX3_findBest_4 rfl rfl rfl hd_yX5_setGoal_RX5 (by decide +kernel)) (fz_pre (va_recv hK hP (ci := 5) (q0 := 6) rfl rfl) hPc hKc hDc) rfl rfl hl.1 rfl (lv_room (Nat.le_of_ble_eq_true rfl)) dX3_findBest_79 (by decide +kernel)) hS (fun q _ h => hFc q h) hFc (fun u t9_ H locs ht hvm hw9 hB9 hz1 hk1 hS => ?_)
      revert u hw9 hB9
      refine fz_p3 ?_
      intro wl_19 wb_19 wG_19 hw9 hB9
      try dsimp only at hw9 hB9
      revert hw9
      refine fz_a2 ?_
      intro b_wl_19 b_wb_19
      have p8 := cj_5_1_2_3_4 (WG hG aG kG hM hO hQ hw iG_made iG_keptNeeds fG_kept fG_need fG_turn iG_columns) (WO hO aO kO hM hQ hw iO_answered iO_searched iO_searchedRelaxed iO_counted fO_countedCase gO_goalNumber gO_goalScale fO_start fO_column fO_chosen) (WM hM aM kM iM_stands iM_variables iM_rows iM_goals iM_differents iM_cases fM_from fM_to fM_whole fM_ways iM_plainRows fM_plainRow fM_kept fM_goalOver fM_goalUnder fM_goalMax fM_different) (WQ hQ aQ kQ hw fQ_inside_17 fQ_outside_17 fQ_shut_17 iQ_rows iQ_allRows iQ_columns) (WW nW hw lw kw wl_19 wb_19 wG_19)
      obtain ⟨hP, hD⟩ := frameG p9 p8 hP hD hk1 hFc (fz_P ht hB9.1) hB9.2
      refine lv_aload_n hx hb dX3_findBest_82 rfl (lv_at hl 1 rfl) ?_
      refine va_get (D := (dC, dI)) (ci := 3) (v := .ref (hw 461)) (C := RX3) (T := TX3) (N := 17) hx hb hts iwsMX3_findBest_in3 hown hK hP 0 rfl rfl 8 (by decide) (hts _ hm_m_X3_findBest_1) (fun _ h9 => h9) rfl dX3_findBest_83 ?_
      refine lv_aload_n hx hb dX3_findBest_86 rfl (lv_at hl 1 rfl) ?_
      refine va_get (D := (dC, dI)) (ci := 3) (v := .ref (hO 0)) (C := RX3) (T := TX3) (N := 17) hx hb hts iwsMX3_findBest_in3 hown hK hP 0 rfl rfl 1 (by decide) (hts _ hm_m_X3_findBest_5) (fun _ h9 => h9) rfl dX3_findBest_87 ?_
      refine va_get (D := (dC, dI)) (ci := 5) (v := .ref (hw 426)) (C := RX5) (T := TX5) (N := 19) hx hb hts iwsMX3_findBest_in5 hown hK hP 6 rfl rfl 16 (by decide) (hts (.fieldLink RX3 149 "OptimaWorks$Solver" "top" "LOptimaWorks$Whole;") (by decide +kernel)) (fun _ h9 => h9) rfl dX3_findBest_90 ?_
      have p9 := cj_5_4 (WG hG aG kG hM hO hQ hw iG_made iG_keptNeeds fG_kept fG_need fG_turn iG_columns) (WO hO aO kO hM hQ hw iO_answered iO_searched iO_searchedRelaxed iO_counted fO_countedCase gO_goalNumber gO_goalScale fO_start fO_column fO_chosen) (WM hM aM kM iM_stands iM_variables iM_rows iM_goals iM_differents iM_cases fM_from fM_to fM_whole fM_ways iM_plainRows fM_plainRow fM_kept fM_goalOver fM_goalUnder fM_goalMax fM_different) (WQ hQ aQ kQ hw fQ_inside_17 fQ_outside_17 fQ_shut_17 iQ_rows iQ_allRows iQ_columns) (WW nW hw lw kw wl_19 wb_19 wG_19)
      have hPc := hP.mem (fun q h => p9.mem_iff.mpr (List.mem_append_left _ h))
      have hDc := (hD.perm p9).left
      have hKc : va_K (dC, dI) vwCl (tW kw) _ := hK.sub [29] rfl
      have hFc := freeG p9 hD hS hA
      refine va_callv (va_runV (As := [.ref (hw 426)]) (rest := []) ⟨hx, hb, hml, hown, hts⟩ (m_X8_copy l dC dI nW hw lw kw wl_19 wb_19 wG_19 461 426 b_wl_19 b_wb_19 (by first | with_reducible assumption | omega | (rw [iI_t (by omega) (by omega)]; omega) | decide | assumption) (by first | with_reducible assumption | omega | (rw [iI_t (by omega) (by omega)]; omega) | decide | assumption) H.size) (cwV 1 hts gwsMX3_findBest_5 rfl rfl rfl hd_yX8_copy_RX8 (by decide +kernel)) (fz_pre (va_recv hK hP (ci := 8) (q0 := 6 + (11 + (11 + (5 + (461))))) rfl (apR rfl (apR rfl (apR rfl (apR rfl (WW_o (by omega))))))) hPc hKc hDc) rfl rfl hl.1 rfl (lv_room (Nat.le_of_ble_eq_true rfl)) dX3_findBest_93 (by decide +kernel)) hS (fun q _ h => hFc q h) hFc (fun u t9_ H locs ht hvm hw9 hB9 hz1 hk1 hS => ?_)
      revert u hw9 hB9
      refine fz_p3 ?_
      intro wl_20 wb_20 wG_20 hw9 hB9
      try dsimp only at hw9 hB9
      revert hw9
      refine fz_a2 ?_
      intro b_wl_20 b_wb_20
      have p8 := cj_5_4 (WG hG aG kG hM hO hQ hw iG_made iG_keptNeeds fG_kept fG_need fG_turn iG_columns) (WO hO aO kO hM hQ hw iO_answered iO_searched iO_searchedRelaxed iO_counted fO_countedCase gO_goalNumber gO_goalScale fO_start fO_column fO_chosen) (WM hM aM kM iM_stands iM_variables iM_rows iM_goals iM_differents iM_cases fM_from fM_to fM_whole fM_ways iM_plainRows fM_plainRow fM_kept fM_goalOver fM_goalUnder fM_goalMax fM_different) (WQ hQ aQ kQ hw fQ_inside_17 fQ_outside_17 fQ_shut_17 iQ_rows iQ_allRows iQ_columns) (WW nW hw lw kw wl_20 wb_20 wG_20)
      obtain ⟨hP, hD⟩ := frameG p9 p8 hP hD hk1 hFc (fz_P ht hB9.1) hB9.2
      refine lv_aload_n hx hb dX3_findBest_96 rfl (lv_at hl 1 rfl) ?_
      refine va_get (D := (dC, dI)) (ci := 3) (v := .ref (hw 462)) (C := RX3) (T := TX3) (N := 17) hx hb hts iwsMX3_findBest_in3 hown hK hP 0 rfl rfl 9 (by decide) (hts _ hm_m_X3_findBest_2) (fun _ h9 => h9) rfl dX3_findBest_97 ?_
      refine lv_aload_n hx hb dX3_findBest_100 rfl (lv_at hl 1 rfl) ?_
      refine va_get (D := (dC, dI)) (ci := 3) (v := .ref (hO 0)) (C := RX3) (T := TX3) (N := 17) hx hb hts iwsMX3_findBest_in3 hown hK hP 0 rfl rfl 1 (by decide) (hts _ hm_m_X3_findBest_5) (fun _ h9 => h9) rfl dX3_findBest_101 ?_
      refine va_get (D := (dC, dI)) (ci := 5) (v := .ref (hw 427)) (C := RX5) (T := TX5) (N := 19) hx hb hts iwsMX3_findBest_in5 hown hK hP 6 rfl rfl 17 (by decide) (hts (.fieldLink RX3 156 "OptimaWorks$Solver" "bottom" "LOptimaWorks$Whole;") (by decide +kernel)) (fun _ h9 => h9) rfl dX3_findBest_104 ?_
      have p9 := cj_5_4 (WG hG aG kG hM hO hQ hw iG_made iG_keptNeeds fG_kept fG_need fG_turn iG_columns) (WO hO aO kO hM hQ hw iO_answered iO_searched iO_searchedRelaxed iO_counted fO_countedCase gO_goalNumber gO_goalScale fO_start fO_column fO_chosen) (WM hM aM kM iM_stands iM_variables iM_rows iM_goals iM_differents iM_cases fM_from fM_to fM_whole fM_ways iM_plainRows fM_plainRow fM_kept fM_goalOver fM_goalUnder fM_goalMax fM_different) (WQ hQ aQ kQ hw fQ_inside_17 fQ_outside_17 fQ_shut_17 iQ_rows iQ_allRows iQ_columns) (WW nW hw lw kw wl_20 wb_20 wG_20)
      have hPc := hP.mem (fun q h => p9.mem_iff.mpr (List.mem_append_left _ h))
      have hDc := (hD.perm p9).left
      have hKc : va_K (dC, dI) vwCl (tW kw) _ := hK.sub [29] rfl
      have hFc := freeG p9 hD hS hA
      refine va_callv (va_runV (As := [.ref (hw 427)]) (rest := []) ⟨hx, hb, hml, hown, hts⟩ (m_X8_copy l dC dI nW hw lw kw wl_20 wb_20 wG_20 462 427 b_wl_20 b_wb_20 (by first | with_reducible assumption | omega | (rw [iI_t (by omega) (by omega)]; omega) | decide | assumption) (by first | with_reducible assumption | omega | (rw [iI_t (by omega) (by omega)]; omega) | decide | assumption) H.size) (cwV 1 hts gwsMX3_findBest_5 rfl rfl rfl hd_yX8_copy_RX8 (by decide +kernel)) (fz_pre (va_recv hK hP (ci := 8) (q0 := 6 + (11 + (11 + (5 + (462))))) rfl (apR rfl (apR rfl (apR rfl (apR rfl (WW_o (by omega))))))) hPc hKc hDc) rfl rfl hl.1 rfl (lv_room (Nat.le_of_ble_eq_true rfl)) dX3_findBest_107 (by decide +kernel)) hS (fun q _ h => hFc q h) hFc (fun u t9_ H locs ht hvm hw9 hB9 hz1 hk1 hS => ?_)
      revert u hw9 hB9
      refine fz_p3 ?_
      intro wl_21 wb_21 wG_21 hw9 hB9
      try dsimp only at hw9 hB9
      revert hw9
      refine fz_a2 ?_
      intro b_wl_21 b_wb_21
      have p8 := cj_5_4 (WG hG aG kG hM hO hQ hw iG_made iG_keptNeeds fG_kept fG_need fG_turn iG_columns) (WO hO aO kO hM hQ hw iO_answered iO_searched iO_searchedRelaxed iO_counted fO_countedCase gO_goalNumber gO_goalScale fO_start fO_column fO_chosen) (WM hM aM kM iM_stands iM_variables iM_rows iM_goals iM_differents iM_cases fM_from fM_to fM_whole fM_ways iM_plainRows fM_plainRow fM_kept fM_goalOver fM_goalUnder fM_goalMax fM_different) (WQ hQ aQ kQ hw fQ_inside_17 fQ_outside_17 fQ_shut_17 iQ_rows iQ_allRows iQ_columns) (WW nW hw lw kw wl_21 wb_21 wG_21)
      obtain ⟨hP, hD⟩ := frameG p9 p8 hP hD hk1 hFc (fz_P ht hB9.1) hB9.2
      refine lv_aload_n hx hb dX3_findBest_110 rfl (lv_at hl 1 rfl) ?_
      refine va_get (D := (dC, dI)) (ci := 3) (v := .ref (hM 0)) (C := RX3) (T := TX3) (N := 17) hx hb hts iwsMX3_findBest_in3 hown hK hP 0 rfl rfl 0 (by decide) (hts _ hm_m_X3_findBest_3) (fun _ h9 => h9) rfl dX3_findBest_111 ?_
      refine va_get (D := (dC, dI)) (ci := 1) (v := .ref (aM 8)) (C := RX1) (T := TX1) (N := 17) hx hb hts iwsMX3_findBest_in1 hown hK hP 17 rfl rfl 15 (by decide) (hts (.fieldLink RX3 159 "OptimaWorks$Model" "goalMax" "[Z") (by decide +kernel)) (fun _ h9 => h9) rfl dX3_findBest_114 ?_
      refine lv_iconst (v := 0) hx hb dX3_findBest_117 (by decide) ?_
      refine va_zald (cA := kM 8) (n := 3) (f := fM_goalMax) hx hb hK hP 26 23 rfl rfl (show ¬ ((0 : Int32) < 0 ∨ 3 ≤ (0 : Int32).toNatClampNeg) by decide) dX3_findBest_118 ?_
      refine lv_topi (fun v22 hv22 => ?_)
      clear hv22
      refine W.cut (pc := 129) (fun H locs ls stk => ∃ (wb_j6 : Nat → Int32), (∀ q : Nat, 0 ≤ (wb_j6 q).toInt ∧ (wb_j6 q).toInt ≤ 1) ∧  stk = [] ∧ va_P (dC, dI) vwCl (WG hG aG kG hM hO hQ hw iG_made iG_keptNeeds fG_kept fG_need fG_turn iG_columns ++ (WO hO aO kO hM hQ hw iO_answered iO_searched iO_searchedRelaxed iO_counted fO_countedCase gO_goalNumber gO_goalScale fO_start fO_column fO_chosen ++ (WM hM aM kM iM_stands iM_variables iM_rows iM_goals iM_differents iM_cases fM_from fM_to fM_whole fM_ways iM_plainRows fM_plainRow fM_kept fM_goalOver fM_goalUnder fM_goalMax fM_different ++ (WQ hQ aQ kQ hw fQ_inside_17 fQ_outside_17 fQ_shut_17 iQ_rows iQ_allRows iQ_columns ++ (WW nW hw lw kw wl_21 wb_j6 wG_21))))) H ∧ va_D A (WG hG aG kG hM hO hQ hw iG_made iG_keptNeeds fG_kept fG_need fG_turn iG_columns ++ (WO hO aO kO hM hQ hw iO_answered iO_searched iO_searchedRelaxed iO_counted fO_countedCase gO_goalNumber gO_goalScale fO_start fO_column fO_chosen ++ (WM hM aM kM iM_stands iM_variables iM_rows iM_goals iM_differents iM_cases fM_from fM_to fM_whole fM_ways iM_plainRows fM_plainRow fM_kept fM_goalOver fM_goalUnder fM_goalMax fM_different ++ (WQ hQ aQ kQ hw fQ_inside_17 fQ_outside_17 fQ_shut_17 iQ_rows iQ_allRows iQ_columns ++ (WW nW hw lw kw wl_21 wb_j6 wG_21))))) ∧ va_S A s.heap H locs ∧ lv_has ls 2 [(1, .int r16), (0, .ref (hG 0))]) (fun join6 => ?_) ?_
      · refine lv_if_eq (tgt := 129) hx hb dX3_findBest_119 (by decide) (fun c_119 => ?_) (fun c_119 => ?_)
        · have t_119 : v22.toInt = 0 := toI_eq c_119 rfl (by decide : (0 : Int32).toInt = 0)
          have hl : lv_has _ _ ([(1, .int r16), (0, .ref (hG 0))]) := lv_sub hl [0, 1] rfl
          exact join6 _ _ _ _ ⟨wb_21, b_wb_21, rfl, hP, hD, hS, hl⟩
        · have t_119 : ¬ v22.toInt = 0 := toI_neq c_119 rfl (by decide : (0 : Int32).toInt = 0)
          refine lv_aload_n hx hb dX3_findBest_122 rfl (lv_at hl 1 rfl) ?_
          refine va_get (D := (dC, dI)) (ci := 3) (v := .ref (hw 461)) (C := RX3) (T := TX3) (N := 17) hx hb hts iwsMX3_findBest_in3 hown hK hP 0 rfl rfl 8 (by decide) (hts _ hm_m_X3_findBest_1) (fun _ h9 => h9) rfl dX3_findBest_123 ?_
          have p9 := cj_5_4 (WG hG aG kG hM hO hQ hw iG_made iG_keptNeeds fG_kept fG_need fG_turn iG_columns) (WO hO aO kO hM hQ hw iO_answered iO_searched iO_searchedRelaxed iO_counted fO_countedCase gO_goalNumber gO_goalScale fO_start fO_column fO_chosen) (WM hM aM kM iM_stands iM_variables iM_rows iM_goals iM_differents iM_cases fM_from fM_to fM_whole fM_ways iM_plainRows fM_plainRow fM_kept fM_goalOver fM_goalUnder fM_goalMax fM_different) (WQ hQ aQ kQ hw fQ_inside_17 fQ_outside_17 fQ_shut_17 iQ_rows iQ_allRows iQ_columns) (WW nW hw lw kw wl_21 wb_21 wG_21)
          have hPc := hP.mem (fun q h => p9.mem_iff.mpr (List.mem_append_left _ h))
          have hDc := (hD.perm p9).left
          have hKc : va_K (dC, dI) vwCl (tW kw) _ := hK.sub [29] rfl
          have hFc := freeG p9 hD hS hA
          refine va_callv (va_runV (As := []) (rest := []) ⟨hx, hb, hml, hown, hts⟩ (m_X8_negate l dC dI nW hw lw kw wl_21 wb_21 wG_21 461 b_wl_21 b_wb_21 (by first | with_reducible assumption | omega | (rw [iI_t (by omega) (by omega)]; omega) | decide | assumption) H.size) (cwV 0 hts gwsMX3_findBest_6 rfl rfl rfl hd_yX8_negate_RX8 (by decide +kernel)) (fz_pre (va_recv hK hP (ci := 8) (q0 := 6 + (11 + (11 + (5 + (461))))) rfl (apR rfl (apR rfl (apR rfl (apR rfl (WW_o (by omega))))))) hPc hKc hDc) rfl rfl hl.1 rfl (lv_room (Nat.le_of_ble_eq_true rfl)) dX3_findBest_126 (by decide +kernel)) hS (fun q _ h => hFc q h) hFc (fun wb_24 t9_ H locs ht hvm hw9 hB9 hz1 hk1 hS => ?_)
          have b_wb_24 := hw9
          try dsimp only at b_wb_24
          have p8 := cj_5_4 (WG hG aG kG hM hO hQ hw iG_made iG_keptNeeds fG_kept fG_need fG_turn iG_columns) (WO hO aO kO hM hQ hw iO_answered iO_searched iO_searchedRelaxed iO_counted fO_countedCase gO_goalNumber gO_goalScale fO_start fO_column fO_chosen) (WM hM aM kM iM_stands iM_variables iM_rows iM_goals iM_differents iM_cases fM_from fM_to fM_whole fM_ways iM_plainRows fM_plainRow fM_kept fM_goalOver fM_goalUnder fM_goalMax fM_different) (WQ hQ aQ kQ hw fQ_inside_17 fQ_outside_17 fQ_shut_17 iQ_rows iQ_allRows iQ_columns) (WW nW hw lw kw wl_21 wb_24 wG_21)
          obtain ⟨hP, hD⟩ := frameG p9 p8 hP hD hk1 hFc (fz_P ht hB9.1) hB9.2
          have hl : lv_has _ _ ([(1, .int r16), (0, .ref (hG 0))]) := lv_sub hl [0, 1] rfl
          exact join6 _ _ _ _ ⟨wb_24, b_wb_24, rfl, hP, hD, hS, hl⟩
      · rintro H locs ls stk ⟨wb_j6, b_wb_j6, rfl, hP, hD, hS, hl⟩
        refine lv_aload_n hx hb dX3_findBest_129 rfl (lv_at hl 1 rfl) ?_
        refine va_get (D := (dC, dI)) (ci := 3) (v := .ref (hw 460)) (C := RX3) (T := TX3) (N := 17) hx hb hts iwsMX3_findBest_in3 hown hK hP 0 rfl rfl 7 (by decide) (hts _ hm_m_X3_findBest_0) (fun _ h9 => h9) rfl dX3_findBest_130 ?_
        refine lv_aload_n hx hb dX3_findBest_133 rfl (lv_at hl 1 rfl) ?_
        refine va_get (D := (dC, dI)) (ci := 3) (v := .ref (hO 0)) (C := RX3) (T := TX3) (N := 17) hx hb hts iwsMX3_findBest_in3 hown hK hP 0 rfl rfl 1 (by decide) (hts _ hm_m_X3_findBest_5) (fun _ h9 => h9) rfl dX3_findBest_134 ?_
        refine lv_iconst (v := 0) hx hb dX3_findBest_137 (by decide) ?_
        have p9 := cj_5_1_2_3_4 (WG hG aG kG hM hO hQ hw iG_made iG_keptNeeds fG_kept fG_need fG_turn iG_columns) (WO hO aO kO hM hQ hw iO_answered iO_searched iO_searchedRelaxed iO_counted fO_countedCase gO_goalNumber gO_goalScale fO_start fO_column fO_chosen) (WM hM aM kM iM_stands iM_variables iM_rows iM_goals iM_differents iM_cases fM_from fM_to fM_whole fM_ways iM_plainRows fM_plainRow fM_kept fM_goalOver fM_goalUnder fM_goalMax fM_different) (WQ hQ aQ kQ hw fQ_inside_17 fQ_outside_17 fQ_shut_17 iQ_rows iQ_allRows iQ_columns) (WW nW hw lw kw wl_21 wb_j6 wG_21)
        have hPc := hP.mem (fun q h => p9.mem_iff.mpr (List.mem_append_left _ h))
        have hDc := (hD.perm p9).left
        have hKc : va_K (dC, dI) vwCl (tO kO ++ (tM kM ++ (tQ kQ ++ (tW kw)))) _ := hK.sub [5, 6, 7, 8, 9, 10, 11, 12, 13, 14, 15, 16, 17, 18, 19, 20, 21, 22, 23, 24, 25, 26, 27, 28, 29] rfl
        have hFc := freeG p9 hD hS hA
        refine va_calll (va_runV (As := [.int 0]) (rest := [.ref (hw 460)]) ⟨hx, hb, hml, hown, hts⟩ (m_X5_scaleOf l dC dI hO aO kO hM hQ hw iO_answered iO_searched iO_searchedRelaxed iO_counted fO_countedCase gO_goalNumber gO_goalScale fO_start fO_column fO_chosen aM kM iM_stands iM_variables iM_rows iM_goals iM_differents iM_cases fM_from fM_to fM_whole fM_ways iM_plainRows fM_plainRow fM_kept fM_goalOver fM_goalUnder fM_goalMax fM_different aQ kQ fQ_inside_17 fQ_outside_17 fQ_shut_17 iQ_rows iQ_allRows iQ_columns nW lw kw wl_21 wb_j6 wG_21 0 (b_iO_answered) (b_iO_searched) (b_iO_searchedRelaxed) (b_iO_counted) b_fO_countedCase b_fO_column b_fO_chosen (b_iM_stands) (b_iM_variables) (b_iM_rows) (b_iM_goals) (b_iM_differents) (b_iM_cases) b_fM_ways (b_iM_plainRows) b_fM_plainRow (by first | with_reducible assumption | omega | assumption) (b_iQ_rows) (b_iQ_allRows) (b_iQ_columns) (by first | with_reducible assumption | omega | assumption) b_wl_21 b_wb_j6 (show 0 ≤ (0 : Int32).toInt ∧ (0 : Int32).toInt ≤ 2 from by decide) (by omega) H.size) (cwV 1 hts gwsMX3_findBest_7 rfl rfl rfl hd_yX5_scaleOf_RX5 (by decide +kernel)) (fz_pre (va_recv hK hP (ci := 5) (q0 := 6) rfl rfl) hPc hKc hDc) rfl rfl hl.1 rfl (lv_room (Nat.le_of_ble_eq_true rfl)) dX3_findBest_138 (by decide +kernel)) hS (fun q _ h => hFc q h) hFc (fun r25 u t9_ H locs ht hvm hw9 hB9 hz1 hk1 hS => ?_)
        clear hw9
        have p8 := p9
        obtain ⟨hP, hD⟩ := frameG p9 p8 hP hD hk1 hFc (fz_P ht hB9.1) hB9.2
        have p9 := cj_5_4 (WG hG aG kG hM hO hQ hw iG_made iG_keptNeeds fG_kept fG_need fG_turn iG_columns) (WO hO aO kO hM hQ hw iO_answered iO_searched iO_searchedRelaxed iO_counted fO_countedCase gO_goalNumber gO_goalScale fO_start fO_column fO_chosen) (WM hM aM kM iM_stands iM_variables iM_rows iM_goals iM_differents iM_cases fM_from fM_to fM_whole fM_ways iM_plainRows fM_plainRow fM_kept fM_goalOver fM_goalUnder fM_goalMax fM_different) (WQ hQ aQ kQ hw fQ_inside_17 fQ_outside_17 fQ_shut_17 iQ_rows iQ_allRows iQ_columns) (WW nW hw lw kw wl_21 wb_j6 wG_21)
        have hPc := hP.mem (fun q h => p9.mem_iff.mpr (List.mem_append_left _ h))
        have hDc := (hD.perm p9).left
        have hKc : va_K (dC, dI) vwCl (tW kw) _ := hK.sub [29] rfl
        have hFc := freeG p9 hD hS hA
        refine va_callv (va_runV (As := [.long r25]) (rest := []) ⟨hx, hb, hml, hown, hts⟩ (m_X8_setLong l dC dI nW hw lw kw wl_21 wb_j6 wG_21 460 r25 b_wl_21 b_wb_j6 (by first | with_reducible assumption | omega | (rw [iI_t (by omega) (by omega)]; omega) | decide | assumption) H.size) (cwV 1 hts gwsMX3_findBest_0 rfl rfl rfl hd_yX8_setLong_RX8 (by decide +kernel)) (fz_pre (va_recv hK hP (ci := 8) (q0 := 6 + (11 + (11 + (5 + (460))))) rfl (apR rfl (apR rfl (apR rfl (apR rfl (WW_o (by omega))))))) hPc hKc hDc) rfl rfl hl.1 rfl (lv_room (Nat.le_of_ble_eq_true rfl)) dX3_findBest_141 (by decide +kernel)) hS (fun q _ h => hFc q h) hFc (fun u t9_ H locs ht hvm hw9 hB9 hz1 hk1 hS => ?_)
        revert u hw9 hB9
        refine fz_p3 ?_
        intro wl_26 wb_26 wG_26 hw9 hB9
        try dsimp only at hw9 hB9
        revert hw9
        refine fz_a2 ?_
        intro b_wl_26 b_wb_26
        have p8 := cj_5_4 (WG hG aG kG hM hO hQ hw iG_made iG_keptNeeds fG_kept fG_need fG_turn iG_columns) (WO hO aO kO hM hQ hw iO_answered iO_searched iO_searchedRelaxed iO_counted fO_countedCase gO_goalNumber gO_goalScale fO_start fO_column fO_chosen) (WM hM aM kM iM_stands iM_variables iM_rows iM_goals iM_differents iM_cases fM_from fM_to fM_whole fM_ways iM_plainRows fM_plainRow fM_kept fM_goalOver fM_goalUnder fM_goalMax fM_different) (WQ hQ aQ kQ hw fQ_inside_17 fQ_outside_17 fQ_shut_17 iQ_rows iQ_allRows iQ_columns) (WW nW hw lw kw wl_26 wb_26 wG_26)
        obtain ⟨hP, hD⟩ := frameG p9 p8 hP hD hk1 hFc (fz_P ht hB9.1) hB9.2
        have hl : lv_has _ _ ([(0, .ref (hG 0))]) := lv_sub hl [1] rfl
        exact join5 _ _ _ _ ⟨fQ_inside_17, fQ_outside_17, fQ_shut_17, wl_26, wb_26, wG_26, b_wl_26, b_wb_26, rfl, hP, hD, hS, hl⟩
  · rintro H locs ls stk ⟨fQ_inside_j5, fQ_outside_j5, fQ_shut_j5, wl_j5, wb_j5, wG_j5, b_wl_j5, b_wb_j5, rfl, hP, hD, hS, hl⟩
    refine lv_aload_n hx hb dX3_findBest_144 rfl (lv_at hl 0 rfl) ?_
    refine va_get (D := (dC, dI)) (ci := 3) (v := .ref (hO 0)) (C := RX3) (T := TX3) (N := 17) hx hb hts iwsMX3_findBest_in3 hown hK hP 0 rfl rfl 1 (by decide) (hts _ hm_m_X3_findBest_5) (fun _ h9 => h9) rfl dX3_findBest_145 ?_
    refine lv_aload_n hx hb dX3_findBest_148 rfl (lv_at hl 0 rfl) ?_
    refine va_get (D := (dC, dI)) (ci := 3) (v := .ref (aG 2)) (C := RX3) (T := TX3) (N := 17) hx hb hts iwsMX3_findBest_in3 hown hK hP 0 rfl rfl 10 (by decide) (hts (.fieldLink RX3 40 "OptimaWorks$Prover" "place" "[LOptimaWorks$Whole;") (by decide +kernel)) (fun _ h9 => h9) rfl dX3_findBest_149 ?_
    have hFc := allFree hD hS hA
    refine va_callv (va_runV (As := [.ref (aG 2)]) (rest := []) ⟨hx, hb, hml, hown, hts⟩ (m_X5_takeNumbers_p l dC dI hG aG kG hM hO hQ hw iG_made iG_keptNeeds fG_kept fG_need fG_turn iG_columns aO kO iO_answered iO_searched iO_searchedRelaxed iO_counted fO_countedCase gO_goalNumber gO_goalScale fO_start fO_column fO_chosen aM kM iM_stands iM_variables iM_rows iM_goals iM_differents iM_cases fM_from fM_to fM_whole fM_ways iM_plainRows fM_plainRow fM_kept fM_goalOver fM_goalUnder fM_goalMax fM_different aQ kQ fQ_inside_j5 fQ_outside_j5 fQ_shut_j5 iQ_rows iQ_allRows iQ_columns nW lw kw wl_j5 wb_j5 wG_j5 (b_iG_made) b_fG_need (b_iG_columns) (b_iO_answered) (b_iO_searched) (b_iO_searchedRelaxed) (b_iO_counted) b_fO_countedCase b_fO_column b_fO_chosen (b_iM_stands) (b_iM_variables) (b_iM_rows) (b_iM_goals) (b_iM_differents) (b_iM_cases) b_fM_ways (b_iM_plainRows) b_fM_plainRow (by first | with_reducible assumption | omega | assumption) (b_iQ_rows) (b_iQ_allRows) (b_iQ_columns) (by first | with_reducible assumption | omega | assumption) b_wl_j5 b_wb_j5 (by omega) (by omega) H.size) (cwV 1 hts gwsMX3_findBest_8 rfl rfl rfl hd_yX5_takeNumbers_RX5 (by decide +kernel)) (fz_pre (va_recv hK hP (ci := 5) (q0 := 6) rfl rfl) hP hK hD) rfl rfl hl.1 rfl (lv_room (Nat.le_of_ble_eq_true rfl)) dX3_findBest_152 (by decide +kernel)) hS (fun q _ h => hFc q h) hFc (fun u t9_ H locs ht hvm hw9 hB9 hz1 hk1 hS => ?_)
    revert u hw9 hB9
    refine fz_p3 ?_
    intro wl_27 wb_27 wG_27 hw9 hB9
    try dsimp only at hw9 hB9
    revert hw9
    refine fz_a2 ?_
    intro b_wl_27 b_wb_27
    have hP : va_P (dC, dI) vwCl (WG hG aG kG hM hO hQ hw iG_made iG_keptNeeds fG_kept fG_need fG_turn iG_columns ++ (WO hO aO kO hM hQ hw iO_answered iO_searched iO_searchedRelaxed iO_counted fO_countedCase gO_goalNumber gO_goalScale fO_start fO_column fO_chosen ++ (WM hM aM kM iM_stands iM_variables iM_rows iM_goals iM_differents iM_cases fM_from fM_to fM_whole fM_ways iM_plainRows fM_plainRow fM_kept fM_goalOver fM_goalUnder fM_goalMax fM_different ++ (WQ hQ aQ kQ hw fQ_inside_j5 fQ_outside_j5 fQ_shut_j5 iQ_rows iQ_allRows iQ_columns ++ (WW nW hw lw kw wl_27 wb_27 wG_27))))) H := fz_P ht hB9.1
    have hD := fz_sd hP (hB9.2.weaken (fun _ q _ h => hFc q.1 h)) rfl
    refine lv_aload_n hx hb dX3_findBest_155 rfl (lv_at hl 0 rfl) ?_
    refine va_get (D := (dC, dI)) (ci := 3) (v := .ref (hw 472)) (C := RX3) (T := TX3) (N := 17) hx hb hts iwsMX3_findBest_in3 hown hK hP 0 rfl rfl 12 (by decide) (hts (.fieldLink RX3 46 "OptimaWorks$Prover" "under" "LOptimaWorks$Whole;") (by decide +kernel)) (fun _ h9 => h9) rfl dX3_findBest_156 ?_
    refine lv_aload_n hx hb dX3_findBest_159 rfl (lv_at hl 0 rfl) ?_
    refine va_get (D := (dC, dI)) (ci := 3) (v := .ref (hQ 0)) (C := RX3) (T := TX3) (N := 17) hx hb hts iwsMX3_findBest_in3 hown hK hP 0 rfl rfl 2 (by decide) (hts _ hm_m_X3_findBest_4) (fun _ h9 => h9) rfl dX3_findBest_160 ?_
    refine va_get (D := (dC, dI)) (ci := 6) (v := .ref (hw 400)) (C := RX6) (T := TX6) (N := 13) hx hb hts iwsMX3_findBest_in6 hown hK hP 28 rfl rfl 4 (by decide) (hts _ hm_m_X3_findBest_6) (fun _ h9 => h9) rfl dX3_findBest_163 ?_
    have p9 := cj_5_4 (WG hG aG kG hM hO hQ hw iG_made iG_keptNeeds fG_kept fG_need fG_turn iG_columns) (WO hO aO kO hM hQ hw iO_answered iO_searched iO_searchedRelaxed iO_counted fO_countedCase gO_goalNumber gO_goalScale fO_start fO_column fO_chosen) (WM hM aM kM iM_stands iM_variables iM_rows iM_goals iM_differents iM_cases fM_from fM_to fM_whole fM_ways iM_plainRows fM_plainRow fM_kept fM_goalOver fM_goalUnder fM_goalMax fM_different) (WQ hQ aQ kQ hw fQ_inside_j5 fQ_outside_j5 fQ_shut_j5 iQ_rows iQ_allRows iQ_columns) (WW nW hw lw kw wl_27 wb_27 wG_27)
    have hPc := hP.mem (fun q h => p9.mem_iff.mpr (List.mem_append_left _ h))
    have hDc := (hD.perm p9).left
    have hKc : va_K (dC, dI) vwCl (tW kw) _ := hK.sub [29] rfl
    have hFc := freeG p9 hD hS hA
    refine va_callv (va_runV (As := [.ref (hw 400)]) (rest := []) ⟨hx, hb, hml, hown, hts⟩ (m_X8_copy l dC dI nW hw lw kw wl_27 wb_27 wG_27 472 400 b_wl_27 b_wb_27 (by first | with_reducible assumption | omega | (rw [iI_t (by omega) (by omega)]; omega) | decide | assumption) (by first | with_reducible assumption | omega | (rw [iI_t (by omega) (by omega)]; omega) | decide | assumption) H.size) (cwV 1 hts gwsMX3_findBest_5 rfl rfl rfl hd_yX8_copy_RX8 (by decide +kernel)) (fz_pre (va_recv hK hP (ci := 8) (q0 := 6 + (11 + (11 + (5 + (472))))) rfl (apR rfl (apR rfl (apR rfl (apR rfl (WW_o (by omega))))))) hPc hKc hDc) rfl rfl hl.1 rfl (lv_room (Nat.le_of_ble_eq_true rfl)) dX3_findBest_166 (by decide +kernel)) hS (fun q _ h => hFc q h) hFc (fun u t9_ H locs ht hvm hw9 hB9 hz1 hk1 hS => ?_)
    revert u hw9 hB9
    refine fz_p3 ?_
    intro wl_28 wb_28 wG_28 hw9 hB9
    try dsimp only at hw9 hB9
    revert hw9
    refine fz_a2 ?_
    intro b_wl_28 b_wb_28
    have p8 := cj_5_4 (WG hG aG kG hM hO hQ hw iG_made iG_keptNeeds fG_kept fG_need fG_turn iG_columns) (WO hO aO kO hM hQ hw iO_answered iO_searched iO_searchedRelaxed iO_counted fO_countedCase gO_goalNumber gO_goalScale fO_start fO_column fO_chosen) (WM hM aM kM iM_stands iM_variables iM_rows iM_goals iM_differents iM_cases fM_from fM_to fM_whole fM_ways iM_plainRows fM_plainRow fM_kept fM_goalOver fM_goalUnder fM_goalMax fM_different) (WQ hQ aQ kQ hw fQ_inside_j5 fQ_outside_j5 fQ_shut_j5 iQ_rows iQ_allRows iQ_columns) (WW nW hw lw kw wl_28 wb_28 wG_28)
    obtain ⟨hP, hD⟩ := frameG p9 p8 hP hD hk1 hFc (fz_P ht hB9.1) hB9.2
    refine W.widen (k := 0) (n := 0) (by decide +kernel) (by decide +kernel) ?_
    exact W.vret hx hb hr (fun t9_ ht hW => ⟨⟨(fQ_inside_j5, fQ_outside_j5, fQ_shut_j5, wl_28, wb_28, wG_28), rfl, ⟨b_wl_28, b_wb_28⟩, by rw [ht]; exact hP, hD⟩, hS.F ht⟩) hS.2.2 dX3_findBest_169
theorem dX3_findShortfall_0 : decode cX3_findShortfall 0 = .ok (.aload_n 0, 1) := dk_42 (by decide +kernel)
theorem dX3_findShortfall_1 : decode cX3_findShortfall 1 = .ok (.getfield 59, 3) := dk_180 (by decide +kernel)
theorem dX3_findShortfall_4 : decode cX3_findShortfall 4 = .ok (.getfield 173, 3) := dk_180 (by decide +kernel)
theorem dX3_findShortfall_7 : decode cX3_findShortfall 7 = .ok (.iconst 1, 1) := dk_4 (by decide +kernel)
theorem dX3_findShortfall_8 : decode cX3_findShortfall 8 = .ok (.iadd, 1) := dk_96 (by decide +kernel)
theorem dX3_findShortfall_9 : decode cX3_findShortfall 9 = .ok (.istore_n 1, 1) := dk_60 (by decide +kernel)
theorem dX3_findShortfall_10 : decode cX3_findShortfall 10 = .ok (.aload_n 0, 1) := dk_42 (by decide +kernel)
theorem dX3_findShortfall_11 : decode cX3_findShortfall 11 = .ok (.getfield 59, 3) := dk_180 (by decide +kernel)
theorem dX3_findShortfall_14 : decode cX3_findShortfall 14 = .ok (.getfield 173, 3) := dk_180 (by decide +kernel)
theorem dX3_findShortfall_17 : decode cX3_findShortfall 17 = .ok (.istore_n 2, 1) := dk_61 (by decide +kernel)
theorem dX3_findShortfall_18 : decode cX3_findShortfall 18 = .ok (.iconst 0, 1) := dk_3 (by decide +kernel)
theorem dX3_findShortfall_19 : decode cX3_findShortfall 19 = .ok (.istore_n 3, 1) := dk_62 (by decide +kernel)
theorem dX3_findShortfall_20 : decode cX3_findShortfall 20 = .ok (.iload_n 3, 1) := dk_29 (by decide +kernel)
theorem dX3_findShortfall_21 : decode cX3_findShortfall 21 = .ok (.aload_n 0, 1) := dk_42 (by decide +kernel)
theorem dX3_findShortfall_22 : decode cX3_findShortfall 22 = .ok (.getfield 59, 3) := dk_180 (by decide +kernel)
theorem dX3_findShortfall_25 : decode cX3_findShortfall 25 = .ok (.getfield 176, 3) := dk_180 (by decide +kernel)
theorem dX3_findShortfall_28 : decode cX3_findShortfall 28 = .ok (.if_icmp .ge 28, 3) := dk_162 (by decide +kernel)
theorem dX3_findShortfall_31 : decode cX3_findShortfall 31 = .ok (.iload_n 2, 1) := dk_28 (by decide +kernel)
theorem dX3_findShortfall_32 : decode cX3_findShortfall 32 = .ok (.aload_n 0, 1) := dk_42 (by decide +kernel)
theorem dX3_findShortfall_33 : decode cX3_findShortfall 33 = .ok (.getfield 59, 3) := dk_180 (by decide +kernel)
theorem dX3_findShortfall_36 : decode cX3_findShortfall 36 = .ok (.iload_n 3, 1) := dk_29 (by decide +kernel)
theorem dX3_findShortfall_37 : decode cX3_findShortfall 37 = .ok (.invokevirtual 179, 3) := dk_182 (by decide +kernel)
theorem dX3_findShortfall_40 : decode cX3_findShortfall 40 = .ok (.ifCond .eq 7, 3) := dk_153 (by decide +kernel)
theorem dX3_findShortfall_43 : decode cX3_findShortfall 43 = .ok (.iconst 2, 1) := dk_5 (by decide +kernel)
theorem dX3_findShortfall_44 : decode cX3_findShortfall 44 = .ok (.goto 4, 3) := dk_167 (by decide +kernel)
theorem dX3_findShortfall_47 : decode cX3_findShortfall 47 = .ok (.iconst 1, 1) := dk_4 (by decide +kernel)
theorem dX3_findShortfall_48 : decode cX3_findShortfall 48 = .ok (.iadd, 1) := dk_96 (by decide +kernel)
theorem dX3_findShortfall_49 : decode cX3_findShortfall 49 = .ok (.istore_n 2, 1) := dk_61 (by decide +kernel)
theorem dX3_findShortfall_50 : decode cX3_findShortfall 50 = .ok (.iinc 3 1, 3) := dk_132 (by decide +kernel)
theorem dX3_findShortfall_53 : decode cX3_findShortfall 53 = .ok (.goto (-33), 3) := dk_167 (by decide +kernel)
theorem dX3_findShortfall_56 : decode cX3_findShortfall 56 = .ok (.aload_n 0, 1) := dk_42 (by decide +kernel)
theorem dX3_findShortfall_57 : decode cX3_findShortfall 57 = .ok (.getfield 71, 3) := dk_180 (by decide +kernel)
theorem dX3_findShortfall_60 : decode cX3_findShortfall 60 = .ok (.iload_n 2, 1) := dk_28 (by decide +kernel)
theorem dX3_findShortfall_61 : decode cX3_findShortfall 61 = .ok (.iconst 0, 1) := dk_3 (by decide +kernel)
theorem dX3_findShortfall_62 : decode cX3_findShortfall 62 = .ok (.iload_n 1, 1) := dk_27 (by decide +kernel)
theorem dX3_findShortfall_63 : decode cX3_findShortfall 63 = .ok (.invokevirtual 182, 3) := dk_182 (by decide +kernel)
theorem dX3_findShortfall_66 : decode cX3_findShortfall 66 = .ok (.iconst 0, 1) := dk_3 (by decide +kernel)
theorem dX3_findShortfall_67 : decode cX3_findShortfall 67 = .ok (.istore_n 3, 1) := dk_62 (by decide +kernel)
theorem dX3_findShortfall_68 : decode cX3_findShortfall 68 = .ok (.iconst 0, 1) := dk_3 (by decide +kernel)
theorem dX3_findShortfall_69 : decode cX3_findShortfall 69 = .ok (.istore 4, 2) := dk_54 (by decide +kernel)
theorem dX3_findShortfall_71 : decode cX3_findShortfall 71 = .ok (.iload 4, 2) := dk_21 (by decide +kernel)
theorem dX3_findShortfall_73 : decode cX3_findShortfall 73 = .ok (.aload_n 0, 1) := dk_42 (by decide +kernel)
theorem dX3_findShortfall_74 : decode cX3_findShortfall 74 = .ok (.getfield 59, 3) := dk_180 (by decide +kernel)
theorem dX3_findShortfall_77 : decode cX3_findShortfall 77 = .ok (.invokevirtual 113, 3) := dk_182 (by decide +kernel)
theorem dX3_findShortfall_80 : decode cX3_findShortfall 80 = .ok (.if_icmp .ge 56, 3) := dk_162 (by decide +kernel)
theorem dX3_findShortfall_83 : decode cX3_findShortfall 83 = .ok (.aload_n 0, 1) := dk_42 (by decide +kernel)
theorem dX3_findShortfall_84 : decode cX3_findShortfall 84 = .ok (.getfield 59, 3) := dk_180 (by decide +kernel)
theorem dX3_findShortfall_87 : decode cX3_findShortfall 87 = .ok (.iload 4, 2) := dk_21 (by decide +kernel)
theorem dX3_findShortfall_89 : decode cX3_findShortfall 89 = .ok (.invokevirtual 186, 3) := dk_182 (by decide +kernel)
theorem dX3_findShortfall_92 : decode cX3_findShortfall 92 = .ok (.iconst 1, 1) := dk_4 (by decide +kernel)
theorem dX3_findShortfall_93 : decode cX3_findShortfall 93 = .ok (.if_icmp .eq 37, 3) := dk_159 (by decide +kernel)
theorem dX3_findShortfall_96 : decode cX3_findShortfall 96 = .ok (.aload_n 0, 1) := dk_42 (by decide +kernel)
theorem dX3_findShortfall_97 : decode cX3_findShortfall 97 = .ok (.iload_n 3, 1) := dk_29 (by decide +kernel)
theorem dX3_findShortfall_98 : decode cX3_findShortfall 98 = .ok (.iload 4, 2) := dk_21 (by decide +kernel)
theorem dX3_findShortfall_100 : decode cX3_findShortfall 100 = .ok (.iconst 1, 1) := dk_4 (by decide +kernel)
theorem dX3_findShortfall_101 : decode cX3_findShortfall 101 = .ok (.invokevirtual 190, 3) := dk_182 (by decide +kernel)
theorem dX3_findShortfall_104 : decode cX3_findShortfall 104 = .ok (.iinc 3 1, 3) := dk_132 (by decide +kernel)
theorem dX3_findShortfall_107 : decode cX3_findShortfall 107 = .ok (.aload_n 0, 1) := dk_42 (by decide +kernel)
theorem dX3_findShortfall_108 : decode cX3_findShortfall 108 = .ok (.getfield 59, 3) := dk_180 (by decide +kernel)
theorem dX3_findShortfall_111 : decode cX3_findShortfall 111 = .ok (.iload 4, 2) := dk_21 (by decide +kernel)
theorem dX3_findShortfall_113 : decode cX3_findShortfall 113 = .ok (.invokevirtual 179, 3) := dk_182 (by decide +kernel)
theorem dX3_findShortfall_116 : decode cX3_findShortfall 116 = .ok (.ifCond .eq 14, 3) := dk_153 (by decide +kernel)
theorem dX3_findShortfall_119 : decode cX3_findShortfall 119 = .ok (.aload_n 0, 1) := dk_42 (by decide +kernel)
theorem dX3_findShortfall_120 : decode cX3_findShortfall 120 = .ok (.iload_n 3, 1) := dk_29 (by decide +kernel)
theorem dX3_findShortfall_121 : decode cX3_findShortfall 121 = .ok (.iload 4, 2) := dk_21 (by decide +kernel)
theorem dX3_findShortfall_123 : decode cX3_findShortfall 123 = .ok (.iconst (-1), 1) := dk_2 (by decide +kernel)
theorem dX3_findShortfall_124 : decode cX3_findShortfall 124 = .ok (.invokevirtual 190, 3) := dk_182 (by decide +kernel)
theorem dX3_findShortfall_127 : decode cX3_findShortfall 127 = .ok (.iinc 3 1, 3) := dk_132 (by decide +kernel)
theorem dX3_findShortfall_130 : decode cX3_findShortfall 130 = .ok (.iinc 4 1, 3) := dk_132 (by decide +kernel)
theorem dX3_findShortfall_133 : decode cX3_findShortfall 133 = .ok (.goto (-62), 3) := dk_167 (by decide +kernel)
theorem dX3_findShortfall_136 : decode cX3_findShortfall 136 = .ok (.aload_n 0, 1) := dk_42 (by decide +kernel)
theorem dX3_findShortfall_137 : decode cX3_findShortfall 137 = .ok (.getfield 71, 3) := dk_180 (by decide +kernel)
theorem dX3_findShortfall_140 : decode cX3_findShortfall 140 = .ok (.invokevirtual 193, 3) := dk_182 (by decide +kernel)
theorem dX3_findShortfall_143 : decode cX3_findShortfall 143 = .ok (.pop, 1) := dk_87 (by decide +kernel)
theorem dX3_findShortfall_144 : decode cX3_findShortfall 144 = .ok (.aload_n 0, 1) := dk_42 (by decide +kernel)
theorem dX3_findShortfall_145 : decode cX3_findShortfall 145 = .ok (.getfield 71, 3) := dk_180 (by decide +kernel)
theorem dX3_findShortfall_148 : decode cX3_findShortfall 148 = .ok (.iload_n 1, 1) := dk_27 (by decide +kernel)
theorem dX3_findShortfall_149 : decode cX3_findShortfall 149 = .ok (.iconst 1, 1) := dk_4 (by decide +kernel)
theorem dX3_findShortfall_150 : decode cX3_findShortfall 150 = .ok (.isub, 1) := dk_100 (by decide +kernel)
theorem dX3_findShortfall_151 : decode cX3_findShortfall 151 = .ok (.invokevirtual 197, 3) := dk_182 (by decide +kernel)
theorem dX3_findShortfall_154 : decode cX3_findShortfall 154 = .ok (.pop, 1) := dk_87 (by decide +kernel)
theorem dX3_findShortfall_155 : decode cX3_findShortfall 155 = .ok (.aload_n 0, 1) := dk_42 (by decide +kernel)
theorem dX3_findShortfall_156 : decode cX3_findShortfall 156 = .ok (.getfield 46, 3) := dk_180 (by decide +kernel)
theorem dX3_findShortfall_159 : decode cX3_findShortfall 159 = .ok (.aload_n 0, 1) := dk_42 (by decide +kernel)
theorem dX3_findShortfall_160 : decode cX3_findShortfall 160 = .ok (.getfield 71, 3) := dk_180 (by decide +kernel)
theorem dX3_findShortfall_163 : decode cX3_findShortfall 163 = .ok (.getfield 144, 3) := dk_180 (by decide +kernel)
theorem dX3_findShortfall_166 : decode cX3_findShortfall 166 = .ok (.invokevirtual 152, 3) := dk_182 (by decide +kernel)
theorem dX3_findShortfall_169 : decode cX3_findShortfall 169 = .ok (.aload_n 0, 1) := dk_42 (by decide +kernel)
theorem dX3_findShortfall_170 : decode cX3_findShortfall 170 = .ok (.aload_n 0, 1) := dk_42 (by decide +kernel)
theorem dX3_findShortfall_171 : decode cX3_findShortfall 171 = .ok (.getfield 43, 3) := dk_180 (by decide +kernel)
theorem dX3_findShortfall_174 : decode cX3_findShortfall 174 = .ok (.iload_n 1, 1) := dk_27 (by decide +kernel)
theorem dX3_findShortfall_175 : decode cX3_findShortfall 175 = .ok (.iconst 1, 1) := dk_4 (by decide +kernel)
theorem dX3_findShortfall_176 : decode cX3_findShortfall 176 = .ok (.isub, 1) := dk_100 (by decide +kernel)
theorem dX3_findShortfall_177 : decode cX3_findShortfall 177 = .ok (.invokevirtual 200, 3) := dk_182 (by decide +kernel)
theorem dX3_findShortfall_180 : decode cX3_findShortfall 180 = .ok (.iconst 0, 1) := dk_3 (by decide +kernel)
theorem dX3_findShortfall_181 : decode cX3_findShortfall 181 = .ok (.istore 4, 2) := dk_54 (by decide +kernel)
theorem dX3_findShortfall_183 : decode cX3_findShortfall 183 = .ok (.iload 4, 2) := dk_21 (by decide +kernel)
theorem dX3_findShortfall_185 : decode cX3_findShortfall 185 = .ok (.aload_n 0, 1) := dk_42 (by decide +kernel)
theorem dX3_findShortfall_186 : decode cX3_findShortfall 186 = .ok (.getfield 59, 3) := dk_180 (by decide +kernel)
theorem dX3_findShortfall_189 : decode cX3_findShortfall 189 = .ok (.getfield 173, 3) := dk_180 (by decide +kernel)
theorem dX3_findShortfall_192 : decode cX3_findShortfall 192 = .ok (.if_icmp .ge 72, 3) := dk_162 (by decide +kernel)
theorem dX3_findShortfall_195 : decode cX3_findShortfall 195 = .ok (.aload_n 0, 1) := dk_42 (by decide +kernel)
theorem dX3_findShortfall_196 : decode cX3_findShortfall 196 = .ok (.aload_n 0, 1) := dk_42 (by decide +kernel)
theorem dX3_findShortfall_197 : decode cX3_findShortfall 197 = .ok (.getfield 40, 3) := dk_180 (by decide +kernel)
theorem dX3_findShortfall_200 : decode cX3_findShortfall 200 = .ok (.iload 4, 2) := dk_21 (by decide +kernel)
theorem dX3_findShortfall_202 : decode cX3_findShortfall 202 = .ok (.aaload, 1) := dk_50 (by decide +kernel)
theorem dX3_findShortfall_203 : decode cX3_findShortfall 203 = .ok (.iload 4, 2) := dk_21 (by decide +kernel)
theorem dX3_findShortfall_205 : decode cX3_findShortfall 205 = .ok (.invokevirtual 200, 3) := dk_182 (by decide +kernel)
theorem dX3_findShortfall_208 : decode cX3_findShortfall 208 = .ok (.aload_n 0, 1) := dk_42 (by decide +kernel)
theorem dX3_findShortfall_209 : decode cX3_findShortfall 209 = .ok (.getfield 63, 3) := dk_180 (by decide +kernel)
theorem dX3_findShortfall_212 : decode cX3_findShortfall 212 = .ok (.aload_n 0, 1) := dk_42 (by decide +kernel)
theorem dX3_findShortfall_213 : decode cX3_findShortfall 213 = .ok (.getfield 40, 3) := dk_180 (by decide +kernel)
theorem dX3_findShortfall_216 : decode cX3_findShortfall 216 = .ok (.iload 4, 2) := dk_21 (by decide +kernel)
theorem dX3_findShortfall_218 : decode cX3_findShortfall 218 = .ok (.aaload, 1) := dk_50 (by decide +kernel)
theorem dX3_findShortfall_219 : decode cX3_findShortfall 219 = .ok (.aload_n 0, 1) := dk_42 (by decide +kernel)
theorem dX3_findShortfall_220 : decode cX3_findShortfall 220 = .ok (.getfield 46, 3) := dk_180 (by decide +kernel)
theorem dX3_findShortfall_223 : decode cX3_findShortfall 223 = .ok (.aload_n 0, 1) := dk_42 (by decide +kernel)
theorem dX3_findShortfall_224 : decode cX3_findShortfall 224 = .ok (.getfield 59, 3) := dk_180 (by decide +kernel)
theorem dX3_findShortfall_227 : decode cX3_findShortfall 227 = .ok (.getfield 204, 3) := dk_180 (by decide +kernel)
theorem dX3_findShortfall_230 : decode cX3_findShortfall 230 = .ok (.iload 4, 2) := dk_21 (by decide +kernel)
theorem dX3_findShortfall_232 : decode cX3_findShortfall 232 = .ok (.iaload, 1) := dk_46 (by decide +kernel)
theorem dX3_findShortfall_233 : decode cX3_findShortfall 233 = .ok (.i2l, 1) := dk_133 (by decide +kernel)
theorem dX3_findShortfall_234 : decode cX3_findShortfall 234 = .ok (.invokevirtual 207, 3) := dk_182 (by decide +kernel)
theorem dX3_findShortfall_237 : decode cX3_findShortfall 237 = .ok (.aload_n 0, 1) := dk_42 (by decide +kernel)
theorem dX3_findShortfall_238 : decode cX3_findShortfall 238 = .ok (.getfield 63, 3) := dk_180 (by decide +kernel)
theorem dX3_findShortfall_241 : decode cX3_findShortfall 241 = .ok (.aload_n 0, 1) := dk_42 (by decide +kernel)
theorem dX3_findShortfall_242 : decode cX3_findShortfall 242 = .ok (.getfield 40, 3) := dk_180 (by decide +kernel)
theorem dX3_findShortfall_245 : decode cX3_findShortfall 245 = .ok (.iload 4, 2) := dk_21 (by decide +kernel)
theorem dX3_findShortfall_247 : decode cX3_findShortfall 247 = .ok (.aaload, 1) := dk_50 (by decide +kernel)
theorem dX3_findShortfall_248 : decode cX3_findShortfall 248 = .ok (.aload_n 0, 1) := dk_42 (by decide +kernel)
theorem dX3_findShortfall_249 : decode cX3_findShortfall 249 = .ok (.getfield 43, 3) := dk_180 (by decide +kernel)
theorem dX3_findShortfall_252 : decode cX3_findShortfall 252 = .ok (.ldc2_w 211, 3) := dk_20 (by decide +kernel)
theorem dX3_findShortfall_255 : decode cX3_findShortfall 255 = .ok (.invokevirtual 207, 3) := dk_182 (by decide +kernel)
theorem dX3_findShortfall_258 : decode cX3_findShortfall 258 = .ok (.iinc 4 1, 3) := dk_132 (by decide +kernel)
theorem dX3_findShortfall_261 : decode cX3_findShortfall 261 = .ok (.goto (-78), 3) := dk_167 (by decide +kernel)
theorem dX3_findShortfall_264 : decode cX3_findShortfall 264 = .ok (.aload_n 0, 1) := dk_42 (by decide +kernel)
theorem dX3_findShortfall_265 : decode cX3_findShortfall 265 = .ok (.getfield 34, 3) := dk_180 (by decide +kernel)
theorem dX3_findShortfall_268 : decode cX3_findShortfall 268 = .ok (.aload_n 0, 1) := dk_42 (by decide +kernel)
theorem dX3_findShortfall_269 : decode cX3_findShortfall 269 = .ok (.getfield 43, 3) := dk_180 (by decide +kernel)
theorem dX3_findShortfall_272 : decode cX3_findShortfall 272 = .ok (.invokevirtual 152, 3) := dk_182 (by decide +kernel)
theorem dX3_findShortfall_275 : decode cX3_findShortfall 275 = .ok (.aload_n 0, 1) := dk_42 (by decide +kernel)
theorem dX3_findShortfall_276 : decode cX3_findShortfall 276 = .ok (.getfield 37, 3) := dk_180 (by decide +kernel)
theorem dX3_findShortfall_279 : decode cX3_findShortfall 279 = .ok (.aload_n 0, 1) := dk_42 (by decide +kernel)
theorem dX3_findShortfall_280 : decode cX3_findShortfall 280 = .ok (.getfield 46, 3) := dk_180 (by decide +kernel)
theorem dX3_findShortfall_283 : decode cX3_findShortfall 283 = .ok (.invokevirtual 152, 3) := dk_182 (by decide +kernel)
theorem dX3_findShortfall_286 : decode cX3_findShortfall 286 = .ok (.aload_n 0, 1) := dk_42 (by decide +kernel)
theorem dX3_findShortfall_287 : decode cX3_findShortfall 287 = .ok (.getfield 30, 3) := dk_180 (by decide +kernel)
theorem dX3_findShortfall_290 : decode cX3_findShortfall 290 = .ok (.lconst 1, 1) := dk_10 (by decide +kernel)
theorem dX3_findShortfall_291 : decode cX3_findShortfall 291 = .ok (.invokevirtual 128, 3) := dk_182 (by decide +kernel)
theorem dX3_findShortfall_294 : decode cX3_findShortfall 294 = .ok (.return_, 1) := dk_177 (by decide +kernel)
def wsMX3_findShortfall : List Cond := .code yX3_findShortfall cX3_findShortfall 5 none :: ([.fieldLink RX3 59 "OptimaWorks$Prover" "model" "LOptimaWorks$Model;", .fieldLink RX3 173 "OptimaWorks$Model" "variables" "I", .fieldLink RX3 176 "OptimaWorks$Model" "plainRows" "I", .fieldLink RX3 71 "OptimaWorks$Prover" "tableau" "LOptimaWorks$Tableau;", .fieldLink RX3 46 "OptimaWorks$Prover" "under" "LOptimaWorks$Whole;", .fieldLink RX3 144 "OptimaWorks$Tableau" "under" "LOptimaWorks$Whole;", .fieldLink RX3 43 "OptimaWorks$Prover" "shortfall" "LOptimaWorks$Whole;", .fieldLink RX3 40 "OptimaWorks$Prover" "place" "[LOptimaWorks$Whole;", .fieldLink RX3 63 "OptimaWorks$Prover" "solver" "LOptimaWorks$Solver;", .fieldLink RX3 204 "OptimaWorks$Model" "from" "[I", .constantLong RX3 211 (-1), .fieldLink RX3 34 "OptimaWorks$Prover" "proved" "LOptimaWorks$Whole;", .fieldLink RX3 37 "OptimaWorks$Prover" "provedUnder" "LOptimaWorks$Whole;", .fieldLink RX3 30 "OptimaWorks$Prover" "multiplierUnder" "LOptimaWorks$Whole;"] ++ wsX10 ++ wsX30 ++ wsX60 ++ (wsV RX3 179 RX1 yX1_isEvenNeed wsMX1_isEvenNeed) ++ (wsV RX3 182 RX6 yX6_begin wsMX6_begin) ++ (wsV RX3 113 RX1 yX1_needs wsMX1_needs) ++ (wsV RX3 186 RX1 yX1_needKind wsMX1_needKind) ++ (wsV RX3 190 RX3 yX3_layNeed wsMX3_layNeed) ++ (wsV RX3 193 RX6 yX6_canKeep wsMX6_canKeep) ++ (wsV RX3 197 RX6 yX6_sink wsMX6_sink) ++ (wsV RX3 152 RX8 yX8_copy wsMX8_copy) ++ (wsV RX3 200 RX3 yX3_takeColumn wsMX3_takeColumn) ++ (wsV RX3 207 RX5 yX5_addTimes wsMX5_addTimes) ++ (wsV RX3 128 RX8 yX8_setLong wsMX8_setLong))
theorem iwsMX3_findShortfall_in1 : ∀ w ∈ wsX10, w ∈ wsMX3_findShortfall := fun _ h => List.mem_cons_of_mem _ (List.mem_append_left _ (List.mem_append_left _ (List.mem_append_left _ (List.mem_append_left _ (List.mem_append_left _ (List.mem_append_left _ (List.mem_append_left _ (List.mem_append_left _ (List.mem_append_left _ (List.mem_append_left _ (List.mem_append_left _ (List.mem_append_left _ (List.mem_append_left _ (List.mem_append_right _ h))))))))))))))
theorem iwsMX3_findShortfall_in3 : ∀ w ∈ wsX30, w ∈ wsMX3_findShortfall := fun _ h => List.mem_cons_of_mem _ (List.mem_append_left _ (List.mem_append_left _ (List.mem_append_left _ (List.mem_append_left _ (List.mem_append_left _ (List.mem_append_left _ (List.mem_append_left _ (List.mem_append_left _ (List.mem_append_left _ (List.mem_append_left _ (List.mem_append_left _ (List.mem_append_left _ (List.mem_append_right _ h)))))))))))))
theorem iwsMX3_findShortfall_in6 : ∀ w ∈ wsX60, w ∈ wsMX3_findShortfall := fun _ h => List.mem_cons_of_mem _ (List.mem_append_left _ (List.mem_append_left _ (List.mem_append_left _ (List.mem_append_left _ (List.mem_append_left _ (List.mem_append_left _ (List.mem_append_left _ (List.mem_append_left _ (List.mem_append_left _ (List.mem_append_left _ (List.mem_append_left _ (List.mem_append_right _ h))))))))))))
theorem gwsMX3_findShortfall_0 : GoodIn wsMX3_findShortfall (wsV RX3 179 RX1 yX1_isEvenNeed wsMX1_isEvenNeed) := goodIn_sub (fun _ h => List.mem_cons_of_mem _ (List.mem_append_left _ (List.mem_append_left _ (List.mem_append_left _ (List.mem_append_left _ (List.mem_append_left _ (List.mem_append_left _ (List.mem_append_left _ (List.mem_append_left _ (List.mem_append_left _ (List.mem_append_left _ (List.mem_append_right _ h)))))))))))) (gdV (by decide +kernel) gdwsMX1_isEvenNeed)
theorem gwsMX3_findShortfall_1 : GoodIn wsMX3_findShortfall (wsV RX3 182 RX6 yX6_begin wsMX6_begin) := goodIn_sub (fun _ h => List.mem_cons_of_mem _ (List.mem_append_left _ (List.mem_append_left _ (List.mem_append_left _ (List.mem_append_left _ (List.mem_append_left _ (List.mem_append_left _ (List.mem_append_left _ (List.mem_append_left _ (List.mem_append_left _ (List.mem_append_right _ h))))))))))) (gdV (by decide +kernel) gdwsMX6_begin)
theorem gwsMX3_findShortfall_2 : GoodIn wsMX3_findShortfall (wsV RX3 113 RX1 yX1_needs wsMX1_needs) := goodIn_sub (fun _ h => List.mem_cons_of_mem _ (List.mem_append_left _ (List.mem_append_left _ (List.mem_append_left _ (List.mem_append_left _ (List.mem_append_left _ (List.mem_append_left _ (List.mem_append_left _ (List.mem_append_left _ (List.mem_append_right _ h)))))))))) (gdV (by decide +kernel) gdwsMX1_needs)
theorem gwsMX3_findShortfall_3 : GoodIn wsMX3_findShortfall (wsV RX3 186 RX1 yX1_needKind wsMX1_needKind) := goodIn_sub (fun _ h => List.mem_cons_of_mem _ (List.mem_append_left _ (List.mem_append_left _ (List.mem_append_left _ (List.mem_append_left _ (List.mem_append_left _ (List.mem_append_left _ (List.mem_append_left _ (List.mem_append_right _ h))))))))) (gdV (by decide +kernel) gdwsMX1_needKind)
theorem gwsMX3_findShortfall_4 : GoodIn wsMX3_findShortfall (wsV RX3 190 RX3 yX3_layNeed wsMX3_layNeed) := goodIn_sub (fun _ h => List.mem_cons_of_mem _ (List.mem_append_left _ (List.mem_append_left _ (List.mem_append_left _ (List.mem_append_left _ (List.mem_append_left _ (List.mem_append_left _ (List.mem_append_right _ h)))))))) (gdV (by decide +kernel) gdwsMX3_layNeed)
theorem gwsMX3_findShortfall_5 : GoodIn wsMX3_findShortfall (wsV RX3 193 RX6 yX6_canKeep wsMX6_canKeep) := goodIn_sub (fun _ h => List.mem_cons_of_mem _ (List.mem_append_left _ (List.mem_append_left _ (List.mem_append_left _ (List.mem_append_left _ (List.mem_append_left _ (List.mem_append_right _ h))))))) (gdV (by decide +kernel) gdwsMX6_canKeep)
theorem gwsMX3_findShortfall_6 : GoodIn wsMX3_findShortfall (wsV RX3 197 RX6 yX6_sink wsMX6_sink) := goodIn_sub (fun _ h => List.mem_cons_of_mem _ (List.mem_append_left _ (List.mem_append_left _ (List.mem_append_left _ (List.mem_append_left _ (List.mem_append_right _ h)))))) (gdV (by decide +kernel) gdwsMX6_sink)
theorem gwsMX3_findShortfall_7 : GoodIn wsMX3_findShortfall (wsV RX3 152 RX8 yX8_copy wsMX8_copy) := goodIn_sub (fun _ h => List.mem_cons_of_mem _ (List.mem_append_left _ (List.mem_append_left _ (List.mem_append_left _ (List.mem_append_right _ h))))) (gdV (by decide +kernel) gdwsMX8_copy)
theorem gwsMX3_findShortfall_8 : GoodIn wsMX3_findShortfall (wsV RX3 200 RX3 yX3_takeColumn wsMX3_takeColumn) := goodIn_sub (fun _ h => List.mem_cons_of_mem _ (List.mem_append_left _ (List.mem_append_left _ (List.mem_append_right _ h)))) (gdV (by decide +kernel) gdwsMX3_takeColumn)
theorem gwsMX3_findShortfall_9 : GoodIn wsMX3_findShortfall (wsV RX3 207 RX5 yX5_addTimes wsMX5_addTimes) := goodIn_sub (fun _ h => List.mem_cons_of_mem _ (List.mem_append_left _ (List.mem_append_right _ h))) (gdV (by decide +kernel) gdwsMX5_addTimes)
theorem gwsMX3_findShortfall_10 : GoodIn wsMX3_findShortfall (wsV RX3 128 RX8 yX8_setLong wsMX8_setLong) := goodIn_sub (fun _ h => List.mem_cons_of_mem _ (List.mem_append_right _ h)) (gdV (by decide +kernel) gdwsMX8_setLong)
theorem gdwsMX3_findShortfall : wsMX3_findShortfall.all goodWord = true := gdC rfl (gdA (gdA (gdA (gdA (gdA (gdA (gdA (gdA (gdA (gdA (gdA (gdA (gdA (gdA (by decide +kernel : ([.fieldLink RX3 59 "OptimaWorks$Prover" "model" "LOptimaWorks$Model;", .fieldLink RX3 173 "OptimaWorks$Model" "variables" "I", .fieldLink RX3 176 "OptimaWorks$Model" "plainRows" "I", .fieldLink RX3 71 "OptimaWorks$Prover" "tableau" "LOptimaWorks$Tableau;", .fieldLink RX3 46 "OptimaWorks$Prover" "under" "LOptimaWorks$Whole;", .fieldLink RX3 144 "OptimaWorks$Tableau" "under" "LOptimaWorks$Whole;", .fieldLink RX3 43 "OptimaWorks$Prover" "shortfall" "LOptimaWorks$Whole;", .fieldLink RX3 40 "OptimaWorks$Prover" "place" "[LOptimaWorks$Whole;", .fieldLink RX3 63 "OptimaWorks$Prover" "solver" "LOptimaWorks$Solver;", .fieldLink RX3 204 "OptimaWorks$Model" "from" "[I", .constantLong RX3 211 (-1), .fieldLink RX3 34 "OptimaWorks$Prover" "proved" "LOptimaWorks$Whole;", .fieldLink RX3 37 "OptimaWorks$Prover" "provedUnder" "LOptimaWorks$Whole;", .fieldLink RX3 30 "OptimaWorks$Prover" "multiplierUnder" "LOptimaWorks$Whole;"] : List Cond).all goodWord = true) gdwsX10) gdwsX30) gdwsX60) (gdV (by decide +kernel) gdwsMX1_isEvenNeed)) (gdV (by decide +kernel) gdwsMX6_begin)) (gdV (by decide +kernel) gdwsMX1_needs)) (gdV (by decide +kernel) gdwsMX1_needKind)) (gdV (by decide +kernel) gdwsMX3_layNeed)) (gdV (by decide +kernel) gdwsMX6_canKeep)) (gdV (by decide +kernel) gdwsMX6_sink)) (gdV (by decide +kernel) gdwsMX8_copy)) (gdV (by decide +kernel) gdwsMX3_takeColumn)) (gdV (by decide +kernel) gdwsMX5_addTimes)) (gdV (by decide +kernel) gdwsMX8_setLong))
theorem hm_m_X3_findShortfall_0 : (.fieldLink RX3 59 "OptimaWorks$Prover" "model" "LOptimaWorks$Model;" : Cond) ∈ wsMX3_findShortfall := by decide +kernel
theorem hm_m_X3_findShortfall_1 : (.fieldLink RX3 173 "OptimaWorks$Model" "variables" "I" : Cond) ∈ wsMX3_findShortfall := by decide +kernel
theorem hm_m_X3_findShortfall_2 : (.fieldLink RX3 71 "OptimaWorks$Prover" "tableau" "LOptimaWorks$Tableau;" : Cond) ∈ wsMX3_findShortfall := by decide +kernel
theorem hm_m_X3_findShortfall_3 : (.fieldLink RX3 46 "OptimaWorks$Prover" "under" "LOptimaWorks$Whole;" : Cond) ∈ wsMX3_findShortfall := by decide +kernel
theorem hm_m_X3_findShortfall_4 : (.fieldLink RX3 43 "OptimaWorks$Prover" "shortfall" "LOptimaWorks$Whole;" : Cond) ∈ wsMX3_findShortfall := by decide +kernel
theorem hm_m_X3_findShortfall_5 : (.fieldLink RX3 40 "OptimaWorks$Prover" "place" "[LOptimaWorks$Whole;" : Cond) ∈ wsMX3_findShortfall := by decide +kernel
theorem hm_m_X3_findShortfall_6 : (.fieldLink RX3 63 "OptimaWorks$Prover" "solver" "LOptimaWorks$Solver;" : Cond) ∈ wsMX3_findShortfall := by decide +kernel
set_option maxHeartbeats 4000000 in
set_option maxRecDepth 100000 in
/-- the shortfall -/
theorem m_X3_findShortfall (l : Launch) (dC : Nat → ClassId) (dI : Nat → Nat → Nat) (hG : Nat → Nat) (aG : Nat → Nat) (kG : Nat → ClassId) (hM : Nat → Nat) (hO : Nat → Nat) (hQ : Nat → Nat) (hw : Nat → Nat) (iG_made : Int32) (iG_keptNeeds : Int32) (fG_kept : Nat → Int32) (fG_need : Nat → Int32) (fG_turn : Nat → Int32) (iG_columns : Int32) (aO : Nat → Nat) (kO : Nat → ClassId) (iO_answered : Int32) (iO_searched : Int32) (iO_searchedRelaxed : Int32) (iO_counted : Int32) (fO_countedCase : Nat → Int32) (gO_goalNumber : Nat → Int64) (gO_goalScale : Nat → Int64) (fO_start : Nat → Int32) (fO_column : Nat → Int32) (fO_chosen : Nat → Int32) (aM : Nat → Nat) (kM : Nat → ClassId) (iM_stands : Int32) (iM_variables : Int32) (iM_rows : Int32) (iM_goals : Int32) (iM_differents : Int32) (iM_cases : Int32) (fM_from : Nat → Int32) (fM_to : Nat → Int32) (fM_whole : Nat → Int32) (fM_ways : Nat → Int32) (iM_plainRows : Int32) (fM_plainRow : Nat → Int32) (fM_kept : Nat → Int32) (fM_goalOver : Nat → Int32) (fM_goalUnder : Nat → Int32) (fM_goalMax : Nat → Int32) (fM_different : Nat → Int32) (aQ : Nat → Nat) (kQ : Nat → ClassId) (fQ_inside : Nat → Int32) (fQ_outside : Nat → Int32) (fQ_shut : Nat → Int32) (iQ_rows : Int32) (iQ_allRows : Int32) (iQ_columns : Int32) (nW : Nat) (lw : Nat → Nat) (kw : ClassId) (wl : Nat → Int32) (wb : Nat → Int32) (wG : Nat → Nat → Int64) (b_iG_made : 0 ≤ iG_made.toInt ∧ iG_made.toInt ≤ 1) (b_fG_need : ∀ q : Nat, 0 ≤ (fG_need q).toInt ∧ (fG_need q).toInt ≤ 27) (b_iG_columns : 0 ≤ iG_columns.toInt ∧ iG_columns.toInt ≤ 40) (b_iO_answered : 0 ≤ iO_answered.toInt ∧ iO_answered.toInt ≤ 1) (b_iO_searched : 0 ≤ iO_searched.toInt ∧ iO_searched.toInt ≤ 1) (b_iO_searchedRelaxed : 0 ≤ iO_searchedRelaxed.toInt ∧ iO_searchedRelaxed.toInt ≤ 1) (b_iO_counted : (-1) ≤ iO_counted.toInt ∧ iO_counted.toInt ≤ 64) (b_fO_countedCase : ∀ q : Nat, 0 ≤ (fO_countedCase q).toInt ∧ (fO_countedCase q).toInt ≤ 200000) (b_fO_column : ∀ q : Nat, (-1) ≤ (fO_column q).toInt ∧ (fO_column q).toInt ≤ 8) (b_fO_chosen : ∀ q : Nat, 0 ≤ (fO_chosen q).toInt ∧ (fO_chosen q).toInt ≤ 2) (b_iM_stands : 0 ≤ iM_stands.toInt ∧ iM_stands.toInt ≤ 1) (b_iM_variables : 0 ≤ iM_variables.toInt ∧ iM_variables.toInt ≤ 8) (b_iM_rows : 0 ≤ iM_rows.toInt ∧ iM_rows.toInt ≤ 12) (b_iM_goals : 0 ≤ iM_goals.toInt ∧ iM_goals.toInt ≤ 3) (b_iM_differents : 0 ≤ iM_differents.toInt ∧ iM_differents.toInt ≤ 8) (b_iM_cases : 0 ≤ iM_cases.toInt ∧ iM_cases.toInt ≤ 200000) (b_fM_ways : ∀ q : Nat, 0 ≤ (fM_ways q).toInt ∧ (fM_ways q).toInt ≤ 3) (b_iM_plainRows : 0 ≤ iM_plainRows.toInt ∧ iM_plainRows.toInt ≤ 12) (b_fM_plainRow : ∀ q : Nat, 0 ≤ (fM_plainRow q).toInt ∧ (fM_plainRow q).toInt ≤ 11) (b_pr : iM_plainRows.toInt ≤ iM_rows.toInt) (b_iQ_rows : 0 ≤ iQ_rows.toInt ∧ iQ_rows.toInt ≤ 40) (b_iQ_allRows : 0 ≤ iQ_allRows.toInt ∧ iQ_allRows.toInt ≤ 40) (b_iQ_columns : 0 ≤ iQ_columns.toInt ∧ iQ_columns.toInt ≤ 40) (b_tb : TbO iQ_rows iQ_allRows iQ_columns) (b_wl : ∀ q : Nat, 0 ≤ (wl q).toInt ∧ (wl q).toInt ≤ 14) (b_wb : ∀ q : Nat, 0 ≤ (wb q).toInt ∧ (wb q).toInt ≤ 1) (hnW : 474 ≤ nW) (sz : Nat) : Met l yX3_findShortfall wsMX3_findShortfall ({ frames := 6, cells := 0, slots := 0, locals := 156 }) (va_Pc [.ref (hG 0)] (fun U => U.heap.size = sz ∧ va_P (dC, dI) vwCl (WG hG aG kG hM hO hQ hw iG_made iG_keptNeeds fG_kept fG_need fG_turn iG_columns ++ (WO hO aO kO hM hQ hw iO_answered iO_searched iO_searchedRelaxed iO_counted fO_countedCase gO_goalNumber gO_goalScale fO_start fO_column fO_chosen ++ (WM hM aM kM iM_stands iM_variables iM_rows iM_goals iM_differents iM_cases fM_from fM_to fM_whole fM_ways iM_plainRows fM_plainRow fM_kept fM_goalOver fM_goalUnder fM_goalMax fM_different ++ (WQ hQ aQ kQ hw fQ_inside fQ_outside fQ_shut iQ_rows iQ_allRows iQ_columns ++ (WW nW hw lw kw wl wb wG))))) U.heap ∧ va_K (dC, dI) vwCl (tG kG ++ (tO kO ++ (tM kM ++ (tQ kQ ++ (tW kw))))) U ∧ va_D (fun _ => True) (WG hG aG kG hM hO hQ hw iG_made iG_keptNeeds fG_kept fG_need fG_turn iG_columns ++ (WO hO aO kO hM hQ hw iO_answered iO_searched iO_searchedRelaxed iO_counted fO_countedCase gO_goalNumber gO_goalScale fO_start fO_column fO_chosen ++ (WM hM aM kM iM_stands iM_variables iM_rows iM_goals iM_differents iM_cases fM_from fM_to fM_whole fM_ways iM_plainRows fM_plainRow fM_kept fM_goalOver fM_goalUnder fM_goalMax fM_different ++ (WQ hQ aQ kQ hw fQ_inside fQ_outside fQ_shut iQ_rows iQ_allRows iQ_columns ++ (WW nW hw lw kw wl wb wG))))))) (va_Qv (fun (u : (Nat → Int32) × (Nat → Int32) × (Nat → Int32) × (Int32) × (Int32) × (Int32) × (Nat → Int32) × (Nat → Int32) × (Nat → Nat → Int64)) => (0 ≤ (u.2.2.2.1).toInt ∧ (u.2.2.2.1).toInt ≤ 40) ∧ (0 ≤ (u.2.2.2.2.1).toInt ∧ (u.2.2.2.2.1).toInt ≤ 40) ∧ (0 ≤ (u.2.2.2.2.2.1).toInt ∧ (u.2.2.2.2.2.1).toInt ≤ 40) ∧ (∀ q : Nat, 0 ≤ ((u.2.2.2.2.2.2.1) q).toInt ∧ ((u.2.2.2.2.2.2.1) q).toInt ≤ 14) ∧ (∀ q : Nat, 0 ≤ ((u.2.2.2.2.2.2.2.1) q).toInt ∧ ((u.2.2.2.2.2.2.2.1) q).toInt ≤ 1) ∧ (TbO (u.2.2.2.1) (u.2.2.2.2.1) (u.2.2.2.2.2.1))) (fun (u : (Nat → Int32) × (Nat → Int32) × (Nat → Int32) × (Int32) × (Int32) × (Int32) × (Nat → Int32) × (Nat → Int32) × (Nat → Nat → Int64)) t => va_P (dC, dI) vwCl (WG hG aG kG hM hO hQ hw iG_made iG_keptNeeds fG_kept fG_need fG_turn iG_columns ++ (WO hO aO kO hM hQ hw iO_answered iO_searched iO_searchedRelaxed iO_counted fO_countedCase gO_goalNumber gO_goalScale fO_start fO_column fO_chosen ++ (WM hM aM kM iM_stands iM_variables iM_rows iM_goals iM_differents iM_cases fM_from fM_to fM_whole fM_ways iM_plainRows fM_plainRow fM_kept fM_goalOver fM_goalUnder fM_goalMax fM_different ++ (WQ hQ aQ kQ hw (u.1) (u.2.1) (u.2.2.1) (u.2.2.2.1) (u.2.2.2.2.1) (u.2.2.2.2.2.1) ++ (WW nW hw lw kw (u.2.2.2.2.2.2.1) (u.2.2.2.2.2.2.2.1) (u.2.2.2.2.2.2.2.2)))))) t.heap ∧ va_D (va_A (WG hG aG kG hM hO hQ hw iG_made iG_keptNeeds fG_kept fG_need fG_turn iG_columns ++ (WO hO aO kO hM hQ hw iO_answered iO_searched iO_searchedRelaxed iO_counted fO_countedCase gO_goalNumber gO_goalScale fO_start fO_column fO_chosen ++ (WM hM aM kM iM_stands iM_variables iM_rows iM_goals iM_differents iM_cases fM_from fM_to fM_whole fM_ways iM_plainRows fM_plainRow fM_kept fM_goalOver fM_goalUnder fM_goalMax fM_different ++ (WQ hQ aQ kQ hw fQ_inside fQ_outside fQ_shut iQ_rows iQ_allRows iQ_columns ++ (WW nW hw lw kw wl wb wG))))) sz) (WG hG aG kG hM hO hQ hw iG_made iG_keptNeeds fG_kept fG_need fG_turn iG_columns ++ (WO hO aO kO hM hQ hw iO_answered iO_searched iO_searchedRelaxed iO_counted fO_countedCase gO_goalNumber gO_goalScale fO_start fO_column fO_chosen ++ (WM hM aM kM iM_stands iM_variables iM_rows iM_goals iM_differents iM_cases fM_from fM_to fM_whole fM_ways iM_plainRows fM_plainRow fM_kept fM_goalOver fM_goalUnder fM_goalMax fM_different ++ (WQ hQ aQ kQ hw (u.1) (u.2.1) (u.2.2.1) (u.2.2.2.1) (u.2.2.2.2.1) (u.2.2.2.2.2.1) ++ (WW nW hw lw kw (u.2.2.2.2.2.2.1) (u.2.2.2.2.2.2.2.1) (u.2.2.2.2.2.2.2.2))))))) (va_A (WG hG aG kG hM hO hQ hw iG_made iG_keptNeeds fG_kept fG_need fG_turn iG_columns ++ (WO hO aO kO hM hQ hw iO_answered iO_searched iO_searchedRelaxed iO_counted fO_countedCase gO_goalNumber gO_goalScale fO_start fO_column fO_chosen ++ (WM hM aM kM iM_stands iM_variables iM_rows iM_goals iM_differents iM_cases fM_from fM_to fM_whole fM_ways iM_plainRows fM_plainRow fM_kept fM_goalOver fM_goalUnder fM_goalMax fM_different ++ (WQ hQ aQ kQ hw fQ_inside fQ_outside fQ_shut iQ_rows iQ_allRows iQ_columns ++ (WW nW hw lw kw wl wb wG))))) sz)) 0 0 (va_A (WG hG aG kG hM hO hQ hw iG_made iG_keptNeeds fG_kept fG_need fG_turn iG_columns ++ (WO hO aO kO hM hQ hw iO_answered iO_searched iO_searchedRelaxed iO_counted fO_countedCase gO_goalNumber gO_goalScale fO_start fO_column fO_chosen ++ (WM hM aM kM iM_stands iM_variables iM_rows iM_goals iM_differents iM_cases fM_from fM_to fM_whole fM_ways iM_plainRows fM_plainRow fM_kept fM_goalOver fM_goalUnder fM_goalMax fM_different ++ (WQ hQ aQ kQ hw fQ_inside fQ_outside fQ_shut iQ_rows iQ_allRows iQ_columns ++ (WW nW hw lw kw wl wb wG))))) sz) := by
  refine Met.ofW (cc := cX3_findShortfall) (maxL := 5) (ret := none) (by decide) rfl ?_
  intro p e s m args below meth c s₁ B hml hv
  obtain ⟨rfl, hsz, hP, hK, hD0⟩ := hv
  have hx := B.exec
  have hb := B.bytes
  have hr := B.returns
  have hts := atoms_spec (ws := wsMX3_findShortfall) B.pre
  have hown : s.vm.findClass RX3 = some m.cls := findClass_of_methodNamed B.named
  have hlocks := B.notSynchronized
  subst hsz
  have hD := hD0.self (sz := s.heap.size)
  generalize hAe : va_A (WG hG aG kG hM hO hQ hw iG_made iG_keptNeeds fG_kept fG_need fG_turn iG_columns ++ (WO hO aO kO hM hQ hw iO_answered iO_searched iO_searchedRelaxed iO_counted fO_countedCase gO_goalNumber gO_goalScale fO_start fO_column fO_chosen ++ (WM hM aM kM iM_stands iM_variables iM_rows iM_goals iM_differents iM_cases fM_from fM_to fM_whole fM_ways iM_plainRows fM_plainRow fM_kept fM_goalOver fM_goalUnder fM_goalMax fM_different ++ (WQ hQ aQ kQ hw fQ_inside fQ_outside fQ_shut iQ_rows iQ_allRows iQ_columns ++ (WW nW hw lw kw wl wb wG))))) s.heap.size = A at hD ⊢
  have hA : ∀ q : Nat, s.heap.size ≤ q → A q := fun q h => by rw [← hAe]; exact Or.inr h
  have hS : va_S A s.heap s.heap [] := va_S.rf
  have hl := lv_entry ([.ref (hG 0)]) (n := 5) (Nat.le_of_ble_eq_true rfl)
  rw [lg_entry_eq]
  generalize (lg_sl ([.ref (hG 0)]) ++ List.replicate (5 - (lg_sl ([.ref (hG 0)])).length) Slot.unset).toArray = ls at hl ⊢
  have hl : lv_has ls 5 [(0, .ref (hG 0))] := hl
  refine lv_aload_n hx hb dX3_findShortfall_0 rfl (lv_at hl 0 rfl) ?_
  refine va_get (D := (dC, dI)) (ci := 3) (v := .ref (hM 0)) (C := RX3) (T := TX3) (N := 17) hx hb hts iwsMX3_findShortfall_in3 hown hK hP 0 rfl rfl 0 (by decide) (hts _ hm_m_X3_findShortfall_0) (fun _ h9 => h9) rfl dX3_findShortfall_1 ?_
  refine va_get (D := (dC, dI)) (ci := 1) (v := .int iM_variables) (C := RX1) (T := TX1) (N := 17) hx hb hts iwsMX3_findShortfall_in1 hown hK hP 17 rfl rfl 1 (by decide) (hts _ hm_m_X3_findShortfall_1) (fun _ h9 => h9) rfl dX3_findShortfall_4 ?_
  refine lv_iconst (v := 1) hx hb dX3_findShortfall_7 (by decide) ?_
  refine lv_iadd hx hb dX3_findShortfall_8 ?_
  refine lv_topi (fun y1 hy1 => ?_)
  obtain rfl : (iI (iM_variables.toInt + 1)) = y1 := (hy1.trans (iI_add2 (iI_of _) (by decide : (1 : Int32) = iI 1))).symm
  refine lv_istore_n hx hb dX3_findShortfall_9 rfl hl (by decide) rfl (fun ls (hl : lv_has ls _ ([(1, .int (iI (iM_variables.toInt + 1))), (0, .ref (hG 0))])) => ?_)
  refine lv_aload_n hx hb dX3_findShortfall_10 rfl (lv_at hl 1 rfl) ?_
  refine va_get (D := (dC, dI)) (ci := 3) (v := .ref (hM 0)) (C := RX3) (T := TX3) (N := 17) hx hb hts iwsMX3_findShortfall_in3 hown hK hP 0 rfl rfl 0 (by decide) (hts _ hm_m_X3_findShortfall_0) (fun _ h9 => h9) rfl dX3_findShortfall_11 ?_
  refine va_get (D := (dC, dI)) (ci := 1) (v := .int iM_variables) (C := RX1) (T := TX1) (N := 17) hx hb hts iwsMX3_findShortfall_in1 hown hK hP 17 rfl rfl 1 (by decide) (hts _ hm_m_X3_findShortfall_1) (fun _ h9 => h9) rfl dX3_findShortfall_14 ?_
  refine lv_istore_n hx hb dX3_findShortfall_17 rfl hl (by decide) rfl (fun ls (hl : lv_has ls _ ([(2, .int iM_variables), (1, .int (iI (iM_variables.toInt + 1))), (0, .ref (hG 0))])) => ?_)
  refine lv_iconst (v := 0) hx hb dX3_findShortfall_18 (by decide) ?_
  refine lv_istore_n hx hb dX3_findShortfall_19 rfl hl (by decide) rfl (fun ls (hl : lv_has ls _ ([(3, .int 0), (2, .int iM_variables), (1, .int (iI (iM_variables.toInt + 1))), (0, .ref (hG 0))])) => ?_)
  have hl : lv_has _ _ ([(3, .int 0), (2, .int iM_variables), (1, .int (iI (iM_variables.toInt + 1))), (0, .ref (hG 0))]) := lv_sub hl [0, 1, 2, 3] rfl
  refine (fun (loop : ∀ (n9 : Nat) (l3_x20 : Int32) (l2_x20 : Int32) (H : Heap) (locs : List Loc) (ls : Array Slot), (0 ≤ l3_x20.toInt ∧ l3_x20.toInt ≤ 12) → (0 ≤ l2_x20.toInt ∧ l2_x20.toInt ≤ 32) → (l2_x20.toInt ≤ 8 + 2 * l3_x20.toInt) → (12 - l3_x20.toInt < ((n9 : Nat) : Int)) → va_P (dC, dI) vwCl (WG hG aG kG hM hO hQ hw iG_made iG_keptNeeds fG_kept fG_need fG_turn iG_columns ++ (WO hO aO kO hM hQ hw iO_answered iO_searched iO_searchedRelaxed iO_counted fO_countedCase gO_goalNumber gO_goalScale fO_start fO_column fO_chosen ++ (WM hM aM kM iM_stands iM_variables iM_rows iM_goals iM_differents iM_cases fM_from fM_to fM_whole fM_ways iM_plainRows fM_plainRow fM_kept fM_goalOver fM_goalUnder fM_goalMax fM_different ++ (WQ hQ aQ kQ hw fQ_inside fQ_outside fQ_shut iQ_rows iQ_allRows iQ_columns ++ (WW nW hw lw kw wl wb wG))))) H → va_D A (WG hG aG kG hM hO hQ hw iG_made iG_keptNeeds fG_kept fG_need fG_turn iG_columns ++ (WO hO aO kO hM hQ hw iO_answered iO_searched iO_searchedRelaxed iO_counted fO_countedCase gO_goalNumber gO_goalScale fO_start fO_column fO_chosen ++ (WM hM aM kM iM_stands iM_variables iM_rows iM_goals iM_differents iM_cases fM_from fM_to fM_whole fM_ways iM_plainRows fM_plainRow fM_kept fM_goalOver fM_goalUnder fM_goalMax fM_different ++ (WQ hQ aQ kQ hw fQ_inside fQ_outside fQ_shut iQ_rows iQ_allRows iQ_columns ++ (WW nW hw lw kw wl wb wG))))) → va_S A s.heap H locs → lv_has ls 5 [(3, .int l3_x20), (2, .int l2_x20), (1, .int (iI (iM_variables.toInt + 1))), (0, .ref (hG 0))] → W p l e _ s m _ below meth c H locs 0 0 _ (F0 m 20 ls [])) => loop (13) 0 iM_variables _ _ _ (show 0 ≤ (0 : Int32).toInt ∧ (0 : Int32).toInt ≤ 12 from by decide) (⟨b_iM_variables.1, Int.le_trans b_iM_variables.2 (by decide)⟩) (show iM_variables.toInt ≤ 8 + 2 * (0 : Int32).toInt from by have h8 : (0 : Int32).toInt = 0 := (by decide); omega) ((by have e9 : (0 : Int32).toInt = 0 := (by decide : (0 : Int32).toInt = 0); omega)) hP hD hS hl) ?_
  intro n9
  induction n9 with
  | zero => intro l3_x20 l2_x20 H locs ls b_l3_x20 b_l2_x20 hr2 hf9; exact False.elim (by omega)
  | succ n9 ihx20 =>
    intro l3_x20 l2_x20 H locs ls b_l3_x20 b_l2_x20 hr2 hfx20 hP hD hS hl
    refine lv_iload_n hx hb dX3_findShortfall_20 rfl (lv_at hl 0 rfl) ?_
    refine lv_aload_n hx hb dX3_findShortfall_21 rfl (lv_at hl 3 rfl) ?_
    refine va_get (D := (dC, dI)) (ci := 3) (v := .ref (hM 0)) (C := RX3) (T := TX3) (N := 17) hx hb hts iwsMX3_findShortfall_in3 hown hK hP 0 rfl rfl 0 (by decide) (hts _ hm_m_X3_findShortfall_0) (fun _ h9 => h9) rfl dX3_findShortfall_22 ?_
    refine va_get (D := (dC, dI)) (ci := 1) (v := .int iM_plainRows) (C := RX1) (T := TX1) (N := 17) hx hb hts iwsMX3_findShortfall_in1 hown hK hP 17 rfl rfl 10 (by decide) (hts (.fieldLink RX3 176 "OptimaWorks$Model" "plainRows" "I") (by decide +kernel)) (fun _ h9 => h9) rfl dX3_findShortfall_25 ?_
    refine lv_icmp_ge (tgt := 56) hx hb dX3_findShortfall_28 (by decide) (fun c_28 => ?_) (fun c_28 => ?_)
    · have t_28 : l3_x20.toInt ≥ iM_plainRows.toInt := toI_ge c_28 rfl rfl
      refine lv_aload_n hx hb dX3_findShortfall_56 rfl (lv_at hl 3 rfl) ?_
      refine va_get (D := (dC, dI)) (ci := 3) (v := .ref (hQ 0)) (C := RX3) (T := TX3) (N := 17) hx hb hts iwsMX3_findShortfall_in3 hown hK hP 0 rfl rfl 2 (by decide) (hts _ hm_m_X3_findShortfall_2) (fun _ h9 => h9) rfl dX3_findShortfall_57 ?_
      refine lv_iload_n hx hb dX3_findShortfall_60 rfl (lv_at hl 1 rfl) ?_
      refine lv_iconst (v := 0) hx hb dX3_findShortfall_61 (by decide) ?_
      refine lv_iload_n hx hb dX3_findShortfall_62 rfl (lv_at hl 2 rfl) ?_
      have p9 := cj_5_3_4 (WG hG aG kG hM hO hQ hw iG_made iG_keptNeeds fG_kept fG_need fG_turn iG_columns) (WO hO aO kO hM hQ hw iO_answered iO_searched iO_searchedRelaxed iO_counted fO_countedCase gO_goalNumber gO_goalScale fO_start fO_column fO_chosen) (WM hM aM kM iM_stands iM_variables iM_rows iM_goals iM_differents iM_cases fM_from fM_to fM_whole fM_ways iM_plainRows fM_plainRow fM_kept fM_goalOver fM_goalUnder fM_goalMax fM_different) (WQ hQ aQ kQ hw fQ_inside fQ_outside fQ_shut iQ_rows iQ_allRows iQ_columns) (WW nW hw lw kw wl wb wG)
      have hPc := hP.mem (fun q h => p9.mem_iff.mpr (List.mem_append_left _ h))
      have hDc := (hD.perm p9).left
      have hKc : va_K (dC, dI) vwCl (tQ kQ ++ (tW kw)) _ := hK.sub [25, 26, 27, 28, 29] rfl
      have hFc := freeG p9 hD hS hA
      refine va_callv (va_runV (As := [.int l2_x20, .int 0, .int (iI (iM_variables.toInt + 1))]) (rest := []) ⟨hx, hb, hml, hown, hts⟩ (m_X6_begin l dC dI hQ aQ kQ hw fQ_inside fQ_outside fQ_shut iQ_rows iQ_allRows iQ_columns nW lw kw wl wb wG l2_x20 0 (iI (iM_variables.toInt + 1)) (b_iQ_rows) (b_iQ_allRows) (b_iQ_columns) (by first | with_reducible assumption | omega | assumption) b_wl b_wb (⟨b_l2_x20.1, Int.le_trans b_l2_x20.2 (by decide)⟩) (show 0 ≤ (0 : Int32).toInt ∧ (0 : Int32).toInt ≤ 40 from by decide) (iI_rng (Int.le_trans (by decide) (Int.add_le_add (b_iM_variables.1) (Int.le_refl _))) (Int.le_trans (Int.add_le_add (b_iM_variables.2) (Int.le_refl _)) (by decide)) (by decide) (by decide)) (by omega) (by have h8 : (0 : Int32).toInt = 0 := (by decide); omega) (mul49 (by omega) (by omega) (by (try rw [iI_t (by omega) (by omega)]); omega) (by (try rw [iI_t (by omega) (by omega)]); omega)) H.size) (cwV 3 hts gwsMX3_findShortfall_1 rfl rfl rfl hd_yX6_begin_RX6 (by decide +kernel)) (fz_pre (va_recv hK hP (ci := 6) (q0 := 28) rfl rfl) hPc hKc hDc) rfl rfl hl.1 rfl (lv_room (Nat.le_of_ble_eq_true rfl)) dX3_findShortfall_63 (by decide +kernel)) hS (fun q _ h => hFc q h) hFc (fun u t9_ H locs ht hvm hw9 hB9 hz1 hk1 hS => ?_)
      revert u hw9 hB9
      refine fz_p9 ?_
      intro fQ_inside_446 fQ_outside_446 fQ_shut_446 iQ_rows_446 iQ_allRows_446 iQ_columns_446 wl_446 wb_446 wG_446 hw9 hB9
      try dsimp only at hw9 hB9
      revert hw9
      refine fz_a9 ?_
      intro b_iQ_rows_446 b_iQ_allRows_446 b_iQ_columns_446 b_wl_446 b_wb_446 b_tb_446 f446_0 f446_1 f446_2
      have p8 := cj_5_3_4 (WG hG aG kG hM hO hQ hw iG_made iG_keptNeeds fG_kept fG_need fG_turn iG_columns) (WO hO aO kO hM hQ hw iO_answered iO_searched iO_searchedRelaxed iO_counted fO_countedCase gO_goalNumber gO_goalScale fO_start fO_column fO_chosen) (WM hM aM kM iM_stands iM_variables iM_rows iM_goals iM_differents iM_cases fM_from fM_to fM_whole fM_ways iM_plainRows fM_plainRow fM_kept fM_goalOver fM_goalUnder fM_goalMax fM_different) (WQ hQ aQ kQ hw fQ_inside_446 fQ_outside_446 fQ_shut_446 iQ_rows_446 iQ_allRows_446 iQ_columns_446) (WW nW hw lw kw wl_446 wb_446 wG_446)
      obtain ⟨hP, hD⟩ := frameG p9 p8 hP hD hk1 hFc (fz_P ht hB9.1) hB9.2
      have hb3 := f446_2
      try rw [iI_t (by omega) (by omega)] at hb3
      refine lv_iconst (v := 0) hx hb dX3_findShortfall_66 (by decide) ?_
      refine lv_istore_n hx hb dX3_findShortfall_67 rfl hl (by decide) rfl (fun ls (hl : lv_has ls _ ([(3, .int 0), (2, .int l2_x20), (1, .int (iI (iM_variables.toInt + 1))), (0, .ref (hG 0))])) => ?_)
      refine lv_iconst (v := 0) hx hb dX3_findShortfall_68 (by decide) ?_
      refine lv_istore hx hb dX3_findShortfall_69 hl (by decide) rfl (fun ls (hl : lv_has ls _ ([(4, .int 0), (3, .int 0), (2, .int l2_x20), (1, .int (iI (iM_variables.toInt + 1))), (0, .ref (hG 0))])) => ?_)
      have hl : lv_has _ _ ([(4, .int 0), (3, .int 0), (2, .int l2_x20), (1, .int (iI (iM_variables.toInt + 1))), (0, .ref (hG 0))]) := lv_sub hl [0, 1, 2, 3, 4] rfl
      refine (fun (loop : ∀ (n9 : Nat) (wl_x71 : Nat → Int32) (wb_x71 : Nat → Int32) (wG_x71 : Nat → Nat → Int64) (l4_x71 : Int32) (l3_x71 : Int32) (H : Heap) (locs : List Loc) (ls : Array Slot), (∀ q : Nat, 0 ≤ (wl_x71 q).toInt ∧ (wl_x71 q).toInt ≤ 14) → (∀ q : Nat, 0 ≤ (wb_x71 q).toInt ∧ (wb_x71 q).toInt ≤ 1) → (0 ≤ l4_x71.toInt ∧ l4_x71.toInt ≤ 28) → (0 ≤ l3_x71.toInt ∧ l3_x71.toInt ≤ 56) → (l3_x71.toInt ≤ 2 * l4_x71.toInt) → (l3_x71.toInt ≤ l4_x71.toInt + iM_plainRows.toInt) → (28 - l4_x71.toInt < ((n9 : Nat) : Int)) → va_P (dC, dI) vwCl (WG hG aG kG hM hO hQ hw iG_made iG_keptNeeds fG_kept fG_need fG_turn iG_columns ++ (WO hO aO kO hM hQ hw iO_answered iO_searched iO_searchedRelaxed iO_counted fO_countedCase gO_goalNumber gO_goalScale fO_start fO_column fO_chosen ++ (WM hM aM kM iM_stands iM_variables iM_rows iM_goals iM_differents iM_cases fM_from fM_to fM_whole fM_ways iM_plainRows fM_plainRow fM_kept fM_goalOver fM_goalUnder fM_goalMax fM_different ++ (WQ hQ aQ kQ hw fQ_inside_446 fQ_outside_446 fQ_shut_446 iQ_rows_446 iQ_allRows_446 iQ_columns_446 ++ (WW nW hw lw kw wl_x71 wb_x71 wG_x71))))) H → va_D A (WG hG aG kG hM hO hQ hw iG_made iG_keptNeeds fG_kept fG_need fG_turn iG_columns ++ (WO hO aO kO hM hQ hw iO_answered iO_searched iO_searchedRelaxed iO_counted fO_countedCase gO_goalNumber gO_goalScale fO_start fO_column fO_chosen ++ (WM hM aM kM iM_stands iM_variables iM_rows iM_goals iM_differents iM_cases fM_from fM_to fM_whole fM_ways iM_plainRows fM_plainRow fM_kept fM_goalOver fM_goalUnder fM_goalMax fM_different ++ (WQ hQ aQ kQ hw fQ_inside_446 fQ_outside_446 fQ_shut_446 iQ_rows_446 iQ_allRows_446 iQ_columns_446 ++ (WW nW hw lw kw wl_x71 wb_x71 wG_x71))))) → va_S A s.heap H locs → lv_has ls 5 [(4, .int l4_x71), (3, .int l3_x71), (2, .int l2_x20), (1, .int (iI (iM_variables.toInt + 1))), (0, .ref (hG 0))] → W p l e _ s m _ below meth c H locs 0 0 _ (F0 m 71 ls [])) => loop (29) wl_446 wb_446 wG_446 0 0 _ _ _ b_wl_446 b_wb_446 (show 0 ≤ (0 : Int32).toInt ∧ (0 : Int32).toInt ≤ 28 from by decide) (show 0 ≤ (0 : Int32).toInt ∧ (0 : Int32).toInt ≤ 56 from by decide) (show (0 : Int32).toInt ≤ 2 * (0 : Int32).toInt from by decide) (show (0 : Int32).toInt ≤ (0 : Int32).toInt + iM_plainRows.toInt from by have h8 : (0 : Int32).toInt = 0 := (by decide); omega) ((by have e9 : (0 : Int32).toInt = 0 := (by decide : (0 : Int32).toInt = 0); omega)) hP hD hS hl) ?_
      intro n9
      induction n9 with
      | zero => intro wl_x71 wb_x71 wG_x71 l4_x71 l3_x71 H locs ls b_wl_x71 b_wb_x71 b_l4_x71 b_l3_x71 hl1 hl2 hf9; exact False.elim (by omega)
      | succ n9 ihx71 =>
        intro wl_x71 wb_x71 wG_x71 l4_x71 l3_x71 H locs ls b_wl_x71 b_wb_x71 b_l4_x71 b_l3_x71 hl1 hl2 hfx71 hP hD hS hl
        refine lv_iload hx hb dX3_findShortfall_71 (lv_at hl 0 rfl) ?_
        refine lv_aload_n hx hb dX3_findShortfall_73 rfl (lv_at hl 4 rfl) ?_
        refine va_get (D := (dC, dI)) (ci := 3) (v := .ref (hM 0)) (C := RX3) (T := TX3) (N := 17) hx hb hts iwsMX3_findShortfall_in3 hown hK hP 0 rfl rfl 0 (by decide) (hts _ hm_m_X3_findShortfall_0) (fun _ h9 => h9) rfl dX3_findShortfall_74 ?_
        have p9 := cj_5_2 (WG hG aG kG hM hO hQ hw iG_made iG_keptNeeds fG_kept fG_need fG_turn iG_columns) (WO hO aO kO hM hQ hw iO_answered iO_searched iO_searchedRelaxed iO_counted fO_countedCase gO_goalNumber gO_goalScale fO_start fO_column fO_chosen) (WM hM aM kM iM_stands iM_variables iM_rows iM_goals iM_differents iM_cases fM_from fM_to fM_whole fM_ways iM_plainRows fM_plainRow fM_kept fM_goalOver fM_goalUnder fM_goalMax fM_different) (WQ hQ aQ kQ hw fQ_inside_446 fQ_outside_446 fQ_shut_446 iQ_rows_446 iQ_allRows_446 iQ_columns_446) (WW nW hw lw kw wl_x71 wb_x71 wG_x71)
        have hPc := hP.mem (fun q h => p9.mem_iff.mpr (List.mem_append_left _ h))
        have hDc := (hD.perm p9).left
        have hKc : va_K (dC, dI) vwCl (tM kM) _ := hK.sub [15, 16, 17, 18, 19, 20, 21, 22, 23, 24] rfl
        have hFc := freeG p9 hD hS hA
        refine va_calli (va_runV (As := []) (rest := [.int l4_x71]) ⟨hx, hb, hml, hown, hts⟩ (m_X1_needs l dC dI hM aM kM iM_stands iM_variables iM_rows iM_goals iM_differents iM_cases fM_from fM_to fM_whole fM_ways iM_plainRows fM_plainRow fM_kept fM_goalOver fM_goalUnder fM_goalMax fM_different (b_iM_stands) (b_iM_variables) (b_iM_rows) (b_iM_goals) (b_iM_differents) (b_iM_cases) b_fM_ways (b_iM_plainRows) b_fM_plainRow (by first | with_reducible assumption | omega | assumption) H.size) (cwV 0 hts gwsMX3_findShortfall_2 rfl rfl rfl hd_yX1_needs_RX1 (by decide +kernel)) (fz_pre (va_recv hK hP (ci := 1) (q0 := 17) rfl rfl) hPc hKc hDc) rfl rfl hl.1 rfl (lv_room (Nat.le_of_ble_eq_true rfl)) dX3_findShortfall_77 (by decide +kernel)) hS (fun q _ h => hFc q h) hFc (fun r591 u t9_ H locs ht hvm hw9 hB9 hz1 hk1 hS => ?_)
        revert hw9
        refine fz_a2 ?_
        intro b_r591 f591_0
        have p8 := p9
        obtain ⟨hP, hD⟩ := frameG p9 p8 hP hD hk1 hFc (fz_P ht hB9.1) hB9.2
        refine lv_icmp_ge (tgt := 136) hx hb dX3_findShortfall_80 (by decide) (fun c_80 => ?_) (fun c_80 => ?_)
        · have t_80 : l4_x71.toInt ≥ r591.toInt := toI_ge c_80 rfl rfl
          refine lv_aload_n hx hb dX3_findShortfall_136 rfl (lv_at hl 4 rfl) ?_
          refine va_get (D := (dC, dI)) (ci := 3) (v := .ref (hQ 0)) (C := RX3) (T := TX3) (N := 17) hx hb hts iwsMX3_findShortfall_in3 hown hK hP 0 rfl rfl 2 (by decide) (hts _ hm_m_X3_findShortfall_2) (fun _ h9 => h9) rfl dX3_findShortfall_137 ?_
          have p9 := cj_5_3_4 (WG hG aG kG hM hO hQ hw iG_made iG_keptNeeds fG_kept fG_need fG_turn iG_columns) (WO hO aO kO hM hQ hw iO_answered iO_searched iO_searchedRelaxed iO_counted fO_countedCase gO_goalNumber gO_goalScale fO_start fO_column fO_chosen) (WM hM aM kM iM_stands iM_variables iM_rows iM_goals iM_differents iM_cases fM_from fM_to fM_whole fM_ways iM_plainRows fM_plainRow fM_kept fM_goalOver fM_goalUnder fM_goalMax fM_different) (WQ hQ aQ kQ hw fQ_inside_446 fQ_outside_446 fQ_shut_446 iQ_rows_446 iQ_allRows_446 iQ_columns_446) (WW nW hw lw kw wl_x71 wb_x71 wG_x71)
          have hPc := hP.mem (fun q h => p9.mem_iff.mpr (List.mem_append_left _ h))
          have hDc := (hD.perm p9).left
          have hKc : va_K (dC, dI) vwCl (tQ kQ ++ (tW kw)) _ := hK.sub [25, 26, 27, 28, 29] rfl
          have hFc := freeG p9 hD hS hA
          refine va_calli (va_runV (As := []) (rest := []) ⟨hx, hb, hml, hown, hts⟩ (m_X6_canKeep l dC dI hQ aQ kQ hw fQ_inside_446 fQ_outside_446 fQ_shut_446 iQ_rows_446 iQ_allRows_446 iQ_columns_446 nW lw kw wl_x71 wb_x71 wG_x71 (b_iQ_rows_446) (b_iQ_allRows_446) (b_iQ_columns_446) (by first | with_reducible assumption | omega | assumption) b_wl_x71 b_wb_x71 (by omega) H.size) (cwV 0 hts gwsMX3_findShortfall_5 rfl rfl rfl hd_yX6_canKeep_RX6 (by decide +kernel)) (fz_pre (va_recv hK hP (ci := 6) (q0 := 28) rfl rfl) hPc hKc hDc) rfl rfl hl.1 rfl (lv_room (Nat.le_of_ble_eq_true rfl)) dX3_findShortfall_140 (by decide +kernel)) hS (fun q _ h => hFc q h) hFc (fun r596 u t9_ H locs ht hvm hw9 hB9 hz1 hk1 hS => ?_)
          revert u hw9 hB9
          refine fz_p5 ?_
          intro fQ_inside_596 fQ_outside_596 wl_596 wb_596 wG_596 hw9 hB9
          try dsimp only at hw9 hB9
          revert hw9
          refine fz_a3 ?_
          intro b_wl_596 b_wb_596 b_r596
          have p8 := cj_5_3_4 (WG hG aG kG hM hO hQ hw iG_made iG_keptNeeds fG_kept fG_need fG_turn iG_columns) (WO hO aO kO hM hQ hw iO_answered iO_searched iO_searchedRelaxed iO_counted fO_countedCase gO_goalNumber gO_goalScale fO_start fO_column fO_chosen) (WM hM aM kM iM_stands iM_variables iM_rows iM_goals iM_differents iM_cases fM_from fM_to fM_whole fM_ways iM_plainRows fM_plainRow fM_kept fM_goalOver fM_goalUnder fM_goalMax fM_different) (WQ hQ aQ kQ hw fQ_inside_596 fQ_outside_596 fQ_shut_446 iQ_rows_446 iQ_allRows_446 iQ_columns_446) (WW nW hw lw kw wl_596 wb_596 wG_596)
          obtain ⟨hP, hD⟩ := frameG p9 p8 hP hD hk1 hFc (fz_P ht hB9.1) hB9.2
          refine lv_pop hx hb dX3_findShortfall_143 rfl ?_
          refine lv_aload_n hx hb dX3_findShortfall_144 rfl (lv_at hl 4 rfl) ?_
          refine va_get (D := (dC, dI)) (ci := 3) (v := .ref (hQ 0)) (C := RX3) (T := TX3) (N := 17) hx hb hts iwsMX3_findShortfall_in3 hown hK hP 0 rfl rfl 2 (by decide) (hts _ hm_m_X3_findShortfall_2) (fun _ h9 => h9) rfl dX3_findShortfall_145 ?_
          refine lv_iload_n hx hb dX3_findShortfall_148 rfl (lv_at hl 3 rfl) ?_
          refine lv_iconst (v := 1) hx hb dX3_findShortfall_149 (by decide) ?_
          refine lv_isub hx hb dX3_findShortfall_150 ?_
          refine lv_topi (fun y597 hy597 => ?_)
          obtain rfl : (iI ((iM_variables.toInt + 1) - 1)) = y597 := (hy597.trans (iI_sub2 rfl (by decide : (1 : Int32) = iI 1))).symm
          have p9 := cj_5_3_4 (WG hG aG kG hM hO hQ hw iG_made iG_keptNeeds fG_kept fG_need fG_turn iG_columns) (WO hO aO kO hM hQ hw iO_answered iO_searched iO_searchedRelaxed iO_counted fO_countedCase gO_goalNumber gO_goalScale fO_start fO_column fO_chosen) (WM hM aM kM iM_stands iM_variables iM_rows iM_goals iM_differents iM_cases fM_from fM_to fM_whole fM_ways iM_plainRows fM_plainRow fM_kept fM_goalOver fM_goalUnder fM_goalMax fM_different) (WQ hQ aQ kQ hw fQ_inside_596 fQ_outside_596 fQ_shut_446 iQ_rows_446 iQ_allRows_446 iQ_columns_446) (WW nW hw lw kw wl_596 wb_596 wG_596)
          have hPc := hP.mem (fun q h => p9.mem_iff.mpr (List.mem_append_left _ h))
          have hDc := (hD.perm p9).left
          have hKc : va_K (dC, dI) vwCl (tQ kQ ++ (tW kw)) _ := hK.sub [25, 26, 27, 28, 29] rfl
          have hFc := freeG p9 hD hS hA
          refine va_calli (va_runV (As := [.int (iI ((iM_variables.toInt + 1) - 1))]) (rest := []) ⟨hx, hb, hml, hown, hts⟩ (m_X6_sink l dC dI hQ aQ kQ hw fQ_inside_596 fQ_outside_596 fQ_shut_446 iQ_rows_446 iQ_allRows_446 iQ_columns_446 nW lw kw wl_596 wb_596 wG_596 (iI ((iM_variables.toInt + 1) - 1)) (b_iQ_rows_446) (b_iQ_allRows_446) (b_iQ_columns_446) (by first | with_reducible assumption | omega | assumption) b_wl_596 b_wb_596 (by omega) H.size) (cwV 1 hts gwsMX3_findShortfall_6 rfl rfl rfl hd_yX6_sink_RX6 (by decide +kernel)) (fz_pre (va_recv hK hP (ci := 6) (q0 := 28) rfl rfl) hPc hKc hDc) rfl rfl hl.1 rfl (lv_room (Nat.le_of_ble_eq_true rfl)) dX3_findShortfall_151 (by decide +kernel)) hS (fun q _ h => hFc q h) hFc (fun r598 u t9_ H locs ht hvm hw9 hB9 hz1 hk1 hS => ?_)
          revert u hw9 hB9
          refine fz_p5 ?_
          intro fQ_inside_598 fQ_outside_598 wl_598 wb_598 wG_598 hw9 hB9
          try dsimp only at hw9 hB9
          revert hw9
          refine fz_a3 ?_
          intro b_wl_598 b_wb_598 b_r598
          have p8 := cj_5_3_4 (WG hG aG kG hM hO hQ hw iG_made iG_keptNeeds fG_kept fG_need fG_turn iG_columns) (WO hO aO kO hM hQ hw iO_answered iO_searched iO_searchedRelaxed iO_counted fO_countedCase gO_goalNumber gO_goalScale fO_start fO_column fO_chosen) (WM hM aM kM iM_stands iM_variables iM_rows iM_goals iM_differents iM_cases fM_from fM_to fM_whole fM_ways iM_plainRows fM_plainRow fM_kept fM_goalOver fM_goalUnder fM_goalMax fM_different) (WQ hQ aQ kQ hw fQ_inside_598 fQ_outside_598 fQ_shut_446 iQ_rows_446 iQ_allRows_446 iQ_columns_446) (WW nW hw lw kw wl_598 wb_598 wG_598)
          obtain ⟨hP, hD⟩ := frameG p9 p8 hP hD hk1 hFc (fz_P ht hB9.1) hB9.2
          refine lv_pop hx hb dX3_findShortfall_154 rfl ?_
          refine lv_aload_n hx hb dX3_findShortfall_155 rfl (lv_at hl 4 rfl) ?_
          refine va_get (D := (dC, dI)) (ci := 3) (v := .ref (hw 472)) (C := RX3) (T := TX3) (N := 17) hx hb hts iwsMX3_findShortfall_in3 hown hK hP 0 rfl rfl 12 (by decide) (hts _ hm_m_X3_findShortfall_3) (fun _ h9 => h9) rfl dX3_findShortfall_156 ?_
          refine lv_aload_n hx hb dX3_findShortfall_159 rfl (lv_at hl 4 rfl) ?_
          refine va_get (D := (dC, dI)) (ci := 3) (v := .ref (hQ 0)) (C := RX3) (T := TX3) (N := 17) hx hb hts iwsMX3_findShortfall_in3 hown hK hP 0 rfl rfl 2 (by decide) (hts _ hm_m_X3_findShortfall_2) (fun _ h9 => h9) rfl dX3_findShortfall_160 ?_
          refine va_get (D := (dC, dI)) (ci := 6) (v := .ref (hw 400)) (C := RX6) (T := TX6) (N := 13) hx hb hts iwsMX3_findShortfall_in6 hown hK hP 28 rfl rfl 4 (by decide) (hts (.fieldLink RX3 144 "OptimaWorks$Tableau" "under" "LOptimaWorks$Whole;") (by decide +kernel)) (fun _ h9 => h9) rfl dX3_findShortfall_163 ?_
          have p9 := cj_5_4 (WG hG aG kG hM hO hQ hw iG_made iG_keptNeeds fG_kept fG_need fG_turn iG_columns) (WO hO aO kO hM hQ hw iO_answered iO_searched iO_searchedRelaxed iO_counted fO_countedCase gO_goalNumber gO_goalScale fO_start fO_column fO_chosen) (WM hM aM kM iM_stands iM_variables iM_rows iM_goals iM_differents iM_cases fM_from fM_to fM_whole fM_ways iM_plainRows fM_plainRow fM_kept fM_goalOver fM_goalUnder fM_goalMax fM_different) (WQ hQ aQ kQ hw fQ_inside_598 fQ_outside_598 fQ_shut_446 iQ_rows_446 iQ_allRows_446 iQ_columns_446) (WW nW hw lw kw wl_598 wb_598 wG_598)
          have hPc := hP.mem (fun q h => p9.mem_iff.mpr (List.mem_append_left _ h))
          have hDc := (hD.perm p9).left
          have hKc : va_K (dC, dI) vwCl (tW kw) _ := hK.sub [29] rfl
          have hFc := freeG p9 hD hS hA
          refine va_callv (va_runV (As := [.ref (hw 400)]) (rest := []) ⟨hx, hb, hml, hown, hts⟩ (m_X8_copy l dC dI nW hw lw kw wl_598 wb_598 wG_598 472 400 b_wl_598 b_wb_598 (by first | with_reducible assumption | omega | (rw [iI_t (by omega) (by omega)]; omega) | decide | assumption) (by first | with_reducible assumption | omega | (rw [iI_t (by omega) (by omega)]; omega) | decide | assumption) H.size) (cwV 1 hts gwsMX3_findShortfall_7 rfl rfl rfl hd_yX8_copy_RX8 (by decide +kernel)) (fz_pre (va_recv hK hP (ci := 8) (q0 := 6 + (11 + (11 + (5 + (472))))) rfl (apR rfl (apR rfl (apR rfl (apR rfl (WW_o (by omega))))))) hPc hKc hDc) rfl rfl hl.1 rfl (lv_room (Nat.le_of_ble_eq_true rfl)) dX3_findShortfall_166 (by decide +kernel)) hS (fun q _ h => hFc q h) hFc (fun u t9_ H locs ht hvm hw9 hB9 hz1 hk1 hS => ?_)
          revert u hw9 hB9
          refine fz_p3 ?_
          intro wl_599 wb_599 wG_599 hw9 hB9
          try dsimp only at hw9 hB9
          revert hw9
          refine fz_a2 ?_
          intro b_wl_599 b_wb_599
          have p8 := cj_5_4 (WG hG aG kG hM hO hQ hw iG_made iG_keptNeeds fG_kept fG_need fG_turn iG_columns) (WO hO aO kO hM hQ hw iO_answered iO_searched iO_searchedRelaxed iO_counted fO_countedCase gO_goalNumber gO_goalScale fO_start fO_column fO_chosen) (WM hM aM kM iM_stands iM_variables iM_rows iM_goals iM_differents iM_cases fM_from fM_to fM_whole fM_ways iM_plainRows fM_plainRow fM_kept fM_goalOver fM_goalUnder fM_goalMax fM_different) (WQ hQ aQ kQ hw fQ_inside_598 fQ_outside_598 fQ_shut_446 iQ_rows_446 iQ_allRows_446 iQ_columns_446) (WW nW hw lw kw wl_599 wb_599 wG_599)
          obtain ⟨hP, hD⟩ := frameG p9 p8 hP hD hk1 hFc (fz_P ht hB9.1) hB9.2
          refine lv_aload_n hx hb dX3_findShortfall_169 rfl (lv_at hl 4 rfl) ?_
          refine lv_aload_n hx hb dX3_findShortfall_170 rfl (lv_at hl 4 rfl) ?_
          refine va_get (D := (dC, dI)) (ci := 3) (v := .ref (hw 471)) (C := RX3) (T := TX3) (N := 17) hx hb hts iwsMX3_findShortfall_in3 hown hK hP 0 rfl rfl 11 (by decide) (hts _ hm_m_X3_findShortfall_4) (fun _ h9 => h9) rfl dX3_findShortfall_171 ?_
          refine lv_iload_n hx hb dX3_findShortfall_174 rfl (lv_at hl 3 rfl) ?_
          refine lv_iconst (v := 1) hx hb dX3_findShortfall_175 (by decide) ?_
          refine lv_isub hx hb dX3_findShortfall_176 ?_
          refine lv_topi (fun y600 hy600 => ?_)
          obtain rfl : (iI ((iM_variables.toInt + 1) - 1)) = y600 := (hy600.trans (iI_sub2 rfl (by decide : (1 : Int32) = iI 1))).symm
          have hFc := allFree hD hS hA
          refine va_callv (va_runV (As := [.ref (hw 471), .int (iI ((iM_variables.toInt + 1) - 1))]) (rest := []) ⟨hx, hb, hml, hown, hts⟩ (m_X3_takeColumn l dC dI hG aG kG hM hO hQ hw iG_made iG_keptNeeds fG_kept fG_need fG_turn iG_columns aO kO iO_answered iO_searched iO_searchedRelaxed iO_counted fO_countedCase gO_goalNumber gO_goalScale fO_start fO_column fO_chosen aM kM iM_stands iM_variables iM_rows iM_goals iM_differents iM_cases fM_from fM_to fM_whole fM_ways iM_plainRows fM_plainRow fM_kept fM_goalOver fM_goalUnder fM_goalMax fM_different aQ kQ fQ_inside_598 fQ_outside_598 fQ_shut_446 iQ_rows_446 iQ_allRows_446 iQ_columns_446 nW lw kw wl_599 wb_599 wG_599 471 (iI ((iM_variables.toInt + 1) - 1)) (b_iG_made) b_fG_need (b_iG_columns) (b_iO_answered) (b_iO_searched) (b_iO_searchedRelaxed) (b_iO_counted) b_fO_countedCase b_fO_column b_fO_chosen (b_iM_stands) (b_iM_variables) (b_iM_rows) (b_iM_goals) (b_iM_differents) (b_iM_cases) b_fM_ways (b_iM_plainRows) b_fM_plainRow (by first | with_reducible assumption | omega | assumption) (b_iQ_rows_446) (b_iQ_allRows_446) (b_iQ_columns_446) (by first | with_reducible assumption | omega | assumption) b_wl_599 b_wb_599 (by omega) (by first | with_reducible assumption | omega | (rw [iI_t (by omega) (by omega)]; omega) | decide | assumption) H.size) (cwV 2 hts gwsMX3_findShortfall_8 rfl rfl rfl hd_yX3_takeColumn_RX3 (by decide +kernel)) (fz_pre (va_recv hK hP (ci := 3) (q0 := 0) rfl rfl) hP hK hD) rfl rfl hl.1 rfl (lv_room (Nat.le_of_ble_eq_true rfl)) dX3_findShortfall_177 (by decide +kernel)) hS (fun q _ h => hFc q h) hFc (fun u t9_ H locs ht hvm hw9 hB9 hz1 hk1 hS => ?_)
          revert u hw9 hB9
          refine fz_p3 ?_
          intro wl_601 wb_601 wG_601 hw9 hB9
          try dsimp only at hw9 hB9
          revert hw9
          refine fz_a2 ?_
          intro b_wl_601 b_wb_601
          have hP : va_P (dC, dI) vwCl (WG hG aG kG hM hO hQ hw iG_made iG_keptNeeds fG_kept fG_need fG_turn iG_columns ++ (WO hO aO kO hM hQ hw iO_answered iO_searched iO_searchedRelaxed iO_counted fO_countedCase gO_goalNumber gO_goalScale fO_start fO_column fO_chosen ++ (WM hM aM kM iM_stands iM_variables iM_rows iM_goals iM_differents iM_cases fM_from fM_to fM_whole fM_ways iM_plainRows fM_plainRow fM_kept fM_goalOver fM_goalUnder fM_goalMax fM_different ++ (WQ hQ aQ kQ hw fQ_inside_598 fQ_outside_598 fQ_shut_446 iQ_rows_446 iQ_allRows_446 iQ_columns_446 ++ (WW nW hw lw kw wl_601 wb_601 wG_601))))) H := fz_P ht hB9.1
          have hD := fz_sd hP (hB9.2.weaken (fun _ q _ h => hFc q.1 h)) rfl
          refine lv_iconst (v := 0) hx hb dX3_findShortfall_180 (by decide) ?_
          refine lv_istore hx hb dX3_findShortfall_181 hl (by decide) rfl (fun ls (hl : lv_has ls _ ([(4, .int 0), (3, .int l3_x71), (2, .int l2_x20), (1, .int (iI (iM_variables.toInt + 1))), (0, .ref (hG 0))])) => ?_)
          have hl : lv_has _ _ ([(4, .int 0), (3, .int l3_x71), (2, .int l2_x20), (1, .int (iI (iM_variables.toInt + 1))), (0, .ref (hG 0))]) := lv_sub hl [0, 1, 2, 3, 4] rfl
          refine (fun (loop : ∀ (n9 : Nat) (wl_x183 : Nat → Int32) (wb_x183 : Nat → Int32) (wG_x183 : Nat → Nat → Int64) (l4_x183 : Int32) (H : Heap) (locs : List Loc) (ls : Array Slot), (∀ q : Nat, 0 ≤ (wl_x183 q).toInt ∧ (wl_x183 q).toInt ≤ 14) → (∀ q : Nat, 0 ≤ (wb_x183 q).toInt ∧ (wb_x183 q).toInt ≤ 1) → (0 ≤ l4_x183.toInt ∧ l4_x183.toInt ≤ 8) → (8 - l4_x183.toInt < ((n9 : Nat) : Int)) → va_P (dC, dI) vwCl (WG hG aG kG hM hO hQ hw iG_made iG_keptNeeds fG_kept fG_need fG_turn iG_columns ++ (WO hO aO kO hM hQ hw iO_answered iO_searched iO_searchedRelaxed iO_counted fO_countedCase gO_goalNumber gO_goalScale fO_start fO_column fO_chosen ++ (WM hM aM kM iM_stands iM_variables iM_rows iM_goals iM_differents iM_cases fM_from fM_to fM_whole fM_ways iM_plainRows fM_plainRow fM_kept fM_goalOver fM_goalUnder fM_goalMax fM_different ++ (WQ hQ aQ kQ hw fQ_inside_598 fQ_outside_598 fQ_shut_446 iQ_rows_446 iQ_allRows_446 iQ_columns_446 ++ (WW nW hw lw kw wl_x183 wb_x183 wG_x183))))) H → va_D A (WG hG aG kG hM hO hQ hw iG_made iG_keptNeeds fG_kept fG_need fG_turn iG_columns ++ (WO hO aO kO hM hQ hw iO_answered iO_searched iO_searchedRelaxed iO_counted fO_countedCase gO_goalNumber gO_goalScale fO_start fO_column fO_chosen ++ (WM hM aM kM iM_stands iM_variables iM_rows iM_goals iM_differents iM_cases fM_from fM_to fM_whole fM_ways iM_plainRows fM_plainRow fM_kept fM_goalOver fM_goalUnder fM_goalMax fM_different ++ (WQ hQ aQ kQ hw fQ_inside_598 fQ_outside_598 fQ_shut_446 iQ_rows_446 iQ_allRows_446 iQ_columns_446 ++ (WW nW hw lw kw wl_x183 wb_x183 wG_x183))))) → va_S A s.heap H locs → lv_has ls 5 [(4, .int l4_x183), (3, .int l3_x71), (2, .int l2_x20), (1, .int (iI (iM_variables.toInt + 1))), (0, .ref (hG 0))] → W p l e _ s m _ below meth c H locs 0 0 _ (F0 m 183 ls [])) => loop (9) wl_601 wb_601 wG_601 0 _ _ _ b_wl_601 b_wb_601 (show 0 ≤ (0 : Int32).toInt ∧ (0 : Int32).toInt ≤ 8 from by decide) ((by have e9 : (0 : Int32).toInt = 0 := (by decide : (0 : Int32).toInt = 0); omega)) hP hD hS hl) ?_
          intro n9
          induction n9 with
          | zero => intro wl_x183 wb_x183 wG_x183 l4_x183 H locs ls b_wl_x183 b_wb_x183 b_l4_x183 hf9; exact False.elim (by omega)
          | succ n9 ihx183 =>
            intro wl_x183 wb_x183 wG_x183 l4_x183 H locs ls b_wl_x183 b_wb_x183 b_l4_x183 hfx183 hP hD hS hl
            refine lv_iload hx hb dX3_findShortfall_183 (lv_at hl 0 rfl) ?_
            refine lv_aload_n hx hb dX3_findShortfall_185 rfl (lv_at hl 4 rfl) ?_
            refine va_get (D := (dC, dI)) (ci := 3) (v := .ref (hM 0)) (C := RX3) (T := TX3) (N := 17) hx hb hts iwsMX3_findShortfall_in3 hown hK hP 0 rfl rfl 0 (by decide) (hts _ hm_m_X3_findShortfall_0) (fun _ h9 => h9) rfl dX3_findShortfall_186 ?_
            refine va_get (D := (dC, dI)) (ci := 1) (v := .int iM_variables) (C := RX1) (T := TX1) (N := 17) hx hb hts iwsMX3_findShortfall_in1 hown hK hP 17 rfl rfl 1 (by decide) (hts _ hm_m_X3_findShortfall_1) (fun _ h9 => h9) rfl dX3_findShortfall_189 ?_
            refine lv_icmp_ge (tgt := 264) hx hb dX3_findShortfall_192 (by decide) (fun c_192 => ?_) (fun c_192 => ?_)
            · have t_192 : l4_x183.toInt ≥ iM_variables.toInt := toI_ge c_192 rfl rfl
              refine lv_aload_n hx hb dX3_findShortfall_264 rfl (lv_at hl 4 rfl) ?_
              refine va_get (D := (dC, dI)) (ci := 3) (v := .ref (hw 461)) (C := RX3) (T := TX3) (N := 17) hx hb hts iwsMX3_findShortfall_in3 hown hK hP 0 rfl rfl 8 (by decide) (hts (.fieldLink RX3 34 "OptimaWorks$Prover" "proved" "LOptimaWorks$Whole;") (by decide +kernel)) (fun _ h9 => h9) rfl dX3_findShortfall_265 ?_
              refine lv_aload_n hx hb dX3_findShortfall_268 rfl (lv_at hl 4 rfl) ?_
              refine va_get (D := (dC, dI)) (ci := 3) (v := .ref (hw 471)) (C := RX3) (T := TX3) (N := 17) hx hb hts iwsMX3_findShortfall_in3 hown hK hP 0 rfl rfl 11 (by decide) (hts _ hm_m_X3_findShortfall_4) (fun _ h9 => h9) rfl dX3_findShortfall_269 ?_
              have p9 := cj_5_4 (WG hG aG kG hM hO hQ hw iG_made iG_keptNeeds fG_kept fG_need fG_turn iG_columns) (WO hO aO kO hM hQ hw iO_answered iO_searched iO_searchedRelaxed iO_counted fO_countedCase gO_goalNumber gO_goalScale fO_start fO_column fO_chosen) (WM hM aM kM iM_stands iM_variables iM_rows iM_goals iM_differents iM_cases fM_from fM_to fM_whole fM_ways iM_plainRows fM_plainRow fM_kept fM_goalOver fM_goalUnder fM_goalMax fM_different) (WQ hQ aQ kQ hw fQ_inside_598 fQ_outside_598 fQ_shut_446 iQ_rows_446 iQ_allRows_446 iQ_columns_446) (WW nW hw lw kw wl_x183 wb_x183 wG_x183)
              have hPc := hP.mem (fun q h => p9.mem_iff.mpr (List.mem_append_left _ h))
              have hDc := (hD.perm p9).left
              have hKc : va_K (dC, dI) vwCl (tW kw) _ := hK.sub [29] rfl
              have hFc := freeG p9 hD hS hA
              refine va_callv (va_runV (As := [.ref (hw 471)]) (rest := []) ⟨hx, hb, hml, hown, hts⟩ (m_X8_copy l dC dI nW hw lw kw wl_x183 wb_x183 wG_x183 461 471 b_wl_x183 b_wb_x183 (by first | with_reducible assumption | omega | (rw [iI_t (by omega) (by omega)]; omega) | decide | assumption) (by first | with_reducible assumption | omega | (rw [iI_t (by omega) (by omega)]; omega) | decide | assumption) H.size) (cwV 1 hts gwsMX3_findShortfall_7 rfl rfl rfl hd_yX8_copy_RX8 (by decide +kernel)) (fz_pre (va_recv hK hP (ci := 8) (q0 := 6 + (11 + (11 + (5 + (461))))) rfl (apR rfl (apR rfl (apR rfl (apR rfl (WW_o (by omega))))))) hPc hKc hDc) rfl rfl hl.1 rfl (lv_room (Nat.le_of_ble_eq_true rfl)) dX3_findShortfall_272 (by decide +kernel)) hS (fun q _ h => hFc q h) hFc (fun u t9_ H locs ht hvm hw9 hB9 hz1 hk1 hS => ?_)
              revert u hw9 hB9
              refine fz_p3 ?_
              intro wl_648 wb_648 wG_648 hw9 hB9
              try dsimp only at hw9 hB9
              revert hw9
              refine fz_a2 ?_
              intro b_wl_648 b_wb_648
              have p8 := cj_5_4 (WG hG aG kG hM hO hQ hw iG_made iG_keptNeeds fG_kept fG_need fG_turn iG_columns) (WO hO aO kO hM hQ hw iO_answered iO_searched iO_searchedRelaxed iO_counted fO_countedCase gO_goalNumber gO_goalScale fO_start fO_column fO_chosen) (WM hM aM kM iM_stands iM_variables iM_rows iM_goals iM_differents iM_cases fM_from fM_to fM_whole fM_ways iM_plainRows fM_plainRow fM_kept fM_goalOver fM_goalUnder fM_goalMax fM_different) (WQ hQ aQ kQ hw fQ_inside_598 fQ_outside_598 fQ_shut_446 iQ_rows_446 iQ_allRows_446 iQ_columns_446) (WW nW hw lw kw wl_648 wb_648 wG_648)
              obtain ⟨hP, hD⟩ := frameG p9 p8 hP hD hk1 hFc (fz_P ht hB9.1) hB9.2
              refine lv_aload_n hx hb dX3_findShortfall_275 rfl (lv_at hl 4 rfl) ?_
              refine va_get (D := (dC, dI)) (ci := 3) (v := .ref (hw 462)) (C := RX3) (T := TX3) (N := 17) hx hb hts iwsMX3_findShortfall_in3 hown hK hP 0 rfl rfl 9 (by decide) (hts (.fieldLink RX3 37 "OptimaWorks$Prover" "provedUnder" "LOptimaWorks$Whole;") (by decide +kernel)) (fun _ h9 => h9) rfl dX3_findShortfall_276 ?_
              refine lv_aload_n hx hb dX3_findShortfall_279 rfl (lv_at hl 4 rfl) ?_
              refine va_get (D := (dC, dI)) (ci := 3) (v := .ref (hw 472)) (C := RX3) (T := TX3) (N := 17) hx hb hts iwsMX3_findShortfall_in3 hown hK hP 0 rfl rfl 12 (by decide) (hts _ hm_m_X3_findShortfall_3) (fun _ h9 => h9) rfl dX3_findShortfall_280 ?_
              have p9 := cj_5_4 (WG hG aG kG hM hO hQ hw iG_made iG_keptNeeds fG_kept fG_need fG_turn iG_columns) (WO hO aO kO hM hQ hw iO_answered iO_searched iO_searchedRelaxed iO_counted fO_countedCase gO_goalNumber gO_goalScale fO_start fO_column fO_chosen) (WM hM aM kM iM_stands iM_variables iM_rows iM_goals iM_differents iM_cases fM_from fM_to fM_whole fM_ways iM_plainRows fM_plainRow fM_kept fM_goalOver fM_goalUnder fM_goalMax fM_different) (WQ hQ aQ kQ hw fQ_inside_598 fQ_outside_598 fQ_shut_446 iQ_rows_446 iQ_allRows_446 iQ_columns_446) (WW nW hw lw kw wl_648 wb_648 wG_648)
              have hPc := hP.mem (fun q h => p9.mem_iff.mpr (List.mem_append_left _ h))
              have hDc := (hD.perm p9).left
              have hKc : va_K (dC, dI) vwCl (tW kw) _ := hK.sub [29] rfl
              have hFc := freeG p9 hD hS hA
              refine va_callv (va_runV (As := [.ref (hw 472)]) (rest := []) ⟨hx, hb, hml, hown, hts⟩ (m_X8_copy l dC dI nW hw lw kw wl_648 wb_648 wG_648 462 472 b_wl_648 b_wb_648 (by first | with_reducible assumption | omega | (rw [iI_t (by omega) (by omega)]; omega) | decide | assumption) (by first | with_reducible assumption | omega | (rw [iI_t (by omega) (by omega)]; omega) | decide | assumption) H.size) (cwV 1 hts gwsMX3_findShortfall_7 rfl rfl rfl hd_yX8_copy_RX8 (by decide +kernel)) (fz_pre (va_recv hK hP (ci := 8) (q0 := 6 + (11 + (11 + (5 + (462))))) rfl (apR rfl (apR rfl (apR rfl (apR rfl (WW_o (by omega))))))) hPc hKc hDc) rfl rfl hl.1 rfl (lv_room (Nat.le_of_ble_eq_true rfl)) dX3_findShortfall_283 (by decide +kernel)) hS (fun q _ h => hFc q h) hFc (fun u t9_ H locs ht hvm hw9 hB9 hz1 hk1 hS => ?_)
              revert u hw9 hB9
              refine fz_p3 ?_
              intro wl_649 wb_649 wG_649 hw9 hB9
              try dsimp only at hw9 hB9
              revert hw9
              refine fz_a2 ?_
              intro b_wl_649 b_wb_649
              have p8 := cj_5_4 (WG hG aG kG hM hO hQ hw iG_made iG_keptNeeds fG_kept fG_need fG_turn iG_columns) (WO hO aO kO hM hQ hw iO_answered iO_searched iO_searchedRelaxed iO_counted fO_countedCase gO_goalNumber gO_goalScale fO_start fO_column fO_chosen) (WM hM aM kM iM_stands iM_variables iM_rows iM_goals iM_differents iM_cases fM_from fM_to fM_whole fM_ways iM_plainRows fM_plainRow fM_kept fM_goalOver fM_goalUnder fM_goalMax fM_different) (WQ hQ aQ kQ hw fQ_inside_598 fQ_outside_598 fQ_shut_446 iQ_rows_446 iQ_allRows_446 iQ_columns_446) (WW nW hw lw kw wl_649 wb_649 wG_649)
              obtain ⟨hP, hD⟩ := frameG p9 p8 hP hD hk1 hFc (fz_P ht hB9.1) hB9.2
              refine lv_aload_n hx hb dX3_findShortfall_286 rfl (lv_at hl 4 rfl) ?_
              refine va_get (D := (dC, dI)) (ci := 3) (v := .ref (hw 460)) (C := RX3) (T := TX3) (N := 17) hx hb hts iwsMX3_findShortfall_in3 hown hK hP 0 rfl rfl 7 (by decide) (hts (.fieldLink RX3 30 "OptimaWorks$Prover" "multiplierUnder" "LOptimaWorks$Whole;") (by decide +kernel)) (fun _ h9 => h9) rfl dX3_findShortfall_287 ?_
              refine lv_lconst (v := 1) hx hb dX3_findShortfall_290 (by decide) ?_
              have p9 := cj_5_4 (WG hG aG kG hM hO hQ hw iG_made iG_keptNeeds fG_kept fG_need fG_turn iG_columns) (WO hO aO kO hM hQ hw iO_answered iO_searched iO_searchedRelaxed iO_counted fO_countedCase gO_goalNumber gO_goalScale fO_start fO_column fO_chosen) (WM hM aM kM iM_stands iM_variables iM_rows iM_goals iM_differents iM_cases fM_from fM_to fM_whole fM_ways iM_plainRows fM_plainRow fM_kept fM_goalOver fM_goalUnder fM_goalMax fM_different) (WQ hQ aQ kQ hw fQ_inside_598 fQ_outside_598 fQ_shut_446 iQ_rows_446 iQ_allRows_446 iQ_columns_446) (WW nW hw lw kw wl_649 wb_649 wG_649)
              have hPc := hP.mem (fun q h => p9.mem_iff.mpr (List.mem_append_left _ h))
              have hDc := (hD.perm p9).left
              have hKc : va_K (dC, dI) vwCl (tW kw) _ := hK.sub [29] rfl
              have hFc := freeG p9 hD hS hA
              refine va_callv (va_runV (As := [.long 1]) (rest := []) ⟨hx, hb, hml, hown, hts⟩ (m_X8_setLong l dC dI nW hw lw kw wl_649 wb_649 wG_649 460 1 b_wl_649 b_wb_649 (by first | with_reducible assumption | omega | (rw [iI_t (by omega) (by omega)]; omega) | decide | assumption) H.size) (cwV 1 hts gwsMX3_findShortfall_10 rfl rfl rfl hd_yX8_setLong_RX8 (by decide +kernel)) (fz_pre (va_recv hK hP (ci := 8) (q0 := 6 + (11 + (11 + (5 + (460))))) rfl (apR rfl (apR rfl (apR rfl (apR rfl (WW_o (by omega))))))) hPc hKc hDc) rfl rfl hl.1 rfl (lv_room (Nat.le_of_ble_eq_true rfl)) dX3_findShortfall_291 (by decide +kernel)) hS (fun q _ h => hFc q h) hFc (fun u t9_ H locs ht hvm hw9 hB9 hz1 hk1 hS => ?_)
              revert u hw9 hB9
              refine fz_p3 ?_
              intro wl_650 wb_650 wG_650 hw9 hB9
              try dsimp only at hw9 hB9
              revert hw9
              refine fz_a2 ?_
              intro b_wl_650 b_wb_650
              have p8 := cj_5_4 (WG hG aG kG hM hO hQ hw iG_made iG_keptNeeds fG_kept fG_need fG_turn iG_columns) (WO hO aO kO hM hQ hw iO_answered iO_searched iO_searchedRelaxed iO_counted fO_countedCase gO_goalNumber gO_goalScale fO_start fO_column fO_chosen) (WM hM aM kM iM_stands iM_variables iM_rows iM_goals iM_differents iM_cases fM_from fM_to fM_whole fM_ways iM_plainRows fM_plainRow fM_kept fM_goalOver fM_goalUnder fM_goalMax fM_different) (WQ hQ aQ kQ hw fQ_inside_598 fQ_outside_598 fQ_shut_446 iQ_rows_446 iQ_allRows_446 iQ_columns_446) (WW nW hw lw kw wl_650 wb_650 wG_650)
              obtain ⟨hP, hD⟩ := frameG p9 p8 hP hD hk1 hFc (fz_P ht hB9.1) hB9.2
              refine W.widen (k := 0) (n := 0) (by decide +kernel) (by decide +kernel) ?_
              exact W.vret hx hb hr (fun t9_ ht hW => ⟨⟨(fQ_inside_598, fQ_outside_598, fQ_shut_446, iQ_rows_446, iQ_allRows_446, iQ_columns_446, wl_650, wb_650, wG_650), rfl, ⟨b_iQ_rows_446, b_iQ_allRows_446, b_iQ_columns_446, b_wl_650, b_wb_650, (by (try dsimp only); exact (by first | with_reducible assumption | omega | assumption))⟩, by rw [ht]; exact hP, hD⟩, hS.F ht⟩) hS.2.2 dX3_findShortfall_294
            · have t_192 : ¬ l4_x183.toInt ≥ iM_variables.toInt := toI_nge c_192 rfl rfl
              refine lv_aload_n hx hb dX3_findShortfall_195 rfl (lv_at hl 4 rfl) ?_
              refine lv_aload_n hx hb dX3_findShortfall_196 rfl (lv_at hl 4 rfl) ?_
              refine va_get (D := (dC, dI)) (ci := 3) (v := .ref (aG 2)) (C := RX3) (T := TX3) (N := 17) hx hb hts iwsMX3_findShortfall_in3 hown hK hP 0 rfl rfl 10 (by decide) (hts _ hm_m_X3_findShortfall_5) (fun _ h9 => h9) rfl dX3_findShortfall_197 ?_
              refine lv_iload hx hb dX3_findShortfall_200 (lv_at hl 0 rfl) ?_
              refine va_aldq (cA := kG 2) (n := 8) (f := fun q => some (hw (463 + q))) hx hb hK hP 3 2 rfl rfl (vp_in_iff.mpr ⟨b_l4_x183.1, (Int.lt_of_lt_of_le (Int.not_le.mp t_192) (Int.le_trans b_iM_variables.2 (by decide)))⟩) dX3_findShortfall_202 ?_
              obtain ⟨k651, hk651, b_k651⟩ : ∃ k9 : Nat, k9 = 463 + (l4_x183).toNatClampNeg ∧ (463 ≤ k9 ∧ k9 < 471 ∧ (k9 : Int) = 463 + l4_x183.toInt) := ⟨_, rfl, ald_k (x := (l4_x183)) (o := 463) (n := 8) rfl (by omega) (by omega)⟩
              refine W.eq (g2 := F0 m 203 ls [.ref (hw k651), .ref (hG 0)]) (by rw [hk651]; rfl) ?_
              clear hk651
              refine lv_iload hx hb dX3_findShortfall_203 (lv_at hl 0 rfl) ?_
              have hFc := allFree hD hS hA
              refine va_callv (va_runV (As := [.ref (hw k651), .int l4_x183]) (rest := []) ⟨hx, hb, hml, hown, hts⟩ (m_X3_takeColumn l dC dI hG aG kG hM hO hQ hw iG_made iG_keptNeeds fG_kept fG_need fG_turn iG_columns aO kO iO_answered iO_searched iO_searchedRelaxed iO_counted fO_countedCase gO_goalNumber gO_goalScale fO_start fO_column fO_chosen aM kM iM_stands iM_variables iM_rows iM_goals iM_differents iM_cases fM_from fM_to fM_whole fM_ways iM_plainRows fM_plainRow fM_kept fM_goalOver fM_goalUnder fM_goalMax fM_different aQ kQ fQ_inside_598 fQ_outside_598 fQ_shut_446 iQ_rows_446 iQ_allRows_446 iQ_columns_446 nW lw kw wl_x183 wb_x183 wG_x183 k651 l4_x183 (b_iG_made) b_fG_need (b_iG_columns) (b_iO_answered) (b_iO_searched) (b_iO_searchedRelaxed) (b_iO_counted) b_fO_countedCase b_fO_column b_fO_chosen (b_iM_stands) (b_iM_variables) (b_iM_rows) (b_iM_goals) (b_iM_differents) (b_iM_cases) b_fM_ways (b_iM_plainRows) b_fM_plainRow (by first | with_reducible assumption | omega | assumption) (b_iQ_rows_446) (b_iQ_allRows_446) (b_iQ_columns_446) (by first | with_reducible assumption | omega | assumption) b_wl_x183 b_wb_x183 (by omega) (by first | with_reducible assumption | omega | (rw [iI_t (by omega) (by omega)]; omega) | decide | assumption) H.size) (cwV 2 hts gwsMX3_findShortfall_8 rfl rfl rfl hd_yX3_takeColumn_RX3 (by decide +kernel)) (fz_pre (va_recv hK hP (ci := 3) (q0 := 0) rfl rfl) hP hK hD) rfl rfl hl.1 rfl (lv_room (Nat.le_of_ble_eq_true rfl)) dX3_findShortfall_205 (by decide +kernel)) hS (fun q _ h => hFc q h) hFc (fun u t9_ H locs ht hvm hw9 hB9 hz1 hk1 hS => ?_)
              revert u hw9 hB9
              refine fz_p3 ?_
              intro wl_652 wb_652 wG_652 hw9 hB9
              try dsimp only at hw9 hB9
              revert hw9
              refine fz_a2 ?_
              intro b_wl_652 b_wb_652
              have hP : va_P (dC, dI) vwCl (WG hG aG kG hM hO hQ hw iG_made iG_keptNeeds fG_kept fG_need fG_turn iG_columns ++ (WO hO aO kO hM hQ hw iO_answered iO_searched iO_searchedRelaxed iO_counted fO_countedCase gO_goalNumber gO_goalScale fO_start fO_column fO_chosen ++ (WM hM aM kM iM_stands iM_variables iM_rows iM_goals iM_differents iM_cases fM_from fM_to fM_whole fM_ways iM_plainRows fM_plainRow fM_kept fM_goalOver fM_goalUnder fM_goalMax fM_different ++ (WQ hQ aQ kQ hw fQ_inside_598 fQ_outside_598 fQ_shut_446 iQ_rows_446 iQ_allRows_446 iQ_columns_446 ++ (WW nW hw lw kw wl_652 wb_652 wG_652))))) H := fz_P ht hB9.1
              have hD := fz_sd hP (hB9.2.weaken (fun _ q _ h => hFc q.1 h)) rfl
              refine lv_aload_n hx hb dX3_findShortfall_208 rfl (lv_at hl 4 rfl) ?_
              refine va_get (D := (dC, dI)) (ci := 3) (v := .ref (hO 0)) (C := RX3) (T := TX3) (N := 17) hx hb hts iwsMX3_findShortfall_in3 hown hK hP 0 rfl rfl 1 (by decide) (hts _ hm_m_X3_findShortfall_6) (fun _ h9 => h9) rfl dX3_findShortfall_209 ?_
              refine lv_aload_n hx hb dX3_findShortfall_212 rfl (lv_at hl 4 rfl) ?_
              refine va_get (D := (dC, dI)) (ci := 3) (v := .ref (aG 2)) (C := RX3) (T := TX3) (N := 17) hx hb hts iwsMX3_findShortfall_in3 hown hK hP 0 rfl rfl 10 (by decide) (hts _ hm_m_X3_findShortfall_5) (fun _ h9 => h9) rfl dX3_findShortfall_213 ?_
              refine lv_iload hx hb dX3_findShortfall_216 (lv_at hl 0 rfl) ?_
              refine va_aldq (cA := kG 2) (n := 8) (f := fun q => some (hw (463 + q))) hx hb hK hP 3 2 rfl rfl (vp_in_iff.mpr ⟨b_l4_x183.1, (Int.lt_of_lt_of_le (Int.not_le.mp t_192) (Int.le_trans b_iM_variables.2 (by decide)))⟩) dX3_findShortfall_218 ?_
              obtain ⟨k653, hk653, b_k653⟩ : ∃ k9 : Nat, k9 = 463 + (l4_x183).toNatClampNeg ∧ (463 ≤ k9 ∧ k9 < 471 ∧ (k9 : Int) = 463 + l4_x183.toInt) := ⟨_, rfl, ald_k (x := (l4_x183)) (o := 463) (n := 8) rfl (by omega) (by omega)⟩
              refine W.eq (g2 := F0 m 219 ls [.ref (hw k653), .ref (hO 0)]) (by rw [hk653]; rfl) ?_
              clear hk653
              refine lv_aload_n hx hb dX3_findShortfall_219 rfl (lv_at hl 4 rfl) ?_
              refine va_get (D := (dC, dI)) (ci := 3) (v := .ref (hw 472)) (C := RX3) (T := TX3) (N := 17) hx hb hts iwsMX3_findShortfall_in3 hown hK hP 0 rfl rfl 12 (by decide) (hts _ hm_m_X3_findShortfall_3) (fun _ h9 => h9) rfl dX3_findShortfall_220 ?_
              refine lv_aload_n hx hb dX3_findShortfall_223 rfl (lv_at hl 4 rfl) ?_
              refine va_get (D := (dC, dI)) (ci := 3) (v := .ref (hM 0)) (C := RX3) (T := TX3) (N := 17) hx hb hts iwsMX3_findShortfall_in3 hown hK hP 0 rfl rfl 0 (by decide) (hts _ hm_m_X3_findShortfall_0) (fun _ h9 => h9) rfl dX3_findShortfall_224 ?_
              refine va_get (D := (dC, dI)) (ci := 1) (v := .ref (aM 0)) (C := RX1) (T := TX1) (N := 17) hx hb hts iwsMX3_findShortfall_in1 hown hK hP 17 rfl rfl 6 (by decide) (hts (.fieldLink RX3 204 "OptimaWorks$Model" "from" "[I") (by decide +kernel)) (fun _ h9 => h9) rfl dX3_findShortfall_227 ?_
              refine lv_iload hx hb dX3_findShortfall_230 (lv_at hl 0 rfl) ?_
              refine va_iald (cA := kM 0) (n := 8) (f := fM_from) hx hb hK hP 18 15 rfl rfl (vp_in_iff.mpr ⟨b_l4_x183.1, (Int.lt_of_lt_of_le (Int.not_le.mp t_192) (Int.le_trans b_iM_variables.2 (by decide)))⟩) dX3_findShortfall_232 ?_
              refine lv_topi (fun v654 hv654 => ?_)
              clear hv654
              refine lv_i2l hx hb dX3_findShortfall_233 rfl ?_
              refine lv_topl (fun v655 hv655 => ?_)
              clear hv655
              have p9 := cj_5_1_2_3_4 (WG hG aG kG hM hO hQ hw iG_made iG_keptNeeds fG_kept fG_need fG_turn iG_columns) (WO hO aO kO hM hQ hw iO_answered iO_searched iO_searchedRelaxed iO_counted fO_countedCase gO_goalNumber gO_goalScale fO_start fO_column fO_chosen) (WM hM aM kM iM_stands iM_variables iM_rows iM_goals iM_differents iM_cases fM_from fM_to fM_whole fM_ways iM_plainRows fM_plainRow fM_kept fM_goalOver fM_goalUnder fM_goalMax fM_different) (WQ hQ aQ kQ hw fQ_inside_598 fQ_outside_598 fQ_shut_446 iQ_rows_446 iQ_allRows_446 iQ_columns_446) (WW nW hw lw kw wl_652 wb_652 wG_652)
              have hPc := hP.mem (fun q h => p9.mem_iff.mpr (List.mem_append_left _ h))
              have hDc := (hD.perm p9).left
              have hKc : va_K (dC, dI) vwCl (tO kO ++ (tM kM ++ (tQ kQ ++ (tW kw)))) _ := hK.sub [5, 6, 7, 8, 9, 10, 11, 12, 13, 14, 15, 16, 17, 18, 19, 20, 21, 22, 23, 24, 25, 26, 27, 28, 29] rfl
              have hFc := freeG p9 hD hS hA
              refine va_callv (va_runV (As := [.ref (hw k653), .ref (hw 472), .long v655]) (rest := []) ⟨hx, hb, hml, hown, hts⟩ (m_X5_addTimes l dC dI hO aO kO hM hQ hw iO_answered iO_searched iO_searchedRelaxed iO_counted fO_countedCase gO_goalNumber gO_goalScale fO_start fO_column fO_chosen aM kM iM_stands iM_variables iM_rows iM_goals iM_differents iM_cases fM_from fM_to fM_whole fM_ways iM_plainRows fM_plainRow fM_kept fM_goalOver fM_goalUnder fM_goalMax fM_different aQ kQ fQ_inside_598 fQ_outside_598 fQ_shut_446 iQ_rows_446 iQ_allRows_446 iQ_columns_446 nW lw kw wl_652 wb_652 wG_652 k653 472 v655 (b_iO_answered) (b_iO_searched) (b_iO_searchedRelaxed) (b_iO_counted) b_fO_countedCase b_fO_column b_fO_chosen (b_iM_stands) (b_iM_variables) (b_iM_rows) (b_iM_goals) (b_iM_differents) (b_iM_cases) b_fM_ways (b_iM_plainRows) b_fM_plainRow (by first | with_reducible assumption | omega | assumption) (b_iQ_rows_446) (b_iQ_allRows_446) (b_iQ_columns_446) (by first | with_reducible assumption | omega | assumption) b_wl_652 b_wb_652 (by omega) (by first | with_reducible assumption | omega | (rw [iI_t (by omega) (by omega)]; omega) | decide | assumption) (by first | with_reducible assumption | omega | (rw [iI_t (by omega) (by omega)]; omega) | decide | assumption) H.size) (cwV 3 hts gwsMX3_findShortfall_9 rfl rfl rfl hd_yX5_addTimes_RX5 (by decide +kernel)) (fz_pre (va_recv hK hP (ci := 5) (q0 := 6) rfl rfl) hPc hKc hDc) rfl rfl hl.1 rfl (lv_room (Nat.le_of_ble_eq_true rfl)) dX3_findShortfall_234 (by decide +kernel)) hS (fun q _ h => hFc q h) hFc (fun u t9_ H locs ht hvm hw9 hB9 hz1 hk1 hS => ?_)
              revert u hw9 hB9
              refine fz_p3 ?_
              intro wl_656 wb_656 wG_656 hw9 hB9
              try dsimp only at hw9 hB9
              revert hw9
              refine fz_a2 ?_
              intro b_wl_656 b_wb_656
              have p8 := cj_5_1_2_3_4 (WG hG aG kG hM hO hQ hw iG_made iG_keptNeeds fG_kept fG_need fG_turn iG_columns) (WO hO aO kO hM hQ hw iO_answered iO_searched iO_searchedRelaxed iO_counted fO_countedCase gO_goalNumber gO_goalScale fO_start fO_column fO_chosen) (WM hM aM kM iM_stands iM_variables iM_rows iM_goals iM_differents iM_cases fM_from fM_to fM_whole fM_ways iM_plainRows fM_plainRow fM_kept fM_goalOver fM_goalUnder fM_goalMax fM_different) (WQ hQ aQ kQ hw fQ_inside_598 fQ_outside_598 fQ_shut_446 iQ_rows_446 iQ_allRows_446 iQ_columns_446) (WW nW hw lw kw wl_656 wb_656 wG_656)
              obtain ⟨hP, hD⟩ := frameG p9 p8 hP hD hk1 hFc (fz_P ht hB9.1) hB9.2
              refine lv_aload_n hx hb dX3_findShortfall_237 rfl (lv_at hl 4 rfl) ?_
              refine va_get (D := (dC, dI)) (ci := 3) (v := .ref (hO 0)) (C := RX3) (T := TX3) (N := 17) hx hb hts iwsMX3_findShortfall_in3 hown hK hP 0 rfl rfl 1 (by decide) (hts _ hm_m_X3_findShortfall_6) (fun _ h9 => h9) rfl dX3_findShortfall_238 ?_
              refine lv_aload_n hx hb dX3_findShortfall_241 rfl (lv_at hl 4 rfl) ?_
              refine va_get (D := (dC, dI)) (ci := 3) (v := .ref (aG 2)) (C := RX3) (T := TX3) (N := 17) hx hb hts iwsMX3_findShortfall_in3 hown hK hP 0 rfl rfl 10 (by decide) (hts _ hm_m_X3_findShortfall_5) (fun _ h9 => h9) rfl dX3_findShortfall_242 ?_
              refine lv_iload hx hb dX3_findShortfall_245 (lv_at hl 0 rfl) ?_
              refine va_aldq (cA := kG 2) (n := 8) (f := fun q => some (hw (463 + q))) hx hb hK hP 3 2 rfl rfl (vp_in_iff.mpr ⟨b_l4_x183.1, (Int.lt_of_lt_of_le (Int.not_le.mp t_192) (Int.le_trans b_iM_variables.2 (by decide)))⟩) dX3_findShortfall_247 ?_
              obtain ⟨k657, hk657, b_k657⟩ : ∃ k9 : Nat, k9 = 463 + (l4_x183).toNatClampNeg ∧ (463 ≤ k9 ∧ k9 < 471 ∧ (k9 : Int) = 463 + l4_x183.toInt) := ⟨_, rfl, ald_k (x := (l4_x183)) (o := 463) (n := 8) rfl (by omega) (by omega)⟩
              refine W.eq (g2 := F0 m 248 ls [.ref (hw k657), .ref (hO 0)]) (by rw [hk657]; rfl) ?_
              clear hk657
              refine lv_aload_n hx hb dX3_findShortfall_248 rfl (lv_at hl 4 rfl) ?_
              refine va_get (D := (dC, dI)) (ci := 3) (v := .ref (hw 471)) (C := RX3) (T := TX3) (N := 17) hx hb hts iwsMX3_findShortfall_in3 hown hK hP 0 rfl rfl 11 (by decide) (hts _ hm_m_X3_findShortfall_4) (fun _ h9 => h9) rfl dX3_findShortfall_249 ?_
              refine lv_ldc2 (v := (-1)) hx hb hown (hts (.constantLong RX3 211 (-1)) (by decide +kernel)) dX3_findShortfall_252 ?_
              have p9 := cj_5_1_2_3_4 (WG hG aG kG hM hO hQ hw iG_made iG_keptNeeds fG_kept fG_need fG_turn iG_columns) (WO hO aO kO hM hQ hw iO_answered iO_searched iO_searchedRelaxed iO_counted fO_countedCase gO_goalNumber gO_goalScale fO_start fO_column fO_chosen) (WM hM aM kM iM_stands iM_variables iM_rows iM_goals iM_differents iM_cases fM_from fM_to fM_whole fM_ways iM_plainRows fM_plainRow fM_kept fM_goalOver fM_goalUnder fM_goalMax fM_different) (WQ hQ aQ kQ hw fQ_inside_598 fQ_outside_598 fQ_shut_446 iQ_rows_446 iQ_allRows_446 iQ_columns_446) (WW nW hw lw kw wl_656 wb_656 wG_656)
              have hPc := hP.mem (fun q h => p9.mem_iff.mpr (List.mem_append_left _ h))
              have hDc := (hD.perm p9).left
              have hKc : va_K (dC, dI) vwCl (tO kO ++ (tM kM ++ (tQ kQ ++ (tW kw)))) _ := hK.sub [5, 6, 7, 8, 9, 10, 11, 12, 13, 14, 15, 16, 17, 18, 19, 20, 21, 22, 23, 24, 25, 26, 27, 28, 29] rfl
              have hFc := freeG p9 hD hS hA
              refine va_callv (va_runV (As := [.ref (hw k657), .ref (hw 471), .long (-1)]) (rest := []) ⟨hx, hb, hml, hown, hts⟩ (m_X5_addTimes l dC dI hO aO kO hM hQ hw iO_answered iO_searched iO_searchedRelaxed iO_counted fO_countedCase gO_goalNumber gO_goalScale fO_start fO_column fO_chosen aM kM iM_stands iM_variables iM_rows iM_goals iM_differents iM_cases fM_from fM_to fM_whole fM_ways iM_plainRows fM_plainRow fM_kept fM_goalOver fM_goalUnder fM_goalMax fM_different aQ kQ fQ_inside_598 fQ_outside_598 fQ_shut_446 iQ_rows_446 iQ_allRows_446 iQ_columns_446 nW lw kw wl_656 wb_656 wG_656 k657 471 (-1) (b_iO_answered) (b_iO_searched) (b_iO_searchedRelaxed) (b_iO_counted) b_fO_countedCase b_fO_column b_fO_chosen (b_iM_stands) (b_iM_variables) (b_iM_rows) (b_iM_goals) (b_iM_differents) (b_iM_cases) b_fM_ways (b_iM_plainRows) b_fM_plainRow (by first | with_reducible assumption | omega | assumption) (b_iQ_rows_446) (b_iQ_allRows_446) (b_iQ_columns_446) (by first | with_reducible assumption | omega | assumption) b_wl_656 b_wb_656 (by omega) (by first | with_reducible assumption | omega | (rw [iI_t (by omega) (by omega)]; omega) | decide | assumption) (by first | with_reducible assumption | omega | (rw [iI_t (by omega) (by omega)]; omega) | decide | assumption) H.size) (cwV 3 hts gwsMX3_findShortfall_9 rfl rfl rfl hd_yX5_addTimes_RX5 (by decide +kernel)) (fz_pre (va_recv hK hP (ci := 5) (q0 := 6) rfl rfl) hPc hKc hDc) rfl rfl hl.1 rfl (lv_room (Nat.le_of_ble_eq_true rfl)) dX3_findShortfall_255 (by decide +kernel)) hS (fun q _ h => hFc q h) hFc (fun u t9_ H locs ht hvm hw9 hB9 hz1 hk1 hS => ?_)
              revert u hw9 hB9
              refine fz_p3 ?_
              intro wl_658 wb_658 wG_658 hw9 hB9
              try dsimp only at hw9 hB9
              revert hw9
              refine fz_a2 ?_
              intro b_wl_658 b_wb_658
              have p8 := cj_5_1_2_3_4 (WG hG aG kG hM hO hQ hw iG_made iG_keptNeeds fG_kept fG_need fG_turn iG_columns) (WO hO aO kO hM hQ hw iO_answered iO_searched iO_searchedRelaxed iO_counted fO_countedCase gO_goalNumber gO_goalScale fO_start fO_column fO_chosen) (WM hM aM kM iM_stands iM_variables iM_rows iM_goals iM_differents iM_cases fM_from fM_to fM_whole fM_ways iM_plainRows fM_plainRow fM_kept fM_goalOver fM_goalUnder fM_goalMax fM_different) (WQ hQ aQ kQ hw fQ_inside_598 fQ_outside_598 fQ_shut_446 iQ_rows_446 iQ_allRows_446 iQ_columns_446) (WW nW hw lw kw wl_658 wb_658 wG_658)
              obtain ⟨hP, hD⟩ := frameG p9 p8 hP hD hk1 hFc (fz_P ht hB9.1) hB9.2
              refine lv_iinc (v := (iI (l4_x183.toInt + 1))) hx hb dX3_findShortfall_258 hl (k := 0) rfl (iI_add2 (iI_of _) (by decide : (1 : Int32) = iI 1)) (by decide) rfl (fun ls (hl : lv_has ls _ ([(4, .int (iI (l4_x183.toInt + 1))), (3, .int l3_x71), (2, .int l2_x20), (1, .int (iI (iM_variables.toInt + 1))), (0, .ref (hG 0))])) => ?_)
              refine lv_goto (tgt := 183) hx hb dX3_findShortfall_261 (by decide) ?_
              have hl : lv_has _ _ ([(4, .int (iI (l4_x183.toInt + 1))), (3, .int l3_x71), (2, .int l2_x20), (1, .int (iI (iM_variables.toInt + 1))), (0, .ref (hG 0))]) := lv_sub hl [0, 1, 2, 3, 4] rfl
              exact ihx183 wl_658 wb_658 wG_658 (iI (l4_x183.toInt + 1)) _ _ _ b_wl_658 b_wb_658 (iI_rng (Int.le_trans (by decide) (Int.add_le_add (b_l4_x183.1) (Int.le_refl _))) (by omega) (by decide) (by decide)) (by have e9 : ((iI (l4_x183.toInt + 1))).toInt = (l4_x183.toInt + 1) := (iI_t (Int.le_trans (by decide) (Int.add_le_add (b_l4_x183.1) (Int.le_refl _))) (Int.le_trans (Int.add_le_add (b_l4_x183.2) (Int.le_refl _)) (by decide))); omega) hP hD hS hl
        · have t_80 : ¬ l4_x71.toInt ≥ r591.toInt := toI_nge c_80 rfl rfl
          refine lv_aload_n hx hb dX3_findShortfall_83 rfl (lv_at hl 4 rfl) ?_
          refine va_get (D := (dC, dI)) (ci := 3) (v := .ref (hM 0)) (C := RX3) (T := TX3) (N := 17) hx hb hts iwsMX3_findShortfall_in3 hown hK hP 0 rfl rfl 0 (by decide) (hts _ hm_m_X3_findShortfall_0) (fun _ h9 => h9) rfl dX3_findShortfall_84 ?_
          refine lv_iload hx hb dX3_findShortfall_87 (lv_at hl 0 rfl) ?_
          have p9 := cj_5_2 (WG hG aG kG hM hO hQ hw iG_made iG_keptNeeds fG_kept fG_need fG_turn iG_columns) (WO hO aO kO hM hQ hw iO_answered iO_searched iO_searchedRelaxed iO_counted fO_countedCase gO_goalNumber gO_goalScale fO_start fO_column fO_chosen) (WM hM aM kM iM_stands iM_variables iM_rows iM_goals iM_differents iM_cases fM_from fM_to fM_whole fM_ways iM_plainRows fM_plainRow fM_kept fM_goalOver fM_goalUnder fM_goalMax fM_different) (WQ hQ aQ kQ hw fQ_inside_446 fQ_outside_446 fQ_shut_446 iQ_rows_446 iQ_allRows_446 iQ_columns_446) (WW nW hw lw kw wl_x71 wb_x71 wG_x71)
          have hPc := hP.mem (fun q h => p9.mem_iff.mpr (List.mem_append_left _ h))
          have hDc := (hD.perm p9).left
          have hKc : va_K (dC, dI) vwCl (tM kM) _ := hK.sub [15, 16, 17, 18, 19, 20, 21, 22, 23, 24] rfl
          have hFc := freeG p9 hD hS hA
          refine va_calli (va_runV (As := [.int l4_x71]) (rest := []) ⟨hx, hb, hml, hown, hts⟩ (m_X1_needKind l dC dI hM aM kM iM_stands iM_variables iM_rows iM_goals iM_differents iM_cases fM_from fM_to fM_whole fM_ways iM_plainRows fM_plainRow fM_kept fM_goalOver fM_goalUnder fM_goalMax fM_different l4_x71 (b_iM_stands) (b_iM_variables) (b_iM_rows) (b_iM_goals) (b_iM_differents) (b_iM_cases) b_fM_ways (b_iM_plainRows) b_fM_plainRow (by first | with_reducible assumption | omega | assumption) (by first | exact b_l4_x71 | with_reducible assumption | exact ⟨by omega, by omega⟩ | assumption) (by omega) H.size) (cwV 1 hts gwsMX3_findShortfall_3 rfl rfl rfl hd_yX1_needKind_RX1 (by decide +kernel)) (fz_pre (va_recv hK hP (ci := 1) (q0 := 17) rfl rfl) hPc hKc hDc) rfl rfl hl.1 rfl (lv_room (Nat.le_of_ble_eq_true rfl)) dX3_findShortfall_89 (by decide +kernel)) hS (fun q _ h => hFc q h) hFc (fun r659 u t9_ H locs ht hvm hw9 hB9 hz1 hk1 hS => ?_)
          revert hw9
          refine fz_a2 ?_
          intro b_r659 f659_0
          have p8 := p9
          obtain ⟨hP, hD⟩ := frameG p9 p8 hP hD hk1 hFc (fz_P ht hB9.1) hB9.2
          refine lv_iconst (v := 1) hx hb dX3_findShortfall_92 (by decide) ?_
          refine lv_icmp_eq (tgt := 130) hx hb dX3_findShortfall_93 (by decide) (fun c_93 => ?_) (fun c_93 => ?_)
          · have t_93 : r659.toInt = 1 := toI_eq c_93 rfl (by decide : (1 : Int32).toInt = 1)
            refine lv_iinc (v := (iI (l4_x71.toInt + 1))) hx hb dX3_findShortfall_130 hl (k := 0) rfl (iI_add2 (iI_of _) (by decide : (1 : Int32) = iI 1)) (by decide) rfl (fun ls (hl : lv_has ls _ ([(4, .int (iI (l4_x71.toInt + 1))), (3, .int l3_x71), (2, .int l2_x20), (1, .int (iI (iM_variables.toInt + 1))), (0, .ref (hG 0))])) => ?_)
            refine lv_goto (tgt := 71) hx hb dX3_findShortfall_133 (by decide) ?_
            have hl : lv_has _ _ ([(4, .int (iI (l4_x71.toInt + 1))), (3, .int l3_x71), (2, .int l2_x20), (1, .int (iI (iM_variables.toInt + 1))), (0, .ref (hG 0))]) := lv_sub hl [0, 1, 2, 3, 4] rfl
            exact ihx71 wl_x71 wb_x71 wG_x71 (iI (l4_x71.toInt + 1)) l3_x71 _ _ _ b_wl_x71 b_wb_x71 (iI_rng (Int.le_trans (by decide) (Int.add_le_add (b_l4_x71.1) (Int.le_refl _))) (by omega) (by decide) (by decide)) (b_l3_x71) (show l3_x71.toInt ≤ 2 * (iI (l4_x71.toInt + 1)).toInt from by (try rw [iI_t (E := l3_x71.toInt + 1 + 1) (by omega) (by omega)]); (try rw [iI_t (E := (l3_x71.toInt + 1) + 1) (by omega) (by omega)]); (try rw [iI_t (E := l3_x71.toInt + 1) (by omega) (by omega)]); rw [iI_t (E := l4_x71.toInt + 1) (by omega) (by omega)]; omega) (show l3_x71.toInt ≤ (iI (l4_x71.toInt + 1)).toInt + iM_plainRows.toInt from by (try rw [iI_t (E := l3_x71.toInt + 1 + 1) (by omega) (by omega)]); (try rw [iI_t (E := (l3_x71.toInt + 1) + 1) (by omega) (by omega)]); (try rw [iI_t (E := l3_x71.toInt + 1) (by omega) (by omega)]); rw [iI_t (E := l4_x71.toInt + 1) (by omega) (by omega)]; omega) (by have e9 : ((iI (l4_x71.toInt + 1))).toInt = (l4_x71.toInt + 1) := (iI_t (Int.le_trans (by decide) (Int.add_le_add (b_l4_x71.1) (Int.le_refl _))) (Int.le_trans (Int.add_le_add (b_l4_x71.2) (Int.le_refl _)) (by decide))); omega) hP hD hS hl
          · have t_93 : ¬ r659.toInt = 1 := toI_neq c_93 rfl (by decide : (1 : Int32).toInt = 1)
            refine lv_aload_n hx hb dX3_findShortfall_96 rfl (lv_at hl 4 rfl) ?_
            refine lv_iload_n hx hb dX3_findShortfall_97 rfl (lv_at hl 1 rfl) ?_
            refine lv_iload hx hb dX3_findShortfall_98 (lv_at hl 0 rfl) ?_
            refine lv_iconst (v := 1) hx hb dX3_findShortfall_100 (by decide) ?_
            have hFc := allFree hD hS hA
            refine va_callv (va_runV (As := [.int l3_x71, .int l4_x71, .int 1]) (rest := []) ⟨hx, hb, hml, hown, hts⟩ (m_X3_layNeed l dC dI hG aG kG hM hO hQ hw iG_made iG_keptNeeds fG_kept fG_need fG_turn iG_columns aO kO iO_answered iO_searched iO_searchedRelaxed iO_counted fO_countedCase gO_goalNumber gO_goalScale fO_start fO_column fO_chosen aM kM iM_stands iM_variables iM_rows iM_goals iM_differents iM_cases fM_from fM_to fM_whole fM_ways iM_plainRows fM_plainRow fM_kept fM_goalOver fM_goalUnder fM_goalMax fM_different aQ kQ fQ_inside_446 fQ_outside_446 fQ_shut_446 iQ_rows_446 iQ_allRows_446 iQ_columns_446 nW lw kw wl_x71 wb_x71 wG_x71 l3_x71 l4_x71 1 (b_iG_made) b_fG_need (b_iG_columns) (b_iO_answered) (b_iO_searched) (b_iO_searchedRelaxed) (b_iO_counted) b_fO_countedCase b_fO_column b_fO_chosen (b_iM_stands) (b_iM_variables) (b_iM_rows) (b_iM_goals) (b_iM_differents) (b_iM_cases) b_fM_ways (b_iM_plainRows) b_fM_plainRow (by first | with_reducible assumption | omega | assumption) (b_iQ_rows_446) (b_iQ_allRows_446) (b_iQ_columns_446) (by first | with_reducible assumption | omega | assumption) b_wl_x71 b_wb_x71 (by first | exact b_l3_x71 | with_reducible assumption | exact ⟨by omega, by omega⟩ | assumption) (by first | exact b_l4_x71 | with_reducible assumption | exact ⟨by omega, by omega⟩ | assumption) (by omega) (by omega) (by omega) H.size) (cwV 3 hts gwsMX3_findShortfall_4 rfl rfl rfl hd_yX3_layNeed_RX3 (by decide +kernel)) (fz_pre (va_recv hK hP (ci := 3) (q0 := 0) rfl rfl) hP hK hD) rfl rfl hl.1 rfl (lv_room (Nat.le_of_ble_eq_true rfl)) dX3_findShortfall_101 (by decide +kernel)) hS (fun q _ h => hFc q h) hFc (fun u t9_ H locs ht hvm hw9 hB9 hz1 hk1 hS => ?_)
            revert u hw9 hB9
            refine fz_p3 ?_
            intro wl_660 wb_660 wG_660 hw9 hB9
            try dsimp only at hw9 hB9
            revert hw9
            refine fz_a2 ?_
            intro b_wl_660 b_wb_660
            have hP : va_P (dC, dI) vwCl (WG hG aG kG hM hO hQ hw iG_made iG_keptNeeds fG_kept fG_need fG_turn iG_columns ++ (WO hO aO kO hM hQ hw iO_answered iO_searched iO_searchedRelaxed iO_counted fO_countedCase gO_goalNumber gO_goalScale fO_start fO_column fO_chosen ++ (WM hM aM kM iM_stands iM_variables iM_rows iM_goals iM_differents iM_cases fM_from fM_to fM_whole fM_ways iM_plainRows fM_plainRow fM_kept fM_goalOver fM_goalUnder fM_goalMax fM_different ++ (WQ hQ aQ kQ hw fQ_inside_446 fQ_outside_446 fQ_shut_446 iQ_rows_446 iQ_allRows_446 iQ_columns_446 ++ (WW nW hw lw kw wl_660 wb_660 wG_660))))) H := fz_P ht hB9.1
            have hD := fz_sd hP (hB9.2.weaken (fun _ q _ h => hFc q.1 h)) rfl
            refine lv_iinc (v := (iI (l3_x71.toInt + 1))) hx hb dX3_findShortfall_104 hl (k := 1) rfl (iI_add2 (iI_of _) (by decide : (1 : Int32) = iI 1)) (by decide) rfl (fun ls (hl : lv_has ls _ ([(3, .int (iI (l3_x71.toInt + 1))), (4, .int l4_x71), (2, .int l2_x20), (1, .int (iI (iM_variables.toInt + 1))), (0, .ref (hG 0))])) => ?_)
            refine lv_aload_n hx hb dX3_findShortfall_107 rfl (lv_at hl 4 rfl) ?_
            refine va_get (D := (dC, dI)) (ci := 3) (v := .ref (hM 0)) (C := RX3) (T := TX3) (N := 17) hx hb hts iwsMX3_findShortfall_in3 hown hK hP 0 rfl rfl 0 (by decide) (hts _ hm_m_X3_findShortfall_0) (fun _ h9 => h9) rfl dX3_findShortfall_108 ?_
            refine lv_iload hx hb dX3_findShortfall_111 (lv_at hl 1 rfl) ?_
            have p9 := cj_5_2 (WG hG aG kG hM hO hQ hw iG_made iG_keptNeeds fG_kept fG_need fG_turn iG_columns) (WO hO aO kO hM hQ hw iO_answered iO_searched iO_searchedRelaxed iO_counted fO_countedCase gO_goalNumber gO_goalScale fO_start fO_column fO_chosen) (WM hM aM kM iM_stands iM_variables iM_rows iM_goals iM_differents iM_cases fM_from fM_to fM_whole fM_ways iM_plainRows fM_plainRow fM_kept fM_goalOver fM_goalUnder fM_goalMax fM_different) (WQ hQ aQ kQ hw fQ_inside_446 fQ_outside_446 fQ_shut_446 iQ_rows_446 iQ_allRows_446 iQ_columns_446) (WW nW hw lw kw wl_660 wb_660 wG_660)
            have hPc := hP.mem (fun q h => p9.mem_iff.mpr (List.mem_append_left _ h))
            have hDc := (hD.perm p9).left
            have hKc : va_K (dC, dI) vwCl (tM kM) _ := hK.sub [15, 16, 17, 18, 19, 20, 21, 22, 23, 24] rfl
            have hFc := freeG p9 hD hS hA
            refine va_calli (va_runV (As := [.int l4_x71]) (rest := []) ⟨hx, hb, hml, hown, hts⟩ (m_X1_isEvenNeed l dC dI hM aM kM iM_stands iM_variables iM_rows iM_goals iM_differents iM_cases fM_from fM_to fM_whole fM_ways iM_plainRows fM_plainRow fM_kept fM_goalOver fM_goalUnder fM_goalMax fM_different l4_x71 (b_iM_stands) (b_iM_variables) (b_iM_rows) (b_iM_goals) (b_iM_differents) (b_iM_cases) b_fM_ways (b_iM_plainRows) b_fM_plainRow (by first | with_reducible assumption | omega | assumption) (by first | exact b_l4_x71 | with_reducible assumption | exact ⟨by omega, by omega⟩ | assumption) (by omega) H.size) (cwV 1 hts gwsMX3_findShortfall_0 rfl rfl rfl hd_yX1_isEvenNeed_RX1 (by decide +kernel)) (fz_pre (va_recv hK hP (ci := 1) (q0 := 17) rfl rfl) hPc hKc hDc) rfl rfl hl.1 rfl (lv_room (Nat.le_of_ble_eq_true rfl)) dX3_findShortfall_113 (by decide +kernel)) hS (fun q _ h => hFc q h) hFc (fun r661 u t9_ H locs ht hvm hw9 hB9 hz1 hk1 hS => ?_)
            revert hw9
            refine fz_a2 ?_
            intro b_r661 f661_0
            have p8 := p9
            obtain ⟨hP, hD⟩ := frameG p9 p8 hP hD hk1 hFc (fz_P ht hB9.1) hB9.2
            refine lv_if_eq (tgt := 130) hx hb dX3_findShortfall_116 (by decide) (fun c_116 => ?_) (fun c_116 => ?_)
            · have t_116 : r661.toInt = 0 := toI_eq c_116 rfl (by decide : (0 : Int32).toInt = 0)
              refine lv_iinc (v := (iI (l4_x71.toInt + 1))) hx hb dX3_findShortfall_130 hl (k := 1) rfl (iI_add2 (iI_of _) (by decide : (1 : Int32) = iI 1)) (by decide) rfl (fun ls (hl : lv_has ls _ ([(4, .int (iI (l4_x71.toInt + 1))), (3, .int (iI (l3_x71.toInt + 1))), (2, .int l2_x20), (1, .int (iI (iM_variables.toInt + 1))), (0, .ref (hG 0))])) => ?_)
              refine lv_goto (tgt := 71) hx hb dX3_findShortfall_133 (by decide) ?_
              have hl : lv_has _ _ ([(4, .int (iI (l4_x71.toInt + 1))), (3, .int (iI (l3_x71.toInt + 1))), (2, .int l2_x20), (1, .int (iI (iM_variables.toInt + 1))), (0, .ref (hG 0))]) := lv_sub hl [0, 1, 2, 3, 4] rfl
              exact ihx71 wl_660 wb_660 wG_660 (iI (l4_x71.toInt + 1)) (iI (l3_x71.toInt + 1)) _ _ _ b_wl_660 b_wb_660 (iI_rng (Int.le_trans (by decide) (Int.add_le_add (b_l4_x71.1) (Int.le_refl _))) (by omega) (by decide) (by decide)) (iI_rng (Int.le_trans (by decide) (Int.add_le_add (b_l3_x71.1) (Int.le_refl _))) (by omega) (by decide) (by decide)) (show (iI (l3_x71.toInt + 1)).toInt ≤ 2 * (iI (l4_x71.toInt + 1)).toInt from by (try rw [iI_t (E := l3_x71.toInt + 1 + 1) (by omega) (by omega)]); (try rw [iI_t (E := (l3_x71.toInt + 1) + 1) (by omega) (by omega)]); (try rw [iI_t (E := l3_x71.toInt + 1) (by omega) (by omega)]); rw [iI_t (E := l4_x71.toInt + 1) (by omega) (by omega)]; omega) (show (iI (l3_x71.toInt + 1)).toInt ≤ (iI (l4_x71.toInt + 1)).toInt + iM_plainRows.toInt from by (try rw [iI_t (E := l3_x71.toInt + 1 + 1) (by omega) (by omega)]); (try rw [iI_t (E := (l3_x71.toInt + 1) + 1) (by omega) (by omega)]); (try rw [iI_t (E := l3_x71.toInt + 1) (by omega) (by omega)]); rw [iI_t (E := l4_x71.toInt + 1) (by omega) (by omega)]; omega) (by have e9 : ((iI (l4_x71.toInt + 1))).toInt = (l4_x71.toInt + 1) := (iI_t (Int.le_trans (by decide) (Int.add_le_add (b_l4_x71.1) (Int.le_refl _))) (Int.le_trans (Int.add_le_add (b_l4_x71.2) (Int.le_refl _)) (by decide))); omega) hP hD hS hl
            · have t_116 : ¬ r661.toInt = 0 := toI_neq c_116 rfl (by decide : (0 : Int32).toInt = 0)
              refine lv_aload_n hx hb dX3_findShortfall_119 rfl (lv_at hl 4 rfl) ?_
              refine lv_iload_n hx hb dX3_findShortfall_120 rfl (lv_at hl 0 rfl) ?_
              refine lv_iload hx hb dX3_findShortfall_121 (lv_at hl 1 rfl) ?_
              refine lv_iconst (v := (-1)) hx hb dX3_findShortfall_123 (by decide) ?_
              have hFc := allFree hD hS hA
              refine va_callv (va_runV (As := [.int (iI (l3_x71.toInt + 1)), .int l4_x71, .int (-1)]) (rest := []) ⟨hx, hb, hml, hown, hts⟩ (m_X3_layNeed l dC dI hG aG kG hM hO hQ hw iG_made iG_keptNeeds fG_kept fG_need fG_turn iG_columns aO kO iO_answered iO_searched iO_searchedRelaxed iO_counted fO_countedCase gO_goalNumber gO_goalScale fO_start fO_column fO_chosen aM kM iM_stands iM_variables iM_rows iM_goals iM_differents iM_cases fM_from fM_to fM_whole fM_ways iM_plainRows fM_plainRow fM_kept fM_goalOver fM_goalUnder fM_goalMax fM_different aQ kQ fQ_inside_446 fQ_outside_446 fQ_shut_446 iQ_rows_446 iQ_allRows_446 iQ_columns_446 nW lw kw wl_660 wb_660 wG_660 (iI (l3_x71.toInt + 1)) l4_x71 (-1) (b_iG_made) b_fG_need (b_iG_columns) (b_iO_answered) (b_iO_searched) (b_iO_searchedRelaxed) (b_iO_counted) b_fO_countedCase b_fO_column b_fO_chosen (b_iM_stands) (b_iM_variables) (b_iM_rows) (b_iM_goals) (b_iM_differents) (b_iM_cases) b_fM_ways (b_iM_plainRows) b_fM_plainRow (by first | with_reducible assumption | omega | assumption) (b_iQ_rows_446) (b_iQ_allRows_446) (b_iQ_columns_446) (by first | with_reducible assumption | omega | assumption) b_wl_660 b_wb_660 (iI_rng (Int.le_trans (by decide) (Int.add_le_add (b_l3_x71.1) (Int.le_refl _))) (by omega) (by decide) (by decide)) (by first | exact b_l4_x71 | with_reducible assumption | exact ⟨by omega, by omega⟩ | assumption) (by omega) (by omega) (by omega) H.size) (cwV 3 hts gwsMX3_findShortfall_4 rfl rfl rfl hd_yX3_layNeed_RX3 (by decide +kernel)) (fz_pre (va_recv hK hP (ci := 3) (q0 := 0) rfl rfl) hP hK hD) rfl rfl hl.1 rfl (lv_room (Nat.le_of_ble_eq_true rfl)) dX3_findShortfall_124 (by decide +kernel)) hS (fun q _ h => hFc q h) hFc (fun u t9_ H locs ht hvm hw9 hB9 hz1 hk1 hS => ?_)
              revert u hw9 hB9
              refine fz_p3 ?_
              intro wl_662 wb_662 wG_662 hw9 hB9
              try dsimp only at hw9 hB9
              revert hw9
              refine fz_a2 ?_
              intro b_wl_662 b_wb_662
              have hP : va_P (dC, dI) vwCl (WG hG aG kG hM hO hQ hw iG_made iG_keptNeeds fG_kept fG_need fG_turn iG_columns ++ (WO hO aO kO hM hQ hw iO_answered iO_searched iO_searchedRelaxed iO_counted fO_countedCase gO_goalNumber gO_goalScale fO_start fO_column fO_chosen ++ (WM hM aM kM iM_stands iM_variables iM_rows iM_goals iM_differents iM_cases fM_from fM_to fM_whole fM_ways iM_plainRows fM_plainRow fM_kept fM_goalOver fM_goalUnder fM_goalMax fM_different ++ (WQ hQ aQ kQ hw fQ_inside_446 fQ_outside_446 fQ_shut_446 iQ_rows_446 iQ_allRows_446 iQ_columns_446 ++ (WW nW hw lw kw wl_662 wb_662 wG_662))))) H := fz_P ht hB9.1
              have hD := fz_sd hP (hB9.2.weaken (fun _ q _ h => hFc q.1 h)) rfl
              refine lv_iinc (v := (iI ((l3_x71.toInt + 1) + 1))) hx hb dX3_findShortfall_127 hl (k := 0) rfl (iI_add2 rfl (by decide : (1 : Int32) = iI 1)) (by decide) rfl (fun ls (hl : lv_has ls _ ([(3, .int (iI ((l3_x71.toInt + 1) + 1))), (4, .int l4_x71), (2, .int l2_x20), (1, .int (iI (iM_variables.toInt + 1))), (0, .ref (hG 0))])) => ?_)
              refine lv_iinc (v := (iI (l4_x71.toInt + 1))) hx hb dX3_findShortfall_130 hl (k := 1) rfl (iI_add2 (iI_of _) (by decide : (1 : Int32) = iI 1)) (by decide) rfl (fun ls (hl : lv_has ls _ ([(4, .int (iI (l4_x71.toInt + 1))), (3, .int (iI ((l3_x71.toInt + 1) + 1))), (2, .int l2_x20), (1, .int (iI (iM_variables.toInt + 1))), (0, .ref (hG 0))])) => ?_)
              refine lv_goto (tgt := 71) hx hb dX3_findShortfall_133 (by decide) ?_
              have hl : lv_has _ _ ([(4, .int (iI (l4_x71.toInt + 1))), (3, .int (iI ((l3_x71.toInt + 1) + 1))), (2, .int l2_x20), (1, .int (iI (iM_variables.toInt + 1))), (0, .ref (hG 0))]) := lv_sub hl [0, 1, 2, 3, 4] rfl
              exact ihx71 wl_662 wb_662 wG_662 (iI (l4_x71.toInt + 1)) (iI ((l3_x71.toInt + 1) + 1)) _ _ _ b_wl_662 b_wb_662 (iI_rng (Int.le_trans (by decide) (Int.add_le_add (b_l4_x71.1) (Int.le_refl _))) (by omega) (by decide) (by decide)) (iI_rng (Int.le_trans (by decide) (Int.add_le_add (Int.add_le_add (b_l3_x71.1) (Int.le_refl _)) (Int.le_refl _))) (by omega) (by decide) (by decide)) (show (iI ((l3_x71.toInt + 1) + 1)).toInt ≤ 2 * (iI (l4_x71.toInt + 1)).toInt from by (try rw [iI_t (E := l3_x71.toInt + 1 + 1) (by omega) (by omega)]); (try rw [iI_t (E := (l3_x71.toInt + 1) + 1) (by omega) (by omega)]); (try rw [iI_t (E := l3_x71.toInt + 1) (by omega) (by omega)]); rw [iI_t (E := l4_x71.toInt + 1) (by omega) (by omega)]; omega) (show (iI ((l3_x71.toInt + 1) + 1)).toInt ≤ (iI (l4_x71.toInt + 1)).toInt + iM_plainRows.toInt from by (try rw [iI_t (E := l3_x71.toInt + 1 + 1) (by omega) (by omega)]); (try rw [iI_t (E := (l3_x71.toInt + 1) + 1) (by omega) (by omega)]); (try rw [iI_t (E := l3_x71.toInt + 1) (by omega) (by omega)]); rw [iI_t (E := l4_x71.toInt + 1) (by omega) (by omega)]; omega) (by have e9 : ((iI (l4_x71.toInt + 1))).toInt = (l4_x71.toInt + 1) := (iI_t (Int.le_trans (by decide) (Int.add_le_add (b_l4_x71.1) (Int.le_refl _))) (Int.le_trans (Int.add_le_add (b_l4_x71.2) (Int.le_refl _)) (by decide))); omega) hP hD hS hl
    · have t_28 : ¬ l3_x20.toInt ≥ iM_plainRows.toInt := toI_nge c_28 rfl rfl
      refine lv_iload_n hx hb dX3_findShortfall_31 rfl (lv_at hl 1 rfl) ?_
      refine lv_aload_n hx hb dX3_findShortfall_32 rfl (lv_at hl 3 rfl) ?_
      refine va_get (D := (dC, dI)) (ci := 3) (v := .ref (hM 0)) (C := RX3) (T := TX3) (N := 17) hx hb hts iwsMX3_findShortfall_in3 hown hK hP 0 rfl rfl 0 (by decide) (hts _ hm_m_X3_findShortfall_0) (fun _ h9 => h9) rfl dX3_findShortfall_33 ?_
      refine lv_iload_n hx hb dX3_findShortfall_36 rfl (lv_at hl 0 rfl) ?_
      have p9 := cj_5_2 (WG hG aG kG hM hO hQ hw iG_made iG_keptNeeds fG_kept fG_need fG_turn iG_columns) (WO hO aO kO hM hQ hw iO_answered iO_searched iO_searchedRelaxed iO_counted fO_countedCase gO_goalNumber gO_goalScale fO_start fO_column fO_chosen) (WM hM aM kM iM_stands iM_variables iM_rows iM_goals iM_differents iM_cases fM_from fM_to fM_whole fM_ways iM_plainRows fM_plainRow fM_kept fM_goalOver fM_goalUnder fM_goalMax fM_different) (WQ hQ aQ kQ hw fQ_inside fQ_outside fQ_shut iQ_rows iQ_allRows iQ_columns) (WW nW hw lw kw wl wb wG)
      have hPc := hP.mem (fun q h => p9.mem_iff.mpr (List.mem_append_left _ h))
      have hDc := (hD.perm p9).left
      have hKc : va_K (dC, dI) vwCl (tM kM) _ := hK.sub [15, 16, 17, 18, 19, 20, 21, 22, 23, 24] rfl
      have hFc := freeG p9 hD hS hA
      refine va_calli (va_runV (As := [.int l3_x20]) (rest := [.int l2_x20]) ⟨hx, hb, hml, hown, hts⟩ (m_X1_isEvenNeed l dC dI hM aM kM iM_stands iM_variables iM_rows iM_goals iM_differents iM_cases fM_from fM_to fM_whole fM_ways iM_plainRows fM_plainRow fM_kept fM_goalOver fM_goalUnder fM_goalMax fM_different l3_x20 (b_iM_stands) (b_iM_variables) (b_iM_rows) (b_iM_goals) (b_iM_differents) (b_iM_cases) b_fM_ways (b_iM_plainRows) b_fM_plainRow (by first | with_reducible assumption | omega | assumption) (⟨b_l3_x20.1, Int.le_trans b_l3_x20.2 (by decide)⟩) (by omega) H.size) (cwV 1 hts gwsMX3_findShortfall_0 rfl rfl rfl hd_yX1_isEvenNeed_RX1 (by decide +kernel)) (fz_pre (va_recv hK hP (ci := 1) (q0 := 17) rfl rfl) hPc hKc hDc) rfl rfl hl.1 rfl (lv_room (Nat.le_of_ble_eq_true rfl)) dX3_findShortfall_37 (by decide +kernel)) hS (fun q _ h => hFc q h) hFc (fun r663 u t9_ H locs ht hvm hw9 hB9 hz1 hk1 hS => ?_)
      revert hw9
      refine fz_a2 ?_
      intro b_r663 f663_0
      have p8 := p9
      obtain ⟨hP, hD⟩ := frameG p9 p8 hP hD hk1 hFc (fz_P ht hB9.1) hB9.2
      refine W.cut (pc := 48) (fun H locs ls stk => ∃ (k0_j12 : Int32), (1 ≤ k0_j12.toInt ∧ k0_j12.toInt ≤ 2) ∧  stk = [.int k0_j12, .int l2_x20] ∧ va_P (dC, dI) vwCl (WG hG aG kG hM hO hQ hw iG_made iG_keptNeeds fG_kept fG_need fG_turn iG_columns ++ (WO hO aO kO hM hQ hw iO_answered iO_searched iO_searchedRelaxed iO_counted fO_countedCase gO_goalNumber gO_goalScale fO_start fO_column fO_chosen ++ (WM hM aM kM iM_stands iM_variables iM_rows iM_goals iM_differents iM_cases fM_from fM_to fM_whole fM_ways iM_plainRows fM_plainRow fM_kept fM_goalOver fM_goalUnder fM_goalMax fM_different ++ (WQ hQ aQ kQ hw fQ_inside fQ_outside fQ_shut iQ_rows iQ_allRows iQ_columns ++ (WW nW hw lw kw wl wb wG))))) H ∧ va_D A (WG hG aG kG hM hO hQ hw iG_made iG_keptNeeds fG_kept fG_need fG_turn iG_columns ++ (WO hO aO kO hM hQ hw iO_answered iO_searched iO_searchedRelaxed iO_counted fO_countedCase gO_goalNumber gO_goalScale fO_start fO_column fO_chosen ++ (WM hM aM kM iM_stands iM_variables iM_rows iM_goals iM_differents iM_cases fM_from fM_to fM_whole fM_ways iM_plainRows fM_plainRow fM_kept fM_goalOver fM_goalUnder fM_goalMax fM_different ++ (WQ hQ aQ kQ hw fQ_inside fQ_outside fQ_shut iQ_rows iQ_allRows iQ_columns ++ (WW nW hw lw kw wl wb wG))))) ∧ va_S A s.heap H locs ∧ lv_has ls 5 [(3, .int l3_x20), (2, .int l2_x20), (1, .int (iI (iM_variables.toInt + 1))), (0, .ref (hG 0))]) (fun join12 => ?_) ?_
      · refine lv_if_eq (tgt := 47) hx hb dX3_findShortfall_40 (by decide) (fun c_40 => ?_) (fun c_40 => ?_)
        · have t_40 : r663.toInt = 0 := toI_eq c_40 rfl (by decide : (0 : Int32).toInt = 0)
          refine lv_iconst (v := 1) hx hb dX3_findShortfall_47 (by decide) ?_
          have hl : lv_has _ _ ([(3, .int l3_x20), (2, .int l2_x20), (1, .int (iI (iM_variables.toInt + 1))), (0, .ref (hG 0))]) := lv_sub hl [0, 1, 2, 3] rfl
          exact join12 _ _ _ _ ⟨1, (show 1 ≤ (1 : Int32).toInt ∧ (1 : Int32).toInt ≤ 2 from by decide), rfl, hP, hD, hS, hl⟩
        · have t_40 : ¬ r663.toInt = 0 := toI_neq c_40 rfl (by decide : (0 : Int32).toInt = 0)
          refine lv_iconst (v := 2) hx hb dX3_findShortfall_43 (by decide) ?_
          refine lv_goto (tgt := 48) hx hb dX3_findShortfall_44 (by decide) ?_
          have hl : lv_has _ _ ([(3, .int l3_x20), (2, .int l2_x20), (1, .int (iI (iM_variables.toInt + 1))), (0, .ref (hG 0))]) := lv_sub hl [0, 1, 2, 3] rfl
          exact join12 _ _ _ _ ⟨2, (show 1 ≤ (2 : Int32).toInt ∧ (2 : Int32).toInt ≤ 2 from by decide), rfl, hP, hD, hS, hl⟩
      · rintro H locs ls stk ⟨k0_j12, b_k0_j12, rfl, hP, hD, hS, hl⟩
        refine lv_iadd hx hb dX3_findShortfall_48 ?_
        refine lv_topi (fun y664 hy664 => ?_)
        obtain rfl : (iI (l2_x20.toInt + k0_j12.toInt)) = y664 := (hy664.trans (iI_add2 (iI_of _) (iI_of _))).symm
        refine lv_istore_n hx hb dX3_findShortfall_49 rfl hl (by decide) rfl (fun ls (hl : lv_has ls _ ([(2, .int (iI (l2_x20.toInt + k0_j12.toInt))), (3, .int l3_x20), (1, .int (iI (iM_variables.toInt + 1))), (0, .ref (hG 0))])) => ?_)
        refine lv_iinc (v := (iI (l3_x20.toInt + 1))) hx hb dX3_findShortfall_50 hl (k := 1) rfl (iI_add2 (iI_of _) (by decide : (1 : Int32) = iI 1)) (by decide) rfl (fun ls (hl : lv_has ls _ ([(3, .int (iI (l3_x20.toInt + 1))), (2, .int (iI (l2_x20.toInt + k0_j12.toInt))), (1, .int (iI (iM_variables.toInt + 1))), (0, .ref (hG 0))])) => ?_)
        refine lv_goto (tgt := 20) hx hb dX3_findShortfall_53 (by decide) ?_
        have hl : lv_has _ _ ([(3, .int (iI (l3_x20.toInt + 1))), (2, .int (iI (l2_x20.toInt + k0_j12.toInt))), (1, .int (iI (iM_variables.toInt + 1))), (0, .ref (hG 0))]) := lv_sub hl [0, 1, 2, 3] rfl
        exact ihx20 (iI (l3_x20.toInt + 1)) (iI (l2_x20.toInt + k0_j12.toInt)) _ _ _ (iI_rng (Int.le_trans (by decide) (Int.add_le_add (b_l3_x20.1) (Int.le_refl _))) (by omega) (by decide) (by decide)) (iI_rng (Int.le_trans (by decide) (Int.add_le_add (b_l2_x20.1) (b_k0_j12.1))) (by omega) (by decide) (by decide)) (show (iI (l2_x20.toInt + k0_j12.toInt)).toInt ≤ 8 + 2 * (iI (l3_x20.toInt + 1)).toInt from by rw [iI_t (E := l3_x20.toInt + 1) (by omega) (by omega), iI_t (by omega) (by omega)]; omega) (by have e9 : ((iI (l3_x20.toInt + 1))).toInt = (l3_x20.toInt + 1) := (iI_t (Int.le_trans (by decide) (Int.add_le_add (b_l3_x20.1) (Int.le_refl _))) (Int.le_trans (Int.add_le_add (b_l3_x20.2) (Int.le_refl _)) (by decide))); omega) hP hD hS hl
end
section
theorem hd_yX3_findShortfall_RX3 : yX3_findShortfall.cls = RX3 ∧ yX3_findShortfall.cls ≠ "java/lang/invoke/MethodHandle" ∧ yX3_findShortfall.cls ≠ "java/lang/invoke/VarHandle" ∧ (parseMethodDescriptor yX3_findShortfall.desc).map (fun d => d.parameters.length) = some 0 := by decide +kernel
theorem hd_yX3_chooseColumns_RX3 : yX3_chooseColumns.cls = RX3 ∧ yX3_chooseColumns.cls ≠ "java/lang/invoke/MethodHandle" ∧ yX3_chooseColumns.cls ≠ "java/lang/invoke/VarHandle" ∧ (parseMethodDescriptor yX3_chooseColumns.desc).map (fun d => d.parameters.length) = some 1 := by decide +kernel
theorem hd_yX3_layMultipliers_RX3 : yX3_layMultipliers.cls = RX3 ∧ yX3_layMultipliers.cls ≠ "java/lang/invoke/MethodHandle" ∧ yX3_layMultipliers.cls ≠ "java/lang/invoke/VarHandle" ∧ (parseMethodDescriptor yX3_layMultipliers.desc).map (fun d => d.parameters.length) = some 1 := by decide +kernel
theorem hd_yX3_findBest_RX3 : yX3_findBest.cls = RX3 ∧ yX3_findBest.cls ≠ "java/lang/invoke/MethodHandle" ∧ yX3_findBest.cls ≠ "java/lang/invoke/VarHandle" ∧ (parseMethodDescriptor yX3_findBest.desc).map (fun d => d.parameters.length) = some 0 := by decide +kernel
theorem hd_yX3_takeMultipliers_RX3 : yX3_takeMultipliers.cls = RX3 ∧ yX3_takeMultipliers.cls ≠ "java/lang/invoke/MethodHandle" ∧ yX3_takeMultipliers.cls ≠ "java/lang/invoke/VarHandle" ∧ (parseMethodDescriptor yX3_takeMultipliers.desc).map (fun d => d.parameters.length) = some 0 := by decide +kernel
theorem hd_yX3_canSink_RX3 : yX3_canSink.cls = RX3 ∧ yX3_canSink.cls ≠ "java/lang/invoke/MethodHandle" ∧ yX3_canSink.cls ≠ "java/lang/invoke/VarHandle" ∧ (parseMethodDescriptor yX3_canSink.desc).map (fun d => d.parameters.length) = some 1 := by decide +kernel
theorem hd_yX3_dropNeed_RX3 : yX3_dropNeed.cls = RX3 ∧ yX3_dropNeed.cls ≠ "java/lang/invoke/MethodHandle" ∧ yX3_dropNeed.cls ≠ "java/lang/invoke/VarHandle" ∧ (parseMethodDescriptor yX3_dropNeed.desc).map (fun d => d.parameters.length) = some 1 := by decide +kernel
theorem dX3_makeProof_0 : decode cX3_makeProof 0 = .ok (.aload_n 0, 1) := dk_42 (by decide +kernel)
theorem dX3_makeProof_1 : decode cX3_makeProof 1 = .ok (.getfield 72, 3) := dk_180 (by decide +kernel)
theorem dX3_makeProof_4 : decode cX3_makeProof 4 = .ok (.ifCond .eq 8, 3) := dk_153 (by decide +kernel)
theorem dX3_makeProof_7 : decode cX3_makeProof 7 = .ok (.aload_n 0, 1) := dk_42 (by decide +kernel)
theorem dX3_makeProof_8 : decode cX3_makeProof 8 = .ok (.getfield 76, 3) := dk_180 (by decide +kernel)
theorem dX3_makeProof_11 : decode cX3_makeProof 11 = .ok (.ireturn, 1) := dk_172 (by decide +kernel)
theorem dX3_makeProof_12 : decode cX3_makeProof 12 = .ok (.aload_n 0, 1) := dk_42 (by decide +kernel)
theorem dX3_makeProof_13 : decode cX3_makeProof 13 = .ok (.getfield 63, 3) := dk_180 (by decide +kernel)
theorem dX3_makeProof_16 : decode cX3_makeProof 16 = .ok (.invokevirtual 80, 3) := dk_182 (by decide +kernel)
theorem dX3_makeProof_19 : decode cX3_makeProof 19 = .ok (.aload_n 0, 1) := dk_42 (by decide +kernel)
theorem dX3_makeProof_20 : decode cX3_makeProof 20 = .ok (.getfield 63, 3) := dk_180 (by decide +kernel)
theorem dX3_makeProof_23 : decode cX3_makeProof 23 = .ok (.iconst 1, 1) := dk_4 (by decide +kernel)
theorem dX3_makeProof_24 : decode cX3_makeProof 24 = .ok (.iconst 1, 1) := dk_4 (by decide +kernel)
theorem dX3_makeProof_25 : decode cX3_makeProof 25 = .ok (.aload_n 0, 1) := dk_42 (by decide +kernel)
theorem dX3_makeProof_26 : decode cX3_makeProof 26 = .ok (.getfield 59, 3) := dk_180 (by decide +kernel)
theorem dX3_makeProof_29 : decode cX3_makeProof 29 = .ok (.getfield 83, 3) := dk_180 (by decide +kernel)
theorem dX3_makeProof_32 : decode cX3_makeProof 32 = .ok (.invokestatic 86, 3) := dk_184 (by decide +kernel)
theorem dX3_makeProof_35 : decode cX3_makeProof 35 = .ok (.invokevirtual 92, 3) := dk_182 (by decide +kernel)
theorem dX3_makeProof_38 : decode cX3_makeProof 38 = .ok (.ifCond .eq 31, 3) := dk_153 (by decide +kernel)
theorem dX3_makeProof_41 : decode cX3_makeProof 41 = .ok (.aload_n 0, 1) := dk_42 (by decide +kernel)
theorem dX3_makeProof_42 : decode cX3_makeProof 42 = .ok (.getfield 63, 3) := dk_180 (by decide +kernel)
theorem dX3_makeProof_45 : decode cX3_makeProof 45 = .ok (.iconst 1, 1) := dk_4 (by decide +kernel)
theorem dX3_makeProof_46 : decode cX3_makeProof 46 = .ok (.invokevirtual 96, 3) := dk_182 (by decide +kernel)
theorem dX3_makeProof_49 : decode cX3_makeProof 49 = .ok (.ifCond .eq 20, 3) := dk_153 (by decide +kernel)
theorem dX3_makeProof_52 : decode cX3_makeProof 52 = .ok (.aload_n 0, 1) := dk_42 (by decide +kernel)
theorem dX3_makeProof_53 : decode cX3_makeProof 53 = .ok (.invokevirtual 100, 3) := dk_182 (by decide +kernel)
theorem dX3_makeProof_56 : decode cX3_makeProof 56 = .ok (.aload_n 0, 1) := dk_42 (by decide +kernel)
theorem dX3_makeProof_57 : decode cX3_makeProof 57 = .ok (.iconst 0, 1) := dk_3 (by decide +kernel)
theorem dX3_makeProof_58 : decode cX3_makeProof 58 = .ok (.invokevirtual 103, 3) := dk_182 (by decide +kernel)
theorem dX3_makeProof_61 : decode cX3_makeProof 61 = .ok (.aload_n 0, 1) := dk_42 (by decide +kernel)
theorem dX3_makeProof_62 : decode cX3_makeProof 62 = .ok (.iconst 0, 1) := dk_3 (by decide +kernel)
theorem dX3_makeProof_63 : decode cX3_makeProof 63 = .ok (.invokevirtual 107, 3) := dk_182 (by decide +kernel)
theorem dX3_makeProof_66 : decode cX3_makeProof 66 = .ok (.goto 17, 3) := dk_167 (by decide +kernel)
theorem dX3_makeProof_69 : decode cX3_makeProof 69 = .ok (.aload_n 0, 1) := dk_42 (by decide +kernel)
theorem dX3_makeProof_70 : decode cX3_makeProof 70 = .ok (.invokevirtual 110, 3) := dk_182 (by decide +kernel)
theorem dX3_makeProof_73 : decode cX3_makeProof 73 = .ok (.aload_n 0, 1) := dk_42 (by decide +kernel)
theorem dX3_makeProof_74 : decode cX3_makeProof 74 = .ok (.iconst 1, 1) := dk_4 (by decide +kernel)
theorem dX3_makeProof_75 : decode cX3_makeProof 75 = .ok (.invokevirtual 103, 3) := dk_182 (by decide +kernel)
theorem dX3_makeProof_78 : decode cX3_makeProof 78 = .ok (.aload_n 0, 1) := dk_42 (by decide +kernel)
theorem dX3_makeProof_79 : decode cX3_makeProof 79 = .ok (.iconst 1, 1) := dk_4 (by decide +kernel)
theorem dX3_makeProof_80 : decode cX3_makeProof 80 = .ok (.invokevirtual 107, 3) := dk_182 (by decide +kernel)
theorem dX3_makeProof_83 : decode cX3_makeProof 83 = .ok (.aload_n 0, 1) := dk_42 (by decide +kernel)
theorem dX3_makeProof_84 : decode cX3_makeProof 84 = .ok (.iconst 0, 1) := dk_3 (by decide +kernel)
theorem dX3_makeProof_85 : decode cX3_makeProof 85 = .ok (.putfield 76, 3) := dk_181 (by decide +kernel)
theorem dX3_makeProof_88 : decode cX3_makeProof 88 = .ok (.aload_n 0, 1) := dk_42 (by decide +kernel)
theorem dX3_makeProof_89 : decode cX3_makeProof 89 = .ok (.getfield 59, 3) := dk_180 (by decide +kernel)
theorem dX3_makeProof_92 : decode cX3_makeProof 92 = .ok (.invokevirtual 113, 3) := dk_182 (by decide +kernel)
theorem dX3_makeProof_95 : decode cX3_makeProof 95 = .ok (.iconst 1, 1) := dk_4 (by decide +kernel)
theorem dX3_makeProof_96 : decode cX3_makeProof 96 = .ok (.isub, 1) := dk_100 (by decide +kernel)
theorem dX3_makeProof_97 : decode cX3_makeProof 97 = .ok (.istore_n 1, 1) := dk_60 (by decide +kernel)
theorem dX3_makeProof_98 : decode cX3_makeProof 98 = .ok (.iload_n 1, 1) := dk_27 (by decide +kernel)
theorem dX3_makeProof_99 : decode cX3_makeProof 99 = .ok (.ifCond .lt 55, 3) := dk_155 (by decide +kernel)
theorem dX3_makeProof_102 : decode cX3_makeProof 102 = .ok (.aload_n 0, 1) := dk_42 (by decide +kernel)
theorem dX3_makeProof_103 : decode cX3_makeProof 103 = .ok (.getfield 11, 3) := dk_180 (by decide +kernel)
theorem dX3_makeProof_106 : decode cX3_makeProof 106 = .ok (.iload_n 1, 1) := dk_27 (by decide +kernel)
theorem dX3_makeProof_107 : decode cX3_makeProof 107 = .ok (.aload_n 0, 1) := dk_42 (by decide +kernel)
theorem dX3_makeProof_108 : decode cX3_makeProof 108 = .ok (.iload_n 1, 1) := dk_27 (by decide +kernel)
theorem dX3_makeProof_109 : decode cX3_makeProof 109 = .ok (.invokevirtual 117, 3) := dk_182 (by decide +kernel)
theorem dX3_makeProof_112 : decode cX3_makeProof 112 = .ok (.ifCond .ne 7, 3) := dk_154 (by decide +kernel)
theorem dX3_makeProof_115 : decode cX3_makeProof 115 = .ok (.iconst 1, 1) := dk_4 (by decide +kernel)
theorem dX3_makeProof_116 : decode cX3_makeProof 116 = .ok (.goto 4, 3) := dk_167 (by decide +kernel)
theorem dX3_makeProof_119 : decode cX3_makeProof 119 = .ok (.iconst 0, 1) := dk_3 (by decide +kernel)
theorem dX3_makeProof_120 : decode cX3_makeProof 120 = .ok (.bastore, 1) := dk_84 (by decide +kernel)
theorem dX3_makeProof_121 : decode cX3_makeProof 121 = .ok (.aload_n 0, 1) := dk_42 (by decide +kernel)
theorem dX3_makeProof_122 : decode cX3_makeProof 122 = .ok (.getfield 11, 3) := dk_180 (by decide +kernel)
theorem dX3_makeProof_125 : decode cX3_makeProof 125 = .ok (.iload_n 1, 1) := dk_27 (by decide +kernel)
theorem dX3_makeProof_126 : decode cX3_makeProof 126 = .ok (.baload, 1) := dk_51 (by decide +kernel)
theorem dX3_makeProof_127 : decode cX3_makeProof 127 = .ok (.ifCond .eq 16, 3) := dk_153 (by decide +kernel)
theorem dX3_makeProof_130 : decode cX3_makeProof 130 = .ok (.aload_n 0, 1) := dk_42 (by decide +kernel)
theorem dX3_makeProof_131 : decode cX3_makeProof 131 = .ok (.dup, 1) := dk_89 (by decide +kernel)
theorem dX3_makeProof_132 : decode cX3_makeProof 132 = .ok (.getfield 76, 3) := dk_180 (by decide +kernel)
theorem dX3_makeProof_135 : decode cX3_makeProof 135 = .ok (.iconst 1, 1) := dk_4 (by decide +kernel)
theorem dX3_makeProof_136 : decode cX3_makeProof 136 = .ok (.iadd, 1) := dk_96 (by decide +kernel)
theorem dX3_makeProof_137 : decode cX3_makeProof 137 = .ok (.putfield 76, 3) := dk_181 (by decide +kernel)
theorem dX3_makeProof_140 : decode cX3_makeProof 140 = .ok (.goto 8, 3) := dk_167 (by decide +kernel)
theorem dX3_makeProof_143 : decode cX3_makeProof 143 = .ok (.aload_n 0, 1) := dk_42 (by decide +kernel)
theorem dX3_makeProof_144 : decode cX3_makeProof 144 = .ok (.iload_n 1, 1) := dk_27 (by decide +kernel)
theorem dX3_makeProof_145 : decode cX3_makeProof 145 = .ok (.invokevirtual 121, 3) := dk_182 (by decide +kernel)
theorem dX3_makeProof_148 : decode cX3_makeProof 148 = .ok (.iinc 1 (-1), 3) := dk_132 (by decide +kernel)
theorem dX3_makeProof_151 : decode cX3_makeProof 151 = .ok (.goto (-53), 3) := dk_167 (by decide +kernel)
theorem dX3_makeProof_154 : decode cX3_makeProof 154 = .ok (.aload_n 0, 1) := dk_42 (by decide +kernel)
theorem dX3_makeProof_155 : decode cX3_makeProof 155 = .ok (.invokevirtual 125, 3) := dk_182 (by decide +kernel)
theorem dX3_makeProof_158 : decode cX3_makeProof 158 = .ok (.aload_n 0, 1) := dk_42 (by decide +kernel)
theorem dX3_makeProof_159 : decode cX3_makeProof 159 = .ok (.iconst 1, 1) := dk_4 (by decide +kernel)
theorem dX3_makeProof_160 : decode cX3_makeProof 160 = .ok (.putfield 72, 3) := dk_181 (by decide +kernel)
theorem dX3_makeProof_163 : decode cX3_makeProof 163 = .ok (.aload_n 0, 1) := dk_42 (by decide +kernel)
theorem dX3_makeProof_164 : decode cX3_makeProof 164 = .ok (.getfield 76, 3) := dk_180 (by decide +kernel)
theorem dX3_makeProof_167 : decode cX3_makeProof 167 = .ok (.ireturn, 1) := dk_172 (by decide +kernel)
def wsMX3_makeProof : List Cond := .code yX3_makeProof cX3_makeProof 2 (some .int) :: ([.fieldLink RX3 72 "OptimaWorks$Prover" "made" "Z", .fieldLink RX3 63 "OptimaWorks$Prover" "solver" "LOptimaWorks$Solver;", .fieldLink RX3 59 "OptimaWorks$Prover" "model" "LOptimaWorks$Model;", .fieldLink RX3 83 "OptimaWorks$Model" "goals" "I", .methodLink RX3 86 Lib.Math.min.name, .static Lib.Math.min.name, .initialized "java/lang/Math", .code Lib.Math.min.name Lib.Math.min.code 2 (some .int), .fieldLink RX3 76 "OptimaWorks$Prover" "keptNeeds" "I", .fieldLink RX3 11 "OptimaWorks$Prover" "kept" "[Z"] ++ wsX10 ++ wsX30 ++ (wsV RX3 80 RX5 yX5_scaleGoals wsMX5_scaleGoals) ++ (wsV RX3 92 RX5 yX5_lay wsMX5_lay) ++ (wsV RX3 110 RX3 yX3_findShortfall wsMX3_findShortfall) ++ (wsV RX3 103 RX3 yX3_chooseColumns wsMX3_chooseColumns) ++ (wsV RX3 107 RX3 yX3_layMultipliers wsMX3_layMultipliers) ++ (wsV RX3 96 RX5 yX5_settle wsMX5_settle) ++ (wsV RX3 100 RX3 yX3_findBest wsMX3_findBest) ++ (wsV RX3 113 RX1 yX1_needs wsMX1_needs) ++ (wsV RX3 117 RX3 yX3_canSink wsMX3_canSink) ++ (wsV RX3 121 RX3 yX3_dropNeed wsMX3_dropNeed) ++ (wsV RX3 125 RX3 yX3_takeMultipliers wsMX3_takeMultipliers))
theorem iwsMX3_makeProof_in1 : ∀ w ∈ wsX10, w ∈ wsMX3_makeProof := fun _ h => List.mem_cons_of_mem _ (List.mem_append_left _ (List.mem_append_left _ (List.mem_append_left _ (List.mem_append_left _ (List.mem_append_left _ (List.mem_append_left _ (List.mem_append_left _ (List.mem_append_left _ (List.mem_append_left _ (List.mem_append_left _ (List.mem_append_left _ (List.mem_append_left _ (List.mem_append_right _ h)))))))))))))
theorem iwsMX3_makeProof_in3 : ∀ w ∈ wsX30, w ∈ wsMX3_makeProof := fun _ h => List.mem_cons_of_mem _ (List.mem_append_left _ (List.mem_append_left _ (List.mem_append_left _ (List.mem_append_left _ (List.mem_append_left _ (List.mem_append_left _ (List.mem_append_left _ (List.mem_append_left _ (List.mem_append_left _ (List.mem_append_left _ (List.mem_append_left _ (List.mem_append_right _ h))))))))))))
theorem gwsMX3_makeProof_0 : GoodIn wsMX3_makeProof (wsV RX3 80 RX5 yX5_scaleGoals wsMX5_scaleGoals) := goodIn_sub (fun _ h => List.mem_cons_of_mem _ (List.mem_append_left _ (List.mem_append_left _ (List.mem_append_left _ (List.mem_append_left _ (List.mem_append_left _ (List.mem_append_left _ (List.mem_append_left _ (List.mem_append_left _ (List.mem_append_left _ (List.mem_append_left _ (List.mem_append_right _ h)))))))))))) (gdV (by decide +kernel) gdwsMX5_scaleGoals)
theorem gwsMX3_makeProof_1 : GoodIn wsMX3_makeProof (wsV RX3 92 RX5 yX5_lay wsMX5_lay) := goodIn_sub (fun _ h => List.mem_cons_of_mem _ (List.mem_append_left _ (List.mem_append_left _ (List.mem_append_left _ (List.mem_append_left _ (List.mem_append_left _ (List.mem_append_left _ (List.mem_append_left _ (List.mem_append_left _ (List.mem_append_left _ (List.mem_append_right _ h))))))))))) (gdV (by decide +kernel) gdwsMX5_lay)
theorem gwsMX3_makeProof_2 : GoodIn wsMX3_makeProof (wsV RX3 110 RX3 yX3_findShortfall wsMX3_findShortfall) := goodIn_sub (fun _ h => List.mem_cons_of_mem _ (List.mem_append_left _ (List.mem_append_left _ (List.mem_append_left _ (List.mem_append_left _ (List.mem_append_left _ (List.mem_append_left _ (List.mem_append_left _ (List.mem_append_left _ (List.mem_append_right _ h)))))))))) (gdV (by decide +kernel) gdwsMX3_findShortfall)
theorem gwsMX3_makeProof_3 : GoodIn wsMX3_makeProof (wsV RX3 103 RX3 yX3_chooseColumns wsMX3_chooseColumns) := goodIn_sub (fun _ h => List.mem_cons_of_mem _ (List.mem_append_left _ (List.mem_append_left _ (List.mem_append_left _ (List.mem_append_left _ (List.mem_append_left _ (List.mem_append_left _ (List.mem_append_left _ (List.mem_append_right _ h))))))))) (gdV (by decide +kernel) gdwsMX3_chooseColumns)
theorem gwsMX3_makeProof_4 : GoodIn wsMX3_makeProof (wsV RX3 107 RX3 yX3_layMultipliers wsMX3_layMultipliers) := goodIn_sub (fun _ h => List.mem_cons_of_mem _ (List.mem_append_left _ (List.mem_append_left _ (List.mem_append_left _ (List.mem_append_left _ (List.mem_append_left _ (List.mem_append_left _ (List.mem_append_right _ h)))))))) (gdV (by decide +kernel) gdwsMX3_layMultipliers)
theorem gwsMX3_makeProof_5 : GoodIn wsMX3_makeProof (wsV RX3 96 RX5 yX5_settle wsMX5_settle) := goodIn_sub (fun _ h => List.mem_cons_of_mem _ (List.mem_append_left _ (List.mem_append_left _ (List.mem_append_left _ (List.mem_append_left _ (List.mem_append_left _ (List.mem_append_right _ h))))))) (gdV (by decide +kernel) gdwsMX5_settle)
theorem gwsMX3_makeProof_6 : GoodIn wsMX3_makeProof (wsV RX3 100 RX3 yX3_findBest wsMX3_findBest) := goodIn_sub (fun _ h => List.mem_cons_of_mem _ (List.mem_append_left _ (List.mem_append_left _ (List.mem_append_left _ (List.mem_append_left _ (List.mem_append_right _ h)))))) (gdV (by decide +kernel) gdwsMX3_findBest)
theorem gwsMX3_makeProof_7 : GoodIn wsMX3_makeProof (wsV RX3 113 RX1 yX1_needs wsMX1_needs) := goodIn_sub (fun _ h => List.mem_cons_of_mem _ (List.mem_append_left _ (List.mem_append_left _ (List.mem_append_left _ (List.mem_append_right _ h))))) (gdV (by decide +kernel) gdwsMX1_needs)
theorem gwsMX3_makeProof_8 : GoodIn wsMX3_makeProof (wsV RX3 117 RX3 yX3_canSink wsMX3_canSink) := goodIn_sub (fun _ h => List.mem_cons_of_mem _ (List.mem_append_left _ (List.mem_append_left _ (List.mem_append_right _ h)))) (gdV (by decide +kernel) gdwsMX3_canSink)
theorem gwsMX3_makeProof_9 : GoodIn wsMX3_makeProof (wsV RX3 121 RX3 yX3_dropNeed wsMX3_dropNeed) := goodIn_sub (fun _ h => List.mem_cons_of_mem _ (List.mem_append_left _ (List.mem_append_right _ h))) (gdV (by decide +kernel) gdwsMX3_dropNeed)
theorem gwsMX3_makeProof_10 : GoodIn wsMX3_makeProof (wsV RX3 125 RX3 yX3_takeMultipliers wsMX3_takeMultipliers) := goodIn_sub (fun _ h => List.mem_cons_of_mem _ (List.mem_append_right _ h)) (gdV (by decide +kernel) gdwsMX3_takeMultipliers)
theorem gdwsMX3_makeProof : wsMX3_makeProof.all goodWord = true := gdC rfl (gdA (gdA (gdA (gdA (gdA (gdA (gdA (gdA (gdA (gdA (gdA (gdA (gdA (by decide +kernel : ([.fieldLink RX3 72 "OptimaWorks$Prover" "made" "Z", .fieldLink RX3 63 "OptimaWorks$Prover" "solver" "LOptimaWorks$Solver;", .fieldLink RX3 59 "OptimaWorks$Prover" "model" "LOptimaWorks$Model;", .fieldLink RX3 83 "OptimaWorks$Model" "goals" "I", .methodLink RX3 86 Lib.Math.min.name, .static Lib.Math.min.name, .initialized "java/lang/Math", .code Lib.Math.min.name Lib.Math.min.code 2 (some .int), .fieldLink RX3 76 "OptimaWorks$Prover" "keptNeeds" "I", .fieldLink RX3 11 "OptimaWorks$Prover" "kept" "[Z"] : List Cond).all goodWord = true) gdwsX10) gdwsX30) (gdV (by decide +kernel) gdwsMX5_scaleGoals)) (gdV (by decide +kernel) gdwsMX5_lay)) (gdV (by decide +kernel) gdwsMX3_findShortfall)) (gdV (by decide +kernel) gdwsMX3_chooseColumns)) (gdV (by decide +kernel) gdwsMX3_layMultipliers)) (gdV (by decide +kernel) gdwsMX5_settle)) (gdV (by decide +kernel) gdwsMX3_findBest)) (gdV (by decide +kernel) gdwsMX1_needs)) (gdV (by decide +kernel) gdwsMX3_canSink)) (gdV (by decide +kernel) gdwsMX3_dropNeed)) (gdV (by decide +kernel) gdwsMX3_takeMultipliers))
theorem hm_m_X3_makeProof_0 : (.fieldLink RX3 72 "OptimaWorks$Prover" "made" "Z" : Cond) ∈ wsMX3_makeProof := by decide +kernel
theorem hm_m_X3_makeProof_1 : (.fieldLink RX3 63 "OptimaWorks$Prover" "solver" "LOptimaWorks$Solver;" : Cond) ∈ wsMX3_makeProof := by decide +kernel
theorem hm_m_X3_makeProof_2 : (.fieldLink RX3 59 "OptimaWorks$Prover" "model" "LOptimaWorks$Model;" : Cond) ∈ wsMX3_makeProof := by decide +kernel
theorem hm_m_X3_makeProof_3 : (.fieldLink RX3 76 "OptimaWorks$Prover" "keptNeeds" "I" : Cond) ∈ wsMX3_makeProof := by decide +kernel
theorem hm_m_X3_makeProof_4 : (.fieldLink RX3 11 "OptimaWorks$Prover" "kept" "[Z" : Cond) ∈ wsMX3_makeProof := by decide +kernel
set_option maxHeartbeats 4000000 in
set_option maxRecDepth 100000 in
/-- a proof -/
theorem m_X3_makeProof (l : Launch) (dC : Nat → ClassId) (dI : Nat → Nat → Nat) (hG : Nat → Nat) (aG : Nat → Nat) (kG : Nat → ClassId) (hM : Nat → Nat) (hO : Nat → Nat) (hQ : Nat → Nat) (hw : Nat → Nat) (iG_made : Int32) (iG_keptNeeds : Int32) (fG_kept : Nat → Int32) (fG_need : Nat → Int32) (fG_turn : Nat → Int32) (iG_columns : Int32) (aO : Nat → Nat) (kO : Nat → ClassId) (iO_answered : Int32) (iO_searched : Int32) (iO_searchedRelaxed : Int32) (iO_counted : Int32) (fO_countedCase : Nat → Int32) (gO_goalNumber : Nat → Int64) (gO_goalScale : Nat → Int64) (fO_start : Nat → Int32) (fO_column : Nat → Int32) (fO_chosen : Nat → Int32) (aM : Nat → Nat) (kM : Nat → ClassId) (iM_stands : Int32) (iM_variables : Int32) (iM_rows : Int32) (iM_goals : Int32) (iM_differents : Int32) (iM_cases : Int32) (fM_from : Nat → Int32) (fM_to : Nat → Int32) (fM_whole : Nat → Int32) (fM_ways : Nat → Int32) (iM_plainRows : Int32) (fM_plainRow : Nat → Int32) (fM_kept : Nat → Int32) (fM_goalOver : Nat → Int32) (fM_goalUnder : Nat → Int32) (fM_goalMax : Nat → Int32) (fM_different : Nat → Int32) (aQ : Nat → Nat) (kQ : Nat → ClassId) (fQ_inside : Nat → Int32) (fQ_outside : Nat → Int32) (fQ_shut : Nat → Int32) (iQ_rows : Int32) (iQ_allRows : Int32) (iQ_columns : Int32) (nW : Nat) (lw : Nat → Nat) (kw : ClassId) (wl : Nat → Int32) (wb : Nat → Int32) (wG : Nat → Nat → Int64) (b_iG_made : 0 ≤ iG_made.toInt ∧ iG_made.toInt ≤ 1) (b_fG_need : ∀ q : Nat, 0 ≤ (fG_need q).toInt ∧ (fG_need q).toInt ≤ 27) (b_iG_columns : 0 ≤ iG_columns.toInt ∧ iG_columns.toInt ≤ 40) (b_iO_answered : 0 ≤ iO_answered.toInt ∧ iO_answered.toInt ≤ 1) (b_iO_searched : 0 ≤ iO_searched.toInt ∧ iO_searched.toInt ≤ 1) (b_iO_searchedRelaxed : 0 ≤ iO_searchedRelaxed.toInt ∧ iO_searchedRelaxed.toInt ≤ 1) (b_iO_counted : (-1) ≤ iO_counted.toInt ∧ iO_counted.toInt ≤ 64) (b_fO_countedCase : ∀ q : Nat, 0 ≤ (fO_countedCase q).toInt ∧ (fO_countedCase q).toInt ≤ 200000) (b_fO_column : ∀ q : Nat, (-1) ≤ (fO_column q).toInt ∧ (fO_column q).toInt ≤ 8) (b_fO_chosen : ∀ q : Nat, 0 ≤ (fO_chosen q).toInt ∧ (fO_chosen q).toInt ≤ 2) (b_iM_stands : 0 ≤ iM_stands.toInt ∧ iM_stands.toInt ≤ 1) (b_iM_variables : 0 ≤ iM_variables.toInt ∧ iM_variables.toInt ≤ 8) (b_iM_rows : 0 ≤ iM_rows.toInt ∧ iM_rows.toInt ≤ 12) (b_iM_goals : 0 ≤ iM_goals.toInt ∧ iM_goals.toInt ≤ 3) (b_iM_differents : 0 ≤ iM_differents.toInt ∧ iM_differents.toInt ≤ 8) (b_iM_cases : 0 ≤ iM_cases.toInt ∧ iM_cases.toInt ≤ 200000) (b_fM_ways : ∀ q : Nat, 0 ≤ (fM_ways q).toInt ∧ (fM_ways q).toInt ≤ 3) (b_iM_plainRows : 0 ≤ iM_plainRows.toInt ∧ iM_plainRows.toInt ≤ 12) (b_fM_plainRow : ∀ q : Nat, 0 ≤ (fM_plainRow q).toInt ∧ (fM_plainRow q).toInt ≤ 11) (b_pr : iM_plainRows.toInt ≤ iM_rows.toInt) (b_iQ_rows : 0 ≤ iQ_rows.toInt ∧ iQ_rows.toInt ≤ 40) (b_iQ_allRows : 0 ≤ iQ_allRows.toInt ∧ iQ_allRows.toInt ≤ 40) (b_iQ_columns : 0 ≤ iQ_columns.toInt ∧ iQ_columns.toInt ≤ 40) (b_tb : TbO iQ_rows iQ_allRows iQ_columns) (b_wl : ∀ q : Nat, 0 ≤ (wl q).toInt ∧ (wl q).toInt ≤ 14) (b_wb : ∀ q : Nat, 0 ≤ (wb q).toInt ∧ (wb q).toInt ≤ 1) (hnW : 474 ≤ nW) (sz : Nat) : Met l yX3_makeProof wsMX3_makeProof ({ frames := 7, cells := 0, slots := 0, locals := 180 }) (va_Pc [.ref (hG 0)] (fun U => U.heap.size = sz ∧ va_P (dC, dI) vwCl (WG hG aG kG hM hO hQ hw iG_made iG_keptNeeds fG_kept fG_need fG_turn iG_columns ++ (WO hO aO kO hM hQ hw iO_answered iO_searched iO_searchedRelaxed iO_counted fO_countedCase gO_goalNumber gO_goalScale fO_start fO_column fO_chosen ++ (WM hM aM kM iM_stands iM_variables iM_rows iM_goals iM_differents iM_cases fM_from fM_to fM_whole fM_ways iM_plainRows fM_plainRow fM_kept fM_goalOver fM_goalUnder fM_goalMax fM_different ++ (WQ hQ aQ kQ hw fQ_inside fQ_outside fQ_shut iQ_rows iQ_allRows iQ_columns ++ (WW nW hw lw kw wl wb wG))))) U.heap ∧ va_K (dC, dI) vwCl (tG kG ++ (tO kO ++ (tM kM ++ (tQ kQ ++ (tW kw))))) U ∧ va_D (fun _ => True) (WG hG aG kG hM hO hQ hw iG_made iG_keptNeeds fG_kept fG_need fG_turn iG_columns ++ (WO hO aO kO hM hQ hw iO_answered iO_searched iO_searchedRelaxed iO_counted fO_countedCase gO_goalNumber gO_goalScale fO_start fO_column fO_chosen ++ (WM hM aM kM iM_stands iM_variables iM_rows iM_goals iM_differents iM_cases fM_from fM_to fM_whole fM_ways iM_plainRows fM_plainRow fM_kept fM_goalOver fM_goalUnder fM_goalMax fM_different ++ (WQ hQ aQ kQ hw fQ_inside fQ_outside fQ_shut iQ_rows iQ_allRows iQ_columns ++ (WW nW hw lw kw wl wb wG))))))) (va_Qi (fun (r : Int32) (u : (Int32) × (Int32) × (Nat → Int32) × (Nat → Int32) × (Nat → Int32) × (Int32) × (Nat → Int64) × (Nat → Int64) × (Nat → Int32) × (Nat → Int32) × (Nat → Int32) × (Nat → Int32) × (Nat → Int32) × (Int32) × (Int32) × (Int32) × (Nat → Int32) × (Nat → Int32) × (Nat → Nat → Int64)) => (0 ≤ (u.1).toInt ∧ (u.1).toInt ≤ 1) ∧ (∀ q : Nat, 0 ≤ ((u.2.2.2.1) q).toInt ∧ ((u.2.2.2.1) q).toInt ≤ 27) ∧ (0 ≤ (u.2.2.2.2.2.1).toInt ∧ (u.2.2.2.2.2.1).toInt ≤ 40) ∧ (∀ q : Nat, (-1) ≤ ((u.2.2.2.2.2.2.2.2.2.1) q).toInt ∧ ((u.2.2.2.2.2.2.2.2.2.1) q).toInt ≤ 8) ∧ (0 ≤ (u.2.2.2.2.2.2.2.2.2.2.2.2.2.1).toInt ∧ (u.2.2.2.2.2.2.2.2.2.2.2.2.2.1).toInt ≤ 40) ∧ (0 ≤ (u.2.2.2.2.2.2.2.2.2.2.2.2.2.2.1).toInt ∧ (u.2.2.2.2.2.2.2.2.2.2.2.2.2.2.1).toInt ≤ 40) ∧ (0 ≤ (u.2.2.2.2.2.2.2.2.2.2.2.2.2.2.2.1).toInt ∧ (u.2.2.2.2.2.2.2.2.2.2.2.2.2.2.2.1).toInt ≤ 40) ∧ (∀ q : Nat, 0 ≤ ((u.2.2.2.2.2.2.2.2.2.2.2.2.2.2.2.2.1) q).toInt ∧ ((u.2.2.2.2.2.2.2.2.2.2.2.2.2.2.2.2.1) q).toInt ≤ 14) ∧ (∀ q : Nat, 0 ≤ ((u.2.2.2.2.2.2.2.2.2.2.2.2.2.2.2.2.2.1) q).toInt ∧ ((u.2.2.2.2.2.2.2.2.2.2.2.2.2.2.2.2.2.1) q).toInt ≤ 1) ∧ (TbO (u.2.2.2.2.2.2.2.2.2.2.2.2.2.1) (u.2.2.2.2.2.2.2.2.2.2.2.2.2.2.1) (u.2.2.2.2.2.2.2.2.2.2.2.2.2.2.2.1))) (fun (u : (Int32) × (Int32) × (Nat → Int32) × (Nat → Int32) × (Nat → Int32) × (Int32) × (Nat → Int64) × (Nat → Int64) × (Nat → Int32) × (Nat → Int32) × (Nat → Int32) × (Nat → Int32) × (Nat → Int32) × (Int32) × (Int32) × (Int32) × (Nat → Int32) × (Nat → Int32) × (Nat → Nat → Int64)) t => va_P (dC, dI) vwCl (WG hG aG kG hM hO hQ hw (u.1) (u.2.1) (u.2.2.1) (u.2.2.2.1) (u.2.2.2.2.1) (u.2.2.2.2.2.1) ++ (WO hO aO kO hM hQ hw iO_answered iO_searched iO_searchedRelaxed iO_counted fO_countedCase (u.2.2.2.2.2.2.1) (u.2.2.2.2.2.2.2.1) (u.2.2.2.2.2.2.2.2.1) (u.2.2.2.2.2.2.2.2.2.1) fO_chosen ++ (WM hM aM kM iM_stands iM_variables iM_rows iM_goals iM_differents iM_cases fM_from fM_to fM_whole fM_ways iM_plainRows fM_plainRow fM_kept fM_goalOver fM_goalUnder fM_goalMax fM_different ++ (WQ hQ aQ kQ hw (u.2.2.2.2.2.2.2.2.2.2.1) (u.2.2.2.2.2.2.2.2.2.2.2.1) (u.2.2.2.2.2.2.2.2.2.2.2.2.1) (u.2.2.2.2.2.2.2.2.2.2.2.2.2.1) (u.2.2.2.2.2.2.2.2.2.2.2.2.2.2.1) (u.2.2.2.2.2.2.2.2.2.2.2.2.2.2.2.1) ++ (WW nW hw lw kw (u.2.2.2.2.2.2.2.2.2.2.2.2.2.2.2.2.1) (u.2.2.2.2.2.2.2.2.2.2.2.2.2.2.2.2.2.1) (u.2.2.2.2.2.2.2.2.2.2.2.2.2.2.2.2.2.2)))))) t.heap ∧ va_D (va_A (WG hG aG kG hM hO hQ hw iG_made iG_keptNeeds fG_kept fG_need fG_turn iG_columns ++ (WO hO aO kO hM hQ hw iO_answered iO_searched iO_searchedRelaxed iO_counted fO_countedCase gO_goalNumber gO_goalScale fO_start fO_column fO_chosen ++ (WM hM aM kM iM_stands iM_variables iM_rows iM_goals iM_differents iM_cases fM_from fM_to fM_whole fM_ways iM_plainRows fM_plainRow fM_kept fM_goalOver fM_goalUnder fM_goalMax fM_different ++ (WQ hQ aQ kQ hw fQ_inside fQ_outside fQ_shut iQ_rows iQ_allRows iQ_columns ++ (WW nW hw lw kw wl wb wG))))) sz) (WG hG aG kG hM hO hQ hw (u.1) (u.2.1) (u.2.2.1) (u.2.2.2.1) (u.2.2.2.2.1) (u.2.2.2.2.2.1) ++ (WO hO aO kO hM hQ hw iO_answered iO_searched iO_searchedRelaxed iO_counted fO_countedCase (u.2.2.2.2.2.2.1) (u.2.2.2.2.2.2.2.1) (u.2.2.2.2.2.2.2.2.1) (u.2.2.2.2.2.2.2.2.2.1) fO_chosen ++ (WM hM aM kM iM_stands iM_variables iM_rows iM_goals iM_differents iM_cases fM_from fM_to fM_whole fM_ways iM_plainRows fM_plainRow fM_kept fM_goalOver fM_goalUnder fM_goalMax fM_different ++ (WQ hQ aQ kQ hw (u.2.2.2.2.2.2.2.2.2.2.1) (u.2.2.2.2.2.2.2.2.2.2.2.1) (u.2.2.2.2.2.2.2.2.2.2.2.2.1) (u.2.2.2.2.2.2.2.2.2.2.2.2.2.1) (u.2.2.2.2.2.2.2.2.2.2.2.2.2.2.1) (u.2.2.2.2.2.2.2.2.2.2.2.2.2.2.2.1) ++ (WW nW hw lw kw (u.2.2.2.2.2.2.2.2.2.2.2.2.2.2.2.2.1) (u.2.2.2.2.2.2.2.2.2.2.2.2.2.2.2.2.2.1) (u.2.2.2.2.2.2.2.2.2.2.2.2.2.2.2.2.2.2))))))) (va_A (WG hG aG kG hM hO hQ hw iG_made iG_keptNeeds fG_kept fG_need fG_turn iG_columns ++ (WO hO aO kO hM hQ hw iO_answered iO_searched iO_searchedRelaxed iO_counted fO_countedCase gO_goalNumber gO_goalScale fO_start fO_column fO_chosen ++ (WM hM aM kM iM_stands iM_variables iM_rows iM_goals iM_differents iM_cases fM_from fM_to fM_whole fM_ways iM_plainRows fM_plainRow fM_kept fM_goalOver fM_goalUnder fM_goalMax fM_different ++ (WQ hQ aQ kQ hw fQ_inside fQ_outside fQ_shut iQ_rows iQ_allRows iQ_columns ++ (WW nW hw lw kw wl wb wG))))) sz)) 0 0 (va_A (WG hG aG kG hM hO hQ hw iG_made iG_keptNeeds fG_kept fG_need fG_turn iG_columns ++ (WO hO aO kO hM hQ hw iO_answered iO_searched iO_searchedRelaxed iO_counted fO_countedCase gO_goalNumber gO_goalScale fO_start fO_column fO_chosen ++ (WM hM aM kM iM_stands iM_variables iM_rows iM_goals iM_differents iM_cases fM_from fM_to fM_whole fM_ways iM_plainRows fM_plainRow fM_kept fM_goalOver fM_goalUnder fM_goalMax fM_different ++ (WQ hQ aQ kQ hw fQ_inside fQ_outside fQ_shut iQ_rows iQ_allRows iQ_columns ++ (WW nW hw lw kw wl wb wG))))) sz) := by
  refine Met.ofW (cc := cX3_makeProof) (maxL := 2) (ret := (some .int)) (by decide) rfl ?_
  intro p e s m args below meth c s₁ B hml hv
  obtain ⟨rfl, hsz, hP, hK, hD0⟩ := hv
  have hx := B.exec
  have hb := B.bytes
  have hr := B.returns
  have hts := atoms_spec (ws := wsMX3_makeProof) B.pre
  have hown : s.vm.findClass RX3 = some m.cls := findClass_of_methodNamed B.named
  have hlocks := B.notSynchronized
  subst hsz
  have hD := hD0.self (sz := s.heap.size)
  generalize hAe : va_A (WG hG aG kG hM hO hQ hw iG_made iG_keptNeeds fG_kept fG_need fG_turn iG_columns ++ (WO hO aO kO hM hQ hw iO_answered iO_searched iO_searchedRelaxed iO_counted fO_countedCase gO_goalNumber gO_goalScale fO_start fO_column fO_chosen ++ (WM hM aM kM iM_stands iM_variables iM_rows iM_goals iM_differents iM_cases fM_from fM_to fM_whole fM_ways iM_plainRows fM_plainRow fM_kept fM_goalOver fM_goalUnder fM_goalMax fM_different ++ (WQ hQ aQ kQ hw fQ_inside fQ_outside fQ_shut iQ_rows iQ_allRows iQ_columns ++ (WW nW hw lw kw wl wb wG))))) s.heap.size = A at hD ⊢
  have hA : ∀ q : Nat, s.heap.size ≤ q → A q := fun q h => by rw [← hAe]; exact Or.inr h
  have hS : va_S A s.heap s.heap [] := va_S.rf
  have hl := lv_entry ([.ref (hG 0)]) (n := 2) (Nat.le_of_ble_eq_true rfl)
  rw [lg_entry_eq]
  generalize (lg_sl ([.ref (hG 0)]) ++ List.replicate (2 - (lg_sl ([.ref (hG 0)])).length) Slot.unset).toArray = ls at hl ⊢
  have hl : lv_has ls 2 [(0, .ref (hG 0))] := hl
  refine lv_aload_n hx hb dX3_makeProof_0 rfl (lv_at hl 0 rfl) ?_
  refine va_get (D := (dC, dI)) (ci := 3) (v := .int iG_made) (C := RX3) (T := TX3) (N := 17) hx hb hts iwsMX3_makeProof_in3 hown hK hP 0 rfl rfl 3 (by decide) (hts _ hm_m_X3_makeProof_0) (fun _ h9 => h9) rfl dX3_makeProof_1 ?_
  refine lv_if_eq (tgt := 12) hx hb dX3_makeProof_4 (by decide) (fun c_4 => ?_) (fun c_4 => ?_)
  · have t_4 : iG_made.toInt = 0 := toI_eq c_4 rfl (by decide : (0 : Int32).toInt = 0)
    refine lv_aload_n hx hb dX3_makeProof_12 rfl (lv_at hl 0 rfl) ?_
    refine va_get (D := (dC, dI)) (ci := 3) (v := .ref (hO 0)) (C := RX3) (T := TX3) (N := 17) hx hb hts iwsMX3_makeProof_in3 hown hK hP 0 rfl rfl 1 (by decide) (hts _ hm_m_X3_makeProof_1) (fun _ h9 => h9) rfl dX3_makeProof_13 ?_
    have p9 := cj_5_1_2_3_4 (WG hG aG kG hM hO hQ hw iG_made iG_keptNeeds fG_kept fG_need fG_turn iG_columns) (WO hO aO kO hM hQ hw iO_answered iO_searched iO_searchedRelaxed iO_counted fO_countedCase gO_goalNumber gO_goalScale fO_start fO_column fO_chosen) (WM hM aM kM iM_stands iM_variables iM_rows iM_goals iM_differents iM_cases fM_from fM_to fM_whole fM_ways iM_plainRows fM_plainRow fM_kept fM_goalOver fM_goalUnder fM_goalMax fM_different) (WQ hQ aQ kQ hw fQ_inside fQ_outside fQ_shut iQ_rows iQ_allRows iQ_columns) (WW nW hw lw kw wl wb wG)
    have hPc := hP.mem (fun q h => p9.mem_iff.mpr (List.mem_append_left _ h))
    have hDc := (hD.perm p9).left
    have hKc : va_K (dC, dI) vwCl (tO kO ++ (tM kM ++ (tQ kQ ++ (tW kw)))) _ := hK.sub [5, 6, 7, 8, 9, 10, 11, 12, 13, 14, 15, 16, 17, 18, 19, 20, 21, 22, 23, 24, 25, 26, 27, 28, 29] rfl
    have hFc := freeG p9 hD hS hA
    refine va_callv (va_runV (As := []) (rest := []) ⟨hx, hb, hml, hown, hts⟩ (m_X5_scaleGoals l dC dI hO aO kO hM hQ hw iO_answered iO_searched iO_searchedRelaxed iO_counted fO_countedCase gO_goalNumber gO_goalScale fO_start fO_column fO_chosen aM kM iM_stands iM_variables iM_rows iM_goals iM_differents iM_cases fM_from fM_to fM_whole fM_ways iM_plainRows fM_plainRow fM_kept fM_goalOver fM_goalUnder fM_goalMax fM_different aQ kQ fQ_inside fQ_outside fQ_shut iQ_rows iQ_allRows iQ_columns nW lw kw wl wb wG (b_iO_answered) (b_iO_searched) (b_iO_searchedRelaxed) (b_iO_counted) b_fO_countedCase b_fO_column b_fO_chosen (b_iM_stands) (b_iM_variables) (b_iM_rows) (b_iM_goals) (b_iM_differents) (b_iM_cases) b_fM_ways (b_iM_plainRows) b_fM_plainRow (by first | with_reducible assumption | omega | assumption) (b_iQ_rows) (b_iQ_allRows) (b_iQ_columns) (by first | with_reducible assumption | omega | assumption) b_wl b_wb (by omega) s.heap.size) (cwV 0 hts gwsMX3_makeProof_0 rfl rfl rfl hd_yX5_scaleGoals_RX5 (by decide +kernel)) (fz_pre (va_recv hK hP (ci := 5) (q0 := 6) rfl rfl) hPc hKc hDc) rfl rfl hl.1 rfl (lv_room (Nat.le_of_ble_eq_true rfl)) dX3_makeProof_16 (by decide +kernel)) hS (fun q _ h => hFc q h) hFc (fun u t9_ H locs ht hvm hw9 hB9 hz1 hk1 hS => ?_)
    revert u hw9 hB9
    refine fz_p2 ?_
    intro gO_goalNumber_1 gO_goalScale_1 hw9 hB9
    try dsimp only at hw9 hB9
    clear hw9
    have p8 := cj_5_1_2_3_4 (WG hG aG kG hM hO hQ hw iG_made iG_keptNeeds fG_kept fG_need fG_turn iG_columns) (WO hO aO kO hM hQ hw iO_answered iO_searched iO_searchedRelaxed iO_counted fO_countedCase gO_goalNumber_1 gO_goalScale_1 fO_start fO_column fO_chosen) (WM hM aM kM iM_stands iM_variables iM_rows iM_goals iM_differents iM_cases fM_from fM_to fM_whole fM_ways iM_plainRows fM_plainRow fM_kept fM_goalOver fM_goalUnder fM_goalMax fM_different) (WQ hQ aQ kQ hw fQ_inside fQ_outside fQ_shut iQ_rows iQ_allRows iQ_columns) (WW nW hw lw kw wl wb wG)
    obtain ⟨hP, hD⟩ := frameG p9 p8 hP hD hk1 hFc (fz_P ht hB9.1) hB9.2
    refine lv_aload_n hx hb dX3_makeProof_19 rfl (lv_at hl 0 rfl) ?_
    refine va_get (D := (dC, dI)) (ci := 3) (v := .ref (hO 0)) (C := RX3) (T := TX3) (N := 17) hx hb hts iwsMX3_makeProof_in3 hown hK hP 0 rfl rfl 1 (by decide) (hts _ hm_m_X3_makeProof_1) (fun _ h9 => h9) rfl dX3_makeProof_20 ?_
    refine lv_iconst (v := 1) hx hb dX3_makeProof_23 (by decide) ?_
    refine lv_iconst (v := 1) hx hb dX3_makeProof_24 (by decide) ?_
    refine lv_aload_n hx hb dX3_makeProof_25 rfl (lv_at hl 0 rfl) ?_
    refine va_get (D := (dC, dI)) (ci := 3) (v := .ref (hM 0)) (C := RX3) (T := TX3) (N := 17) hx hb hts iwsMX3_makeProof_in3 hown hK hP 0 rfl rfl 0 (by decide) (hts _ hm_m_X3_makeProof_2) (fun _ h9 => h9) rfl dX3_makeProof_26 ?_
    refine va_get (D := (dC, dI)) (ci := 1) (v := .int iM_goals) (C := RX1) (T := TX1) (N := 17) hx hb hts iwsMX3_makeProof_in1 hown hK hP 17 rfl rfl 3 (by decide) (hts (.fieldLink RX3 83 "OptimaWorks$Model" "goals" "I") (by decide +kernel)) (fun _ h9 => h9) rfl dX3_makeProof_29 ?_
    refine va_mmin hx hb (by rw [hml]; exact hl.1.symm) hown (hts (.methodLink RX3 86 Lib.Math.min.name) (by decide +kernel)) (hts (.static Lib.Math.min.name) (by decide +kernel)) (hts (.initialized "java/lang/Math") (by decide +kernel)) (hts (.code Lib.Math.min.name Lib.Math.min.code 2 (some .int)) (by decide +kernel)) (by decide +kernel) (Nat.le_of_ble_eq_true rfl) (by decide +kernel) (by decide +kernel) dX3_makeProof_32 ?_
    refine lv_topi (fun v2 hv2 => ?_)
    have b_v2 : (v2.toInt ≤ 1 ∧ v2.toInt ≤ iM_goals.toInt) ∧ (v2.toInt = 1 ∨ v2.toInt = iM_goals.toInt) := by rw [hv2]; exact min_t (by decide : (1 : Int32).toInt = 1) rfl
    clear hv2
    have p9 := cj_5_1_2_3_4 (WG hG aG kG hM hO hQ hw iG_made iG_keptNeeds fG_kept fG_need fG_turn iG_columns) (WO hO aO kO hM hQ hw iO_answered iO_searched iO_searchedRelaxed iO_counted fO_countedCase gO_goalNumber_1 gO_goalScale_1 fO_start fO_column fO_chosen) (WM hM aM kM iM_stands iM_variables iM_rows iM_goals iM_differents iM_cases fM_from fM_to fM_whole fM_ways iM_plainRows fM_plainRow fM_kept fM_goalOver fM_goalUnder fM_goalMax fM_different) (WQ hQ aQ kQ hw fQ_inside fQ_outside fQ_shut iQ_rows iQ_allRows iQ_columns) (WW nW hw lw kw wl wb wG)
    have hPc := hP.mem (fun q h => p9.mem_iff.mpr (List.mem_append_left _ h))
    have hDc := (hD.perm p9).left
    have hKc : va_K (dC, dI) vwCl (tO kO ++ (tM kM ++ (tQ kQ ++ (tW kw)))) _ := hK.sub [5, 6, 7, 8, 9, 10, 11, 12, 13, 14, 15, 16, 17, 18, 19, 20, 21, 22, 23, 24, 25, 26, 27, 28, 29] rfl
    have hFc := freeG p9 hD hS hA
    refine va_calli (va_runV (As := [.int 1, .int v2]) (rest := []) ⟨hx, hb, hml, hown, hts⟩ (m_X5_lay l dC dI hO aO kO hM hQ hw iO_answered iO_searched iO_searchedRelaxed iO_counted fO_countedCase gO_goalNumber_1 gO_goalScale_1 fO_start fO_column fO_chosen aM kM iM_stands iM_variables iM_rows iM_goals iM_differents iM_cases fM_from fM_to fM_whole fM_ways iM_plainRows fM_plainRow fM_kept fM_goalOver fM_goalUnder fM_goalMax fM_different aQ kQ fQ_inside fQ_outside fQ_shut iQ_rows iQ_allRows iQ_columns nW lw kw wl wb wG 1 v2 (b_iO_answered) (b_iO_searched) (b_iO_searchedRelaxed) (b_iO_counted) b_fO_countedCase b_fO_column b_fO_chosen (b_iM_stands) (b_iM_variables) (b_iM_rows) (b_iM_goals) (b_iM_differents) (b_iM_cases) b_fM_ways (b_iM_plainRows) b_fM_plainRow (by first | with_reducible assumption | omega | assumption) (b_iQ_rows) (b_iQ_allRows) (b_iQ_columns) (by first | with_reducible assumption | omega | assumption) b_wl b_wb (by first | exact b_v2 | with_reducible assumption | exact ⟨by omega, by omega⟩ | assumption) (by omega) H.size) (cwV 2 hts gwsMX3_makeProof_1 rfl rfl rfl hd_yX5_lay_RX5 (by decide +kernel)) (fz_pre (va_recv hK hP (ci := 5) (q0 := 6) rfl rfl) hPc hKc hDc) rfl rfl hl.1 rfl (lv_room (Nat.le_of_ble_eq_true rfl)) dX3_makeProof_35 (by decide +kernel)) hS (fun q _ h => hFc q h) hFc (fun r3 u t9_ H locs ht hvm hw9 hB9 hz1 hk1 hS => ?_)
    revert u hw9 hB9
    refine fz_p11 ?_
    intro fO_start_3 fO_column_3 fQ_inside_3 fQ_outside_3 fQ_shut_3 iQ_rows_3 iQ_allRows_3 iQ_columns_3 wl_3 wb_3 wG_3 hw9 hB9
    try dsimp only at hw9 hB9
    revert hw9
    refine fz_a10 ?_
    intro b_fO_column_3 b_iQ_rows_3 b_iQ_allRows_3 b_iQ_columns_3 b_wl_3 b_wb_3 b_tb_3 b_r3 f3_0 f3_1
    have p8 := cj_5_1_2_3_4 (WG hG aG kG hM hO hQ hw iG_made iG_keptNeeds fG_kept fG_need fG_turn iG_columns) (WO hO aO kO hM hQ hw iO_answered iO_searched iO_searchedRelaxed iO_counted fO_countedCase gO_goalNumber_1 gO_goalScale_1 fO_start_3 fO_column_3 fO_chosen) (WM hM aM kM iM_stands iM_variables iM_rows iM_goals iM_differents iM_cases fM_from fM_to fM_whole fM_ways iM_plainRows fM_plainRow fM_kept fM_goalOver fM_goalUnder fM_goalMax fM_different) (WQ hQ aQ kQ hw fQ_inside_3 fQ_outside_3 fQ_shut_3 iQ_rows_3 iQ_allRows_3 iQ_columns_3) (WW nW hw lw kw wl_3 wb_3 wG_3)
    obtain ⟨hP, hD⟩ := frameG p9 p8 hP hD hk1 hFc (fz_P ht hB9.1) hB9.2
    refine W.cut (pc := 83) (fun H locs ls stk => ∃ (fG_need_j14 : Nat → Int32) (fG_turn_j14 : Nat → Int32) (iG_columns_j14 : Int32) (fQ_inside_j14 : Nat → Int32) (fQ_outside_j14 : Nat → Int32) (fQ_shut_j14 : Nat → Int32) (iQ_rows_j14 : Int32) (iQ_allRows_j14 : Int32) (iQ_columns_j14 : Int32) (wl_j14 : Nat → Int32) (wb_j14 : Nat → Int32) (wG_j14 : Nat → Nat → Int64), (∀ q : Nat, 0 ≤ (fG_need_j14 q).toInt ∧ (fG_need_j14 q).toInt ≤ 27) ∧ (0 ≤ iG_columns_j14.toInt ∧ iG_columns_j14.toInt ≤ 40) ∧ (0 ≤ iQ_rows_j14.toInt ∧ iQ_rows_j14.toInt ≤ 40) ∧ (0 ≤ iQ_allRows_j14.toInt ∧ iQ_allRows_j14.toInt ≤ 40) ∧ (0 ≤ iQ_columns_j14.toInt ∧ iQ_columns_j14.toInt ≤ 40) ∧ (∀ q : Nat, 0 ≤ (wl_j14 q).toInt ∧ (wl_j14 q).toInt ≤ 14) ∧ (∀ q : Nat, 0 ≤ (wb_j14 q).toInt ∧ (wb_j14 q).toInt ≤ 1) ∧ (TbO iQ_rows_j14 iQ_allRows_j14 iQ_columns_j14) ∧  stk = [] ∧ va_P (dC, dI) vwCl (WG hG aG kG hM hO hQ hw iG_made iG_keptNeeds fG_kept fG_need_j14 fG_turn_j14 iG_columns_j14 ++ (WO hO aO kO hM hQ hw iO_answered iO_searched iO_searchedRelaxed iO_counted fO_countedCase gO_goalNumber_1 gO_goalScale_1 fO_start_3 fO_column_3 fO_chosen ++ (WM hM aM kM iM_stands iM_variables iM_rows iM_goals iM_differents iM_cases fM_from fM_to fM_whole fM_ways iM_plainRows fM_plainRow fM_kept fM_goalOver fM_goalUnder fM_goalMax fM_different ++ (WQ hQ aQ kQ hw fQ_inside_j14 fQ_outside_j14 fQ_shut_j14 iQ_rows_j14 iQ_allRows_j14 iQ_columns_j14 ++ (WW nW hw lw kw wl_j14 wb_j14 wG_j14))))) H ∧ va_D A (WG hG aG kG hM hO hQ hw iG_made iG_keptNeeds fG_kept fG_need_j14 fG_turn_j14 iG_columns_j14 ++ (WO hO aO kO hM hQ hw iO_answered iO_searched iO_searchedRelaxed iO_counted fO_countedCase gO_goalNumber_1 gO_goalScale_1 fO_start_3 fO_column_3 fO_chosen ++ (WM hM aM kM iM_stands iM_variables iM_rows iM_goals iM_differents iM_cases fM_from fM_to fM_whole fM_ways iM_plainRows fM_plainRow fM_kept fM_goalOver fM_goalUnder fM_goalMax fM_different ++ (WQ hQ aQ kQ hw fQ_inside_j14 fQ_outside_j14 fQ_shut_j14 iQ_rows_j14 iQ_allRows_j14 iQ_columns_j14 ++ (WW nW hw lw kw wl_j14 wb_j14 wG_j14))))) ∧ va_S A s.heap H locs ∧ lv_has ls 2 [(0, .ref (hG 0))]) (fun join14 => ?_) ?_
    · refine lv_if_eq (tgt := 69) hx hb dX3_makeProof_38 (by decide) (fun c_38 => ?_) (fun c_38 => ?_)
      · have t_38 : r3.toInt = 0 := toI_eq c_38 rfl (by decide : (0 : Int32).toInt = 0)
        refine lv_aload_n hx hb dX3_makeProof_69 rfl (lv_at hl 0 rfl) ?_
        have hFc := allFree hD hS hA
        refine va_callv (va_runV (As := []) (rest := []) ⟨hx, hb, hml, hown, hts⟩ (m_X3_findShortfall l dC dI hG aG kG hM hO hQ hw iG_made iG_keptNeeds fG_kept fG_need fG_turn iG_columns aO kO iO_answered iO_searched iO_searchedRelaxed iO_counted fO_countedCase gO_goalNumber_1 gO_goalScale_1 fO_start_3 fO_column_3 fO_chosen aM kM iM_stands iM_variables iM_rows iM_goals iM_differents iM_cases fM_from fM_to fM_whole fM_ways iM_plainRows fM_plainRow fM_kept fM_goalOver fM_goalUnder fM_goalMax fM_different aQ kQ fQ_inside_3 fQ_outside_3 fQ_shut_3 iQ_rows_3 iQ_allRows_3 iQ_columns_3 nW lw kw wl_3 wb_3 wG_3 (b_iG_made) b_fG_need (b_iG_columns) (b_iO_answered) (b_iO_searched) (b_iO_searchedRelaxed) (b_iO_counted) b_fO_countedCase b_fO_column_3 b_fO_chosen (b_iM_stands) (b_iM_variables) (b_iM_rows) (b_iM_goals) (b_iM_differents) (b_iM_cases) b_fM_ways (b_iM_plainRows) b_fM_plainRow (by first | with_reducible assumption | omega | assumption) (b_iQ_rows_3) (b_iQ_allRows_3) (b_iQ_columns_3) (by first | with_reducible assumption | omega | assumption) b_wl_3 b_wb_3 (by omega) H.size) (cwV 0 hts gwsMX3_makeProof_2 rfl rfl rfl hd_yX3_findShortfall_RX3 (by decide +kernel)) (fz_pre (va_recv hK hP (ci := 3) (q0 := 0) rfl rfl) hP hK hD) rfl rfl hl.1 rfl (lv_room (Nat.le_of_ble_eq_true rfl)) dX3_makeProof_70 (by decide +kernel)) hS (fun q _ h => hFc q h) hFc (fun u t9_ H locs ht hvm hw9 hB9 hz1 hk1 hS => ?_)
        revert u hw9 hB9
        refine fz_p9 ?_
        intro fQ_inside_14 fQ_outside_14 fQ_shut_14 iQ_rows_14 iQ_allRows_14 iQ_columns_14 wl_14 wb_14 wG_14 hw9 hB9
        try dsimp only at hw9 hB9
        revert hw9
        refine fz_a6 ?_
        intro b_iQ_rows_14 b_iQ_allRows_14 b_iQ_columns_14 b_wl_14 b_wb_14 b_tb_14
        have hP : va_P (dC, dI) vwCl (WG hG aG kG hM hO hQ hw iG_made iG_keptNeeds fG_kept fG_need fG_turn iG_columns ++ (WO hO aO kO hM hQ hw iO_answered iO_searched iO_searchedRelaxed iO_counted fO_countedCase gO_goalNumber_1 gO_goalScale_1 fO_start_3 fO_column_3 fO_chosen ++ (WM hM aM kM iM_stands iM_variables iM_rows iM_goals iM_differents iM_cases fM_from fM_to fM_whole fM_ways iM_plainRows fM_plainRow fM_kept fM_goalOver fM_goalUnder fM_goalMax fM_different ++ (WQ hQ aQ kQ hw fQ_inside_14 fQ_outside_14 fQ_shut_14 iQ_rows_14 iQ_allRows_14 iQ_columns_14 ++ (WW nW hw lw kw wl_14 wb_14 wG_14))))) H := fz_P ht hB9.1
        have hD := fz_sd hP (hB9.2.weaken (fun _ q _ h => hFc q.1 h)) rfl
        refine lv_aload_n hx hb dX3_makeProof_73 rfl (lv_at hl 0 rfl) ?_
        refine lv_iconst (v := 1) hx hb dX3_makeProof_74 (by decide) ?_
        have hFc := allFree hD hS hA
        refine va_callv (va_runV (As := [.int 1]) (rest := []) ⟨hx, hb, hml, hown, hts⟩ (m_X3_chooseColumns l dC dI hG aG kG hM hO hQ hw iG_made iG_keptNeeds fG_kept fG_need fG_turn iG_columns aO kO iO_answered iO_searched iO_searchedRelaxed iO_counted fO_countedCase gO_goalNumber_1 gO_goalScale_1 fO_start_3 fO_column_3 fO_chosen aM kM iM_stands iM_variables iM_rows iM_goals iM_differents iM_cases fM_from fM_to fM_whole fM_ways iM_plainRows fM_plainRow fM_kept fM_goalOver fM_goalUnder fM_goalMax fM_different aQ kQ fQ_inside_14 fQ_outside_14 fQ_shut_14 iQ_rows_14 iQ_allRows_14 iQ_columns_14 nW lw kw wl_14 wb_14 wG_14 1 (b_iG_made) b_fG_need (b_iG_columns) (b_iO_answered) (b_iO_searched) (b_iO_searchedRelaxed) (b_iO_counted) b_fO_countedCase b_fO_column_3 b_fO_chosen (b_iM_stands) (b_iM_variables) (b_iM_rows) (b_iM_goals) (b_iM_differents) (b_iM_cases) b_fM_ways (b_iM_plainRows) b_fM_plainRow (by first | with_reducible assumption | omega | assumption) (b_iQ_rows_14) (b_iQ_allRows_14) (b_iQ_columns_14) (by first | with_reducible assumption | omega | assumption) b_wl_14 b_wb_14 (by omega) H.size) (cwV 1 hts gwsMX3_makeProof_3 rfl rfl rfl hd_yX3_chooseColumns_RX3 (by decide +kernel)) (fz_pre (va_recv hK hP (ci := 3) (q0 := 0) rfl rfl) hP hK hD) rfl rfl hl.1 rfl (lv_room (Nat.le_of_ble_eq_true rfl)) dX3_makeProof_75 (by decide +kernel)) hS (fun q _ h => hFc q h) hFc (fun u t9_ H locs ht hvm hw9 hB9 hz1 hk1 hS => ?_)
        revert u hw9 hB9
        refine fz_p6 ?_
        intro fG_need_15 fG_turn_15 iG_columns_15 wl_15 wb_15 wG_15 hw9 hB9
        try dsimp only at hw9 hB9
        revert hw9
        refine fz_a5 ?_
        intro b_fG_need_15 b_iG_columns_15 b_wl_15 b_wb_15 f15_0
        have hP : va_P (dC, dI) vwCl (WG hG aG kG hM hO hQ hw iG_made iG_keptNeeds fG_kept fG_need_15 fG_turn_15 iG_columns_15 ++ (WO hO aO kO hM hQ hw iO_answered iO_searched iO_searchedRelaxed iO_counted fO_countedCase gO_goalNumber_1 gO_goalScale_1 fO_start_3 fO_column_3 fO_chosen ++ (WM hM aM kM iM_stands iM_variables iM_rows iM_goals iM_differents iM_cases fM_from fM_to fM_whole fM_ways iM_plainRows fM_plainRow fM_kept fM_goalOver fM_goalUnder fM_goalMax fM_different ++ (WQ hQ aQ kQ hw fQ_inside_14 fQ_outside_14 fQ_shut_14 iQ_rows_14 iQ_allRows_14 iQ_columns_14 ++ (WW nW hw lw kw wl_15 wb_15 wG_15))))) H := fz_P ht hB9.1
        have hD := fz_sd hP (hB9.2.weaken (fun _ q _ h => hFc q.1 h)) rfl
        refine lv_aload_n hx hb dX3_makeProof_78 rfl (lv_at hl 0 rfl) ?_
        refine lv_iconst (v := 1) hx hb dX3_makeProof_79 (by decide) ?_
        have hFc := allFree hD hS hA
        refine va_callv (va_runV (As := [.int 1]) (rest := []) ⟨hx, hb, hml, hown, hts⟩ (m_X3_layMultipliers l dC dI hG aG kG hM hO hQ hw iG_made iG_keptNeeds fG_kept fG_need_15 fG_turn_15 iG_columns_15 aO kO iO_answered iO_searched iO_searchedRelaxed iO_counted fO_countedCase gO_goalNumber_1 gO_goalScale_1 fO_start_3 fO_column_3 fO_chosen aM kM iM_stands iM_variables iM_rows iM_goals iM_differents iM_cases fM_from fM_to fM_whole fM_ways iM_plainRows fM_plainRow fM_kept fM_goalOver fM_goalUnder fM_goalMax fM_different aQ kQ fQ_inside_14 fQ_outside_14 fQ_shut_14 iQ_rows_14 iQ_allRows_14 iQ_columns_14 nW lw kw wl_15 wb_15 wG_15 1 (b_iG_made) b_fG_need_15 (b_iG_columns_15) (b_iO_answered) (b_iO_searched) (b_iO_searchedRelaxed) (b_iO_counted) b_fO_countedCase b_fO_column_3 b_fO_chosen (b_iM_stands) (b_iM_variables) (b_iM_rows) (b_iM_goals) (b_iM_differents) (b_iM_cases) b_fM_ways (b_iM_plainRows) b_fM_plainRow (by first | with_reducible assumption | omega | assumption) (b_iQ_rows_14) (b_iQ_allRows_14) (b_iQ_columns_14) (by first | with_reducible assumption | omega | assumption) b_wl_15 b_wb_15 (by omega) (by assumption) H.size) (cwV 1 hts gwsMX3_makeProof_4 rfl rfl rfl hd_yX3_layMultipliers_RX3 (by decide +kernel)) (fz_pre (va_recv hK hP (ci := 3) (q0 := 0) rfl rfl) hP hK hD) rfl rfl hl.1 rfl (lv_room (Nat.le_of_ble_eq_true rfl)) dX3_makeProof_80 (by decide +kernel)) hS (fun q _ h => hFc q h) hFc (fun u t9_ H locs ht hvm hw9 hB9 hz1 hk1 hS => ?_)
        revert u hw9 hB9
        refine fz_p9 ?_
        intro fQ_inside_16 fQ_outside_16 fQ_shut_16 iQ_rows_16 iQ_allRows_16 iQ_columns_16 wl_16 wb_16 wG_16 hw9 hB9
        try dsimp only at hw9 hB9
        revert hw9
        refine fz_a6 ?_
        intro b_iQ_rows_16 b_iQ_allRows_16 b_iQ_columns_16 b_wl_16 b_wb_16 b_tb_16
        have hP : va_P (dC, dI) vwCl (WG hG aG kG hM hO hQ hw iG_made iG_keptNeeds fG_kept fG_need_15 fG_turn_15 iG_columns_15 ++ (WO hO aO kO hM hQ hw iO_answered iO_searched iO_searchedRelaxed iO_counted fO_countedCase gO_goalNumber_1 gO_goalScale_1 fO_start_3 fO_column_3 fO_chosen ++ (WM hM aM kM iM_stands iM_variables iM_rows iM_goals iM_differents iM_cases fM_from fM_to fM_whole fM_ways iM_plainRows fM_plainRow fM_kept fM_goalOver fM_goalUnder fM_goalMax fM_different ++ (WQ hQ aQ kQ hw fQ_inside_16 fQ_outside_16 fQ_shut_16 iQ_rows_16 iQ_allRows_16 iQ_columns_16 ++ (WW nW hw lw kw wl_16 wb_16 wG_16))))) H := fz_P ht hB9.1
        have hD := fz_sd hP (hB9.2.weaken (fun _ q _ h => hFc q.1 h)) rfl
        have hl : lv_has _ _ ([(0, .ref (hG 0))]) := lv_sub hl [0] rfl
        exact join14 _ _ _ _ ⟨fG_need_15, fG_turn_15, iG_columns_15, fQ_inside_16, fQ_outside_16, fQ_shut_16, iQ_rows_16, iQ_allRows_16, iQ_columns_16, wl_16, wb_16, wG_16, b_fG_need_15, (b_iG_columns_15), (b_iQ_rows_16), (b_iQ_allRows_16), (b_iQ_columns_16), b_wl_16, b_wb_16, (by first | with_reducible assumption | omega | assumption), rfl, hP, hD, hS, hl⟩
      · have t_38 : ¬ r3.toInt = 0 := toI_neq c_38 rfl (by decide : (0 : Int32).toInt = 0)
        refine lv_aload_n hx hb dX3_makeProof_41 rfl (lv_at hl 0 rfl) ?_
        refine va_get (D := (dC, dI)) (ci := 3) (v := .ref (hO 0)) (C := RX3) (T := TX3) (N := 17) hx hb hts iwsMX3_makeProof_in3 hown hK hP 0 rfl rfl 1 (by decide) (hts _ hm_m_X3_makeProof_1) (fun _ h9 => h9) rfl dX3_makeProof_42 ?_
        refine lv_iconst (v := 1) hx hb dX3_makeProof_45 (by decide) ?_
        have p9 := cj_5_1_2_3_4 (WG hG aG kG hM hO hQ hw iG_made iG_keptNeeds fG_kept fG_need fG_turn iG_columns) (WO hO aO kO hM hQ hw iO_answered iO_searched iO_searchedRelaxed iO_counted fO_countedCase gO_goalNumber_1 gO_goalScale_1 fO_start_3 fO_column_3 fO_chosen) (WM hM aM kM iM_stands iM_variables iM_rows iM_goals iM_differents iM_cases fM_from fM_to fM_whole fM_ways iM_plainRows fM_plainRow fM_kept fM_goalOver fM_goalUnder fM_goalMax fM_different) (WQ hQ aQ kQ hw fQ_inside_3 fQ_outside_3 fQ_shut_3 iQ_rows_3 iQ_allRows_3 iQ_columns_3) (WW nW hw lw kw wl_3 wb_3 wG_3)
        have hPc := hP.mem (fun q h => p9.mem_iff.mpr (List.mem_append_left _ h))
        have hDc := (hD.perm p9).left
        have hKc : va_K (dC, dI) vwCl (tO kO ++ (tM kM ++ (tQ kQ ++ (tW kw)))) _ := hK.sub [5, 6, 7, 8, 9, 10, 11, 12, 13, 14, 15, 16, 17, 18, 19, 20, 21, 22, 23, 24, 25, 26, 27, 28, 29] rfl
        have hFc := freeG p9 hD hS hA
        refine va_calli (va_runV (As := [.int 1]) (rest := []) ⟨hx, hb, hml, hown, hts⟩ (m_X5_settle l dC dI hO aO kO hM hQ hw iO_answered iO_searched iO_searchedRelaxed iO_counted fO_countedCase gO_goalNumber_1 gO_goalScale_1 fO_start_3 fO_column_3 fO_chosen aM kM iM_stands iM_variables iM_rows iM_goals iM_differents iM_cases fM_from fM_to fM_whole fM_ways iM_plainRows fM_plainRow fM_kept fM_goalOver fM_goalUnder fM_goalMax fM_different aQ kQ fQ_inside_3 fQ_outside_3 fQ_shut_3 iQ_rows_3 iQ_allRows_3 iQ_columns_3 nW lw kw wl_3 wb_3 wG_3 1 (b_iO_answered) (b_iO_searched) (b_iO_searchedRelaxed) (b_iO_counted) b_fO_countedCase b_fO_column_3 b_fO_chosen (b_iM_stands) (b_iM_variables) (b_iM_rows) (b_iM_goals) (b_iM_differents) (b_iM_cases) b_fM_ways (b_iM_plainRows) b_fM_plainRow (by first | with_reducible assumption | omega | assumption) (b_iQ_rows_3) (b_iQ_allRows_3) (b_iQ_columns_3) (by first | with_reducible assumption | omega | assumption) b_wl_3 b_wb_3 (by omega) (by omega) H.size) (cwV 1 hts gwsMX3_makeProof_5 rfl rfl rfl hd_yX5_settle_RX5 (by decide +kernel)) (fz_pre (va_recv hK hP (ci := 5) (q0 := 6) rfl rfl) hPc hKc hDc) rfl rfl hl.1 rfl (lv_room (Nat.le_of_ble_eq_true rfl)) dX3_makeProof_46 (by decide +kernel)) hS (fun q _ h => hFc q h) hFc (fun r17 u t9_ H locs ht hvm hw9 hB9 hz1 hk1 hS => ?_)
        revert u hw9 hB9
        refine fz_p6 ?_
        intro fQ_inside_17 fQ_outside_17 fQ_shut_17 wl_17 wb_17 wG_17 hw9 hB9
        try dsimp only at hw9 hB9
        revert hw9
        refine fz_a3 ?_
        intro b_wl_17 b_wb_17 b_r17
        have p8 := cj_5_1_2_3_4 (WG hG aG kG hM hO hQ hw iG_made iG_keptNeeds fG_kept fG_need fG_turn iG_columns) (WO hO aO kO hM hQ hw iO_answered iO_searched iO_searchedRelaxed iO_counted fO_countedCase gO_goalNumber_1 gO_goalScale_1 fO_start_3 fO_column_3 fO_chosen) (WM hM aM kM iM_stands iM_variables iM_rows iM_goals iM_differents iM_cases fM_from fM_to fM_whole fM_ways iM_plainRows fM_plainRow fM_kept fM_goalOver fM_goalUnder fM_goalMax fM_different) (WQ hQ aQ kQ hw fQ_inside_17 fQ_outside_17 fQ_shut_17 iQ_rows_3 iQ_allRows_3 iQ_columns_3) (WW nW hw lw kw wl_17 wb_17 wG_17)
        obtain ⟨hP, hD⟩ := frameG p9 p8 hP hD hk1 hFc (fz_P ht hB9.1) hB9.2
        refine lv_if_eq (tgt := 69) hx hb dX3_makeProof_49 (by decide) (fun c_49 => ?_) (fun c_49 => ?_)
        · have t_49 : r17.toInt = 0 := toI_eq c_49 rfl (by decide : (0 : Int32).toInt = 0)
          refine lv_aload_n hx hb dX3_makeProof_69 rfl (lv_at hl 0 rfl) ?_
          have hFc := allFree hD hS hA
          refine va_callv (va_runV (As := []) (rest := []) ⟨hx, hb, hml, hown, hts⟩ (m_X3_findShortfall l dC dI hG aG kG hM hO hQ hw iG_made iG_keptNeeds fG_kept fG_need fG_turn iG_columns aO kO iO_answered iO_searched iO_searchedRelaxed iO_counted fO_countedCase gO_goalNumber_1 gO_goalScale_1 fO_start_3 fO_column_3 fO_chosen aM kM iM_stands iM_variables iM_rows iM_goals iM_differents iM_cases fM_from fM_to fM_whole fM_ways iM_plainRows fM_plainRow fM_kept fM_goalOver fM_goalUnder fM_goalMax fM_different aQ kQ fQ_inside_17 fQ_outside_17 fQ_shut_17 iQ_rows_3 iQ_allRows_3 iQ_columns_3 nW lw kw wl_17 wb_17 wG_17 (b_iG_made) b_fG_need (b_iG_columns) (b_iO_answered) (b_iO_searched) (b_iO_searchedRelaxed) (b_iO_counted) b_fO_countedCase b_fO_column_3 b_fO_chosen (b_iM_stands) (b_iM_variables) (b_iM_rows) (b_iM_goals) (b_iM_differents) (b_iM_cases) b_fM_ways (b_iM_plainRows) b_fM_plainRow (by first | with_reducible assumption | omega | assumption) (b_iQ_rows_3) (b_iQ_allRows_3) (b_iQ_columns_3) (by first | with_reducible assumption | omega | assumption) b_wl_17 b_wb_17 (by omega) H.size) (cwV 0 hts gwsMX3_makeProof_2 rfl rfl rfl hd_yX3_findShortfall_RX3 (by decide +kernel)) (fz_pre (va_recv hK hP (ci := 3) (q0 := 0) rfl rfl) hP hK hD) rfl rfl hl.1 rfl (lv_room (Nat.le_of_ble_eq_true rfl)) dX3_makeProof_70 (by decide +kernel)) hS (fun q _ h => hFc q h) hFc (fun u t9_ H locs ht hvm hw9 hB9 hz1 hk1 hS => ?_)
          revert u hw9 hB9
          refine fz_p9 ?_
          intro fQ_inside_18 fQ_outside_18 fQ_shut_18 iQ_rows_18 iQ_allRows_18 iQ_columns_18 wl_18 wb_18 wG_18 hw9 hB9
          try dsimp only at hw9 hB9
          revert hw9
          refine fz_a6 ?_
          intro b_iQ_rows_18 b_iQ_allRows_18 b_iQ_columns_18 b_wl_18 b_wb_18 b_tb_18
          have hP : va_P (dC, dI) vwCl (WG hG aG kG hM hO hQ hw iG_made iG_keptNeeds fG_kept fG_need fG_turn iG_columns ++ (WO hO aO kO hM hQ hw iO_answered iO_searched iO_searchedRelaxed iO_counted fO_countedCase gO_goalNumber_1 gO_goalScale_1 fO_start_3 fO_column_3 fO_chosen ++ (WM hM aM kM iM_stands iM_variables iM_rows iM_goals iM_differents iM_cases fM_from fM_to fM_whole fM_ways iM_plainRows fM_plainRow fM_kept fM_goalOver fM_goalUnder fM_goalMax fM_different ++ (WQ hQ aQ kQ hw fQ_inside_18 fQ_outside_18 fQ_shut_18 iQ_rows_18 iQ_allRows_18 iQ_columns_18 ++ (WW nW hw lw kw wl_18 wb_18 wG_18))))) H := fz_P ht hB9.1
          have hD := fz_sd hP (hB9.2.weaken (fun _ q _ h => hFc q.1 h)) rfl
          refine lv_aload_n hx hb dX3_makeProof_73 rfl (lv_at hl 0 rfl) ?_
          refine lv_iconst (v := 1) hx hb dX3_makeProof_74 (by decide) ?_
          have hFc := allFree hD hS hA
          refine va_callv (va_runV (As := [.int 1]) (rest := []) ⟨hx, hb, hml, hown, hts⟩ (m_X3_chooseColumns l dC dI hG aG kG hM hO hQ hw iG_made iG_keptNeeds fG_kept fG_need fG_turn iG_columns aO kO iO_answered iO_searched iO_searchedRelaxed iO_counted fO_countedCase gO_goalNumber_1 gO_goalScale_1 fO_start_3 fO_column_3 fO_chosen aM kM iM_stands iM_variables iM_rows iM_goals iM_differents iM_cases fM_from fM_to fM_whole fM_ways iM_plainRows fM_plainRow fM_kept fM_goalOver fM_goalUnder fM_goalMax fM_different aQ kQ fQ_inside_18 fQ_outside_18 fQ_shut_18 iQ_rows_18 iQ_allRows_18 iQ_columns_18 nW lw kw wl_18 wb_18 wG_18 1 (b_iG_made) b_fG_need (b_iG_columns) (b_iO_answered) (b_iO_searched) (b_iO_searchedRelaxed) (b_iO_counted) b_fO_countedCase b_fO_column_3 b_fO_chosen (b_iM_stands) (b_iM_variables) (b_iM_rows) (b_iM_goals) (b_iM_differents) (b_iM_cases) b_fM_ways (b_iM_plainRows) b_fM_plainRow (by first | with_reducible assumption | omega | assumption) (b_iQ_rows_18) (b_iQ_allRows_18) (b_iQ_columns_18) (by first | with_reducible assumption | omega | assumption) b_wl_18 b_wb_18 (by omega) H.size) (cwV 1 hts gwsMX3_makeProof_3 rfl rfl rfl hd_yX3_chooseColumns_RX3 (by decide +kernel)) (fz_pre (va_recv hK hP (ci := 3) (q0 := 0) rfl rfl) hP hK hD) rfl rfl hl.1 rfl (lv_room (Nat.le_of_ble_eq_true rfl)) dX3_makeProof_75 (by decide +kernel)) hS (fun q _ h => hFc q h) hFc (fun u t9_ H locs ht hvm hw9 hB9 hz1 hk1 hS => ?_)
          revert u hw9 hB9
          refine fz_p6 ?_
          intro fG_need_19 fG_turn_19 iG_columns_19 wl_19 wb_19 wG_19 hw9 hB9
          try dsimp only at hw9 hB9
          revert hw9
          refine fz_a5 ?_
          intro b_fG_need_19 b_iG_columns_19 b_wl_19 b_wb_19 f19_0
          have hP : va_P (dC, dI) vwCl (WG hG aG kG hM hO hQ hw iG_made iG_keptNeeds fG_kept fG_need_19 fG_turn_19 iG_columns_19 ++ (WO hO aO kO hM hQ hw iO_answered iO_searched iO_searchedRelaxed iO_counted fO_countedCase gO_goalNumber_1 gO_goalScale_1 fO_start_3 fO_column_3 fO_chosen ++ (WM hM aM kM iM_stands iM_variables iM_rows iM_goals iM_differents iM_cases fM_from fM_to fM_whole fM_ways iM_plainRows fM_plainRow fM_kept fM_goalOver fM_goalUnder fM_goalMax fM_different ++ (WQ hQ aQ kQ hw fQ_inside_18 fQ_outside_18 fQ_shut_18 iQ_rows_18 iQ_allRows_18 iQ_columns_18 ++ (WW nW hw lw kw wl_19 wb_19 wG_19))))) H := fz_P ht hB9.1
          have hD := fz_sd hP (hB9.2.weaken (fun _ q _ h => hFc q.1 h)) rfl
          refine lv_aload_n hx hb dX3_makeProof_78 rfl (lv_at hl 0 rfl) ?_
          refine lv_iconst (v := 1) hx hb dX3_makeProof_79 (by decide) ?_
          have hFc := allFree hD hS hA
          refine va_callv (va_runV (As := [.int 1]) (rest := []) ⟨hx, hb, hml, hown, hts⟩ (m_X3_layMultipliers l dC dI hG aG kG hM hO hQ hw iG_made iG_keptNeeds fG_kept fG_need_19 fG_turn_19 iG_columns_19 aO kO iO_answered iO_searched iO_searchedRelaxed iO_counted fO_countedCase gO_goalNumber_1 gO_goalScale_1 fO_start_3 fO_column_3 fO_chosen aM kM iM_stands iM_variables iM_rows iM_goals iM_differents iM_cases fM_from fM_to fM_whole fM_ways iM_plainRows fM_plainRow fM_kept fM_goalOver fM_goalUnder fM_goalMax fM_different aQ kQ fQ_inside_18 fQ_outside_18 fQ_shut_18 iQ_rows_18 iQ_allRows_18 iQ_columns_18 nW lw kw wl_19 wb_19 wG_19 1 (b_iG_made) b_fG_need_19 (b_iG_columns_19) (b_iO_answered) (b_iO_searched) (b_iO_searchedRelaxed) (b_iO_counted) b_fO_countedCase b_fO_column_3 b_fO_chosen (b_iM_stands) (b_iM_variables) (b_iM_rows) (b_iM_goals) (b_iM_differents) (b_iM_cases) b_fM_ways (b_iM_plainRows) b_fM_plainRow (by first | with_reducible assumption | omega | assumption) (b_iQ_rows_18) (b_iQ_allRows_18) (b_iQ_columns_18) (by first | with_reducible assumption | omega | assumption) b_wl_19 b_wb_19 (by omega) (by assumption) H.size) (cwV 1 hts gwsMX3_makeProof_4 rfl rfl rfl hd_yX3_layMultipliers_RX3 (by decide +kernel)) (fz_pre (va_recv hK hP (ci := 3) (q0 := 0) rfl rfl) hP hK hD) rfl rfl hl.1 rfl (lv_room (Nat.le_of_ble_eq_true rfl)) dX3_makeProof_80 (by decide +kernel)) hS (fun q _ h => hFc q h) hFc (fun u t9_ H locs ht hvm hw9 hB9 hz1 hk1 hS => ?_)
          revert u hw9 hB9
          refine fz_p9 ?_
          intro fQ_inside_20 fQ_outside_20 fQ_shut_20 iQ_rows_20 iQ_allRows_20 iQ_columns_20 wl_20 wb_20 wG_20 hw9 hB9
          try dsimp only at hw9 hB9
          revert hw9
          refine fz_a6 ?_
          intro b_iQ_rows_20 b_iQ_allRows_20 b_iQ_columns_20 b_wl_20 b_wb_20 b_tb_20
          have hP : va_P (dC, dI) vwCl (WG hG aG kG hM hO hQ hw iG_made iG_keptNeeds fG_kept fG_need_19 fG_turn_19 iG_columns_19 ++ (WO hO aO kO hM hQ hw iO_answered iO_searched iO_searchedRelaxed iO_counted fO_countedCase gO_goalNumber_1 gO_goalScale_1 fO_start_3 fO_column_3 fO_chosen ++ (WM hM aM kM iM_stands iM_variables iM_rows iM_goals iM_differents iM_cases fM_from fM_to fM_whole fM_ways iM_plainRows fM_plainRow fM_kept fM_goalOver fM_goalUnder fM_goalMax fM_different ++ (WQ hQ aQ kQ hw fQ_inside_20 fQ_outside_20 fQ_shut_20 iQ_rows_20 iQ_allRows_20 iQ_columns_20 ++ (WW nW hw lw kw wl_20 wb_20 wG_20))))) H := fz_P ht hB9.1
          have hD := fz_sd hP (hB9.2.weaken (fun _ q _ h => hFc q.1 h)) rfl
          have hl : lv_has _ _ ([(0, .ref (hG 0))]) := lv_sub hl [0] rfl
          exact join14 _ _ _ _ ⟨fG_need_19, fG_turn_19, iG_columns_19, fQ_inside_20, fQ_outside_20, fQ_shut_20, iQ_rows_20, iQ_allRows_20, iQ_columns_20, wl_20, wb_20, wG_20, b_fG_need_19, (b_iG_columns_19), (b_iQ_rows_20), (b_iQ_allRows_20), (b_iQ_columns_20), b_wl_20, b_wb_20, (by first | with_reducible assumption | omega | assumption), rfl, hP, hD, hS, hl⟩
        · have t_49 : ¬ r17.toInt = 0 := toI_neq c_49 rfl (by decide : (0 : Int32).toInt = 0)
          refine lv_aload_n hx hb dX3_makeProof_52 rfl (lv_at hl 0 rfl) ?_
          have hFc := allFree hD hS hA
          refine va_callv (va_runV (As := []) (rest := []) ⟨hx, hb, hml, hown, hts⟩ (m_X3_findBest l dC dI hG aG kG hM hO hQ hw iG_made iG_keptNeeds fG_kept fG_need fG_turn iG_columns aO kO iO_answered iO_searched iO_searchedRelaxed iO_counted fO_countedCase gO_goalNumber_1 gO_goalScale_1 fO_start_3 fO_column_3 fO_chosen aM kM iM_stands iM_variables iM_rows iM_goals iM_differents iM_cases fM_from fM_to fM_whole fM_ways iM_plainRows fM_plainRow fM_kept fM_goalOver fM_goalUnder fM_goalMax fM_different aQ kQ fQ_inside_17 fQ_outside_17 fQ_shut_17 iQ_rows_3 iQ_allRows_3 iQ_columns_3 nW lw kw wl_17 wb_17 wG_17 (b_iG_made) b_fG_need (b_iG_columns) (b_iO_answered) (b_iO_searched) (b_iO_searchedRelaxed) (b_iO_counted) b_fO_countedCase b_fO_column_3 b_fO_chosen (b_iM_stands) (b_iM_variables) (b_iM_rows) (b_iM_goals) (b_iM_differents) (b_iM_cases) b_fM_ways (b_iM_plainRows) b_fM_plainRow (by first | with_reducible assumption | omega | assumption) (b_iQ_rows_3) (b_iQ_allRows_3) (b_iQ_columns_3) (by first | with_reducible assumption | omega | assumption) b_wl_17 b_wb_17 (by omega) (by omega) (by omega) H.size) (cwV 0 hts gwsMX3_makeProof_6 rfl rfl rfl hd_yX3_findBest_RX3 (by decide +kernel)) (fz_pre (va_recv hK hP (ci := 3) (q0 := 0) rfl rfl) hP hK hD) rfl rfl hl.1 rfl (lv_room (Nat.le_of_ble_eq_true rfl)) dX3_makeProof_53 (by decide +kernel)) hS (fun q _ h => hFc q h) hFc (fun u t9_ H locs ht hvm hw9 hB9 hz1 hk1 hS => ?_)
          revert u hw9 hB9
          refine fz_p6 ?_
          intro fQ_inside_21 fQ_outside_21 fQ_shut_21 wl_21 wb_21 wG_21 hw9 hB9
          try dsimp only at hw9 hB9
          revert hw9
          refine fz_a2 ?_
          intro b_wl_21 b_wb_21
          have hP : va_P (dC, dI) vwCl (WG hG aG kG hM hO hQ hw iG_made iG_keptNeeds fG_kept fG_need fG_turn iG_columns ++ (WO hO aO kO hM hQ hw iO_answered iO_searched iO_searchedRelaxed iO_counted fO_countedCase gO_goalNumber_1 gO_goalScale_1 fO_start_3 fO_column_3 fO_chosen ++ (WM hM aM kM iM_stands iM_variables iM_rows iM_goals iM_differents iM_cases fM_from fM_to fM_whole fM_ways iM_plainRows fM_plainRow fM_kept fM_goalOver fM_goalUnder fM_goalMax fM_different ++ (WQ hQ aQ kQ hw fQ_inside_21 fQ_outside_21 fQ_shut_21 iQ_rows_3 iQ_allRows_3 iQ_columns_3 ++ (WW nW hw lw kw wl_21 wb_21 wG_21))))) H := fz_P ht hB9.1
          have hD := fz_sd hP (hB9.2.weaken (fun _ q _ h => hFc q.1 h)) rfl
          refine lv_aload_n hx hb dX3_makeProof_56 rfl (lv_at hl 0 rfl) ?_
          refine lv_iconst (v := 0) hx hb dX3_makeProof_57 (by decide) ?_
          have hFc := allFree hD hS hA
          refine va_callv (va_runV (As := [.int 0]) (rest := []) ⟨hx, hb, hml, hown, hts⟩ (m_X3_chooseColumns l dC dI hG aG kG hM hO hQ hw iG_made iG_keptNeeds fG_kept fG_need fG_turn iG_columns aO kO iO_answered iO_searched iO_searchedRelaxed iO_counted fO_countedCase gO_goalNumber_1 gO_goalScale_1 fO_start_3 fO_column_3 fO_chosen aM kM iM_stands iM_variables iM_rows iM_goals iM_differents iM_cases fM_from fM_to fM_whole fM_ways iM_plainRows fM_plainRow fM_kept fM_goalOver fM_goalUnder fM_goalMax fM_different aQ kQ fQ_inside_21 fQ_outside_21 fQ_shut_21 iQ_rows_3 iQ_allRows_3 iQ_columns_3 nW lw kw wl_21 wb_21 wG_21 0 (b_iG_made) b_fG_need (b_iG_columns) (b_iO_answered) (b_iO_searched) (b_iO_searchedRelaxed) (b_iO_counted) b_fO_countedCase b_fO_column_3 b_fO_chosen (b_iM_stands) (b_iM_variables) (b_iM_rows) (b_iM_goals) (b_iM_differents) (b_iM_cases) b_fM_ways (b_iM_plainRows) b_fM_plainRow (by first | with_reducible assumption | omega | assumption) (b_iQ_rows_3) (b_iQ_allRows_3) (b_iQ_columns_3) (by first | with_reducible assumption | omega | assumption) b_wl_21 b_wb_21 (by omega) H.size) (cwV 1 hts gwsMX3_makeProof_3 rfl rfl rfl hd_yX3_chooseColumns_RX3 (by decide +kernel)) (fz_pre (va_recv hK hP (ci := 3) (q0 := 0) rfl rfl) hP hK hD) rfl rfl hl.1 rfl (lv_room (Nat.le_of_ble_eq_true rfl)) dX3_makeProof_58 (by decide +kernel)) hS (fun q _ h => hFc q h) hFc (fun u t9_ H locs ht hvm hw9 hB9 hz1 hk1 hS => ?_)
          revert u hw9 hB9
          refine fz_p6 ?_
          intro fG_need_22 fG_turn_22 iG_columns_22 wl_22 wb_22 wG_22 hw9 hB9
          try dsimp only at hw9 hB9
          revert hw9
          refine fz_a5 ?_
          intro b_fG_need_22 b_iG_columns_22 b_wl_22 b_wb_22 f22_0
          have hP : va_P (dC, dI) vwCl (WG hG aG kG hM hO hQ hw iG_made iG_keptNeeds fG_kept fG_need_22 fG_turn_22 iG_columns_22 ++ (WO hO aO kO hM hQ hw iO_answered iO_searched iO_searchedRelaxed iO_counted fO_countedCase gO_goalNumber_1 gO_goalScale_1 fO_start_3 fO_column_3 fO_chosen ++ (WM hM aM kM iM_stands iM_variables iM_rows iM_goals iM_differents iM_cases fM_from fM_to fM_whole fM_ways iM_plainRows fM_plainRow fM_kept fM_goalOver fM_goalUnder fM_goalMax fM_different ++ (WQ hQ aQ kQ hw fQ_inside_21 fQ_outside_21 fQ_shut_21 iQ_rows_3 iQ_allRows_3 iQ_columns_3 ++ (WW nW hw lw kw wl_22 wb_22 wG_22))))) H := fz_P ht hB9.1
          have hD := fz_sd hP (hB9.2.weaken (fun _ q _ h => hFc q.1 h)) rfl
          refine lv_aload_n hx hb dX3_makeProof_61 rfl (lv_at hl 0 rfl) ?_
          refine lv_iconst (v := 0) hx hb dX3_makeProof_62 (by decide) ?_
          have hFc := allFree hD hS hA
          refine va_callv (va_runV (As := [.int 0]) (rest := []) ⟨hx, hb, hml, hown, hts⟩ (m_X3_layMultipliers l dC dI hG aG kG hM hO hQ hw iG_made iG_keptNeeds fG_kept fG_need_22 fG_turn_22 iG_columns_22 aO kO iO_answered iO_searched iO_searchedRelaxed iO_counted fO_countedCase gO_goalNumber_1 gO_goalScale_1 fO_start_3 fO_column_3 fO_chosen aM kM iM_stands iM_variables iM_rows iM_goals iM_differents iM_cases fM_from fM_to fM_whole fM_ways iM_plainRows fM_plainRow fM_kept fM_goalOver fM_goalUnder fM_goalMax fM_different aQ kQ fQ_inside_21 fQ_outside_21 fQ_shut_21 iQ_rows_3 iQ_allRows_3 iQ_columns_3 nW lw kw wl_22 wb_22 wG_22 0 (b_iG_made) b_fG_need_22 (b_iG_columns_22) (b_iO_answered) (b_iO_searched) (b_iO_searchedRelaxed) (b_iO_counted) b_fO_countedCase b_fO_column_3 b_fO_chosen (b_iM_stands) (b_iM_variables) (b_iM_rows) (b_iM_goals) (b_iM_differents) (b_iM_cases) b_fM_ways (b_iM_plainRows) b_fM_plainRow (by first | with_reducible assumption | omega | assumption) (b_iQ_rows_3) (b_iQ_allRows_3) (b_iQ_columns_3) (by first | with_reducible assumption | omega | assumption) b_wl_22 b_wb_22 (by omega) (by assumption) H.size) (cwV 1 hts gwsMX3_makeProof_4 rfl rfl rfl hd_yX3_layMultipliers_RX3 (by decide +kernel)) (fz_pre (va_recv hK hP (ci := 3) (q0 := 0) rfl rfl) hP hK hD) rfl rfl hl.1 rfl (lv_room (Nat.le_of_ble_eq_true rfl)) dX3_makeProof_63 (by decide +kernel)) hS (fun q _ h => hFc q h) hFc (fun u t9_ H locs ht hvm hw9 hB9 hz1 hk1 hS => ?_)
          revert u hw9 hB9
          refine fz_p9 ?_
          intro fQ_inside_23 fQ_outside_23 fQ_shut_23 iQ_rows_23 iQ_allRows_23 iQ_columns_23 wl_23 wb_23 wG_23 hw9 hB9
          try dsimp only at hw9 hB9
          revert hw9
          refine fz_a6 ?_
          intro b_iQ_rows_23 b_iQ_allRows_23 b_iQ_columns_23 b_wl_23 b_wb_23 b_tb_23
          have hP : va_P (dC, dI) vwCl (WG hG aG kG hM hO hQ hw iG_made iG_keptNeeds fG_kept fG_need_22 fG_turn_22 iG_columns_22 ++ (WO hO aO kO hM hQ hw iO_answered iO_searched iO_searchedRelaxed iO_counted fO_countedCase gO_goalNumber_1 gO_goalScale_1 fO_start_3 fO_column_3 fO_chosen ++ (WM hM aM kM iM_stands iM_variables iM_rows iM_goals iM_differents iM_cases fM_from fM_to fM_whole fM_ways iM_plainRows fM_plainRow fM_kept fM_goalOver fM_goalUnder fM_goalMax fM_different ++ (WQ hQ aQ kQ hw fQ_inside_23 fQ_outside_23 fQ_shut_23 iQ_rows_23 iQ_allRows_23 iQ_columns_23 ++ (WW nW hw lw kw wl_23 wb_23 wG_23))))) H := fz_P ht hB9.1
          have hD := fz_sd hP (hB9.2.weaken (fun _ q _ h => hFc q.1 h)) rfl
          refine lv_goto (tgt := 83) hx hb dX3_makeProof_66 (by decide) ?_
          have hl : lv_has _ _ ([(0, .ref (hG 0))]) := lv_sub hl [0] rfl
          exact join14 _ _ _ _ ⟨fG_need_22, fG_turn_22, iG_columns_22, fQ_inside_23, fQ_outside_23, fQ_shut_23, iQ_rows_23, iQ_allRows_23, iQ_columns_23, wl_23, wb_23, wG_23, b_fG_need_22, (b_iG_columns_22), (b_iQ_rows_23), (b_iQ_allRows_23), (b_iQ_columns_23), b_wl_23, b_wb_23, (by first | with_reducible assumption | omega | assumption), rfl, hP, hD, hS, hl⟩
    · rintro H locs ls stk ⟨fG_need_j14, fG_turn_j14, iG_columns_j14, fQ_inside_j14, fQ_outside_j14, fQ_shut_j14, iQ_rows_j14, iQ_allRows_j14, iQ_columns_j14, wl_j14, wb_j14, wG_j14, b_fG_need_j14, b_iG_columns_j14, b_iQ_rows_j14, b_iQ_allRows_j14, b_iQ_columns_j14, b_wl_j14, b_wb_j14, b_tb_j14, rfl, hP, hD, hS, hl⟩
      refine lv_aload_n hx hb dX3_makeProof_83 rfl (lv_at hl 0 rfl) ?_
      refine lv_iconst (v := 0) hx hb dX3_makeProof_84 (by decide) ?_
      refine va_put (D := (dC, dI)) (ci := 3) (v := .int 0) (ty := .int) (C := RX3) (T := TX3) (N := 17) hx hb hts iwsMX3_makeProof_in3 tyX3 tyX3_ok nmX3 hown hK hP hD hS 0 rfl rfl 4 (by decide) (hts _ hm_m_X3_makeProof_3) (fun _ h9 => h9) rfl (by decide +kernel) rfl rfl (Nat.le_of_ble_eq_true rfl) dX3_makeProof_85 (fun H locs hP hD hS => ?_)
      have hP : va_P (dC, dI) vwCl (WG hG aG kG hM hO hQ hw iG_made 0 fG_kept fG_need_j14 fG_turn_j14 iG_columns_j14 ++ (WO hO aO kO hM hQ hw iO_answered iO_searched iO_searchedRelaxed iO_counted fO_countedCase gO_goalNumber_1 gO_goalScale_1 fO_start_3 fO_column_3 fO_chosen ++ (WM hM aM kM iM_stands iM_variables iM_rows iM_goals iM_differents iM_cases fM_from fM_to fM_whole fM_ways iM_plainRows fM_plainRow fM_kept fM_goalOver fM_goalUnder fM_goalMax fM_different ++ (WQ hQ aQ kQ hw fQ_inside_j14 fQ_outside_j14 fQ_shut_j14 iQ_rows_j14 iQ_allRows_j14 iQ_columns_j14 ++ (WW nW hw lw kw wl_j14 wb_j14 wG_j14))))) H := hP
      have hD := fz_sd hP (hD) rfl
      refine lv_aload_n hx hb dX3_makeProof_88 rfl (lv_at hl 0 rfl) ?_
      refine va_get (D := (dC, dI)) (ci := 3) (v := .ref (hM 0)) (C := RX3) (T := TX3) (N := 17) hx hb hts iwsMX3_makeProof_in3 hown hK hP 0 rfl rfl 0 (by decide) (hts _ hm_m_X3_makeProof_2) (fun _ h9 => h9) rfl dX3_makeProof_89 ?_
      have p9 := cj_5_2 (WG hG aG kG hM hO hQ hw iG_made 0 fG_kept fG_need_j14 fG_turn_j14 iG_columns_j14) (WO hO aO kO hM hQ hw iO_answered iO_searched iO_searchedRelaxed iO_counted fO_countedCase gO_goalNumber_1 gO_goalScale_1 fO_start_3 fO_column_3 fO_chosen) (WM hM aM kM iM_stands iM_variables iM_rows iM_goals iM_differents iM_cases fM_from fM_to fM_whole fM_ways iM_plainRows fM_plainRow fM_kept fM_goalOver fM_goalUnder fM_goalMax fM_different) (WQ hQ aQ kQ hw fQ_inside_j14 fQ_outside_j14 fQ_shut_j14 iQ_rows_j14 iQ_allRows_j14 iQ_columns_j14) (WW nW hw lw kw wl_j14 wb_j14 wG_j14)
      have hPc := hP.mem (fun q h => p9.mem_iff.mpr (List.mem_append_left _ h))
      have hDc := (hD.perm p9).left
      have hKc : va_K (dC, dI) vwCl (tM kM) _ := hK.sub [15, 16, 17, 18, 19, 20, 21, 22, 23, 24] rfl
      have hFc := freeG p9 hD hS hA
      refine va_calli (va_runV (As := []) (rest := []) ⟨hx, hb, hml, hown, hts⟩ (m_X1_needs l dC dI hM aM kM iM_stands iM_variables iM_rows iM_goals iM_differents iM_cases fM_from fM_to fM_whole fM_ways iM_plainRows fM_plainRow fM_kept fM_goalOver fM_goalUnder fM_goalMax fM_different (b_iM_stands) (b_iM_variables) (b_iM_rows) (b_iM_goals) (b_iM_differents) (b_iM_cases) b_fM_ways (b_iM_plainRows) b_fM_plainRow (by first | with_reducible assumption | omega | assumption) H.size) (cwV 0 hts gwsMX3_makeProof_7 rfl rfl rfl hd_yX1_needs_RX1 (by decide +kernel)) (fz_pre (va_recv hK hP (ci := 1) (q0 := 17) rfl rfl) hPc hKc hDc) rfl rfl hl.1 rfl (lv_room (Nat.le_of_ble_eq_true rfl)) dX3_makeProof_92 (by decide +kernel)) hS (fun q _ h => hFc q h) hFc (fun r24 u t9_ H locs ht hvm hw9 hB9 hz1 hk1 hS => ?_)
      revert hw9
      refine fz_a2 ?_
      intro b_r24 f24_0
      have p8 := p9
      obtain ⟨hP, hD⟩ := frameG p9 p8 hP hD hk1 hFc (fz_P ht hB9.1) hB9.2
      refine lv_iconst (v := 1) hx hb dX3_makeProof_95 (by decide) ?_
      refine lv_isub hx hb dX3_makeProof_96 ?_
      refine lv_topi (fun y25 hy25 => ?_)
      obtain rfl : (iI (r24.toInt - 1)) = y25 := (hy25.trans (iI_sub2 (iI_of _) (by decide : (1 : Int32) = iI 1))).symm
      refine lv_istore_n hx hb dX3_makeProof_97 rfl hl (by decide) rfl (fun ls (hl : lv_has ls _ ([(1, .int (iI (r24.toInt - 1))), (0, .ref (hG 0))])) => ?_)
      have hl : lv_has _ _ ([(1, .int (iI (r24.toInt - 1))), (0, .ref (hG 0))]) := lv_sub hl [0, 1] rfl
      refine (fun (loop : ∀ (n9 : Nat) (iG_keptNeeds_x98 : Int32) (fG_kept_x98 : Nat → Int32) (fQ_inside_x98 : Nat → Int32) (fQ_outside_x98 : Nat → Int32) (fQ_shut_x98 : Nat → Int32) (wl_x98 : Nat → Int32) (wb_x98 : Nat → Int32) (wG_x98 : Nat → Nat → Int64) (l1_x98 : Int32) (H : Heap) (locs : List Loc) (ls : Array Slot), (∀ q : Nat, 0 ≤ (wl_x98 q).toInt ∧ (wl_x98 q).toInt ≤ 14) → (∀ q : Nat, 0 ≤ (wb_x98 q).toInt ∧ (wb_x98 q).toInt ≤ 1) → ((-1) ≤ l1_x98.toInt ∧ l1_x98.toInt ≤ 27) → (l1_x98.toInt - (-1) < ((n9 : Nat) : Int)) → va_P (dC, dI) vwCl (WG hG aG kG hM hO hQ hw iG_made iG_keptNeeds_x98 fG_kept_x98 fG_need_j14 fG_turn_j14 iG_columns_j14 ++ (WO hO aO kO hM hQ hw iO_answered iO_searched iO_searchedRelaxed iO_counted fO_countedCase gO_goalNumber_1 gO_goalScale_1 fO_start_3 fO_column_3 fO_chosen ++ (WM hM aM kM iM_stands iM_variables iM_rows iM_goals iM_differents iM_cases fM_from fM_to fM_whole fM_ways iM_plainRows fM_plainRow fM_kept fM_goalOver fM_goalUnder fM_goalMax fM_different ++ (WQ hQ aQ kQ hw fQ_inside_x98 fQ_outside_x98 fQ_shut_x98 iQ_rows_j14 iQ_allRows_j14 iQ_columns_j14 ++ (WW nW hw lw kw wl_x98 wb_x98 wG_x98))))) H → va_D A (WG hG aG kG hM hO hQ hw iG_made iG_keptNeeds_x98 fG_kept_x98 fG_need_j14 fG_turn_j14 iG_columns_j14 ++ (WO hO aO kO hM hQ hw iO_answered iO_searched iO_searchedRelaxed iO_counted fO_countedCase gO_goalNumber_1 gO_goalScale_1 fO_start_3 fO_column_3 fO_chosen ++ (WM hM aM kM iM_stands iM_variables iM_rows iM_goals iM_differents iM_cases fM_from fM_to fM_whole fM_ways iM_plainRows fM_plainRow fM_kept fM_goalOver fM_goalUnder fM_goalMax fM_different ++ (WQ hQ aQ kQ hw fQ_inside_x98 fQ_outside_x98 fQ_shut_x98 iQ_rows_j14 iQ_allRows_j14 iQ_columns_j14 ++ (WW nW hw lw kw wl_x98 wb_x98 wG_x98))))) → va_S A s.heap H locs → lv_has ls 2 [(1, .int l1_x98), (0, .ref (hG 0))] → W p l e _ s m _ below meth c H locs 0 0 _ (F0 m 98 ls [])) => loop (29) 0 fG_kept fQ_inside_j14 fQ_outside_j14 fQ_shut_j14 wl_j14 wb_j14 wG_j14 (iI (r24.toInt - 1)) _ _ _ b_wl_j14 b_wb_j14 (iI_rng (by omega) (by omega) (by decide) (by decide)) ((by have e9 : ((iI (r24.toInt - 1))).toInt = (r24.toInt - 1) := (iI_t (by omega) (by omega)); omega)) hP hD hS hl) ?_
      intro n9
      induction n9 with
      | zero => intro iG_keptNeeds_x98 fG_kept_x98 fQ_inside_x98 fQ_outside_x98 fQ_shut_x98 wl_x98 wb_x98 wG_x98 l1_x98 H locs ls b_wl_x98 b_wb_x98 b_l1_x98 hf9; exact False.elim (by omega)
      | succ n9 ihx98 =>
        intro iG_keptNeeds_x98 fG_kept_x98 fQ_inside_x98 fQ_outside_x98 fQ_shut_x98 wl_x98 wb_x98 wG_x98 l1_x98 H locs ls b_wl_x98 b_wb_x98 b_l1_x98 hfx98 hP hD hS hl
        refine lv_iload_n hx hb dX3_makeProof_98 rfl (lv_at hl 0 rfl) ?_
        refine lv_if_lt (tgt := 154) hx hb dX3_makeProof_99 (by decide) (fun c_99 => ?_) (fun c_99 => ?_)
        · have t_99 : l1_x98.toInt < 0 := toI_lt c_99 rfl (by decide : (0 : Int32).toInt = 0)
          refine lv_aload_n hx hb dX3_makeProof_154 rfl (lv_at hl 1 rfl) ?_
          have hFc := allFree hD hS hA
          refine va_callv (va_runV (As := []) (rest := []) ⟨hx, hb, hml, hown, hts⟩ (m_X3_takeMultipliers l dC dI hG aG kG hM hO hQ hw iG_made iG_keptNeeds_x98 fG_kept_x98 fG_need_j14 fG_turn_j14 iG_columns_j14 aO kO iO_answered iO_searched iO_searchedRelaxed iO_counted fO_countedCase gO_goalNumber_1 gO_goalScale_1 fO_start_3 fO_column_3 fO_chosen aM kM iM_stands iM_variables iM_rows iM_goals iM_differents iM_cases fM_from fM_to fM_whole fM_ways iM_plainRows fM_plainRow fM_kept fM_goalOver fM_goalUnder fM_goalMax fM_different aQ kQ fQ_inside_x98 fQ_outside_x98 fQ_shut_x98 iQ_rows_j14 iQ_allRows_j14 iQ_columns_j14 nW lw kw wl_x98 wb_x98 wG_x98 (b_iG_made) b_fG_need_j14 (b_iG_columns_j14) (b_iO_answered) (b_iO_searched) (b_iO_searchedRelaxed) (b_iO_counted) b_fO_countedCase b_fO_column_3 b_fO_chosen (b_iM_stands) (b_iM_variables) (b_iM_rows) (b_iM_goals) (b_iM_differents) (b_iM_cases) b_fM_ways (b_iM_plainRows) b_fM_plainRow (by first | with_reducible assumption | omega | assumption) (b_iQ_rows_j14) (b_iQ_allRows_j14) (b_iQ_columns_j14) (by first | with_reducible assumption | omega | assumption) b_wl_x98 b_wb_x98 (by omega) H.size) (cwV 0 hts gwsMX3_makeProof_10 rfl rfl rfl hd_yX3_takeMultipliers_RX3 (by decide +kernel)) (fz_pre (va_recv hK hP (ci := 3) (q0 := 0) rfl rfl) hP hK hD) rfl rfl hl.1 rfl (lv_room (Nat.le_of_ble_eq_true rfl)) dX3_makeProof_155 (by decide +kernel)) hS (fun q _ h => hFc q h) hFc (fun u t9_ H locs ht hvm hw9 hB9 hz1 hk1 hS => ?_)
          revert u hw9 hB9
          refine fz_p3 ?_
          intro wl_63 wb_63 wG_63 hw9 hB9
          try dsimp only at hw9 hB9
          revert hw9
          refine fz_a2 ?_
          intro b_wl_63 b_wb_63
          have hP : va_P (dC, dI) vwCl (WG hG aG kG hM hO hQ hw iG_made iG_keptNeeds_x98 fG_kept_x98 fG_need_j14 fG_turn_j14 iG_columns_j14 ++ (WO hO aO kO hM hQ hw iO_answered iO_searched iO_searchedRelaxed iO_counted fO_countedCase gO_goalNumber_1 gO_goalScale_1 fO_start_3 fO_column_3 fO_chosen ++ (WM hM aM kM iM_stands iM_variables iM_rows iM_goals iM_differents iM_cases fM_from fM_to fM_whole fM_ways iM_plainRows fM_plainRow fM_kept fM_goalOver fM_goalUnder fM_goalMax fM_different ++ (WQ hQ aQ kQ hw fQ_inside_x98 fQ_outside_x98 fQ_shut_x98 iQ_rows_j14 iQ_allRows_j14 iQ_columns_j14 ++ (WW nW hw lw kw wl_63 wb_63 wG_63))))) H := fz_P ht hB9.1
          have hD := fz_sd hP (hB9.2.weaken (fun _ q _ h => hFc q.1 h)) rfl
          refine lv_aload_n hx hb dX3_makeProof_158 rfl (lv_at hl 1 rfl) ?_
          refine lv_iconst (v := 1) hx hb dX3_makeProof_159 (by decide) ?_
          refine va_put (D := (dC, dI)) (ci := 3) (v := .int 1) (ty := .boolean) (C := RX3) (T := TX3) (N := 17) hx hb hts iwsMX3_makeProof_in3 tyX3 tyX3_ok nmX3 hown hK hP hD hS 0 rfl rfl 3 (by decide) (hts _ hm_m_X3_makeProof_0) (fun _ h9 => h9) rfl (by decide +kernel) rfl rfl (Nat.le_of_ble_eq_true rfl) dX3_makeProof_160 (fun H locs hP hD hS => ?_)
          have hP : va_P (dC, dI) vwCl (WG hG aG kG hM hO hQ hw 1 iG_keptNeeds_x98 fG_kept_x98 fG_need_j14 fG_turn_j14 iG_columns_j14 ++ (WO hO aO kO hM hQ hw iO_answered iO_searched iO_searchedRelaxed iO_counted fO_countedCase gO_goalNumber_1 gO_goalScale_1 fO_start_3 fO_column_3 fO_chosen ++ (WM hM aM kM iM_stands iM_variables iM_rows iM_goals iM_differents iM_cases fM_from fM_to fM_whole fM_ways iM_plainRows fM_plainRow fM_kept fM_goalOver fM_goalUnder fM_goalMax fM_different ++ (WQ hQ aQ kQ hw fQ_inside_x98 fQ_outside_x98 fQ_shut_x98 iQ_rows_j14 iQ_allRows_j14 iQ_columns_j14 ++ (WW nW hw lw kw wl_63 wb_63 wG_63))))) H := hP
          have hD := fz_sd hP (hD) rfl
          refine lv_aload_n hx hb dX3_makeProof_163 rfl (lv_at hl 1 rfl) ?_
          refine va_get (D := (dC, dI)) (ci := 3) (v := .int iG_keptNeeds_x98) (C := RX3) (T := TX3) (N := 17) hx hb hts iwsMX3_makeProof_in3 hown hK hP 0 rfl rfl 4 (by decide) (hts _ hm_m_X3_makeProof_3) (fun _ h9 => h9) rfl dX3_makeProof_164 ?_
          refine W.widen (k := 0) (n := 0) (by decide +kernel) (by decide +kernel) ?_
          exact W.iret (v := iG_keptNeeds_x98) hx hb hr (fun t9_ ht hW => ⟨⟨iG_keptNeeds_x98, (1, iG_keptNeeds_x98, fG_kept_x98, fG_need_j14, fG_turn_j14, iG_columns_j14, gO_goalNumber_1, gO_goalScale_1, fO_start_3, fO_column_3, fQ_inside_x98, fQ_outside_x98, fQ_shut_x98, iQ_rows_j14, iQ_allRows_j14, iQ_columns_j14, wl_63, wb_63, wG_63), rfl, ⟨(by (try dsimp only); exact (show 0 ≤ (1 : Int32).toInt ∧ (1 : Int32).toInt ≤ 1 from by decide)), b_fG_need_j14, b_iG_columns_j14, b_fO_column_3, b_iQ_rows_j14, b_iQ_allRows_j14, b_iQ_columns_j14, b_wl_63, b_wb_63, (by (try dsimp only); exact (by first | with_reducible assumption | omega | assumption))⟩, by rw [ht]; exact hP, hD⟩, hS.F ht⟩) hS.2.2 dX3_makeProof_167
        · have t_99 : ¬ l1_x98.toInt < 0 := toI_nlt c_99 rfl (by decide : (0 : Int32).toInt = 0)
          refine lv_aload_n hx hb dX3_makeProof_102 rfl (lv_at hl 1 rfl) ?_
          refine va_get (D := (dC, dI)) (ci := 3) (v := .ref (aG 0)) (C := RX3) (T := TX3) (N := 17) hx hb hts iwsMX3_makeProof_in3 hown hK hP 0 rfl rfl 5 (by decide) (hts _ hm_m_X3_makeProof_4) (fun _ h9 => h9) rfl dX3_makeProof_103 ?_
          refine lv_iload_n hx hb dX3_makeProof_106 rfl (lv_at hl 0 rfl) ?_
          refine lv_aload_n hx hb dX3_makeProof_107 rfl (lv_at hl 1 rfl) ?_
          refine lv_iload_n hx hb dX3_makeProof_108 rfl (lv_at hl 0 rfl) ?_
          have hFc := allFree hD hS hA
          refine va_calli (va_runV (As := [.int l1_x98]) (rest := [.int l1_x98, .ref (aG 0)]) ⟨hx, hb, hml, hown, hts⟩ (m_X3_canSink l dC dI hG aG kG hM hO hQ hw iG_made iG_keptNeeds_x98 fG_kept_x98 fG_need_j14 fG_turn_j14 iG_columns_j14 aO kO iO_answered iO_searched iO_searchedRelaxed iO_counted fO_countedCase gO_goalNumber_1 gO_goalScale_1 fO_start_3 fO_column_3 fO_chosen aM kM iM_stands iM_variables iM_rows iM_goals iM_differents iM_cases fM_from fM_to fM_whole fM_ways iM_plainRows fM_plainRow fM_kept fM_goalOver fM_goalUnder fM_goalMax fM_different aQ kQ fQ_inside_x98 fQ_outside_x98 fQ_shut_x98 iQ_rows_j14 iQ_allRows_j14 iQ_columns_j14 nW lw kw wl_x98 wb_x98 wG_x98 l1_x98 (b_iG_made) b_fG_need_j14 (b_iG_columns_j14) (b_iO_answered) (b_iO_searched) (b_iO_searchedRelaxed) (b_iO_counted) b_fO_countedCase b_fO_column_3 b_fO_chosen (b_iM_stands) (b_iM_variables) (b_iM_rows) (b_iM_goals) (b_iM_differents) (b_iM_cases) b_fM_ways (b_iM_plainRows) b_fM_plainRow (by first | with_reducible assumption | omega | assumption) (b_iQ_rows_j14) (b_iQ_allRows_j14) (b_iQ_columns_j14) (by first | with_reducible assumption | omega | assumption) b_wl_x98 b_wb_x98 (by omega) H.size) (cwV 1 hts gwsMX3_makeProof_8 rfl rfl rfl hd_yX3_canSink_RX3 (by decide +kernel)) (fz_pre (va_recv hK hP (ci := 3) (q0 := 0) rfl rfl) hP hK hD) rfl rfl hl.1 rfl (lv_room (Nat.le_of_ble_eq_true rfl)) dX3_makeProof_109 (by decide +kernel)) hS (fun q _ h => hFc q h) hFc (fun r64 u t9_ H locs ht hvm hw9 hB9 hz1 hk1 hS => ?_)
          revert u hw9 hB9
          refine fz_p5 ?_
          intro fQ_inside_64 fQ_outside_64 wl_64 wb_64 wG_64 hw9 hB9
          try dsimp only at hw9 hB9
          revert hw9
          refine fz_a3 ?_
          intro b_wl_64 b_wb_64 b_r64
          have hP : va_P (dC, dI) vwCl (WG hG aG kG hM hO hQ hw iG_made iG_keptNeeds_x98 fG_kept_x98 fG_need_j14 fG_turn_j14 iG_columns_j14 ++ (WO hO aO kO hM hQ hw iO_answered iO_searched iO_searchedRelaxed iO_counted fO_countedCase gO_goalNumber_1 gO_goalScale_1 fO_start_3 fO_column_3 fO_chosen ++ (WM hM aM kM iM_stands iM_variables iM_rows iM_goals iM_differents iM_cases fM_from fM_to fM_whole fM_ways iM_plainRows fM_plainRow fM_kept fM_goalOver fM_goalUnder fM_goalMax fM_different ++ (WQ hQ aQ kQ hw fQ_inside_64 fQ_outside_64 fQ_shut_x98 iQ_rows_j14 iQ_allRows_j14 iQ_columns_j14 ++ (WW nW hw lw kw wl_64 wb_64 wG_64))))) H := fz_P ht hB9.1
          have hD := fz_sd hP (hB9.2.weaken (fun _ q _ h => hFc q.1 h)) rfl
          refine W.cut (pc := 120) (fun H locs ls stk => ∃ (k0_j25 : Int32), (0 ≤ k0_j25.toInt ∧ k0_j25.toInt ≤ 1) ∧  stk = [.int k0_j25, .int l1_x98, .ref (aG 0)] ∧ va_P (dC, dI) vwCl (WG hG aG kG hM hO hQ hw iG_made iG_keptNeeds_x98 fG_kept_x98 fG_need_j14 fG_turn_j14 iG_columns_j14 ++ (WO hO aO kO hM hQ hw iO_answered iO_searched iO_searchedRelaxed iO_counted fO_countedCase gO_goalNumber_1 gO_goalScale_1 fO_start_3 fO_column_3 fO_chosen ++ (WM hM aM kM iM_stands iM_variables iM_rows iM_goals iM_differents iM_cases fM_from fM_to fM_whole fM_ways iM_plainRows fM_plainRow fM_kept fM_goalOver fM_goalUnder fM_goalMax fM_different ++ (WQ hQ aQ kQ hw fQ_inside_64 fQ_outside_64 fQ_shut_x98 iQ_rows_j14 iQ_allRows_j14 iQ_columns_j14 ++ (WW nW hw lw kw wl_64 wb_64 wG_64))))) H ∧ va_D A (WG hG aG kG hM hO hQ hw iG_made iG_keptNeeds_x98 fG_kept_x98 fG_need_j14 fG_turn_j14 iG_columns_j14 ++ (WO hO aO kO hM hQ hw iO_answered iO_searched iO_searchedRelaxed iO_counted fO_countedCase gO_goalNumber_1 gO_goalScale_1 fO_start_3 fO_column_3 fO_chosen ++ (WM hM aM kM iM_stands iM_variables iM_rows iM_goals iM_differents iM_cases fM_from fM_to fM_whole fM_ways iM_plainRows fM_plainRow fM_kept fM_goalOver fM_goalUnder fM_goalMax fM_different ++ (WQ hQ aQ kQ hw fQ_inside_64 fQ_outside_64 fQ_shut_x98 iQ_rows_j14 iQ_allRows_j14 iQ_columns_j14 ++ (WW nW hw lw kw wl_64 wb_64 wG_64))))) ∧ va_S A s.heap H locs ∧ lv_has ls 2 [(1, .int l1_x98), (0, .ref (hG 0))]) (fun join25 => ?_) ?_
          · refine lv_if_ne (tgt := 119) hx hb dX3_makeProof_112 (by decide) (fun c_112 => ?_) (fun c_112 => ?_)
            · have t_112 : r64.toInt ≠ 0 := toI_ne c_112 rfl (by decide : (0 : Int32).toInt = 0)
              refine lv_iconst (v := 0) hx hb dX3_makeProof_119 (by decide) ?_
              have hl : lv_has _ _ ([(1, .int l1_x98), (0, .ref (hG 0))]) := lv_sub hl [0, 1] rfl
              exact join25 _ _ _ _ ⟨0, (show 0 ≤ (0 : Int32).toInt ∧ (0 : Int32).toInt ≤ 1 from by decide), rfl, hP, hD, hS, hl⟩
            · have t_112 : r64.toInt = 0 := toI_nne c_112 rfl (by decide : (0 : Int32).toInt = 0)
              refine lv_iconst (v := 1) hx hb dX3_makeProof_115 (by decide) ?_
              refine lv_goto (tgt := 120) hx hb dX3_makeProof_116 (by decide) ?_
              have hl : lv_has _ _ ([(1, .int l1_x98), (0, .ref (hG 0))]) := lv_sub hl [0, 1] rfl
              exact join25 _ _ _ _ ⟨1, (show 0 ≤ (1 : Int32).toInt ∧ (1 : Int32).toInt ≤ 1 from by decide), rfl, hP, hD, hS, hl⟩
          · rintro H locs ls stk ⟨k0_j25, b_k0_j25, rfl, hP, hD, hS, hl⟩
            refine va_zast (cA := kG 0) (n := 28) (f := fG_kept_x98) hx hb hK hP hD hS 1 0 rfl rfl (vp_in_iff.mpr ⟨(by omega), (Int.lt_of_le_of_lt (b_l1_x98.2) (by decide))⟩) dX3_makeProof_120 (fun H locs hP hD hS => ?_)
            obtain ⟨u65, hu65⟩ : ∃ f9, f9 = upd fG_kept_x98 (l1_x98).toNatClampNeg (vp_nar FieldType.boolean k0_j25) := ⟨_, rfl⟩
            have hP : va_P (dC, dI) vwCl (WG hG aG kG hM hO hQ hw iG_made iG_keptNeeds_x98 u65 fG_need_j14 fG_turn_j14 iG_columns_j14 ++ (WO hO aO kO hM hQ hw iO_answered iO_searched iO_searchedRelaxed iO_counted fO_countedCase gO_goalNumber_1 gO_goalScale_1 fO_start_3 fO_column_3 fO_chosen ++ (WM hM aM kM iM_stands iM_variables iM_rows iM_goals iM_differents iM_cases fM_from fM_to fM_whole fM_ways iM_plainRows fM_plainRow fM_kept fM_goalOver fM_goalUnder fM_goalMax fM_different ++ (WQ hQ aQ kQ hw fQ_inside_64 fQ_outside_64 fQ_shut_x98 iQ_rows_j14 iQ_allRows_j14 iQ_columns_j14 ++ (WW nW hw lw kw wl_64 wb_64 wG_64))))) H := by rw [hu65]; exact hP
            have hD : va_D A (WG hG aG kG hM hO hQ hw iG_made iG_keptNeeds_x98 u65 fG_need_j14 fG_turn_j14 iG_columns_j14 ++ (WO hO aO kO hM hQ hw iO_answered iO_searched iO_searchedRelaxed iO_counted fO_countedCase gO_goalNumber_1 gO_goalScale_1 fO_start_3 fO_column_3 fO_chosen ++ (WM hM aM kM iM_stands iM_variables iM_rows iM_goals iM_differents iM_cases fM_from fM_to fM_whole fM_ways iM_plainRows fM_plainRow fM_kept fM_goalOver fM_goalUnder fM_goalMax fM_different ++ (WQ hQ aQ kQ hw fQ_inside_64 fQ_outside_64 fQ_shut_x98 iQ_rows_j14 iQ_allRows_j14 iQ_columns_j14 ++ (WW nW hw lw kw wl_64 wb_64 wG_64))))) := by rw [hu65]; exact hD
            clear hu65
            refine lv_aload_n hx hb dX3_makeProof_121 rfl (lv_at hl 1 rfl) ?_
            refine va_get (D := (dC, dI)) (ci := 3) (v := .ref (aG 0)) (C := RX3) (T := TX3) (N := 17) hx hb hts iwsMX3_makeProof_in3 hown hK hP 0 rfl rfl 5 (by decide) (hts _ hm_m_X3_makeProof_4) (fun _ h9 => h9) rfl dX3_makeProof_122 ?_
            refine lv_iload_n hx hb dX3_makeProof_125 rfl (lv_at hl 0 rfl) ?_
            refine va_zald (cA := kG 0) (n := 28) (f := u65) hx hb hK hP 1 0 rfl rfl (vp_in_iff.mpr ⟨(by omega), (Int.lt_of_le_of_lt (b_l1_x98.2) (by decide))⟩) dX3_makeProof_126 ?_
            refine lv_topi (fun v66 hv66 => ?_)
            clear hv66
            refine W.cut (pc := 148) (fun H locs ls stk => ∃ (iG_keptNeeds_j26 : Int32) (fQ_inside_j26 : Nat → Int32) (fQ_outside_j26 : Nat → Int32) (fQ_shut_j26 : Nat → Int32) (wl_j26 : Nat → Int32) (wb_j26 : Nat → Int32) (wG_j26 : Nat → Nat → Int64), (∀ q : Nat, 0 ≤ (wl_j26 q).toInt ∧ (wl_j26 q).toInt ≤ 14) ∧ (∀ q : Nat, 0 ≤ (wb_j26 q).toInt ∧ (wb_j26 q).toInt ≤ 1) ∧  stk = [] ∧ va_P (dC, dI) vwCl (WG hG aG kG hM hO hQ hw iG_made iG_keptNeeds_j26 u65 fG_need_j14 fG_turn_j14 iG_columns_j14 ++ (WO hO aO kO hM hQ hw iO_answered iO_searched iO_searchedRelaxed iO_counted fO_countedCase gO_goalNumber_1 gO_goalScale_1 fO_start_3 fO_column_3 fO_chosen ++ (WM hM aM kM iM_stands iM_variables iM_rows iM_goals iM_differents iM_cases fM_from fM_to fM_whole fM_ways iM_plainRows fM_plainRow fM_kept fM_goalOver fM_goalUnder fM_goalMax fM_different ++ (WQ hQ aQ kQ hw fQ_inside_j26 fQ_outside_j26 fQ_shut_j26 iQ_rows_j14 iQ_allRows_j14 iQ_columns_j14 ++ (WW nW hw lw kw wl_j26 wb_j26 wG_j26))))) H ∧ va_D A (WG hG aG kG hM hO hQ hw iG_made iG_keptNeeds_j26 u65 fG_need_j14 fG_turn_j14 iG_columns_j14 ++ (WO hO aO kO hM hQ hw iO_answered iO_searched iO_searchedRelaxed iO_counted fO_countedCase gO_goalNumber_1 gO_goalScale_1 fO_start_3 fO_column_3 fO_chosen ++ (WM hM aM kM iM_stands iM_variables iM_rows iM_goals iM_differents iM_cases fM_from fM_to fM_whole fM_ways iM_plainRows fM_plainRow fM_kept fM_goalOver fM_goalUnder fM_goalMax fM_different ++ (WQ hQ aQ kQ hw fQ_inside_j26 fQ_outside_j26 fQ_shut_j26 iQ_rows_j14 iQ_allRows_j14 iQ_columns_j14 ++ (WW nW hw lw kw wl_j26 wb_j26 wG_j26))))) ∧ va_S A s.heap H locs ∧ lv_has ls 2 [(1, .int l1_x98), (0, .ref (hG 0))]) (fun join26 => ?_) ?_
            · refine lv_if_eq (tgt := 143) hx hb dX3_makeProof_127 (by decide) (fun c_127 => ?_) (fun c_127 => ?_)
              · have t_127 : v66.toInt = 0 := toI_eq c_127 rfl (by decide : (0 : Int32).toInt = 0)
                refine lv_aload_n hx hb dX3_makeProof_143 rfl (lv_at hl 1 rfl) ?_
                refine lv_iload_n hx hb dX3_makeProof_144 rfl (lv_at hl 0 rfl) ?_
                have hFc := allFree hD hS hA
                refine va_callv (va_runV (As := [.int l1_x98]) (rest := []) ⟨hx, hb, hml, hown, hts⟩ (m_X3_dropNeed l dC dI hG aG kG hM hO hQ hw iG_made iG_keptNeeds_x98 u65 fG_need_j14 fG_turn_j14 iG_columns_j14 aO kO iO_answered iO_searched iO_searchedRelaxed iO_counted fO_countedCase gO_goalNumber_1 gO_goalScale_1 fO_start_3 fO_column_3 fO_chosen aM kM iM_stands iM_variables iM_rows iM_goals iM_differents iM_cases fM_from fM_to fM_whole fM_ways iM_plainRows fM_plainRow fM_kept fM_goalOver fM_goalUnder fM_goalMax fM_different aQ kQ fQ_inside_64 fQ_outside_64 fQ_shut_x98 iQ_rows_j14 iQ_allRows_j14 iQ_columns_j14 nW lw kw wl_64 wb_64 wG_64 l1_x98 (b_iG_made) b_fG_need_j14 (b_iG_columns_j14) (b_iO_answered) (b_iO_searched) (b_iO_searchedRelaxed) (b_iO_counted) b_fO_countedCase b_fO_column_3 b_fO_chosen (b_iM_stands) (b_iM_variables) (b_iM_rows) (b_iM_goals) (b_iM_differents) (b_iM_cases) b_fM_ways (b_iM_plainRows) b_fM_plainRow (by first | with_reducible assumption | omega | assumption) (b_iQ_rows_j14) (b_iQ_allRows_j14) (b_iQ_columns_j14) (by first | with_reducible assumption | omega | assumption) b_wl_64 b_wb_64 (by omega) H.size) (cwV 1 hts gwsMX3_makeProof_9 rfl rfl rfl hd_yX3_dropNeed_RX3 (by decide +kernel)) (fz_pre (va_recv hK hP (ci := 3) (q0 := 0) rfl rfl) hP hK hD) rfl rfl hl.1 rfl (lv_room (Nat.le_of_ble_eq_true rfl)) dX3_makeProof_145 (by decide +kernel)) hS (fun q _ h => hFc q h) hFc (fun u t9_ H locs ht hvm hw9 hB9 hz1 hk1 hS => ?_)
                revert u hw9 hB9
                refine fz_p6 ?_
                intro fQ_inside_69 fQ_outside_69 fQ_shut_69 wl_69 wb_69 wG_69 hw9 hB9
                try dsimp only at hw9 hB9
                revert hw9
                refine fz_a2 ?_
                intro b_wl_69 b_wb_69
                have hP : va_P (dC, dI) vwCl (WG hG aG kG hM hO hQ hw iG_made iG_keptNeeds_x98 u65 fG_need_j14 fG_turn_j14 iG_columns_j14 ++ (WO hO aO kO hM hQ hw iO_answered iO_searched iO_searchedRelaxed iO_counted fO_countedCase gO_goalNumber_1 gO_goalScale_1 fO_start_3 fO_column_3 fO_chosen ++ (WM hM aM kM iM_stands iM_variables iM_rows iM_goals iM_differents iM_cases fM_from fM_to fM_whole fM_ways iM_plainRows fM_plainRow fM_kept fM_goalOver fM_goalUnder fM_goalMax fM_different ++ (WQ hQ aQ kQ hw fQ_inside_69 fQ_outside_69 fQ_shut_69 iQ_rows_j14 iQ_allRows_j14 iQ_columns_j14 ++ (WW nW hw lw kw wl_69 wb_69 wG_69))))) H := fz_P ht hB9.1
                have hD := fz_sd hP (hB9.2.weaken (fun _ q _ h => hFc q.1 h)) rfl
                have hl : lv_has _ _ ([(1, .int l1_x98), (0, .ref (hG 0))]) := lv_sub hl [0, 1] rfl
                exact join26 _ _ _ _ ⟨iG_keptNeeds_x98, fQ_inside_69, fQ_outside_69, fQ_shut_69, wl_69, wb_69, wG_69, b_wl_69, b_wb_69, rfl, hP, hD, hS, hl⟩
              · have t_127 : ¬ v66.toInt = 0 := toI_neq c_127 rfl (by decide : (0 : Int32).toInt = 0)
                refine lv_aload_n hx hb dX3_makeProof_130 rfl (lv_at hl 1 rfl) ?_
                refine lv_dup hx hb dX3_makeProof_131 rfl ?_
                refine va_get (D := (dC, dI)) (ci := 3) (v := .int iG_keptNeeds_x98) (C := RX3) (T := TX3) (N := 17) hx hb hts iwsMX3_makeProof_in3 hown hK hP 0 rfl rfl 4 (by decide) (hts _ hm_m_X3_makeProof_3) (fun _ h9 => h9) rfl dX3_makeProof_132 ?_
                refine lv_iconst (v := 1) hx hb dX3_makeProof_135 (by decide) ?_
                refine lv_iadd hx hb dX3_makeProof_136 ?_
                refine lv_topi (fun y70 hy70 => ?_)
                obtain rfl : (iI (iG_keptNeeds_x98.toInt + 1)) = y70 := (hy70.trans (iI_add2 (iI_of _) (by decide : (1 : Int32) = iI 1))).symm
                refine va_put (D := (dC, dI)) (ci := 3) (v := .int (iI (iG_keptNeeds_x98.toInt + 1))) (ty := .int) (C := RX3) (T := TX3) (N := 17) hx hb hts iwsMX3_makeProof_in3 tyX3 tyX3_ok nmX3 hown hK hP hD hS 0 rfl rfl 4 (by decide) (hts _ hm_m_X3_makeProof_3) (fun _ h9 => h9) rfl (by decide +kernel) rfl rfl (Nat.le_of_ble_eq_true rfl) dX3_makeProof_137 (fun H locs hP hD hS => ?_)
                have hP : va_P (dC, dI) vwCl (WG hG aG kG hM hO hQ hw iG_made (iI (iG_keptNeeds_x98.toInt + 1)) u65 fG_need_j14 fG_turn_j14 iG_columns_j14 ++ (WO hO aO kO hM hQ hw iO_answered iO_searched iO_searchedRelaxed iO_counted fO_countedCase gO_goalNumber_1 gO_goalScale_1 fO_start_3 fO_column_3 fO_chosen ++ (WM hM aM kM iM_stands iM_variables iM_rows iM_goals iM_differents iM_cases fM_from fM_to fM_whole fM_ways iM_plainRows fM_plainRow fM_kept fM_goalOver fM_goalUnder fM_goalMax fM_different ++ (WQ hQ aQ kQ hw fQ_inside_64 fQ_outside_64 fQ_shut_x98 iQ_rows_j14 iQ_allRows_j14 iQ_columns_j14 ++ (WW nW hw lw kw wl_64 wb_64 wG_64))))) H := hP
                have hD := fz_sd hP (hD) rfl
                refine lv_goto (tgt := 148) hx hb dX3_makeProof_140 (by decide) ?_
                have hl : lv_has _ _ ([(1, .int l1_x98), (0, .ref (hG 0))]) := lv_sub hl [0, 1] rfl
                exact join26 _ _ _ _ ⟨(iI (iG_keptNeeds_x98.toInt + 1)), fQ_inside_64, fQ_outside_64, fQ_shut_x98, wl_64, wb_64, wG_64, b_wl_64, b_wb_64, rfl, hP, hD, hS, hl⟩
            · rintro H locs ls stk ⟨iG_keptNeeds_j26, fQ_inside_j26, fQ_outside_j26, fQ_shut_j26, wl_j26, wb_j26, wG_j26, b_wl_j26, b_wb_j26, rfl, hP, hD, hS, hl⟩
              refine lv_iinc (v := (iI (l1_x98.toInt + (-1)))) hx hb dX3_makeProof_148 hl (k := 0) rfl (iI_add2 (iI_of _) (by decide : ((-1) : Int32) = iI (-1))) (by decide) rfl (fun ls (hl : lv_has ls _ ([(1, .int (iI (l1_x98.toInt + (-1)))), (0, .ref (hG 0))])) => ?_)
              refine lv_goto (tgt := 98) hx hb dX3_makeProof_151 (by decide) ?_
              have hl : lv_has _ _ ([(1, .int (iI (l1_x98.toInt + (-1)))), (0, .ref (hG 0))]) := lv_sub hl [0, 1] rfl
              exact ihx98 iG_keptNeeds_j26 u65 fQ_inside_j26 fQ_outside_j26 fQ_shut_j26 wl_j26 wb_j26 wG_j26 (iI (l1_x98.toInt + (-1))) _ _ _ b_wl_j26 b_wb_j26 (iI_rng (by omega) (Int.le_trans (Int.add_le_add (b_l1_x98.2) (Int.le_refl _)) (by decide)) (by decide) (by decide)) (by have e9 : ((iI (l1_x98.toInt + (-1)))).toInt = (l1_x98.toInt + (-1)) := (iI_t (Int.le_trans (by decide) (Int.add_le_add (b_l1_x98.1) (Int.le_refl _))) (Int.le_trans (Int.add_le_add (b_l1_x98.2) (Int.le_refl _)) (by decide))); omega) hP hD hS hl
  · have t_4 : ¬ iG_made.toInt = 0 := toI_neq c_4 rfl (by decide : (0 : Int32).toInt = 0)
    refine lv_aload_n hx hb dX3_makeProof_7 rfl (lv_at hl 0 rfl) ?_
    refine va_get (D := (dC, dI)) (ci := 3) (v := .int iG_keptNeeds) (C := RX3) (T := TX3) (N := 17) hx hb hts iwsMX3_makeProof_in3 hown hK hP 0 rfl rfl 4 (by decide) (hts _ hm_m_X3_makeProof_3) (fun _ h9 => h9) rfl dX3_makeProof_8 ?_
    refine W.widen (k := 0) (n := 0) (by decide +kernel) (by decide +kernel) ?_
    exact W.iret (v := iG_keptNeeds) hx hb hr (fun t9_ ht hW => ⟨⟨iG_keptNeeds, (iG_made, iG_keptNeeds, fG_kept, fG_need, fG_turn, iG_columns, gO_goalNumber, gO_goalScale, fO_start, fO_column, fQ_inside, fQ_outside, fQ_shut, iQ_rows, iQ_allRows, iQ_columns, wl, wb, wG), rfl, ⟨b_iG_made, b_fG_need, b_iG_columns, b_fO_column, b_iQ_rows, b_iQ_allRows, b_iQ_columns, b_wl, b_wb, (by (try dsimp only); exact (by first | with_reducible assumption | omega | assumption))⟩, by rw [ht]; exact hP, hD⟩, hS.F ht⟩) hS.2.2 dX3_makeProof_11
end
section
/-! the class's tree: what its nodes speak of -/
def twL (T : Nat → Int32) (i : Int) : Int := (T i.toNat).toInt
theorem tw_i {T : Nat → Int32} {E : Int} (h1 : 0 ≤ E) (h2 : E ≤ 2147483647) : (T (iI E).toNatClampNeg).toInt = twL T E := by
  unfold twL
  have e : (iI E).toNatClampNeg = E.toNat := by show (iI E).toInt.toNat = _; rw [iI_t (by omega) h2]
  rw [e]
theorem tw_i0 {T : Nat → Int32} {E : Int} (h1 : 0 ≤ E) (h2 : E ≤ 2147483647) : (T (iI (E + 0)).toNatClampNeg).toInt = twL T E := by rw [Int.add_zero]; exact tw_i h1 h2
theorem tw_r {T : Nat → Int32} {x : Int32} : (T x.toNatClampNeg).toInt = twL T x.toInt := rfl
theorem Vld {V : Int → Nat → Nat → Prop} {a b : Int} {k L : Nat} (h : a = b) (hv : V b k L) : V a k L := h ▸ hv
theorem tnx {V : Int → Nat → Nat → Prop} {a b : Int} {k L : Nat} (h : a = b) (hv : b = 0 ∨ V b k L) : a = 0 ∨ V a k L := h ▸ hv
/-- a set's name -/
def StL (fk fw : Nat → Int32) (nm i : Int) : Prop := 0 ≤ i ∧ i < nm ∧ twL fk i = 1 ∧ 1 ≤ twL fw i ∧ twL fw i ≤ 12
/-- the members of two places -/
def MeV (fw : Nat → Int32) (a b : Int) : Int := (if a = -1 then 1 else twL fw a) * (if b = -1 then 1 else twL fw b)
/-- the members of a name's places -/
def MeL (fo fw : Nat → Int32) (i : Int) : Int := MeV fw (twL fo i) (twL fw i)
/-- the names -/
def NmL (nm : Int32) (fk fo fw fb : Nat → Int32) (np : Nat) : Prop := ∀ i : Int, 0 ≤ i → i < nm.toInt → (twL fk i = 1 → 1 ≤ twL fw i ∧ twL fw i ≤ 12) ∧
  (twL fk i ≠ 1 → (twL fo i = -1 ∨ StL fk fw nm.toInt (twL fo i)) ∧ (twL fw i = -1 ∨ StL fk fw nm.toInt (twL fw i))) ∧ (twL fk i = 2 → twL fb i + MeL fo fw i ≤ (np : Int)) ∧ (twL fk i ≠ 1 → twL fk i ≠ 2 → twL fk i ≠ 5 → twL fb i + MeL fo fw i ≤ 8)
def NdL (V : Int → Nat → Nat → Prop) (T fk fo fw : Nat → Int32) (nm n : Int) (L k : Nat) : Prop := (k = 1 ∧ V (twL T (n + 3)) 2 L) ∨ (k = 2 ∧ V (twL T (n + 3)) 3 (L + 1)) ∨ (k = 3 ∧ (twL T n = 3 ∨ (twL T n = 4 ∧ 0 ≤ (twL T (n + 3)) ∧ (twL T (n + 3)) ≤ 63) ∨ (twL T n = 5 ∧ 0 ≤ (twL T (n + 3)) ∧ (twL T (n + 3)) < nm ∧ (twL fk (twL T (n + 3)) ≠ 1 ∧ twL fk (twL T (n + 3)) ≠ 5) ∧ (twL fo (twL T (n + 3)) ≠ -1 → V (twL T (n + 4)) 1 (L + 1) ∧ (twL fw (twL T (n + 3)) ≠ -1 → V (twL T (n + 5)) 1 (L + 1)))) ∨ (twL T n = 6 ∧ V (twL T (n + 3)) 3 (L + 1)) ∨ (twL T n = 7 ∧ V (twL T (n + 3)) 1 (L + 1)) ∨ (twL T n = 8 ∧ V (twL T (n + 3)) 9 L ∧ ((twL T (n + 4)) = 0 ∨ V (twL T (n + 4)) 10 (L + 1)) ∧ V (twL T (n + 5)) 3 (L + 1)))) ∨ (k = 9 ∧ StL fk fw nm (twL T (n + 3)) ∧ 0 ≤ (twL T (n + 5)) ∧ (twL T (n + 5)) ≤ 63 ∧ ((twL T (n + 4)) = -1 ∨ (StL fk fw nm (twL T (n + 4)) ∧ (twL T (n + 5)) ≤ 62))) ∨ (k = 10 ∧ V (twL T (n + 3)) 11 L) ∨ (k = 11 ∧ V (twL T (n + 3)) 12 L) ∨ (k = 12 ∧ ((twL T n = 12 ∧ V (twL T (n + 3)) 12 (L + 1)) ∨ (twL T n = 13 ∧ V (twL T (n + 3)) 10 (L + 1)) ∨ (twL T n = 14 ∧ V (twL T (n + 3)) 1 (L + 1) ∧ V (twL T (n + 4)) 1 (L + 1)))) ∨ (k = 14 ∧ V (twL T (n + 3)) 1 (L + 1) ∧ V (twL T (n + 4)) 1 (L + 1))
/-- the nodes of V, from lo to u, are whole -/
def TrL (V : Int → Nat → Nat → Prop) (T fk fo fw : Nat → Int32) (nm lo u : Int) : Prop := ∀ (n : Int) (k L : Nat), V n k L → (lo ≤ n ∧ 7 ≤ n ∧ n + 7 ≤ u ∧ L ≤ 25 ∧ n % 7 = 0) ∧ (twL T (n + 6) = 0 ∨ V (twL T (n + 6)) k L) ∧ NdL V T fk fo fw nm n L k
section
variable {V : Int → Nat → Nat → Prop} {T fk fo fw : Nat → Int32} {nm lo u n : Int} {L k : Nat}
theorem TrL.rng (h : TrL V T fk fo fw nm lo u) (hn : V n k L) : lo ≤ n ∧ 7 ≤ n ∧ n + 7 ≤ u ∧ L ≤ 25 ∧ n % 7 = 0 := (h n k L hn).1
theorem TrL.nx (h : TrL V T fk fo fw nm lo u) (hn : V n k L) : twL T (n + 6) = 0 ∨ V (twL T (n + 6)) k L := (h n k L hn).2.1
theorem NdL.e1 (hd : NdL V T fk fo fw nm n L 1) : V (twL T (n + 3)) 2 L := by
  rcases hd with ⟨h, g⟩ | ⟨h, g⟩ | ⟨h, g⟩ | ⟨h, g⟩ | ⟨h, g⟩ | ⟨h, g⟩ | ⟨h, g⟩ | ⟨h, g⟩ <;> first | exact absurd h (by decide) | exact g
theorem NdL.e2 (hd : NdL V T fk fo fw nm n L 2) : V (twL T (n + 3)) 3 (L + 1) := by
  rcases hd with ⟨h, g⟩ | ⟨h, g⟩ | ⟨h, g⟩ | ⟨h, g⟩ | ⟨h, g⟩ | ⟨h, g⟩ | ⟨h, g⟩ | ⟨h, g⟩ <;> first | exact absurd h (by decide) | exact g
theorem NdL.e3 (hd : NdL V T fk fo fw nm n L 3) : (twL T n = 3 ∨ (twL T n = 4 ∧ 0 ≤ (twL T (n + 3)) ∧ (twL T (n + 3)) ≤ 63) ∨ (twL T n = 5 ∧ 0 ≤ (twL T (n + 3)) ∧ (twL T (n + 3)) < nm ∧ (twL fk (twL T (n + 3)) ≠ 1 ∧ twL fk (twL T (n + 3)) ≠ 5) ∧ (twL fo (twL T (n + 3)) ≠ -1 → V (twL T (n + 4)) 1 (L + 1) ∧ (twL fw (twL T (n + 3)) ≠ -1 → V (twL T (n + 5)) 1 (L + 1)))) ∨ (twL T n = 6 ∧ V (twL T (n + 3)) 3 (L + 1)) ∨ (twL T n = 7 ∧ V (twL T (n + 3)) 1 (L + 1)) ∨ (twL T n = 8 ∧ V (twL T (n + 3)) 9 L ∧ ((twL T (n + 4)) = 0 ∨ V (twL T (n + 4)) 10 (L + 1)) ∧ V (twL T (n + 5)) 3 (L + 1))) := by
  rcases hd with ⟨h, g⟩ | ⟨h, g⟩ | ⟨h, g⟩ | ⟨h, g⟩ | ⟨h, g⟩ | ⟨h, g⟩ | ⟨h, g⟩ | ⟨h, g⟩ <;> first | exact absurd h (by decide) | exact g
theorem NdL.e9 (hd : NdL V T fk fo fw nm n L 9) : StL fk fw nm (twL T (n + 3)) ∧ 0 ≤ (twL T (n + 5)) ∧ (twL T (n + 5)) ≤ 63 ∧ ((twL T (n + 4)) = -1 ∨ (StL fk fw nm (twL T (n + 4)) ∧ (twL T (n + 5)) ≤ 62)) := by
  rcases hd with ⟨h, g⟩ | ⟨h, g⟩ | ⟨h, g⟩ | ⟨h, g⟩ | ⟨h, g⟩ | ⟨h, g⟩ | ⟨h, g⟩ | ⟨h, g⟩ <;> first | exact absurd h (by decide) | exact g
theorem NdL.e10 (hd : NdL V T fk fo fw nm n L 10) : V (twL T (n + 3)) 11 L := by
  rcases hd with ⟨h, g⟩ | ⟨h, g⟩ | ⟨h, g⟩ | ⟨h, g⟩ | ⟨h, g⟩ | ⟨h, g⟩ | ⟨h, g⟩ | ⟨h, g⟩ <;> first | exact absurd h (by decide) | exact g
theorem NdL.e11 (hd : NdL V T fk fo fw nm n L 11) : V (twL T (n + 3)) 12 L := by
  rcases hd with ⟨h, g⟩ | ⟨h, g⟩ | ⟨h, g⟩ | ⟨h, g⟩ | ⟨h, g⟩ | ⟨h, g⟩ | ⟨h, g⟩ | ⟨h, g⟩ <;> first | exact absurd h (by decide) | exact g
theorem NdL.e12 (hd : NdL V T fk fo fw nm n L 12) : ((twL T n = 12 ∧ V (twL T (n + 3)) 12 (L + 1)) ∨ (twL T n = 13 ∧ V (twL T (n + 3)) 10 (L + 1)) ∨ (twL T n = 14 ∧ V (twL T (n + 3)) 1 (L + 1) ∧ V (twL T (n + 4)) 1 (L + 1))) := by
  rcases hd with ⟨h, g⟩ | ⟨h, g⟩ | ⟨h, g⟩ | ⟨h, g⟩ | ⟨h, g⟩ | ⟨h, g⟩ | ⟨h, g⟩ | ⟨h, g⟩ <;> first | exact absurd h (by decide) | exact g
theorem NdL.e14 (hd : NdL V T fk fo fw nm n L 14) : V (twL T (n + 3)) 1 (L + 1) ∧ V (twL T (n + 4)) 1 (L + 1) := by
  rcases hd with ⟨h, g⟩ | ⟨h, g⟩ | ⟨h, g⟩ | ⟨h, g⟩ | ⟨h, g⟩ | ⟨h, g⟩ | ⟨h, g⟩ | ⟨h, g⟩ <;> first | exact absurd h (by decide) | exact g
theorem TrL.c1 (h : TrL V T fk fo fw nm lo u) (hn : V n 1 L) : V (twL T (n + 3)) 2 L := (h n 1 L hn).2.2.e1
theorem TrL.c2 (h : TrL V T fk fo fw nm lo u) (hn : V n 2 L) : V (twL T (n + 3)) 3 (L + 1) := (h n 2 L hn).2.2.e2
theorem TrL.c9 (h : TrL V T fk fo fw nm lo u) (hn : V n 9 L) : StL fk fw nm (twL T (n + 3)) ∧ 0 ≤ (twL T (n + 5)) ∧ (twL T (n + 5)) ≤ 63 ∧ ((twL T (n + 4)) = -1 ∨ (StL fk fw nm (twL T (n + 4)) ∧ (twL T (n + 5)) ≤ 62)) := (h n 9 L hn).2.2.e9
theorem TrL.c10 (h : TrL V T fk fo fw nm lo u) (hn : V n 10 L) : V (twL T (n + 3)) 11 L := (h n 10 L hn).2.2.e10
theorem TrL.c11 (h : TrL V T fk fo fw nm lo u) (hn : V n 11 L) : V (twL T (n + 3)) 12 L := (h n 11 L hn).2.2.e11
theorem TrL.c14 (h : TrL V T fk fo fw nm lo u) (hn : V n 14 L) : V (twL T (n + 3)) 1 (L + 1) ∧ V (twL T (n + 4)) 1 (L + 1) := (h n 14 L hn).2.2.e14
theorem TrL.k3 (h : TrL V T fk fo fw nm lo u) (hn : V n 3 L) : 3 ≤ twL T n ∧ twL T n ≤ 8 := by
  rcases (h n 3 L hn).2.2.e3 with h | h | h | h | h | h <;> omega
theorem TrL.c3b (h : TrL V T fk fo fw nm lo u) (hn : V n 3 L) (hk : twL T n = 4) : 0 ≤ (twL T (n + 3)) ∧ (twL T (n + 3)) ≤ 63 := by
  rcases (h n 3 L hn).2.2.e3 with h | h | h | h | h | h <;> first | exact h.2 | (exfalso; omega)
theorem TrL.c3n (h : TrL V T fk fo fw nm lo u) (hn : V n 3 L) (hk : twL T n = 5) : 0 ≤ (twL T (n + 3)) ∧ (twL T (n + 3)) < nm ∧ (twL fk (twL T (n + 3)) ≠ 1 ∧ twL fk (twL T (n + 3)) ≠ 5) ∧ (twL fo (twL T (n + 3)) ≠ -1 → V (twL T (n + 4)) 1 (L + 1) ∧ (twL fw (twL T (n + 3)) ≠ -1 → V (twL T (n + 5)) 1 (L + 1))) := by
  rcases (h n 3 L hn).2.2.e3 with h | h | h | h | h | h <;> first | exact h.2 | (exfalso; omega)
theorem TrL.c3t (h : TrL V T fk fo fw nm lo u) (hn : V n 3 L) (hk : twL T n = 6) : V (twL T (n + 3)) 3 (L + 1) := by
  rcases (h n 3 L hn).2.2.e3 with h | h | h | h | h | h <;> first | exact h.2 | (exfalso; omega)
theorem TrL.c3g (h : TrL V T fk fo fw nm lo u) (hn : V n 3 L) (hk : twL T n = 7) : V (twL T (n + 3)) 1 (L + 1) := by
  rcases (h n 3 L hn).2.2.e3 with h | h | h | h | h | h <;> first | exact h.2 | (exfalso; omega)
theorem TrL.c3s (h : TrL V T fk fo fw nm lo u) (hn : V n 3 L) (hk : twL T n = 8) : V (twL T (n + 3)) 9 L ∧ ((twL T (n + 4)) = 0 ∨ V (twL T (n + 4)) 10 (L + 1)) ∧ V (twL T (n + 5)) 3 (L + 1) := by
  rcases (h n 3 L hn).2.2.e3 with h | h | h | h | h | h <;> first | exact h.2 | (exfalso; omega)
theorem TrL.c12n (h : TrL V T fk fo fw nm lo u) (hn : V n 12 L) (hk : twL T n = 12) : V (twL T (n + 3)) 12 (L + 1) := by
  rcases (h n 12 L hn).2.2.e12 with h | h | h <;> first | exact h.2 | (exfalso; omega)
theorem TrL.c12a (h : TrL V T fk fo fw nm lo u) (hn : V n 12 L) (hk : twL T n = 13) : V (twL T (n + 3)) 10 (L + 1) := by
  rcases (h n 12 L hn).2.2.e12 with h | h | h <;> first | exact h.2 | (exfalso; omega)
theorem TrL.c12c (h : TrL V T fk fo fw nm lo u) (hn : V n 12 L) (hk : ¬ twL T n = 12) (hk2 : ¬ twL T n = 13) : V (twL T (n + 3)) 1 (L + 1) ∧ V (twL T (n + 4)) 1 (L + 1) := by
  rcases (h n 12 L hn).2.2.e12 with h | h | h <;> first | exact h.2 | (exfalso; omega)
theorem TrL.more (h : TrL V T fk fo fw nm lo u) {u' : Int} (hu : u ≤ u') : TrL V T fk fo fw nm lo u' := fun n k L hn => ⟨by have := (h n k L hn).1; omega, (h n k L hn).2⟩
end
theorem goodIn_rec {c0 c : Cond} {G hd : List Cond} (h1 : ∀ w ∈ hd, w ∈ G) (hc : c ∈ G) (hg : G.all goodWord = true) : GoodIn (c0 :: G) (hd ++ (c :: G)) := fun w hw => by
  have hm : w ∈ G := by
    rcases List.mem_append.mp hw with h | h
    · exact h1 w h
    · rcases List.mem_cons.mp h with h | h
      · rw [h]; exact hc
      · exact h
  exact ⟨List.mem_cons_of_mem _ hm, good_of_word (List.all_eq_true.mp hg w hm)⟩
theorem MeV_12 {fw : Nat → Int32} {a : Int} (ha : a = -1 ∨ (1 ≤ twL fw a ∧ twL fw a ≤ 12)) : 1 ≤ (if a = -1 then 1 else twL fw a) ∧ (if a = -1 then 1 else twL fw a) ≤ 12 := by
  rcases ha with h | h
  · rw [if_pos h]; omega
  · by_cases h9 : a = -1
    · rw [if_pos h9]; omega
    · rw [if_neg h9]; exact h
theorem mul_12 {x y : Int} (hx : 1 ≤ x ∧ x ≤ 12) (hy : 1 ≤ y ∧ y ≤ 12) : 1 ≤ x * y ∧ x * y ≤ 144 := by
  have h1 : 1 * 1 ≤ x * y := Int.mul_le_mul hx.1 hy.1 (by omega) (by omega)
  have h2 : x * y ≤ 12 * 12 := Int.mul_le_mul hx.2 hy.2 (by omega) (by omega)
  omega
theorem StL.w {fk fw : Nat → Int32} {nm i : Int} (h : StL fk fw nm i) : 1 ≤ twL fw i ∧ twL fw i ≤ 12 := h.2.2.2
theorem StL.r {fk fw : Nat → Int32} {nm i : Int} (h : StL fk fw nm i) : 0 ≤ i ∧ i < nm := ⟨h.1, h.2.1⟩
theorem or_StL {fk fw : Nat → Int32} {nm i : Int} (h : i = -1 ∨ StL fk fw nm i) : i = -1 ∨ (1 ≤ twL fw i ∧ twL fw i ≤ 12) := h.imp id StL.w
theorem MeV_r {fk fw : Nat → Int32} {nm a b : Int} (ha : a = -1 ∨ StL fk fw nm a) (hb : b = -1 ∨ StL fk fw nm b) : 1 ≤ MeV fw a b ∧ MeV fw a b ≤ 144 := mul_12 (MeV_12 (or_StL ha)) (MeV_12 (or_StL hb))
theorem MeV_lt1 {fk fw : Nat → Int32} {nm a b r : Int} (ha : ¬ a = -1) (hb : b = -1) (hr : r < twL fw a) : r < MeV fw a b := by
  unfold MeV
  rw [if_neg ha, if_pos hb]; omega
theorem off_12 {a b w1 w2 : Int} (ha : 0 ≤ a) (ha2 : a < w1) (hb : 0 ≤ b) (hb2 : b < w2) (h1 : w1 ≤ 12) (h2 : w2 ≤ 12) : (0 ≤ a * w2 + b ∧ a * w2 + b ≤ 143) ∧ a * w2 + b < w1 * w2 := by
  have e1 : 0 ≤ a * w2 := Int.mul_nonneg ha (by omega)
  have e2 : (a + 1) * w2 ≤ w1 * w2 := Int.mul_le_mul_of_nonneg_right (by omega) (by omega)
  have e3 : (a + 1) * w2 = a * w2 + w2 := by rw [Int.add_mul, Int.one_mul]
  have e4 : w1 * w2 ≤ 12 * 12 := Int.mul_le_mul h1 h2 (by omega) (by omega)
  omega
theorem MeV_lt2 {fk fw : Nat → Int32} {nm a b r1 r2 : Int} (ha : ¬ a = -1) (hb : ¬ b = -1) (sa : a = -1 ∨ StL fk fw nm a) (sb : b = -1 ∨ StL fk fw nm b) (h0 : 0 ≤ r1) (hr : r1 < twL fw a) (h2 : 0 ≤ r2) (hr2 : r2 < twL fw b) : (0 ≤ r1 * twL fw b + r2 ∧ r1 * twL fw b + r2 ≤ 143) ∧ r1 * twL fw b + r2 < MeV fw a b := by
  unfold MeV
  rw [if_neg ha, if_neg hb]
  exact off_12 h0 hr h2 hr2 (sa.resolve_left ha).w.2 (sb.resolve_left hb).w.2
/-- a name more -/
def NaL (fk fw : Nat → Int32) (nm : Int) (np : Nat) (p2 p3 p4 p5 : Int) : Prop := (p2 = 1 → 1 ≤ p4 ∧ p4 ≤ 12) ∧ (p2 ≠ 1 → (p3 = -1 ∨ StL fk fw nm p3) ∧ (p4 = -1 ∨ StL fk fw nm p4)) ∧ (p2 = 2 → p5 + MeV fw p3 p4 ≤ (np : Int)) ∧ (p2 ≠ 1 → p2 ≠ 2 → p2 ≠ 5 → p5 + MeV fw p3 p4 ≤ 8)
theorem tw_upd {f : Nat → Int32} {n x : Int32} {i : Int} (h0 : 0 ≤ n.toInt) (hi : 0 ≤ i) : twL (upd f n.toNatClampNeg x) i = if i = n.toInt then x.toInt else twL f i := by
  unfold twL
  have e : n.toNatClampNeg = n.toInt.toNat := rfl
  unfold upd
  by_cases h : i = n.toInt
  · rw [if_pos h, if_pos (by rw [e, h])]
  · rw [if_neg h, if_neg (by rw [e]; omega)]
theorem tw_old {f : Nat → Int32} {n x : Int32} {i : Int} (h0 : 0 ≤ n.toInt) (hi : 0 ≤ i) (hn : i < n.toInt) : twL (upd f n.toNatClampNeg x) i = twL f i := by rw [tw_upd h0 hi, if_neg (by omega)]
theorem tw_new {f : Nat → Int32} {n x : Int32} (h0 : 0 ≤ n.toInt) : twL (upd f n.toNatClampNeg x) n.toInt = x.toInt := by rw [tw_upd h0 h0, if_pos rfl]
theorem StL.old {fk fw : Nat → Int32} {n x z : Int32} {i m : Int} (h : StL fk fw n.toInt i) (hm : n.toInt ≤ m) : StL (upd fk n.toNatClampNeg x) (upd fw n.toNatClampNeg z) m i := by
  obtain ⟨h1, h2, h3, h4⟩ := h
  refine ⟨h1, by omega, ?_, ?_⟩
  · rw [tw_old (by omega) h1 h2]; exact h3
  · rw [tw_old (by omega) h1 h2]; exact h4
theorem MeV.old {fk fw : Nat → Int32} {n z : Int32} {a b : Int} (ha : a = -1 ∨ StL fk fw n.toInt a) (hb : b = -1 ∨ StL fk fw n.toInt b) : MeV (upd fw n.toNatClampNeg z) a b = MeV fw a b := by
  unfold MeV
  have e : ∀ c : Int, (c = -1 ∨ StL fk fw n.toInt c) → (if c = -1 then 1 else twL (upd fw n.toNatClampNeg z) c) = (if c = -1 then 1 else twL fw c) := by
    intro c hc
    by_cases h9 : c = -1
    · rw [if_pos h9, if_pos h9]
    · have h8 := hc.resolve_left h9
      rw [if_neg h9, if_neg h9, tw_old (by have := h8.r; omega) h8.1 h8.2.1]
  rw [e a ha, e b hb]
theorem NmL.add {n n' p2 p3 p4 p5 : Int32} {fk fo fw fb fk' fo' fw' fb' : Nat → Int32} {np : Nat} (h : NmL n fk fo fw fb np) (h0 : 0 ≤ n.toInt) (hn : n'.toInt = n.toInt + 1) (hk : fk' = upd fk n.toNatClampNeg p2) (ho : fo' = upd fo n.toNatClampNeg p3) (hw : fw' = upd fw n.toNatClampNeg p4) (hb : fb' = upd fb n.toNatClampNeg p5) (ha : NaL fk fw n.toInt np p2.toInt p3.toInt p4.toInt p5.toInt) : NmL n' fk' fo' fw' fb' np := by
  intro i hi0 hi1
  subst hk; subst ho; subst hw; subst hb
  by_cases hi : i = n.toInt
  · subst hi
    unfold MeL
    rw [tw_new h0, tw_new h0, tw_new h0, tw_new h0]
    obtain ⟨a1, a2, a3, a4⟩ := ha
    refine ⟨a1, fun h9 => ?_, fun h9 => ?_, fun h9 h8 h7 => ?_⟩
    · exact ⟨(a2 h9).1.imp id (fun q => q.old (by omega)), (a2 h9).2.imp id (fun q => q.old (by omega))⟩
    · have h8 := a2 (by omega); rw [MeV.old h8.1 h8.2]; exact a3 h9
    · have h6 := a2 h9; rw [MeV.old h6.1 h6.2]; exact a4 h9 h8 h7
  · have hlt : i < n.toInt := by omega
    obtain ⟨a1, a2, a3, a4⟩ := h i hi0 hlt
    unfold MeL
    rw [tw_old h0 hi0 hlt, tw_old h0 hi0 hlt, tw_old h0 hi0 hlt, tw_old h0 hi0 hlt]
    refine ⟨a1, fun h9 => ?_, fun h9 => ?_, fun h9 h8 h7 => ?_⟩
    · exact ⟨(a2 h9).1.imp id (fun q => q.old (by omega)), (a2 h9).2.imp id (fun q => q.old (by omega))⟩
    · have h8 := a2 (by omega); rw [MeV.old h8.1 h8.2]; exact a3 h9
    · have h6 := a2 h9; rw [MeV.old h6.1 h6.2]; exact a4 h9 h8 h7
theorem NmL.nil {n : Int32} {fk fo fw fb : Nat → Int32} {np : Nat} (h : n.toInt ≤ 0) : NmL n fk fo fw fb np := fun i h1 h2 => absurd h2 (by omega)
theorem l2i_in {x : Int64} (h1 : -2147483648 ≤ x.toInt) (h2 : x.toInt ≤ 2147483647) : (x.toInt32).toInt = x.toInt := by
  rw [Int64.toInt_toInt32]
  exact Int.bmod_eq_of_le (by omega) (by omega)
theorem mul_64 {x y : Int} (hx : 0 ≤ x ∧ x ≤ 64) (hy : 1 ≤ y ∧ y ≤ 1999) : 0 ≤ x * y ∧ x * y ≤ 127936 := by
  have h1 : 0 ≤ x * y := Int.mul_nonneg hx.1 (by omega)
  have h2 : x * y ≤ 64 * 1999 := Int.mul_le_mul hx.2 hy.2 (by omega) (by omega)
  omega
end

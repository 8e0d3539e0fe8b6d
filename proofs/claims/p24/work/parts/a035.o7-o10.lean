section
theorem hd_yX3_makeProof_RX3 : yX3_makeProof.cls = RX3 ∧ yX3_makeProof.cls ≠ "java/lang/invoke/MethodHandle" ∧ yX3_makeProof.cls ≠ "java/lang/invoke/VarHandle" ∧ (parseMethodDescriptor yX3_makeProof.desc).map (fun d => d.parameters.length) = some 0 := by decide +kernel
theorem dX11_prove_0 : decode cX11_prove 0 = .ok (.aload_n 0, 1) := dk_42 (by decide +kernel)
theorem dX11_prove_1 : decode cX11_prove 1 = .ok (.invokevirtual 135, 3) := dk_182 (by decide +kernel)
theorem dX11_prove_4 : decode cX11_prove 4 = .ok (.aload_n 0, 1) := dk_42 (by decide +kernel)
theorem dX11_prove_5 : decode cX11_prove 5 = .ok (.getfield 57, 3) := dk_180 (by decide +kernel)
theorem dX11_prove_8 : decode cX11_prove 8 = .ok (.ifnonnull 22, 3) := dk_199 (by decide +kernel)
theorem dX11_prove_30 : decode cX11_prove 30 = .ok (.aload_n 0, 1) := dk_42 (by decide +kernel)
theorem dX11_prove_31 : decode cX11_prove 31 = .ok (.getfield 57, 3) := dk_180 (by decide +kernel)
theorem dX11_prove_34 : decode cX11_prove 34 = .ok (.invokevirtual 203, 3) := dk_182 (by decide +kernel)
theorem dX11_prove_37 : decode cX11_prove 37 = .ok (.ireturn, 1) := dk_172 (by decide +kernel)
def wsMX11_prove_1 : List Cond := .code yX11_prove cX11_prove 1 (some .int) :: ([.fieldLink RX11 57 "OptimaWorks" "prover" "LOptimaWorks$Prover;"] ++ wsX110 ++ (wsV RX11 135 RX11 yX11_needModel wsMX11_needModel) ++ (wsV RX11 203 RX3 yX3_makeProof wsMX3_makeProof))
theorem iwsMX11_prove_1_in11 : ∀ w ∈ wsX110, w ∈ wsMX11_prove_1 := fun _ h => List.mem_cons_of_mem _ (List.mem_append_left _ (List.mem_append_left _ (List.mem_append_right _ h)))
theorem gwsMX11_prove_1_0 : GoodIn wsMX11_prove_1 (wsV RX11 135 RX11 yX11_needModel wsMX11_needModel) := goodIn_sub (fun _ h => List.mem_cons_of_mem _ (List.mem_append_left _ (List.mem_append_right _ h))) (gdV (by decide +kernel) gdwsMX11_needModel)
theorem gwsMX11_prove_1_1 : GoodIn wsMX11_prove_1 (wsV RX11 203 RX3 yX3_makeProof wsMX3_makeProof) := goodIn_sub (fun _ h => List.mem_cons_of_mem _ (List.mem_append_right _ h)) (gdV (by decide +kernel) gdwsMX3_makeProof)
theorem gdwsMX11_prove_1 : wsMX11_prove_1.all goodWord = true := gdC rfl (gdA (gdA (gdA (by decide +kernel : ([.fieldLink RX11 57 "OptimaWorks" "prover" "LOptimaWorks$Prover;"] : List Cond).all goodWord = true) gdwsX110) (gdV (by decide +kernel) gdwsMX11_needModel)) (gdV (by decide +kernel) gdwsMX3_makeProof))
theorem hm_m_X11_prove_1_0 : (.fieldLink RX11 57 "OptimaWorks" "prover" "LOptimaWorks$Prover;" : Cond) ∈ wsMX11_prove_1 := by decide +kernel
set_option maxHeartbeats 4000000 in
set_option maxRecDepth 100000 in
/-- a proof -/
theorem m_X11_prove_1 (l : Launch) (hst : l.stackTraces = false) (dC : Nat → ClassId) (dI : Nat → Nat → Nat) (hX : Nat → Nat) (aX : Nat → Nat) (kX : Nat → ClassId) (hT : Nat → Nat) (hM : Nat → Nat) (fX_ready : Nat → Int32) (fX_sheet : Nat → Int32) (dX_sheet : Nat) (nX_sheet : Nat) (iX_sheetLength : Int32) (xX_reader : Value) (xX_values : Value) (xX_clauses : Value) (xX_nets : Value) (hG : Nat → Nat) (aG : Nat → Nat) (kG : Nat → ClassId) (hO : Nat → Nat) (hQ : Nat → Nat) (hw : Nat → Nat) (iG_made : Int32) (iG_keptNeeds : Int32) (fG_kept : Nat → Int32) (fG_need : Nat → Int32) (fG_turn : Nat → Int32) (iG_columns : Int32) (aO : Nat → Nat) (kO : Nat → ClassId) (iO_answered : Int32) (iO_searched : Int32) (iO_searchedRelaxed : Int32) (iO_counted : Int32) (fO_countedCase : Nat → Int32) (gO_goalNumber : Nat → Int64) (gO_goalScale : Nat → Int64) (fO_start : Nat → Int32) (fO_column : Nat → Int32) (fO_chosen : Nat → Int32) (aM : Nat → Nat) (kM : Nat → ClassId) (iM_stands : Int32) (iM_variables : Int32) (iM_rows : Int32) (iM_goals : Int32) (iM_differents : Int32) (iM_cases : Int32) (fM_from : Nat → Int32) (fM_to : Nat → Int32) (fM_whole : Nat → Int32) (fM_ways : Nat → Int32) (iM_plainRows : Int32) (fM_plainRow : Nat → Int32) (fM_kept : Nat → Int32) (fM_goalOver : Nat → Int32) (fM_goalUnder : Nat → Int32) (fM_goalMax : Nat → Int32) (fM_different : Nat → Int32) (aQ : Nat → Nat) (kQ : Nat → ClassId) (fQ_inside : Nat → Int32) (fQ_outside : Nat → Int32) (fQ_shut : Nat → Int32) (iQ_rows : Int32) (iQ_allRows : Int32) (iQ_columns : Int32) (nW : Nat) (lw : Nat → Nat) (kw : ClassId) (wl : Nat → Int32) (wb : Nat → Int32) (wG : Nat → Nat → Int64) (b_fX_sheet : ∀ q : Nat, (-128) ≤ (fX_sheet q).toInt ∧ (fX_sheet q).toInt ≤ 127) (b_nX_sheet : 64 ≤ nX_sheet ∧ nX_sheet ≤ 60000) (b_iX_sheetLength : 0 ≤ iX_sheetLength.toInt ∧ iX_sheetLength.toInt ≤ 30000) (b_shl : iX_sheetLength.toInt ≤ ((nX_sheet : Nat) : Int)) (b_iG_made : 0 ≤ iG_made.toInt ∧ iG_made.toInt ≤ 1) (b_fG_need : ∀ q : Nat, 0 ≤ (fG_need q).toInt ∧ (fG_need q).toInt ≤ 27) (b_iG_columns : 0 ≤ iG_columns.toInt ∧ iG_columns.toInt ≤ 40) (b_iO_answered : 0 ≤ iO_answered.toInt ∧ iO_answered.toInt ≤ 1) (b_iO_searched : 0 ≤ iO_searched.toInt ∧ iO_searched.toInt ≤ 1) (b_iO_searchedRelaxed : 0 ≤ iO_searchedRelaxed.toInt ∧ iO_searchedRelaxed.toInt ≤ 1) (b_iO_counted : (-1) ≤ iO_counted.toInt ∧ iO_counted.toInt ≤ 64) (b_fO_countedCase : ∀ q : Nat, 0 ≤ (fO_countedCase q).toInt ∧ (fO_countedCase q).toInt ≤ 200000) (b_fO_column : ∀ q : Nat, (-1) ≤ (fO_column q).toInt ∧ (fO_column q).toInt ≤ 8) (b_fO_chosen : ∀ q : Nat, 0 ≤ (fO_chosen q).toInt ∧ (fO_chosen q).toInt ≤ 2) (b_iM_stands : 0 ≤ iM_stands.toInt ∧ iM_stands.toInt ≤ 1) (b_iM_variables : 0 ≤ iM_variables.toInt ∧ iM_variables.toInt ≤ 8) (b_iM_rows : 0 ≤ iM_rows.toInt ∧ iM_rows.toInt ≤ 12) (b_iM_goals : 0 ≤ iM_goals.toInt ∧ iM_goals.toInt ≤ 3) (b_iM_differents : 0 ≤ iM_differents.toInt ∧ iM_differents.toInt ≤ 8) (b_iM_cases : 0 ≤ iM_cases.toInt ∧ iM_cases.toInt ≤ 200000) (b_fM_ways : ∀ q : Nat, 0 ≤ (fM_ways q).toInt ∧ (fM_ways q).toInt ≤ 3) (b_iM_plainRows : 0 ≤ iM_plainRows.toInt ∧ iM_plainRows.toInt ≤ 12) (b_fM_plainRow : ∀ q : Nat, 0 ≤ (fM_plainRow q).toInt ∧ (fM_plainRow q).toInt ≤ 11) (b_pr : iM_plainRows.toInt ≤ iM_rows.toInt) (b_iQ_rows : 0 ≤ iQ_rows.toInt ∧ iQ_rows.toInt ≤ 40) (b_iQ_allRows : 0 ≤ iQ_allRows.toInt ∧ iQ_allRows.toInt ≤ 40) (b_iQ_columns : 0 ≤ iQ_columns.toInt ∧ iQ_columns.toInt ≤ 40) (b_tb : TbO iQ_rows iQ_allRows iQ_columns) (b_wl : ∀ q : Nat, 0 ≤ (wl q).toInt ∧ (wl q).toInt ≤ 14) (b_wb : ∀ q : Nat, 0 ≤ (wb q).toInt ∧ (wb q).toInt ≤ 1) (hnW : 474 ≤ nW) (sz : Nat) : vx_Met l yX11_prove wsMX11_prove_1 ({ frames := 8, cells := 1, slots := 6, locals := 201 }) (va_Pc [.ref (hX 0)] (fun U => U.heap.size = sz ∧ va_P (dC, dI) vwCl (WX hX aX kX hT hM fX_ready fX_sheet dX_sheet nX_sheet iX_sheetLength xX_reader (.ref (hO 0)) (.ref (hG 0)) xX_values xX_clauses xX_nets ++ (WG hG aG kG hM hO hQ hw iG_made iG_keptNeeds fG_kept fG_need fG_turn iG_columns ++ (WO hO aO kO hM hQ hw iO_answered iO_searched iO_searchedRelaxed iO_counted fO_countedCase gO_goalNumber gO_goalScale fO_start fO_column fO_chosen ++ (WM hM aM kM iM_stands iM_variables iM_rows iM_goals iM_differents iM_cases fM_from fM_to fM_whole fM_ways iM_plainRows fM_plainRow fM_kept fM_goalOver fM_goalUnder fM_goalMax fM_different ++ (WQ hQ aQ kQ hw fQ_inside fQ_outside fQ_shut iQ_rows iQ_allRows iQ_columns ++ (WW nW hw lw kw wl wb wG)))))) U.heap ∧ va_K (dC, dI) vwCl (tX kX ++ (tG kG ++ (tO kO ++ (tM kM ++ (tQ kQ ++ (tW kw)))))) U ∧ va_D (fun _ => True) (WX hX aX kX hT hM fX_ready fX_sheet dX_sheet nX_sheet iX_sheetLength xX_reader (.ref (hO 0)) (.ref (hG 0)) xX_values xX_clauses xX_nets ++ (WG hG aG kG hM hO hQ hw iG_made iG_keptNeeds fG_kept fG_need fG_turn iG_columns ++ (WO hO aO kO hM hQ hw iO_answered iO_searched iO_searchedRelaxed iO_counted fO_countedCase gO_goalNumber gO_goalScale fO_start fO_column fO_chosen ++ (WM hM aM kM iM_stands iM_variables iM_rows iM_goals iM_differents iM_cases fM_from fM_to fM_whole fM_ways iM_plainRows fM_plainRow fM_kept fM_goalOver fM_goalUnder fM_goalMax fM_different ++ (WQ hQ aQ kQ hw fQ_inside fQ_outside fQ_shut iQ_rows iQ_allRows iQ_columns ++ (WW nW hw lw kw wl wb wG)))))) ∧ CE (va_A (WX hX aX kX hT hM fX_ready fX_sheet dX_sheet nX_sheet iX_sheetLength xX_reader (.ref (hO 0)) (.ref (hG 0)) xX_values xX_clauses xX_nets ++ (WG hG aG kG hM hO hQ hw iG_made iG_keptNeeds fG_kept fG_need fG_turn iG_columns ++ (WO hO aO kO hM hQ hw iO_answered iO_searched iO_searchedRelaxed iO_counted fO_countedCase gO_goalNumber gO_goalScale fO_start fO_column fO_chosen ++ (WM hM aM kM iM_stands iM_variables iM_rows iM_goals iM_differents iM_cases fM_from fM_to fM_whole fM_ways iM_plainRows fM_plainRow fM_kept fM_goalOver fM_goalUnder fM_goalMax fM_different ++ (WQ hQ aQ kQ hw fQ_inside fQ_outside fQ_shut iQ_rows iQ_allRows iQ_columns ++ (WW nW hw lw kw wl wb wG)))))) sz) U U.heap)) (va_Qi (fun (r : Int32) (u : (Int32) × (Int32) × (Nat → Int32) × (Nat → Int32) × (Nat → Int32) × (Int32) × (Nat → Int64) × (Nat → Int64) × (Nat → Int32) × (Nat → Int32) × (Nat → Int32) × (Nat → Int32) × (Nat → Int32) × (Int32) × (Int32) × (Int32) × (Nat → Int32) × (Nat → Int32) × (Nat → Nat → Int64)) => (0 ≤ (u.1).toInt ∧ (u.1).toInt ≤ 1) ∧ (∀ q : Nat, 0 ≤ ((u.2.2.2.1) q).toInt ∧ ((u.2.2.2.1) q).toInt ≤ 27) ∧ (0 ≤ (u.2.2.2.2.2.1).toInt ∧ (u.2.2.2.2.2.1).toInt ≤ 40) ∧ (∀ q : Nat, (-1) ≤ ((u.2.2.2.2.2.2.2.2.2.1) q).toInt ∧ ((u.2.2.2.2.2.2.2.2.2.1) q).toInt ≤ 8) ∧ (0 ≤ (u.2.2.2.2.2.2.2.2.2.2.2.2.2.1).toInt ∧ (u.2.2.2.2.2.2.2.2.2.2.2.2.2.1).toInt ≤ 40) ∧ (0 ≤ (u.2.2.2.2.2.2.2.2.2.2.2.2.2.2.1).toInt ∧ (u.2.2.2.2.2.2.2.2.2.2.2.2.2.2.1).toInt ≤ 40) ∧ (0 ≤ (u.2.2.2.2.2.2.2.2.2.2.2.2.2.2.2.1).toInt ∧ (u.2.2.2.2.2.2.2.2.2.2.2.2.2.2.2.1).toInt ≤ 40) ∧ (∀ q : Nat, 0 ≤ ((u.2.2.2.2.2.2.2.2.2.2.2.2.2.2.2.2.1) q).toInt ∧ ((u.2.2.2.2.2.2.2.2.2.2.2.2.2.2.2.2.1) q).toInt ≤ 14) ∧ (∀ q : Nat, 0 ≤ ((u.2.2.2.2.2.2.2.2.2.2.2.2.2.2.2.2.2.1) q).toInt ∧ ((u.2.2.2.2.2.2.2.2.2.2.2.2.2.2.2.2.2.1) q).toInt ≤ 1) ∧ (TbO (u.2.2.2.2.2.2.2.2.2.2.2.2.2.1) (u.2.2.2.2.2.2.2.2.2.2.2.2.2.2.1) (u.2.2.2.2.2.2.2.2.2.2.2.2.2.2.2.1))) (fun (u : (Int32) × (Int32) × (Nat → Int32) × (Nat → Int32) × (Nat → Int32) × (Int32) × (Nat → Int64) × (Nat → Int64) × (Nat → Int32) × (Nat → Int32) × (Nat → Int32) × (Nat → Int32) × (Nat → Int32) × (Int32) × (Int32) × (Int32) × (Nat → Int32) × (Nat → Int32) × (Nat → Nat → Int64)) t => va_P (dC, dI) vwCl (WX hX aX kX hT hM fX_ready fX_sheet dX_sheet nX_sheet iX_sheetLength xX_reader (.ref (hO 0)) (.ref (hG 0)) xX_values xX_clauses xX_nets ++ (WG hG aG kG hM hO hQ hw (u.1) (u.2.1) (u.2.2.1) (u.2.2.2.1) (u.2.2.2.2.1) (u.2.2.2.2.2.1) ++ (WO hO aO kO hM hQ hw iO_answered iO_searched iO_searchedRelaxed iO_counted fO_countedCase (u.2.2.2.2.2.2.1) (u.2.2.2.2.2.2.2.1) (u.2.2.2.2.2.2.2.2.1) (u.2.2.2.2.2.2.2.2.2.1) fO_chosen ++ (WM hM aM kM iM_stands iM_variables iM_rows iM_goals iM_differents iM_cases fM_from fM_to fM_whole fM_ways iM_plainRows fM_plainRow fM_kept fM_goalOver fM_goalUnder fM_goalMax fM_different ++ (WQ hQ aQ kQ hw (u.2.2.2.2.2.2.2.2.2.2.1) (u.2.2.2.2.2.2.2.2.2.2.2.1) (u.2.2.2.2.2.2.2.2.2.2.2.2.1) (u.2.2.2.2.2.2.2.2.2.2.2.2.2.1) (u.2.2.2.2.2.2.2.2.2.2.2.2.2.2.1) (u.2.2.2.2.2.2.2.2.2.2.2.2.2.2.2.1) ++ (WW nW hw lw kw (u.2.2.2.2.2.2.2.2.2.2.2.2.2.2.2.2.1) (u.2.2.2.2.2.2.2.2.2.2.2.2.2.2.2.2.2.1) (u.2.2.2.2.2.2.2.2.2.2.2.2.2.2.2.2.2.2))))))) t.heap ∧ va_D (va_A (WX hX aX kX hT hM fX_ready fX_sheet dX_sheet nX_sheet iX_sheetLength xX_reader (.ref (hO 0)) (.ref (hG 0)) xX_values xX_clauses xX_nets ++ (WG hG aG kG hM hO hQ hw iG_made iG_keptNeeds fG_kept fG_need fG_turn iG_columns ++ (WO hO aO kO hM hQ hw iO_answered iO_searched iO_searchedRelaxed iO_counted fO_countedCase gO_goalNumber gO_goalScale fO_start fO_column fO_chosen ++ (WM hM aM kM iM_stands iM_variables iM_rows iM_goals iM_differents iM_cases fM_from fM_to fM_whole fM_ways iM_plainRows fM_plainRow fM_kept fM_goalOver fM_goalUnder fM_goalMax fM_different ++ (WQ hQ aQ kQ hw fQ_inside fQ_outside fQ_shut iQ_rows iQ_allRows iQ_columns ++ (WW nW hw lw kw wl wb wG)))))) sz) (WX hX aX kX hT hM fX_ready fX_sheet dX_sheet nX_sheet iX_sheetLength xX_reader (.ref (hO 0)) (.ref (hG 0)) xX_values xX_clauses xX_nets ++ (WG hG aG kG hM hO hQ hw (u.1) (u.2.1) (u.2.2.1) (u.2.2.2.1) (u.2.2.2.2.1) (u.2.2.2.2.2.1) ++ (WO hO aO kO hM hQ hw iO_answered iO_searched iO_searchedRelaxed iO_counted fO_countedCase (u.2.2.2.2.2.2.1) (u.2.2.2.2.2.2.2.1) (u.2.2.2.2.2.2.2.2.1) (u.2.2.2.2.2.2.2.2.2.1) fO_chosen ++ (WM hM aM kM iM_stands iM_variables iM_rows iM_goals iM_differents iM_cases fM_from fM_to fM_whole fM_ways iM_plainRows fM_plainRow fM_kept fM_goalOver fM_goalUnder fM_goalMax fM_different ++ (WQ hQ aQ kQ hw (u.2.2.2.2.2.2.2.2.2.2.1) (u.2.2.2.2.2.2.2.2.2.2.2.1) (u.2.2.2.2.2.2.2.2.2.2.2.2.1) (u.2.2.2.2.2.2.2.2.2.2.2.2.2.1) (u.2.2.2.2.2.2.2.2.2.2.2.2.2.2.1) (u.2.2.2.2.2.2.2.2.2.2.2.2.2.2.2.1) ++ (WW nW hw lw kw (u.2.2.2.2.2.2.2.2.2.2.2.2.2.2.2.2.1) (u.2.2.2.2.2.2.2.2.2.2.2.2.2.2.2.2.2.1) (u.2.2.2.2.2.2.2.2.2.2.2.2.2.2.2.2.2.2))))))) ∧ t.heap.size = sz) (va_A (WX hX aX kX hT hM fX_ready fX_sheet dX_sheet nX_sheet iX_sheetLength xX_reader (.ref (hO 0)) (.ref (hG 0)) xX_values xX_clauses xX_nets ++ (WG hG aG kG hM hO hQ hw iG_made iG_keptNeeds fG_kept fG_need fG_turn iG_columns ++ (WO hO aO kO hM hQ hw iO_answered iO_searched iO_searchedRelaxed iO_counted fO_countedCase gO_goalNumber gO_goalScale fO_start fO_column fO_chosen ++ (WM hM aM kM iM_stands iM_variables iM_rows iM_goals iM_differents iM_cases fM_from fM_to fM_whole fM_ways iM_plainRows fM_plainRow fM_kept fM_goalOver fM_goalUnder fM_goalMax fM_different ++ (WQ hQ aQ kQ hw fQ_inside fQ_outside fQ_shut iQ_rows iQ_allRows iQ_columns ++ (WW nW hw lw kw wl wb wG)))))) sz)) (vx_X (fun (u : (Int32) × (Int32) × (Nat → Int32) × (Nat → Int32) × (Nat → Int32) × (Int32) × (Nat → Int64) × (Nat → Int64) × (Nat → Int32) × (Nat → Int32) × (Nat → Int32) × (Nat → Int32) × (Nat → Int32) × (Int32) × (Int32) × (Int32) × (Nat → Int32) × (Nat → Int32) × (Nat → Nat → Int64)) => (0 ≤ (u.1).toInt ∧ (u.1).toInt ≤ 1) ∧ (∀ q : Nat, 0 ≤ ((u.2.2.2.1) q).toInt ∧ ((u.2.2.2.1) q).toInt ≤ 27) ∧ (0 ≤ (u.2.2.2.2.2.1).toInt ∧ (u.2.2.2.2.2.1).toInt ≤ 40) ∧ (∀ q : Nat, (-1) ≤ ((u.2.2.2.2.2.2.2.2.2.1) q).toInt ∧ ((u.2.2.2.2.2.2.2.2.2.1) q).toInt ≤ 8) ∧ (0 ≤ (u.2.2.2.2.2.2.2.2.2.2.2.2.2.1).toInt ∧ (u.2.2.2.2.2.2.2.2.2.2.2.2.2.1).toInt ≤ 40) ∧ (0 ≤ (u.2.2.2.2.2.2.2.2.2.2.2.2.2.2.1).toInt ∧ (u.2.2.2.2.2.2.2.2.2.2.2.2.2.2.1).toInt ≤ 40) ∧ (0 ≤ (u.2.2.2.2.2.2.2.2.2.2.2.2.2.2.2.1).toInt ∧ (u.2.2.2.2.2.2.2.2.2.2.2.2.2.2.2.1).toInt ≤ 40) ∧ (∀ q : Nat, 0 ≤ ((u.2.2.2.2.2.2.2.2.2.2.2.2.2.2.2.2.1) q).toInt ∧ ((u.2.2.2.2.2.2.2.2.2.2.2.2.2.2.2.2.1) q).toInt ≤ 14) ∧ (∀ q : Nat, 0 ≤ ((u.2.2.2.2.2.2.2.2.2.2.2.2.2.2.2.2.2.1) q).toInt ∧ ((u.2.2.2.2.2.2.2.2.2.2.2.2.2.2.2.2.2.1) q).toInt ≤ 1) ∧ (TbO (u.2.2.2.2.2.2.2.2.2.2.2.2.2.1) (u.2.2.2.2.2.2.2.2.2.2.2.2.2.2.1) (u.2.2.2.2.2.2.2.2.2.2.2.2.2.2.2.1))) (fun E (u : (Int32) × (Int32) × (Nat → Int32) × (Nat → Int32) × (Nat → Int32) × (Int32) × (Nat → Int64) × (Nat → Int64) × (Nat → Int32) × (Nat → Int32) × (Nat → Int32) × (Nat → Int32) × (Nat → Int32) × (Int32) × (Int32) × (Int32) × (Nat → Int32) × (Nat → Int32) × (Nat → Nat → Int64)) t => (E = "java/lang/IllegalStateException") ∧ va_P (dC, dI) vwCl (WX hX aX kX hT hM fX_ready fX_sheet dX_sheet nX_sheet iX_sheetLength xX_reader (.ref (hO 0)) (.ref (hG 0)) xX_values xX_clauses xX_nets ++ (WG hG aG kG hM hO hQ hw (u.1) (u.2.1) (u.2.2.1) (u.2.2.2.1) (u.2.2.2.2.1) (u.2.2.2.2.2.1) ++ (WO hO aO kO hM hQ hw iO_answered iO_searched iO_searchedRelaxed iO_counted fO_countedCase (u.2.2.2.2.2.2.1) (u.2.2.2.2.2.2.2.1) (u.2.2.2.2.2.2.2.2.1) (u.2.2.2.2.2.2.2.2.2.1) fO_chosen ++ (WM hM aM kM iM_stands iM_variables iM_rows iM_goals iM_differents iM_cases fM_from fM_to fM_whole fM_ways iM_plainRows fM_plainRow fM_kept fM_goalOver fM_goalUnder fM_goalMax fM_different ++ (WQ hQ aQ kQ hw (u.2.2.2.2.2.2.2.2.2.2.1) (u.2.2.2.2.2.2.2.2.2.2.2.1) (u.2.2.2.2.2.2.2.2.2.2.2.2.1) (u.2.2.2.2.2.2.2.2.2.2.2.2.2.1) (u.2.2.2.2.2.2.2.2.2.2.2.2.2.2.1) (u.2.2.2.2.2.2.2.2.2.2.2.2.2.2.2.1) ++ (WW nW hw lw kw (u.2.2.2.2.2.2.2.2.2.2.2.2.2.2.2.2.1) (u.2.2.2.2.2.2.2.2.2.2.2.2.2.2.2.2.2.1) (u.2.2.2.2.2.2.2.2.2.2.2.2.2.2.2.2.2.2))))))) t.heap ∧ va_D (va_A (WX hX aX kX hT hM fX_ready fX_sheet dX_sheet nX_sheet iX_sheetLength xX_reader (.ref (hO 0)) (.ref (hG 0)) xX_values xX_clauses xX_nets ++ (WG hG aG kG hM hO hQ hw iG_made iG_keptNeeds fG_kept fG_need fG_turn iG_columns ++ (WO hO aO kO hM hQ hw iO_answered iO_searched iO_searchedRelaxed iO_counted fO_countedCase gO_goalNumber gO_goalScale fO_start fO_column fO_chosen ++ (WM hM aM kM iM_stands iM_variables iM_rows iM_goals iM_differents iM_cases fM_from fM_to fM_whole fM_ways iM_plainRows fM_plainRow fM_kept fM_goalOver fM_goalUnder fM_goalMax fM_different ++ (WQ hQ aQ kQ hw fQ_inside fQ_outside fQ_shut iQ_rows iQ_allRows iQ_columns ++ (WW nW hw lw kw wl wb wG)))))) sz) (WX hX aX kX hT hM fX_ready fX_sheet dX_sheet nX_sheet iX_sheetLength xX_reader (.ref (hO 0)) (.ref (hG 0)) xX_values xX_clauses xX_nets ++ (WG hG aG kG hM hO hQ hw (u.1) (u.2.1) (u.2.2.1) (u.2.2.2.1) (u.2.2.2.2.1) (u.2.2.2.2.2.1) ++ (WO hO aO kO hM hQ hw iO_answered iO_searched iO_searchedRelaxed iO_counted fO_countedCase (u.2.2.2.2.2.2.1) (u.2.2.2.2.2.2.2.1) (u.2.2.2.2.2.2.2.2.1) (u.2.2.2.2.2.2.2.2.2.1) fO_chosen ++ (WM hM aM kM iM_stands iM_variables iM_rows iM_goals iM_differents iM_cases fM_from fM_to fM_whole fM_ways iM_plainRows fM_plainRow fM_kept fM_goalOver fM_goalUnder fM_goalMax fM_different ++ (WQ hQ aQ kQ hw (u.2.2.2.2.2.2.2.2.2.2.1) (u.2.2.2.2.2.2.2.2.2.2.2.1) (u.2.2.2.2.2.2.2.2.2.2.2.2.1) (u.2.2.2.2.2.2.2.2.2.2.2.2.2.1) (u.2.2.2.2.2.2.2.2.2.2.2.2.2.2.1) (u.2.2.2.2.2.2.2.2.2.2.2.2.2.2.2.1) ++ (WW nW hw lw kw (u.2.2.2.2.2.2.2.2.2.2.2.2.2.2.2.2.1) (u.2.2.2.2.2.2.2.2.2.2.2.2.2.2.2.2.2.1) (u.2.2.2.2.2.2.2.2.2.2.2.2.2.2.2.2.2.2)))))))) (va_A (WX hX aX kX hT hM fX_ready fX_sheet dX_sheet nX_sheet iX_sheetLength xX_reader (.ref (hO 0)) (.ref (hG 0)) xX_values xX_clauses xX_nets ++ (WG hG aG kG hM hO hQ hw iG_made iG_keptNeeds fG_kept fG_need fG_turn iG_columns ++ (WO hO aO kO hM hQ hw iO_answered iO_searched iO_searchedRelaxed iO_counted fO_countedCase gO_goalNumber gO_goalScale fO_start fO_column fO_chosen ++ (WM hM aM kM iM_stands iM_variables iM_rows iM_goals iM_differents iM_cases fM_from fM_to fM_whole fM_ways iM_plainRows fM_plainRow fM_kept fM_goalOver fM_goalUnder fM_goalMax fM_different ++ (WQ hQ aQ kQ hw fQ_inside fQ_outside fQ_shut iQ_rows iQ_allRows iQ_columns ++ (WW nW hw lw kw wl wb wG)))))) sz)) 1 6 (va_A (WX hX aX kX hT hM fX_ready fX_sheet dX_sheet nX_sheet iX_sheetLength xX_reader (.ref (hO 0)) (.ref (hG 0)) xX_values xX_clauses xX_nets ++ (WG hG aG kG hM hO hQ hw iG_made iG_keptNeeds fG_kept fG_need fG_turn iG_columns ++ (WO hO aO kO hM hQ hw iO_answered iO_searched iO_searchedRelaxed iO_counted fO_countedCase gO_goalNumber gO_goalScale fO_start fO_column fO_chosen ++ (WM hM aM kM iM_stands iM_variables iM_rows iM_goals iM_differents iM_cases fM_from fM_to fM_whole fM_ways iM_plainRows fM_plainRow fM_kept fM_goalOver fM_goalUnder fM_goalMax fM_different ++ (WQ hQ aQ kQ hw fQ_inside fQ_outside fQ_shut iQ_rows iQ_allRows iQ_columns ++ (WW nW hw lw kw wl wb wG)))))) sz) := by
  refine vx_ofW (cc := cX11_prove) (maxL := 1) (ret := (some .int)) (by decide) rfl ?_
  intro p e s m args below meth c s₁ B hml htab hv
  obtain ⟨rfl, hsz, hP, hK, hD0, hE⟩ := hv
  have hx := B.exec
  have hb := B.bytes
  have hr := B.returns
  have hts := atoms_spec (ws := wsMX11_prove_1) B.pre
  have hown : s.vm.findClass RX11 = some m.cls := findClass_of_methodNamed B.named
  have hlocks := B.notSynchronized
  subst hsz
  have hD := hD0.self (sz := s.heap.size)
  generalize hAe : va_A (WX hX aX kX hT hM fX_ready fX_sheet dX_sheet nX_sheet iX_sheetLength xX_reader (.ref (hO 0)) (.ref (hG 0)) xX_values xX_clauses xX_nets ++ (WG hG aG kG hM hO hQ hw iG_made iG_keptNeeds fG_kept fG_need fG_turn iG_columns ++ (WO hO aO kO hM hQ hw iO_answered iO_searched iO_searchedRelaxed iO_counted fO_countedCase gO_goalNumber gO_goalScale fO_start fO_column fO_chosen ++ (WM hM aM kM iM_stands iM_variables iM_rows iM_goals iM_differents iM_cases fM_from fM_to fM_whole fM_ways iM_plainRows fM_plainRow fM_kept fM_goalOver fM_goalUnder fM_goalMax fM_different ++ (WQ hQ aQ kQ hw fQ_inside fQ_outside fQ_shut iQ_rows iQ_allRows iQ_columns ++ (WW nW hw lw kw wl wb wG)))))) s.heap.size = A at hD hE ⊢
  have hA : ∀ q : Nat, s.heap.size ≤ q → A q := fun q h => by rw [← hAe]; exact Or.inr h
  have hS : va_S A s.heap s.heap [] := va_S.rf
  have hl := lv_entry ([.ref (hX 0)]) (n := 1) (Nat.le_of_ble_eq_true rfl)
  rw [lg_entry_eq]
  generalize (lg_sl ([.ref (hX 0)]) ++ List.replicate (1 - (lg_sl ([.ref (hX 0)])).length) Slot.unset).toArray = ls at hl ⊢
  have hl : lv_has ls 1 [(0, .ref (hX 0))] := hl
  refine lv_aload_n hx hb dX11_prove_0 rfl (lv_at hl 0 rfl) ?_
  refine W.known (fun hz0 _ => ?_)
  have p9 := cj_6_0_3 (WX hX aX kX hT hM fX_ready fX_sheet dX_sheet nX_sheet iX_sheetLength xX_reader (.ref (hO 0)) (.ref (hG 0)) xX_values xX_clauses xX_nets) (WG hG aG kG hM hO hQ hw iG_made iG_keptNeeds fG_kept fG_need fG_turn iG_columns) (WO hO aO kO hM hQ hw iO_answered iO_searched iO_searchedRelaxed iO_counted fO_countedCase gO_goalNumber gO_goalScale fO_start fO_column fO_chosen) (WM hM aM kM iM_stands iM_variables iM_rows iM_goals iM_differents iM_cases fM_from fM_to fM_whole fM_ways iM_plainRows fM_plainRow fM_kept fM_goalOver fM_goalUnder fM_goalMax fM_different) (WQ hQ aQ kQ hw fQ_inside fQ_outside fQ_shut iQ_rows iQ_allRows iQ_columns) (WW nW hw lw kw wl wb wG)
  have hPc := hP.mem (fun q h => p9.mem_iff.mpr (List.mem_append_left _ h))
  have hDc := (hD.perm p9).left
  have hKc : va_K (dC, dI) vwCl (tX kX ++ (tM kM)) _ := hK.sub [0, 1, 17, 18, 19, 20, 21, 22, 23, 24, 25, 26] rfl
  have hFc := freeG p9 hD hS hA
  refine vx_callv (vx_runV (As := []) (rest := []) ⟨hx, hb, hml, hown, hts⟩ (m_X11_needModel l hst dC dI hX aX kX hT hM fX_ready fX_sheet dX_sheet nX_sheet iX_sheetLength xX_reader (.ref (hO 0)) (.ref (hG 0)) xX_values xX_clauses xX_nets aM kM iM_stands iM_variables iM_rows iM_goals iM_differents iM_cases fM_from fM_to fM_whole fM_ways iM_plainRows fM_plainRow fM_kept fM_goalOver fM_goalUnder fM_goalMax fM_different b_fX_sheet (by first | exact b_nX_sheet | with_reducible assumption | exact ⟨by omega, by omega⟩ | assumption) (b_iX_sheetLength) (by first | with_reducible assumption | omega | assumption) (b_iM_stands) (b_iM_variables) (b_iM_rows) (b_iM_goals) (b_iM_differents) (b_iM_cases) b_fM_ways (b_iM_plainRows) b_fM_plainRow (by first | with_reducible assumption | omega | assumption) s.heap.size) (cwV 0 hts gwsMX11_prove_1_0 rfl rfl rfl hd_yX11_needModel_RX11 (by decide +kernel)) (fz_preE (va_recv hK hP (ci := 11) (q0 := 0) rfl rfl) hPc hKc hDc (fun a U g mk qE => qE.call) (fun U hU9 hW => by rw [hU9]; exact (((hE : CE A s s.heap).kept hS.2.1).narrow (fun q h => hFc q h)).warm hW)) rfl rfl hl.1 rfl (lv_room (Nat.le_of_ble_eq_true rfl)) dX11_prove_1 (by decide +kernel)) hS (fun q _ h => hFc q h) hFc (fun q _ h => hFc q h) (fun E ce q9 u t9_ H locs ht hvm hw9 hB9 hz1 hk1 hS hc1 hc2 hc3 => ?_) (fun u t9_ H locs ht hvm hw9 hB9 hz1 hk1 hS => ?_)
  · revert hB9
    refine fz_a2 ?_
    intro hEx hB9
    clear hw9
    have p8 := p9
    obtain ⟨hP, hD⟩ := frameG p9 p8 hP hD hk1 hFc (fz_P ht hB9.1) hB9.2
    exact vx_out (fun x hx9 => (htab x hx9).elim) hlocks hc1 hc2 hc3 (fun t9_ ht hvm => ⟨(iG_made, iG_keptNeeds, fG_kept, fG_need, fG_turn, iG_columns, gO_goalNumber, gO_goalScale, fO_start, fO_column, fQ_inside, fQ_outside, fQ_shut, iQ_rows, iQ_allRows, iQ_columns, wl, wb, wG), ⟨(b_iG_made), b_fG_need, (b_iG_columns), b_fO_column, (b_iQ_rows), (b_iQ_allRows), (b_iQ_columns), b_wl, b_wb, (by (try dsimp only); exact (by first | with_reducible assumption | omega | assumption))⟩, ⟨(by have h9 := hEx; exact h9), by rw [ht]; exact hP, hD⟩, hS.F ht⟩) hS.2.2 (by decide +kernel) (by decide +kernel)
  have f1_0 := hw9
  try dsimp only at f1_0
  have hz8 := hB9.2.2
  rw [ht] at hz8
  have hz9 : H.size ≤ s.heap.size + 0 := by rw [hz8]; exact hz0
  refine W.tight (cells2 := 0) (slots2 := 0) hz9 (nS_0 hz9) ?_
  clear hz8 hz9
  have p8 := p9
  obtain ⟨hP, hD⟩ := frameG p9 p8 hP hD hk1 hFc (fz_P ht hB9.1) hB9.2.1
  refine lv_aload_n hx hb dX11_prove_4 rfl (lv_at hl 0 rfl) ?_
  refine va_get (D := (dC, dI)) (ci := 11) (v := .ref (hG 0)) (C := RX11) (T := TX11) (N := 11) hx hb hts iwsMX11_prove_1_in11 hown hK hP 0 rfl rfl 7 (by decide) (hts _ hm_m_X11_prove_1_0) (fun _ h9 => h9) rfl dX11_prove_5 ?_
  refine lv_ifnonnull (tgt := 30) hx hb dX11_prove_8 (by decide) ?_
  refine lv_aload_n hx hb dX11_prove_30 rfl (lv_at hl 0 rfl) ?_
  refine va_get (D := (dC, dI)) (ci := 11) (v := .ref (hG 0)) (C := RX11) (T := TX11) (N := 11) hx hb hts iwsMX11_prove_1_in11 hown hK hP 0 rfl rfl 7 (by decide) (hts _ hm_m_X11_prove_1_0) (fun _ h9 => h9) rfl dX11_prove_31 ?_
  have p9 := cj_6_1_2_3_4_5 (WX hX aX kX hT hM fX_ready fX_sheet dX_sheet nX_sheet iX_sheetLength xX_reader (.ref (hO 0)) (.ref (hG 0)) xX_values xX_clauses xX_nets) (WG hG aG kG hM hO hQ hw iG_made iG_keptNeeds fG_kept fG_need fG_turn iG_columns) (WO hO aO kO hM hQ hw iO_answered iO_searched iO_searchedRelaxed iO_counted fO_countedCase gO_goalNumber gO_goalScale fO_start fO_column fO_chosen) (WM hM aM kM iM_stands iM_variables iM_rows iM_goals iM_differents iM_cases fM_from fM_to fM_whole fM_ways iM_plainRows fM_plainRow fM_kept fM_goalOver fM_goalUnder fM_goalMax fM_different) (WQ hQ aQ kQ hw fQ_inside fQ_outside fQ_shut iQ_rows iQ_allRows iQ_columns) (WW nW hw lw kw wl wb wG)
  have hPc := hP.mem (fun q h => p9.mem_iff.mpr (List.mem_append_left _ h))
  have hDc := (hD.perm p9).left
  have hKc : va_K (dC, dI) vwCl (tG kG ++ (tO kO ++ (tM kM ++ (tQ kQ ++ (tW kw))))) _ := hK.sub [2, 3, 4, 5, 6, 7, 8, 9, 10, 11, 12, 13, 14, 15, 16, 17, 18, 19, 20, 21, 22, 23, 24, 25, 26, 27, 28, 29, 30, 31] rfl
  have hFc := freeG p9 hD hS hA
  refine va_calli (va_runV (As := []) (rest := []) ⟨hx, hb, hml, hown, hts⟩ (m_X3_makeProof l dC dI hG aG kG hM hO hQ hw iG_made iG_keptNeeds fG_kept fG_need fG_turn iG_columns aO kO iO_answered iO_searched iO_searchedRelaxed iO_counted fO_countedCase gO_goalNumber gO_goalScale fO_start fO_column fO_chosen aM kM iM_stands iM_variables iM_rows iM_goals iM_differents iM_cases fM_from fM_to fM_whole fM_ways iM_plainRows fM_plainRow fM_kept fM_goalOver fM_goalUnder fM_goalMax fM_different aQ kQ fQ_inside fQ_outside fQ_shut iQ_rows iQ_allRows iQ_columns nW lw kw wl wb wG (b_iG_made) b_fG_need (b_iG_columns) (b_iO_answered) (b_iO_searched) (b_iO_searchedRelaxed) (b_iO_counted) b_fO_countedCase b_fO_column b_fO_chosen (b_iM_stands) (b_iM_variables) (b_iM_rows) (b_iM_goals) (b_iM_differents) (b_iM_cases) b_fM_ways (b_iM_plainRows) b_fM_plainRow (by first | with_reducible assumption | omega | assumption) (b_iQ_rows) (b_iQ_allRows) (b_iQ_columns) (by first | with_reducible assumption | omega | assumption) b_wl b_wb (by first | with_reducible assumption | omega | (rw [iI_t (by omega) (by omega)]; omega) | decide | assumption) H.size) (cwV 0 hts gwsMX11_prove_1_1 rfl rfl rfl hd_yX3_makeProof_RX3 (by decide +kernel)) (fz_pre (va_recv hK hP (ci := 3) (q0 := 3) rfl rfl) hPc hKc hDc) rfl rfl hl.1 rfl (lv_room (Nat.le_of_ble_eq_true rfl)) dX11_prove_34 (by decide +kernel)) hS (fun q _ h => hFc q h) hFc (fun r2 u t9_ H locs ht hvm hw9 hB9 hz1 hk1 hS => ?_)
  revert u hw9 hB9
  refine fz_p19 ?_
  intro iG_made_2 iG_keptNeeds_2 fG_kept_2 fG_need_2 fG_turn_2 iG_columns_2 gO_goalNumber_2 gO_goalScale_2 fO_start_2 fO_column_2 fQ_inside_2 fQ_outside_2 fQ_shut_2 iQ_rows_2 iQ_allRows_2 iQ_columns_2 wl_2 wb_2 wG_2 hw9 hB9
  try dsimp only at hw9 hB9
  revert hw9
  refine fz_a10 ?_
  intro b_iG_made_2 b_fG_need_2 b_iG_columns_2 b_fO_column_2 b_iQ_rows_2 b_iQ_allRows_2 b_iQ_columns_2 b_wl_2 b_wb_2 b_tb_2
  have p8 := cj_6_1_2_3_4_5 (WX hX aX kX hT hM fX_ready fX_sheet dX_sheet nX_sheet iX_sheetLength xX_reader (.ref (hO 0)) (.ref (hG 0)) xX_values xX_clauses xX_nets) (WG hG aG kG hM hO hQ hw iG_made_2 iG_keptNeeds_2 fG_kept_2 fG_need_2 fG_turn_2 iG_columns_2) (WO hO aO kO hM hQ hw iO_answered iO_searched iO_searchedRelaxed iO_counted fO_countedCase gO_goalNumber_2 gO_goalScale_2 fO_start_2 fO_column_2 fO_chosen) (WM hM aM kM iM_stands iM_variables iM_rows iM_goals iM_differents iM_cases fM_from fM_to fM_whole fM_ways iM_plainRows fM_plainRow fM_kept fM_goalOver fM_goalUnder fM_goalMax fM_different) (WQ hQ aQ kQ hw fQ_inside_2 fQ_outside_2 fQ_shut_2 iQ_rows_2 iQ_allRows_2 iQ_columns_2) (WW nW hw lw kw wl_2 wb_2 wG_2)
  obtain ⟨hP, hD⟩ := frameG p9 p8 hP hD hk1 hFc (fz_P ht hB9.1) hB9.2
  refine vx_ret ?_
  refine W.known (fun hz9 _ => ?_)
  refine W.widen (k := 1) (n := 6) (by decide +kernel) (by decide +kernel) ?_
  exact W.iret (v := r2) hx hb hr (fun t9_ ht hW => ⟨⟨r2, (iG_made_2, iG_keptNeeds_2, fG_kept_2, fG_need_2, fG_turn_2, iG_columns_2, gO_goalNumber_2, gO_goalScale_2, fO_start_2, fO_column_2, fQ_inside_2, fQ_outside_2, fQ_shut_2, iQ_rows_2, iQ_allRows_2, iQ_columns_2, wl_2, wb_2, wG_2), rfl, ⟨b_iG_made_2, b_fG_need_2, b_iG_columns_2, b_fO_column_2, b_iQ_rows_2, b_iQ_allRows_2, b_iQ_columns_2, b_wl_2, b_wb_2, (by (try dsimp only); exact (by first | with_reducible assumption | omega | assumption))⟩, by rw [ht]; exact hP, hD, by rw [ht]; first | done | exact Nat.le_antisymm hz9 hS.1⟩, hS.F ht⟩) hS.2.2 dX11_prove_37
theorem dX11_need_0 : decode cX11_need 0 = .ok (.aload_n 0, 1) := dk_42 (by decide +kernel)
theorem dX11_need_1 : decode cX11_need 1 = .ok (.getfield 57, 3) := dk_180 (by decide +kernel)
theorem dX11_need_4 : decode cX11_need 4 = .ok (.ifnull 28, 3) := dk_198 (by decide +kernel)
theorem dX11_need_7 : decode cX11_need 7 = .ok (.aload_n 0, 1) := dk_42 (by decide +kernel)
theorem dX11_need_8 : decode cX11_need 8 = .ok (.getfield 57, 3) := dk_180 (by decide +kernel)
theorem dX11_need_11 : decode cX11_need 11 = .ok (.getfield 206, 3) := dk_180 (by decide +kernel)
theorem dX11_need_14 : decode cX11_need 14 = .ok (.ifCond .eq 18, 3) := dk_153 (by decide +kernel)
theorem dX11_need_17 : decode cX11_need 17 = .ok (.iload_n 1, 1) := dk_27 (by decide +kernel)
theorem dX11_need_18 : decode cX11_need 18 = .ok (.ifCond .lt 14, 3) := dk_155 (by decide +kernel)
theorem dX11_need_21 : decode cX11_need 21 = .ok (.iload_n 1, 1) := dk_27 (by decide +kernel)
theorem dX11_need_22 : decode cX11_need 22 = .ok (.aload_n 0, 1) := dk_42 (by decide +kernel)
theorem dX11_need_23 : decode cX11_need 23 = .ok (.getfield 23, 3) := dk_180 (by decide +kernel)
theorem dX11_need_26 : decode cX11_need 26 = .ok (.invokevirtual 209, 3) := dk_182 (by decide +kernel)
theorem dX11_need_29 : decode cX11_need 29 = .ok (.if_icmp .lt 5, 3) := dk_161 (by decide +kernel)
theorem dX11_need_32 : decode cX11_need 32 = .ok (.iconst (-1), 1) := dk_2 (by decide +kernel)
theorem dX11_need_33 : decode cX11_need 33 = .ok (.ireturn, 1) := dk_172 (by decide +kernel)
theorem dX11_need_34 : decode cX11_need 34 = .ok (.iload_n 2, 1) := dk_28 (by decide +kernel)
theorem dX11_need_35 : decode cX11_need 35 = .ok (.tableswitch 61 0 2 #[25, 43, 52], 25) := by decide +kernel
theorem dX11_need_60 : decode cX11_need 60 = .ok (.aload_n 0, 1) := dk_42 (by decide +kernel)
theorem dX11_need_61 : decode cX11_need 61 = .ok (.getfield 57, 3) := dk_180 (by decide +kernel)
theorem dX11_need_64 : decode cX11_need 64 = .ok (.getfield 212, 3) := dk_180 (by decide +kernel)
theorem dX11_need_67 : decode cX11_need 67 = .ok (.iload_n 1, 1) := dk_27 (by decide +kernel)
theorem dX11_need_68 : decode cX11_need 68 = .ok (.baload, 1) := dk_51 (by decide +kernel)
theorem dX11_need_69 : decode cX11_need 69 = .ok (.ifCond .eq 7, 3) := dk_153 (by decide +kernel)
theorem dX11_need_72 : decode cX11_need 72 = .ok (.iconst 1, 1) := dk_4 (by decide +kernel)
theorem dX11_need_73 : decode cX11_need 73 = .ok (.goto 4, 3) := dk_167 (by decide +kernel)
theorem dX11_need_76 : decode cX11_need 76 = .ok (.iconst 0, 1) := dk_3 (by decide +kernel)
theorem dX11_need_77 : decode cX11_need 77 = .ok (.ireturn, 1) := dk_172 (by decide +kernel)
theorem dX11_need_78 : decode cX11_need 78 = .ok (.aload_n 0, 1) := dk_42 (by decide +kernel)
theorem dX11_need_79 : decode cX11_need 79 = .ok (.getfield 23, 3) := dk_180 (by decide +kernel)
theorem dX11_need_82 : decode cX11_need 82 = .ok (.iload_n 1, 1) := dk_27 (by decide +kernel)
theorem dX11_need_83 : decode cX11_need 83 = .ok (.invokevirtual 215, 3) := dk_182 (by decide +kernel)
theorem dX11_need_86 : decode cX11_need 86 = .ok (.ireturn, 1) := dk_172 (by decide +kernel)
theorem dX11_need_87 : decode cX11_need 87 = .ok (.aload_n 0, 1) := dk_42 (by decide +kernel)
theorem dX11_need_88 : decode cX11_need 88 = .ok (.getfield 23, 3) := dk_180 (by decide +kernel)
theorem dX11_need_91 : decode cX11_need 91 = .ok (.iload_n 1, 1) := dk_27 (by decide +kernel)
theorem dX11_need_92 : decode cX11_need 92 = .ok (.invokevirtual 218, 3) := dk_182 (by decide +kernel)
theorem dX11_need_95 : decode cX11_need 95 = .ok (.ireturn, 1) := dk_172 (by decide +kernel)
theorem dX11_need_96 : decode cX11_need 96 = .ok (.iconst (-1), 1) := dk_2 (by decide +kernel)
theorem dX11_need_97 : decode cX11_need 97 = .ok (.ireturn, 1) := dk_172 (by decide +kernel)
def wsMX11_need_1 : List Cond := .code yX11_need cX11_need 3 (some .int) :: ([.fieldLink RX11 57 "OptimaWorks" "prover" "LOptimaWorks$Prover;", .fieldLink RX11 206 "OptimaWorks$Prover" "made" "Z", .fieldLink RX11 23 "OptimaWorks" "model" "LOptimaWorks$Model;", .fieldLink RX11 212 "OptimaWorks$Prover" "kept" "[Z"] ++ wsX30 ++ wsX110 ++ (wsV RX11 209 RX1 yX1_needs wsMX1_needs) ++ (wsV RX11 215 RX1 yX1_needOf wsMX1_needOf) ++ (wsV RX11 218 RX1 yX1_needKind wsMX1_needKind))
theorem iwsMX11_need_1_in3 : ∀ w ∈ wsX30, w ∈ wsMX11_need_1 := fun _ h => List.mem_cons_of_mem _ (List.mem_append_left _ (List.mem_append_left _ (List.mem_append_left _ (List.mem_append_left _ (List.mem_append_right _ h)))))
theorem iwsMX11_need_1_in11 : ∀ w ∈ wsX110, w ∈ wsMX11_need_1 := fun _ h => List.mem_cons_of_mem _ (List.mem_append_left _ (List.mem_append_left _ (List.mem_append_left _ (List.mem_append_right _ h))))
theorem gwsMX11_need_1_0 : GoodIn wsMX11_need_1 (wsV RX11 209 RX1 yX1_needs wsMX1_needs) := goodIn_sub (fun _ h => List.mem_cons_of_mem _ (List.mem_append_left _ (List.mem_append_left _ (List.mem_append_right _ h)))) (gdV (by decide +kernel) gdwsMX1_needs)
theorem gwsMX11_need_1_1 : GoodIn wsMX11_need_1 (wsV RX11 215 RX1 yX1_needOf wsMX1_needOf) := goodIn_sub (fun _ h => List.mem_cons_of_mem _ (List.mem_append_left _ (List.mem_append_right _ h))) (gdV (by decide +kernel) gdwsMX1_needOf)
theorem gwsMX11_need_1_2 : GoodIn wsMX11_need_1 (wsV RX11 218 RX1 yX1_needKind wsMX1_needKind) := goodIn_sub (fun _ h => List.mem_cons_of_mem _ (List.mem_append_right _ h)) (gdV (by decide +kernel) gdwsMX1_needKind)
theorem gdwsMX11_need_1 : wsMX11_need_1.all goodWord = true := gdC rfl (gdA (gdA (gdA (gdA (gdA (by decide +kernel : ([.fieldLink RX11 57 "OptimaWorks" "prover" "LOptimaWorks$Prover;", .fieldLink RX11 206 "OptimaWorks$Prover" "made" "Z", .fieldLink RX11 23 "OptimaWorks" "model" "LOptimaWorks$Model;", .fieldLink RX11 212 "OptimaWorks$Prover" "kept" "[Z"] : List Cond).all goodWord = true) gdwsX30) gdwsX110) (gdV (by decide +kernel) gdwsMX1_needs)) (gdV (by decide +kernel) gdwsMX1_needOf)) (gdV (by decide +kernel) gdwsMX1_needKind))
theorem hm_m_X11_need_1_0 : (.fieldLink RX11 57 "OptimaWorks" "prover" "LOptimaWorks$Prover;" : Cond) ∈ wsMX11_need_1 := by decide +kernel
theorem hm_m_X11_need_1_1 : (.fieldLink RX11 23 "OptimaWorks" "model" "LOptimaWorks$Model;" : Cond) ∈ wsMX11_need_1 := by decide +kernel
set_option maxHeartbeats 4000000 in
set_option maxRecDepth 100000 in
/-- a need -/
theorem m_X11_need_1 (l : Launch) (dC : Nat → ClassId) (dI : Nat → Nat → Nat) (hX : Nat → Nat) (aX : Nat → Nat) (kX : Nat → ClassId) (hT : Nat → Nat) (hM : Nat → Nat) (fX_ready : Nat → Int32) (fX_sheet : Nat → Int32) (dX_sheet : Nat) (nX_sheet : Nat) (iX_sheetLength : Int32) (xX_reader : Value) (xX_solver : Value) (xX_values : Value) (xX_clauses : Value) (xX_nets : Value) (hG : Nat → Nat) (aG : Nat → Nat) (kG : Nat → ClassId) (hO : Nat → Nat) (hQ : Nat → Nat) (hw : Nat → Nat) (iG_made : Int32) (iG_keptNeeds : Int32) (fG_kept : Nat → Int32) (fG_need : Nat → Int32) (fG_turn : Nat → Int32) (iG_columns : Int32) (aM : Nat → Nat) (kM : Nat → ClassId) (iM_stands : Int32) (iM_variables : Int32) (iM_rows : Int32) (iM_goals : Int32) (iM_differents : Int32) (iM_cases : Int32) (fM_from : Nat → Int32) (fM_to : Nat → Int32) (fM_whole : Nat → Int32) (fM_ways : Nat → Int32) (iM_plainRows : Int32) (fM_plainRow : Nat → Int32) (fM_kept : Nat → Int32) (fM_goalOver : Nat → Int32) (fM_goalUnder : Nat → Int32) (fM_goalMax : Nat → Int32) (fM_different : Nat → Int32) (p1 : Int32) (p2 : Int32) (b_fX_sheet : ∀ q : Nat, (-128) ≤ (fX_sheet q).toInt ∧ (fX_sheet q).toInt ≤ 127) (b_nX_sheet : 64 ≤ nX_sheet ∧ nX_sheet ≤ 60000) (b_iX_sheetLength : 0 ≤ iX_sheetLength.toInt ∧ iX_sheetLength.toInt ≤ 30000) (b_shl : iX_sheetLength.toInt ≤ ((nX_sheet : Nat) : Int)) (b_iG_made : 0 ≤ iG_made.toInt ∧ iG_made.toInt ≤ 1) (b_fG_need : ∀ q : Nat, 0 ≤ (fG_need q).toInt ∧ (fG_need q).toInt ≤ 27) (b_iG_columns : 0 ≤ iG_columns.toInt ∧ iG_columns.toInt ≤ 40) (b_iM_stands : 0 ≤ iM_stands.toInt ∧ iM_stands.toInt ≤ 1) (b_iM_variables : 0 ≤ iM_variables.toInt ∧ iM_variables.toInt ≤ 8) (b_iM_rows : 0 ≤ iM_rows.toInt ∧ iM_rows.toInt ≤ 12) (b_iM_goals : 0 ≤ iM_goals.toInt ∧ iM_goals.toInt ≤ 3) (b_iM_differents : 0 ≤ iM_differents.toInt ∧ iM_differents.toInt ≤ 8) (b_iM_cases : 0 ≤ iM_cases.toInt ∧ iM_cases.toInt ≤ 200000) (b_fM_ways : ∀ q : Nat, 0 ≤ (fM_ways q).toInt ∧ (fM_ways q).toInt ≤ 3) (b_iM_plainRows : 0 ≤ iM_plainRows.toInt ∧ iM_plainRows.toInt ≤ 12) (b_fM_plainRow : ∀ q : Nat, 0 ≤ (fM_plainRow q).toInt ∧ (fM_plainRow q).toInt ≤ 11) (b_pr : iM_plainRows.toInt ≤ iM_rows.toInt) (sz : Nat) : Met l yX11_need wsMX11_need_1 ({ frames := 1, cells := 0, slots := 0, locals := 22 }) (va_Pc [.ref (hX 0), .int p1, .int p2] (fun U => U.heap.size = sz ∧ va_P (dC, dI) vwCl (WX hX aX kX hT hM fX_ready fX_sheet dX_sheet nX_sheet iX_sheetLength xX_reader xX_solver (.ref (hG 0)) xX_values xX_clauses xX_nets ++ (WG hG aG kG hM hO hQ hw iG_made iG_keptNeeds fG_kept fG_need fG_turn iG_columns ++ (WM hM aM kM iM_stands iM_variables iM_rows iM_goals iM_differents iM_cases fM_from fM_to fM_whole fM_ways iM_plainRows fM_plainRow fM_kept fM_goalOver fM_goalUnder fM_goalMax fM_different))) U.heap ∧ va_K (dC, dI) vwCl (tX kX ++ (tG kG ++ (tM kM))) U ∧ va_D (fun _ => True) (WX hX aX kX hT hM fX_ready fX_sheet dX_sheet nX_sheet iX_sheetLength xX_reader xX_solver (.ref (hG 0)) xX_values xX_clauses xX_nets ++ (WG hG aG kG hM hO hQ hw iG_made iG_keptNeeds fG_kept fG_need fG_turn iG_columns ++ (WM hM aM kM iM_stands iM_variables iM_rows iM_goals iM_differents iM_cases fM_from fM_to fM_whole fM_ways iM_plainRows fM_plainRow fM_kept fM_goalOver fM_goalUnder fM_goalMax fM_different))))) (va_Qi (fun (r : Int32) (u : Unit) => True) (fun (u : Unit) t => va_P (dC, dI) vwCl (WX hX aX kX hT hM fX_ready fX_sheet dX_sheet nX_sheet iX_sheetLength xX_reader xX_solver (.ref (hG 0)) xX_values xX_clauses xX_nets ++ (WG hG aG kG hM hO hQ hw iG_made iG_keptNeeds fG_kept fG_need fG_turn iG_columns ++ (WM hM aM kM iM_stands iM_variables iM_rows iM_goals iM_differents iM_cases fM_from fM_to fM_whole fM_ways iM_plainRows fM_plainRow fM_kept fM_goalOver fM_goalUnder fM_goalMax fM_different))) t.heap ∧ va_D (va_A (WX hX aX kX hT hM fX_ready fX_sheet dX_sheet nX_sheet iX_sheetLength xX_reader xX_solver (.ref (hG 0)) xX_values xX_clauses xX_nets ++ (WG hG aG kG hM hO hQ hw iG_made iG_keptNeeds fG_kept fG_need fG_turn iG_columns ++ (WM hM aM kM iM_stands iM_variables iM_rows iM_goals iM_differents iM_cases fM_from fM_to fM_whole fM_ways iM_plainRows fM_plainRow fM_kept fM_goalOver fM_goalUnder fM_goalMax fM_different))) sz) (WX hX aX kX hT hM fX_ready fX_sheet dX_sheet nX_sheet iX_sheetLength xX_reader xX_solver (.ref (hG 0)) xX_values xX_clauses xX_nets ++ (WG hG aG kG hM hO hQ hw iG_made iG_keptNeeds fG_kept fG_need fG_turn iG_columns ++ (WM hM aM kM iM_stands iM_variables iM_rows iM_goals iM_differents iM_cases fM_from fM_to fM_whole fM_ways iM_plainRows fM_plainRow fM_kept fM_goalOver fM_goalUnder fM_goalMax fM_different)))) (va_A (WX hX aX kX hT hM fX_ready fX_sheet dX_sheet nX_sheet iX_sheetLength xX_reader xX_solver (.ref (hG 0)) xX_values xX_clauses xX_nets ++ (WG hG aG kG hM hO hQ hw iG_made iG_keptNeeds fG_kept fG_need fG_turn iG_columns ++ (WM hM aM kM iM_stands iM_variables iM_rows iM_goals iM_differents iM_cases fM_from fM_to fM_whole fM_ways iM_plainRows fM_plainRow fM_kept fM_goalOver fM_goalUnder fM_goalMax fM_different))) sz)) 0 0 (va_A (WX hX aX kX hT hM fX_ready fX_sheet dX_sheet nX_sheet iX_sheetLength xX_reader xX_solver (.ref (hG 0)) xX_values xX_clauses xX_nets ++ (WG hG aG kG hM hO hQ hw iG_made iG_keptNeeds fG_kept fG_need fG_turn iG_columns ++ (WM hM aM kM iM_stands iM_variables iM_rows iM_goals iM_differents iM_cases fM_from fM_to fM_whole fM_ways iM_plainRows fM_plainRow fM_kept fM_goalOver fM_goalUnder fM_goalMax fM_different))) sz) := by
  refine Met.ofW (cc := cX11_need) (maxL := 3) (ret := (some .int)) (by decide) rfl ?_
  intro p e s m args below meth c s₁ B hml hv
  obtain ⟨rfl, hsz, hP, hK, hD0⟩ := hv
  have hx := B.exec
  have hb := B.bytes
  have hr := B.returns
  have hts := atoms_spec (ws := wsMX11_need_1) B.pre
  have hown : s.vm.findClass RX11 = some m.cls := findClass_of_methodNamed B.named
  have hlocks := B.notSynchronized
  subst hsz
  have hD := hD0.self (sz := s.heap.size)
  generalize hAe : va_A (WX hX aX kX hT hM fX_ready fX_sheet dX_sheet nX_sheet iX_sheetLength xX_reader xX_solver (.ref (hG 0)) xX_values xX_clauses xX_nets ++ (WG hG aG kG hM hO hQ hw iG_made iG_keptNeeds fG_kept fG_need fG_turn iG_columns ++ (WM hM aM kM iM_stands iM_variables iM_rows iM_goals iM_differents iM_cases fM_from fM_to fM_whole fM_ways iM_plainRows fM_plainRow fM_kept fM_goalOver fM_goalUnder fM_goalMax fM_different))) s.heap.size = A at hD ⊢
  have hA : ∀ q : Nat, s.heap.size ≤ q → A q := fun q h => by rw [← hAe]; exact Or.inr h
  have hS : va_S A s.heap s.heap [] := va_S.rf
  have hl := lv_entry ([.ref (hX 0), .int p1, .int p2]) (n := 3) (Nat.le_of_ble_eq_true rfl)
  rw [lg_entry_eq]
  generalize (lg_sl ([.ref (hX 0), .int p1, .int p2]) ++ List.replicate (3 - (lg_sl ([.ref (hX 0), .int p1, .int p2])).length) Slot.unset).toArray = ls at hl ⊢
  have hl : lv_has ls 3 [(0, .ref (hX 0)), (1, .int p1), (2, .int p2)] := hl
  refine lv_aload_n hx hb dX11_need_0 rfl (lv_at hl 0 rfl) ?_
  refine va_get (D := (dC, dI)) (ci := 11) (v := .ref (hG 0)) (C := RX11) (T := TX11) (N := 11) hx hb hts iwsMX11_need_1_in11 hown hK hP 0 rfl rfl 7 (by decide) (hts _ hm_m_X11_need_1_0) (fun _ h9 => h9) rfl dX11_need_1 ?_
  refine lv_ifnull hx hb dX11_need_4 ?_
  refine lv_aload_n hx hb dX11_need_7 rfl (lv_at hl 0 rfl) ?_
  refine va_get (D := (dC, dI)) (ci := 11) (v := .ref (hG 0)) (C := RX11) (T := TX11) (N := 11) hx hb hts iwsMX11_need_1_in11 hown hK hP 0 rfl rfl 7 (by decide) (hts _ hm_m_X11_need_1_0) (fun _ h9 => h9) rfl dX11_need_8 ?_
  refine va_get (D := (dC, dI)) (ci := 3) (v := .int iG_made) (C := RX3) (T := TX3) (N := 17) hx hb hts iwsMX11_need_1_in3 hown hK hP 3 rfl rfl 3 (by decide) (hts (.fieldLink RX11 206 "OptimaWorks$Prover" "made" "Z") (by decide +kernel)) (fun _ h9 => h9) rfl dX11_need_11 ?_
  refine lv_if_eq (tgt := 32) hx hb dX11_need_14 (by decide) (fun c_14 => ?_) (fun c_14 => ?_)
  · have t_14 : iG_made.toInt = 0 := toI_eq c_14 rfl (by decide : (0 : Int32).toInt = 0)
    refine lv_iconst (v := (-1)) hx hb dX11_need_32 (by decide) ?_
    refine W.widen (k := 0) (n := 0) (by decide +kernel) (by decide +kernel) ?_
    exact W.iret (v := (-1)) hx hb hr (fun t9_ ht hW => ⟨⟨((-1) : Int32), (), rfl, trivial, by rw [ht]; exact hP, hD⟩, hS.F ht⟩) hS.2.2 dX11_need_33
  · have t_14 : ¬ iG_made.toInt = 0 := toI_neq c_14 rfl (by decide : (0 : Int32).toInt = 0)
    refine lv_iload_n hx hb dX11_need_17 rfl (lv_at hl 1 rfl) ?_
    refine lv_if_lt (tgt := 32) hx hb dX11_need_18 (by decide) (fun c_18 => ?_) (fun c_18 => ?_)
    · have t_18 : p1.toInt < 0 := toI_lt c_18 rfl (by decide : (0 : Int32).toInt = 0)
      refine lv_iconst (v := (-1)) hx hb dX11_need_32 (by decide) ?_
      refine W.widen (k := 0) (n := 0) (by decide +kernel) (by decide +kernel) ?_
      exact W.iret (v := (-1)) hx hb hr (fun t9_ ht hW => ⟨⟨((-1) : Int32), (), rfl, trivial, by rw [ht]; exact hP, hD⟩, hS.F ht⟩) hS.2.2 dX11_need_33
    · have t_18 : ¬ p1.toInt < 0 := toI_nlt c_18 rfl (by decide : (0 : Int32).toInt = 0)
      refine lv_iload_n hx hb dX11_need_21 rfl (lv_at hl 1 rfl) ?_
      refine lv_aload_n hx hb dX11_need_22 rfl (lv_at hl 0 rfl) ?_
      refine va_get (D := (dC, dI)) (ci := 11) (v := .ref (hM 0)) (C := RX11) (T := TX11) (N := 11) hx hb hts iwsMX11_need_1_in11 hown hK hP 0 rfl rfl 2 (by decide) (hts _ hm_m_X11_need_1_1) (fun _ h9 => h9) rfl dX11_need_23 ?_
      have p9 := cj_3_2 (WX hX aX kX hT hM fX_ready fX_sheet dX_sheet nX_sheet iX_sheetLength xX_reader xX_solver (.ref (hG 0)) xX_values xX_clauses xX_nets) (WG hG aG kG hM hO hQ hw iG_made iG_keptNeeds fG_kept fG_need fG_turn iG_columns) (WM hM aM kM iM_stands iM_variables iM_rows iM_goals iM_differents iM_cases fM_from fM_to fM_whole fM_ways iM_plainRows fM_plainRow fM_kept fM_goalOver fM_goalUnder fM_goalMax fM_different)
      have hPc := hP.mem (fun q h => p9.mem_iff.mpr (List.mem_append_left _ h))
      have hDc := (hD.perm p9).left
      have hKc : va_K (dC, dI) vwCl (tM kM) _ := hK.sub [7, 8, 9, 10, 11, 12, 13, 14, 15, 16] rfl
      have hFc := freeG p9 hD hS hA
      refine va_calli (va_runV (As := []) (rest := [.int p1]) ⟨hx, hb, hml, hown, hts⟩ (m_X1_needs l dC dI hM aM kM iM_stands iM_variables iM_rows iM_goals iM_differents iM_cases fM_from fM_to fM_whole fM_ways iM_plainRows fM_plainRow fM_kept fM_goalOver fM_goalUnder fM_goalMax fM_different (b_iM_stands) (b_iM_variables) (b_iM_rows) (b_iM_goals) (b_iM_differents) (b_iM_cases) b_fM_ways (b_iM_plainRows) b_fM_plainRow (by first | with_reducible assumption | omega | assumption) s.heap.size) (cwV 0 hts gwsMX11_need_1_0 rfl rfl rfl hd_yX1_needs_RX1 (by decide +kernel)) (fz_pre (va_recv hK hP (ci := 1) (q0 := 9) rfl rfl) hPc hKc hDc) rfl rfl hl.1 rfl (lv_room (Nat.le_of_ble_eq_true rfl)) dX11_need_26 (by decide +kernel)) hS (fun q _ h => hFc q h) hFc (fun r1 u t9_ H locs ht hvm hw9 hB9 hz1 hk1 hS => ?_)
      revert hw9
      refine fz_a2 ?_
      intro b_r1 f1_0
      have p8 := p9
      obtain ⟨hP, hD⟩ := frameG p9 p8 hP hD hk1 hFc (fz_P ht hB9.1) hB9.2
      have hna := f1_0
      refine lv_icmp_lt (tgt := 34) hx hb dX11_need_29 (by decide) (fun c_29 => ?_) (fun c_29 => ?_)
      · have t_29 : p1.toInt < r1.toInt := toI_lt c_29 rfl rfl
        refine lv_iload_n hx hb dX11_need_34 rfl (lv_at hl 2 rfl) ?_
        by_cases s_35_0 : p2 = 0
        · have ts_35_0 : p2.toInt = 0 := toI_eq s_35_0 rfl (by decide)
          refine lv_tableIn (off := 25) (tgt := 60) hx hb dX11_need_35 (by rw [s_35_0]; decide) (by rw [s_35_0]; decide) (by rw [s_35_0]; decide) (by decide) ?_
          refine lv_aload_n hx hb dX11_need_60 rfl (lv_at hl 0 rfl) ?_
          refine va_get (D := (dC, dI)) (ci := 11) (v := .ref (hG 0)) (C := RX11) (T := TX11) (N := 11) hx hb hts iwsMX11_need_1_in11 hown hK hP 0 rfl rfl 7 (by decide) (hts _ hm_m_X11_need_1_0) (fun _ h9 => h9) rfl dX11_need_61 ?_
          refine va_get (D := (dC, dI)) (ci := 3) (v := .ref (aG 0)) (C := RX3) (T := TX3) (N := 17) hx hb hts iwsMX11_need_1_in3 hown hK hP 3 rfl rfl 5 (by decide) (hts (.fieldLink RX11 212 "OptimaWorks$Prover" "kept" "[Z") (by decide +kernel)) (fun _ h9 => h9) rfl dX11_need_64 ?_
          refine lv_iload_n hx hb dX11_need_67 rfl (lv_at hl 1 rfl) ?_
          refine va_zald (cA := kG 0) (n := 28) (f := fG_kept) hx hb hK hP 4 2 rfl rfl (vp_in_iff.mpr ⟨(by omega), (by omega)⟩) dX11_need_68 ?_
          refine lv_topi (fun v2 hv2 => ?_)
          clear hv2
          refine lv_if_eq (tgt := 76) hx hb dX11_need_69 (by decide) (fun c_69 => ?_) (fun c_69 => ?_)
          · have t_69 : v2.toInt = 0 := toI_eq c_69 rfl (by decide : (0 : Int32).toInt = 0)
            refine lv_iconst (v := 0) hx hb dX11_need_76 (by decide) ?_
            refine W.widen (k := 0) (n := 0) (by decide +kernel) (by decide +kernel) ?_
            exact W.iret (v := 0) hx hb hr (fun t9_ ht hW => ⟨⟨(0 : Int32), (), rfl, trivial, by rw [ht]; exact hP, hD⟩, hS.F ht⟩) hS.2.2 dX11_need_77
          · have t_69 : ¬ v2.toInt = 0 := toI_neq c_69 rfl (by decide : (0 : Int32).toInt = 0)
            refine lv_iconst (v := 1) hx hb dX11_need_72 (by decide) ?_
            refine lv_goto (tgt := 77) hx hb dX11_need_73 (by decide) ?_
            refine W.widen (k := 0) (n := 0) (by decide +kernel) (by decide +kernel) ?_
            exact W.iret (v := 1) hx hb hr (fun t9_ ht hW => ⟨⟨(1 : Int32), (), rfl, trivial, by rw [ht]; exact hP, hD⟩, hS.F ht⟩) hS.2.2 dX11_need_77
        · have ts_35_0 : ¬ p2.toInt = 0 := toI_neq s_35_0 rfl (by decide)
          by_cases s_35_1 : p2 = 1
          · have ts_35_1 : p2.toInt = 1 := toI_eq s_35_1 rfl (by decide)
            refine lv_tableIn (off := 43) (tgt := 78) hx hb dX11_need_35 (by rw [s_35_1]; decide) (by rw [s_35_1]; decide) (by rw [s_35_1]; decide) (by decide) ?_
            refine lv_aload_n hx hb dX11_need_78 rfl (lv_at hl 0 rfl) ?_
            refine va_get (D := (dC, dI)) (ci := 11) (v := .ref (hM 0)) (C := RX11) (T := TX11) (N := 11) hx hb hts iwsMX11_need_1_in11 hown hK hP 0 rfl rfl 2 (by decide) (hts _ hm_m_X11_need_1_1) (fun _ h9 => h9) rfl dX11_need_79 ?_
            refine lv_iload_n hx hb dX11_need_82 rfl (lv_at hl 1 rfl) ?_
            have p9 := cj_3_2 (WX hX aX kX hT hM fX_ready fX_sheet dX_sheet nX_sheet iX_sheetLength xX_reader xX_solver (.ref (hG 0)) xX_values xX_clauses xX_nets) (WG hG aG kG hM hO hQ hw iG_made iG_keptNeeds fG_kept fG_need fG_turn iG_columns) (WM hM aM kM iM_stands iM_variables iM_rows iM_goals iM_differents iM_cases fM_from fM_to fM_whole fM_ways iM_plainRows fM_plainRow fM_kept fM_goalOver fM_goalUnder fM_goalMax fM_different)
            have hPc := hP.mem (fun q h => p9.mem_iff.mpr (List.mem_append_left _ h))
            have hDc := (hD.perm p9).left
            have hKc : va_K (dC, dI) vwCl (tM kM) _ := hK.sub [7, 8, 9, 10, 11, 12, 13, 14, 15, 16] rfl
            have hFc := freeG p9 hD hS hA
            refine va_calli (va_runV (As := [.int p1]) (rest := []) ⟨hx, hb, hml, hown, hts⟩ (m_X1_needOf l dC dI hM aM kM iM_stands iM_variables iM_rows iM_goals iM_differents iM_cases fM_from fM_to fM_whole fM_ways iM_plainRows fM_plainRow fM_kept fM_goalOver fM_goalUnder fM_goalMax fM_different p1 (b_iM_stands) (b_iM_variables) (b_iM_rows) (b_iM_goals) (b_iM_differents) (b_iM_cases) b_fM_ways (b_iM_plainRows) b_fM_plainRow (by first | with_reducible assumption | omega | assumption) (by first | exact b_p1 | with_reducible assumption | exact ⟨by omega, by omega⟩ | assumption) (by first | with_reducible assumption | omega | (rw [iI_t (by omega) (by omega)]; omega) | decide | assumption) H.size) (cwV 1 hts gwsMX11_need_1_1 rfl rfl rfl hd_yX1_needOf_RX1 (by decide +kernel)) (fz_pre (va_recv hK hP (ci := 1) (q0 := 9) rfl rfl) hPc hKc hDc) rfl rfl hl.1 rfl (lv_room (Nat.le_of_ble_eq_true rfl)) dX11_need_83 (by decide +kernel)) hS (fun q _ h => hFc q h) hFc (fun r3 u t9_ H locs ht hvm hw9 hB9 hz1 hk1 hS => ?_)
            revert hw9
            refine fz_a2 ?_
            intro b_r3 f3_0
            have p8 := p9
            obtain ⟨hP, hD⟩ := frameG p9 p8 hP hD hk1 hFc (fz_P ht hB9.1) hB9.2
            refine W.widen (k := 0) (n := 0) (by decide +kernel) (by decide +kernel) ?_
            exact W.iret (v := r3) hx hb hr (fun t9_ ht hW => ⟨⟨r3, (), rfl, trivial, by rw [ht]; exact hP, hD⟩, hS.F ht⟩) hS.2.2 dX11_need_86
          · have ts_35_1 : ¬ p2.toInt = 1 := toI_neq s_35_1 rfl (by decide)
            by_cases s_35_2 : p2 = 2
            · have ts_35_2 : p2.toInt = 2 := toI_eq s_35_2 rfl (by decide)
              refine lv_tableIn (off := 52) (tgt := 87) hx hb dX11_need_35 (by rw [s_35_2]; decide) (by rw [s_35_2]; decide) (by rw [s_35_2]; decide) (by decide) ?_
              refine lv_aload_n hx hb dX11_need_87 rfl (lv_at hl 0 rfl) ?_
              refine va_get (D := (dC, dI)) (ci := 11) (v := .ref (hM 0)) (C := RX11) (T := TX11) (N := 11) hx hb hts iwsMX11_need_1_in11 hown hK hP 0 rfl rfl 2 (by decide) (hts _ hm_m_X11_need_1_1) (fun _ h9 => h9) rfl dX11_need_88 ?_
              refine lv_iload_n hx hb dX11_need_91 rfl (lv_at hl 1 rfl) ?_
              have p9 := cj_3_2 (WX hX aX kX hT hM fX_ready fX_sheet dX_sheet nX_sheet iX_sheetLength xX_reader xX_solver (.ref (hG 0)) xX_values xX_clauses xX_nets) (WG hG aG kG hM hO hQ hw iG_made iG_keptNeeds fG_kept fG_need fG_turn iG_columns) (WM hM aM kM iM_stands iM_variables iM_rows iM_goals iM_differents iM_cases fM_from fM_to fM_whole fM_ways iM_plainRows fM_plainRow fM_kept fM_goalOver fM_goalUnder fM_goalMax fM_different)
              have hPc := hP.mem (fun q h => p9.mem_iff.mpr (List.mem_append_left _ h))
              have hDc := (hD.perm p9).left
              have hKc : va_K (dC, dI) vwCl (tM kM) _ := hK.sub [7, 8, 9, 10, 11, 12, 13, 14, 15, 16] rfl
              have hFc := freeG p9 hD hS hA
              refine va_calli (va_runV (As := [.int p1]) (rest := []) ⟨hx, hb, hml, hown, hts⟩ (m_X1_needKind l dC dI hM aM kM iM_stands iM_variables iM_rows iM_goals iM_differents iM_cases fM_from fM_to fM_whole fM_ways iM_plainRows fM_plainRow fM_kept fM_goalOver fM_goalUnder fM_goalMax fM_different p1 (b_iM_stands) (b_iM_variables) (b_iM_rows) (b_iM_goals) (b_iM_differents) (b_iM_cases) b_fM_ways (b_iM_plainRows) b_fM_plainRow (by first | with_reducible assumption | omega | assumption) (by first | exact b_p1 | with_reducible assumption | exact ⟨by omega, by omega⟩ | assumption) (by first | with_reducible assumption | omega | (rw [iI_t (by omega) (by omega)]; omega) | decide | assumption) H.size) (cwV 1 hts gwsMX11_need_1_2 rfl rfl rfl hd_yX1_needKind_RX1 (by decide +kernel)) (fz_pre (va_recv hK hP (ci := 1) (q0 := 9) rfl rfl) hPc hKc hDc) rfl rfl hl.1 rfl (lv_room (Nat.le_of_ble_eq_true rfl)) dX11_need_92 (by decide +kernel)) hS (fun q _ h => hFc q h) hFc (fun r4 u t9_ H locs ht hvm hw9 hB9 hz1 hk1 hS => ?_)
              revert hw9
              refine fz_a2 ?_
              intro b_r4 f4_0
              have p8 := p9
              obtain ⟨hP, hD⟩ := frameG p9 p8 hP hD hk1 hFc (fz_P ht hB9.1) hB9.2
              refine W.widen (k := 0) (n := 0) (by decide +kernel) (by decide +kernel) ?_
              exact W.iret (v := r4) hx hb hr (fun t9_ ht hW => ⟨⟨r4, (), rfl, trivial, by rw [ht]; exact hP, hD⟩, hS.F ht⟩) hS.2.2 dX11_need_95
            · have ts_35_2 : ¬ p2.toInt = 2 := toI_neq s_35_2 rfl (by decide)
              refine lv_tableOut (tgt := 96) hx hb dX11_need_35 (by have := lv_neT s_35_0 (show Int32.toInt 0 = 0 by decide); have := lv_neT s_35_1 (show Int32.toInt 1 = 1 by decide); have := lv_neT s_35_2 (show Int32.toInt 2 = 2 by decide); omega) (by decide) ?_
              refine lv_iconst (v := (-1)) hx hb dX11_need_96 (by decide) ?_
              refine W.widen (k := 0) (n := 0) (by decide +kernel) (by decide +kernel) ?_
              exact W.iret (v := (-1)) hx hb hr (fun t9_ ht hW => ⟨⟨((-1) : Int32), (), rfl, trivial, by rw [ht]; exact hP, hD⟩, hS.F ht⟩) hS.2.2 dX11_need_97
      · have t_29 : ¬ p1.toInt < r1.toInt := toI_nlt c_29 rfl rfl
        refine lv_iconst (v := (-1)) hx hb dX11_need_32 (by decide) ?_
        refine W.widen (k := 0) (n := 0) (by decide +kernel) (by decide +kernel) ?_
        exact W.iret (v := (-1)) hx hb hr (fun t9_ ht hW => ⟨⟨((-1) : Int32), (), rfl, trivial, by rw [ht]; exact hP, hD⟩, hS.F ht⟩) hS.2.2 dX11_need_33
theorem dX11_multiplier_0 : decode cX11_multiplier 0 = .ok (.aload_n 0, 1) := dk_42 (by decide +kernel)
theorem dX11_multiplier_1 : decode cX11_multiplier 1 = .ok (.getfield 57, 3) := dk_180 (by decide +kernel)
theorem dX11_multiplier_4 : decode cX11_multiplier 4 = .ok (.ifnull 13, 3) := dk_198 (by decide +kernel)
theorem dX11_multiplier_7 : decode cX11_multiplier 7 = .ok (.aload_n 0, 1) := dk_42 (by decide +kernel)
theorem dX11_multiplier_8 : decode cX11_multiplier 8 = .ok (.getfield 57, 3) := dk_180 (by decide +kernel)
theorem dX11_multiplier_11 : decode cX11_multiplier 11 = .ok (.getfield 206, 3) := dk_180 (by decide +kernel)
theorem dX11_multiplier_14 : decode cX11_multiplier 14 = .ok (.ifCond .ne 11, 3) := dk_154 (by decide +kernel)
theorem dX11_multiplier_17 : decode cX11_multiplier 17 = .ok (.new 159, 3) := dk_187 (by decide +kernel)
theorem dX11_multiplier_20 : decode cX11_multiplier 20 = .ok (.dup, 1) := dk_89 (by decide +kernel)
theorem dX11_multiplier_21 : decode cX11_multiplier 21 = .ok (.invokespecial 161, 3) := dk_183 (by decide +kernel)
theorem dX11_multiplier_24 : decode cX11_multiplier 24 = .ok (.athrow, 1) := dk_191 (by decide +kernel)
theorem dX11_multiplier_25 : decode cX11_multiplier 25 = .ok (.iload_n 1, 1) := dk_27 (by decide +kernel)
theorem dX11_multiplier_26 : decode cX11_multiplier 26 = .ok (.iconst (-1), 1) := dk_2 (by decide +kernel)
theorem dX11_multiplier_27 : decode cX11_multiplier 27 = .ok (.if_icmp .lt 14, 3) := dk_161 (by decide +kernel)
theorem dX11_multiplier_30 : decode cX11_multiplier 30 = .ok (.iload_n 1, 1) := dk_27 (by decide +kernel)
theorem dX11_multiplier_31 : decode cX11_multiplier 31 = .ok (.aload_n 0, 1) := dk_42 (by decide +kernel)
theorem dX11_multiplier_32 : decode cX11_multiplier 32 = .ok (.getfield 23, 3) := dk_180 (by decide +kernel)
theorem dX11_multiplier_35 : decode cX11_multiplier 35 = .ok (.invokevirtual 209, 3) := dk_182 (by decide +kernel)
theorem dX11_multiplier_38 : decode cX11_multiplier 38 = .ok (.if_icmp .lt 11, 3) := dk_161 (by decide +kernel)
theorem dX11_multiplier_41 : decode cX11_multiplier 41 = .ok (.new 93, 3) := dk_187 (by decide +kernel)
theorem dX11_multiplier_44 : decode cX11_multiplier 44 = .ok (.dup, 1) := dk_89 (by decide +kernel)
theorem dX11_multiplier_45 : decode cX11_multiplier 45 = .ok (.invokespecial 95, 3) := dk_183 (by decide +kernel)
theorem dX11_multiplier_48 : decode cX11_multiplier 48 = .ok (.athrow, 1) := dk_191 (by decide +kernel)
theorem dX11_multiplier_49 : decode cX11_multiplier 49 = .ok (.iload_n 1, 1) := dk_27 (by decide +kernel)
theorem dX11_multiplier_50 : decode cX11_multiplier 50 = .ok (.iconst (-1), 1) := dk_2 (by decide +kernel)
theorem dX11_multiplier_51 : decode cX11_multiplier 51 = .ok (.if_icmp .ne 13, 3) := dk_160 (by decide +kernel)
theorem dX11_multiplier_54 : decode cX11_multiplier 54 = .ok (.aload_n 0, 1) := dk_42 (by decide +kernel)
theorem dX11_multiplier_55 : decode cX11_multiplier 55 = .ok (.getfield 57, 3) := dk_180 (by decide +kernel)
theorem dX11_multiplier_58 : decode cX11_multiplier 58 = .ok (.invokevirtual 221, 3) := dk_182 (by decide +kernel)
theorem dX11_multiplier_61 : decode cX11_multiplier 61 = .ok (.goto 11, 3) := dk_167 (by decide +kernel)
theorem dX11_multiplier_64 : decode cX11_multiplier 64 = .ok (.aload_n 0, 1) := dk_42 (by decide +kernel)
theorem dX11_multiplier_65 : decode cX11_multiplier 65 = .ok (.getfield 57, 3) := dk_180 (by decide +kernel)
theorem dX11_multiplier_68 : decode cX11_multiplier 68 = .ok (.iload_n 1, 1) := dk_27 (by decide +kernel)
theorem dX11_multiplier_69 : decode cX11_multiplier 69 = .ok (.invokevirtual 224, 3) := dk_182 (by decide +kernel)
theorem dX11_multiplier_72 : decode cX11_multiplier 72 = .ok (.aload_n 0, 1) := dk_42 (by decide +kernel)
theorem dX11_multiplier_73 : decode cX11_multiplier 73 = .ok (.invokevirtual 177, 3) := dk_182 (by decide +kernel)
theorem dX11_multiplier_76 : decode cX11_multiplier 76 = .ok (.ireturn, 1) := dk_172 (by decide +kernel)
def wsMX11_multiplier_1 : List Cond := .code yX11_multiplier cX11_multiplier 2 (some .int) :: ([.fieldLink RX11 57 "OptimaWorks" "prover" "LOptimaWorks$Prover;", .fieldLink RX11 206 "OptimaWorks$Prover" "made" "Z", .classLink RX11 93 "java/lang/IndexOutOfBoundsException", .initialized "java/lang/IndexOutOfBoundsException", .fieldLink RX11 23 "OptimaWorks" "model" "LOptimaWorks$Model;", .classLink RX11 159 "java/lang/IllegalStateException", .initialized "java/lang/IllegalStateException"] ++ wsX30 ++ wsX110 ++ ((vx_at0 RX11 95 "java/lang/IndexOutOfBoundsException" ["java/lang/RuntimeException", "java/lang/Exception"]).filter goodWord) ++ (wsV RX11 209 RX1 yX1_needs wsMX1_needs) ++ (wsV RX11 224 RX3 yX3_tellMultiplier wsMX3_tellMultiplier) ++ (wsV RX11 221 RX3 yX3_tellProved wsMX3_tellProved) ++ (wsV RX11 177 RX11 yX11_putTold wsMX11_putTold_1) ++ ((vx_at0 RX11 161 "java/lang/IllegalStateException" ["java/lang/RuntimeException", "java/lang/Exception"]).filter goodWord))
theorem iwsMX11_multiplier_1_in3 : ∀ w ∈ wsX30, w ∈ wsMX11_multiplier_1 := fun _ h => List.mem_cons_of_mem _ (List.mem_append_left _ (List.mem_append_left _ (List.mem_append_left _ (List.mem_append_left _ (List.mem_append_left _ (List.mem_append_left _ (List.mem_append_left _ (List.mem_append_right _ h))))))))
theorem iwsMX11_multiplier_1_in11 : ∀ w ∈ wsX110, w ∈ wsMX11_multiplier_1 := fun _ h => List.mem_cons_of_mem _ (List.mem_append_left _ (List.mem_append_left _ (List.mem_append_left _ (List.mem_append_left _ (List.mem_append_left _ (List.mem_append_left _ (List.mem_append_right _ h)))))))
theorem gwsMX11_multiplier_1_1 : GoodIn wsMX11_multiplier_1 (wsV RX11 209 RX1 yX1_needs wsMX1_needs) := goodIn_sub (fun _ h => List.mem_cons_of_mem _ (List.mem_append_left _ (List.mem_append_left _ (List.mem_append_left _ (List.mem_append_left _ (List.mem_append_right _ h)))))) (gdV (by decide +kernel) gdwsMX1_needs)
theorem gwsMX11_multiplier_1_2 : GoodIn wsMX11_multiplier_1 (wsV RX11 224 RX3 yX3_tellMultiplier wsMX3_tellMultiplier) := goodIn_sub (fun _ h => List.mem_cons_of_mem _ (List.mem_append_left _ (List.mem_append_left _ (List.mem_append_left _ (List.mem_append_right _ h))))) (gdV (by decide +kernel) gdwsMX3_tellMultiplier)
theorem gwsMX11_multiplier_1_3 : GoodIn wsMX11_multiplier_1 (wsV RX11 221 RX3 yX3_tellProved wsMX3_tellProved) := goodIn_sub (fun _ h => List.mem_cons_of_mem _ (List.mem_append_left _ (List.mem_append_left _ (List.mem_append_right _ h)))) (gdV (by decide +kernel) gdwsMX3_tellProved)
theorem gwsMX11_multiplier_1_4 : GoodIn wsMX11_multiplier_1 (wsV RX11 177 RX11 yX11_putTold wsMX11_putTold_1) := goodIn_sub (fun _ h => List.mem_cons_of_mem _ (List.mem_append_left _ (List.mem_append_right _ h))) (gdV (by decide +kernel) gdwsMX11_putTold_1)
theorem gdwsMX11_multiplier_1 : wsMX11_multiplier_1.all goodWord = true := gdC rfl (gdA (gdA (gdA (gdA (gdA (gdA (gdA (gdA (by decide +kernel : ([.fieldLink RX11 57 "OptimaWorks" "prover" "LOptimaWorks$Prover;", .fieldLink RX11 206 "OptimaWorks$Prover" "made" "Z", .classLink RX11 93 "java/lang/IndexOutOfBoundsException", .initialized "java/lang/IndexOutOfBoundsException", .fieldLink RX11 23 "OptimaWorks" "model" "LOptimaWorks$Model;", .classLink RX11 159 "java/lang/IllegalStateException", .initialized "java/lang/IllegalStateException"] : List Cond).all goodWord = true) gdwsX30) gdwsX110) (gdF _)) (gdV (by decide +kernel) gdwsMX1_needs)) (gdV (by decide +kernel) gdwsMX3_tellMultiplier)) (gdV (by decide +kernel) gdwsMX3_tellProved)) (gdV (by decide +kernel) gdwsMX11_putTold_1)) (gdF _))
theorem hm_m_X11_multiplier_1_0 : (.fieldLink RX11 57 "OptimaWorks" "prover" "LOptimaWorks$Prover;" : Cond) ∈ wsMX11_multiplier_1 := by decide +kernel
theorem hm_m_X11_multiplier_1_1 : (.classLink RX11 93 "java/lang/IndexOutOfBoundsException" : Cond) ∈ wsMX11_multiplier_1 := by decide +kernel
theorem hm_m_X11_multiplier_1_2 : (.initialized "java/lang/IndexOutOfBoundsException" : Cond) ∈ wsMX11_multiplier_1 := by decide +kernel
set_option maxHeartbeats 4000000 in
set_option maxRecDepth 100000 in
/-- a multiplier -/
theorem m_X11_multiplier_1 (l : Launch) (hst : l.stackTraces = false) (dC : Nat → ClassId) (dI : Nat → Nat → Nat) (hX : Nat → Nat) (aX : Nat → Nat) (kX : Nat → ClassId) (hT : Nat → Nat) (hM : Nat → Nat) (fX_ready : Nat → Int32) (fX_sheet : Nat → Int32) (dX_sheet : Nat) (nX_sheet : Nat) (iX_sheetLength : Int32) (xX_reader : Value) (xX_values : Value) (xX_clauses : Value) (xX_nets : Value) (hG : Nat → Nat) (aG : Nat → Nat) (kG : Nat → ClassId) (hO : Nat → Nat) (hQ : Nat → Nat) (hw : Nat → Nat) (iG_made : Int32) (iG_keptNeeds : Int32) (fG_kept : Nat → Int32) (fG_need : Nat → Int32) (fG_turn : Nat → Int32) (iG_columns : Int32) (aO : Nat → Nat) (kO : Nat → ClassId) (iO_answered : Int32) (iO_searched : Int32) (iO_searchedRelaxed : Int32) (iO_counted : Int32) (fO_countedCase : Nat → Int32) (gO_goalNumber : Nat → Int64) (gO_goalScale : Nat → Int64) (fO_start : Nat → Int32) (fO_column : Nat → Int32) (fO_chosen : Nat → Int32) (aM : Nat → Nat) (kM : Nat → ClassId) (iM_stands : Int32) (iM_variables : Int32) (iM_rows : Int32) (iM_goals : Int32) (iM_differents : Int32) (iM_cases : Int32) (fM_from : Nat → Int32) (fM_to : Nat → Int32) (fM_whole : Nat → Int32) (fM_ways : Nat → Int32) (iM_plainRows : Int32) (fM_plainRow : Nat → Int32) (fM_kept : Nat → Int32) (fM_goalOver : Nat → Int32) (fM_goalUnder : Nat → Int32) (fM_goalMax : Nat → Int32) (fM_different : Nat → Int32) (aQ : Nat → Nat) (kQ : Nat → ClassId) (fQ_inside : Nat → Int32) (fQ_outside : Nat → Int32) (fQ_shut : Nat → Int32) (iQ_rows : Int32) (iQ_allRows : Int32) (iQ_columns : Int32) (nW : Nat) (lw : Nat → Nat) (kw : ClassId) (wl : Nat → Int32) (wb : Nat → Int32) (wG : Nat → Nat → Int64) (p1 : Int32) (b_fX_sheet : ∀ q : Nat, (-128) ≤ (fX_sheet q).toInt ∧ (fX_sheet q).toInt ≤ 127) (b_nX_sheet : 64 ≤ nX_sheet ∧ nX_sheet ≤ 60000) (b_iX_sheetLength : 0 ≤ iX_sheetLength.toInt ∧ iX_sheetLength.toInt ≤ 30000) (b_shl : iX_sheetLength.toInt ≤ ((nX_sheet : Nat) : Int)) (b_iG_made : 0 ≤ iG_made.toInt ∧ iG_made.toInt ≤ 1) (b_fG_need : ∀ q : Nat, 0 ≤ (fG_need q).toInt ∧ (fG_need q).toInt ≤ 27) (b_iG_columns : 0 ≤ iG_columns.toInt ∧ iG_columns.toInt ≤ 40) (b_iO_answered : 0 ≤ iO_answered.toInt ∧ iO_answered.toInt ≤ 1) (b_iO_searched : 0 ≤ iO_searched.toInt ∧ iO_searched.toInt ≤ 1) (b_iO_searchedRelaxed : 0 ≤ iO_searchedRelaxed.toInt ∧ iO_searchedRelaxed.toInt ≤ 1) (b_iO_counted : (-1) ≤ iO_counted.toInt ∧ iO_counted.toInt ≤ 64) (b_fO_countedCase : ∀ q : Nat, 0 ≤ (fO_countedCase q).toInt ∧ (fO_countedCase q).toInt ≤ 200000) (b_fO_column : ∀ q : Nat, (-1) ≤ (fO_column q).toInt ∧ (fO_column q).toInt ≤ 8) (b_fO_chosen : ∀ q : Nat, 0 ≤ (fO_chosen q).toInt ∧ (fO_chosen q).toInt ≤ 2) (b_iM_stands : 0 ≤ iM_stands.toInt ∧ iM_stands.toInt ≤ 1) (b_iM_variables : 0 ≤ iM_variables.toInt ∧ iM_variables.toInt ≤ 8) (b_iM_rows : 0 ≤ iM_rows.toInt ∧ iM_rows.toInt ≤ 12) (b_iM_goals : 0 ≤ iM_goals.toInt ∧ iM_goals.toInt ≤ 3) (b_iM_differents : 0 ≤ iM_differents.toInt ∧ iM_differents.toInt ≤ 8) (b_iM_cases : 0 ≤ iM_cases.toInt ∧ iM_cases.toInt ≤ 200000) (b_fM_ways : ∀ q : Nat, 0 ≤ (fM_ways q).toInt ∧ (fM_ways q).toInt ≤ 3) (b_iM_plainRows : 0 ≤ iM_plainRows.toInt ∧ iM_plainRows.toInt ≤ 12) (b_fM_plainRow : ∀ q : Nat, 0 ≤ (fM_plainRow q).toInt ∧ (fM_plainRow q).toInt ≤ 11) (b_pr : iM_plainRows.toInt ≤ iM_rows.toInt) (b_iQ_rows : 0 ≤ iQ_rows.toInt ∧ iQ_rows.toInt ≤ 40) (b_iQ_allRows : 0 ≤ iQ_allRows.toInt ∧ iQ_allRows.toInt ≤ 40) (b_iQ_columns : 0 ≤ iQ_columns.toInt ∧ iQ_columns.toInt ≤ 40) (b_tb : TbO iQ_rows iQ_allRows iQ_columns) (b_wl : ∀ q : Nat, 0 ≤ (wl q).toInt ∧ (wl q).toInt ≤ 14) (b_wb : ∀ q : Nat, 0 ≤ (wb q).toInt ∧ (wb q).toInt ≤ 1) (hnW : 474 ≤ nW) (sz : Nat) : vx_Met l yX11_multiplier wsMX11_multiplier_1 ({ frames := 6, cells := 7501, slots := 540000, locals := 113 }) (va_Pc [.ref (hX 0), .int p1] (fun U => U.heap.size = sz ∧ va_P (dC, dI) vwCl (WX hX aX kX hT hM fX_ready fX_sheet dX_sheet nX_sheet iX_sheetLength xX_reader (.ref (hO 0)) (.ref (hG 0)) xX_values xX_clauses xX_nets ++ (WG hG aG kG hM hO hQ hw iG_made iG_keptNeeds fG_kept fG_need fG_turn iG_columns ++ (WO hO aO kO hM hQ hw iO_answered iO_searched iO_searchedRelaxed iO_counted fO_countedCase gO_goalNumber gO_goalScale fO_start fO_column fO_chosen ++ (WM hM aM kM iM_stands iM_variables iM_rows iM_goals iM_differents iM_cases fM_from fM_to fM_whole fM_ways iM_plainRows fM_plainRow fM_kept fM_goalOver fM_goalUnder fM_goalMax fM_different ++ (WQ hQ aQ kQ hw fQ_inside fQ_outside fQ_shut iQ_rows iQ_allRows iQ_columns ++ (WW nW hw lw kw wl wb wG)))))) U.heap ∧ va_K (dC, dI) vwCl (tX kX ++ (tG kG ++ (tO kO ++ (tM kM ++ (tQ kQ ++ (tW kw)))))) U ∧ va_D (fun _ => True) (WX hX aX kX hT hM fX_ready fX_sheet dX_sheet nX_sheet iX_sheetLength xX_reader (.ref (hO 0)) (.ref (hG 0)) xX_values xX_clauses xX_nets ++ (WG hG aG kG hM hO hQ hw iG_made iG_keptNeeds fG_kept fG_need fG_turn iG_columns ++ (WO hO aO kO hM hQ hw iO_answered iO_searched iO_searchedRelaxed iO_counted fO_countedCase gO_goalNumber gO_goalScale fO_start fO_column fO_chosen ++ (WM hM aM kM iM_stands iM_variables iM_rows iM_goals iM_differents iM_cases fM_from fM_to fM_whole fM_ways iM_plainRows fM_plainRow fM_kept fM_goalOver fM_goalUnder fM_goalMax fM_different ++ (WQ hQ aQ kQ hw fQ_inside fQ_outside fQ_shut iQ_rows iQ_allRows iQ_columns ++ (WW nW hw lw kw wl wb wG)))))) ∧ CE (va_A (WX hX aX kX hT hM fX_ready fX_sheet dX_sheet nX_sheet iX_sheetLength xX_reader (.ref (hO 0)) (.ref (hG 0)) xX_values xX_clauses xX_nets ++ (WG hG aG kG hM hO hQ hw iG_made iG_keptNeeds fG_kept fG_need fG_turn iG_columns ++ (WO hO aO kO hM hQ hw iO_answered iO_searched iO_searchedRelaxed iO_counted fO_countedCase gO_goalNumber gO_goalScale fO_start fO_column fO_chosen ++ (WM hM aM kM iM_stands iM_variables iM_rows iM_goals iM_differents iM_cases fM_from fM_to fM_whole fM_ways iM_plainRows fM_plainRow fM_kept fM_goalOver fM_goalUnder fM_goalMax fM_different ++ (WQ hQ aQ kQ hw fQ_inside fQ_outside fQ_shut iQ_rows iQ_allRows iQ_columns ++ (WW nW hw lw kw wl wb wG)))))) sz) U U.heap)) (va_Qi (fun (r : Int32) (u : (Nat → Int32) × (Nat) × (Nat) × (Int32) × (Nat → Int32) × (Nat → Int32) × (Nat → Nat → Int64)) => (∀ q : Nat, (-128) ≤ ((u.1) q).toInt ∧ ((u.1) q).toInt ≤ 127) ∧ (64 ≤ (u.2.2.1) ∧ (u.2.2.1) ≤ 60000) ∧ (0 ≤ (u.2.2.2.1).toInt ∧ (u.2.2.2.1).toInt ≤ 30000) ∧ (∀ q : Nat, 0 ≤ ((u.2.2.2.2.1) q).toInt ∧ ((u.2.2.2.2.1) q).toInt ≤ 14) ∧ (∀ q : Nat, 0 ≤ ((u.2.2.2.2.2.1) q).toInt ∧ ((u.2.2.2.2.2.1) q).toInt ≤ 1) ∧ ((u.2.2.2.1).toInt ≤ (((u.2.2.1) : Nat) : Int)) ∧ (nX_sheet ≤ (u.2.2.1))) (fun (u : (Nat → Int32) × (Nat) × (Nat) × (Int32) × (Nat → Int32) × (Nat → Int32) × (Nat → Nat → Int64)) t => va_P (dC, dI) vwCl (WX hX aX kX hT hM fX_ready (u.1) (u.2.1) (u.2.2.1) (u.2.2.2.1) xX_reader (.ref (hO 0)) (.ref (hG 0)) xX_values xX_clauses xX_nets ++ (WG hG aG kG hM hO hQ hw iG_made iG_keptNeeds fG_kept fG_need fG_turn iG_columns ++ (WO hO aO kO hM hQ hw iO_answered iO_searched iO_searchedRelaxed iO_counted fO_countedCase gO_goalNumber gO_goalScale fO_start fO_column fO_chosen ++ (WM hM aM kM iM_stands iM_variables iM_rows iM_goals iM_differents iM_cases fM_from fM_to fM_whole fM_ways iM_plainRows fM_plainRow fM_kept fM_goalOver fM_goalUnder fM_goalMax fM_different ++ (WQ hQ aQ kQ hw fQ_inside fQ_outside fQ_shut iQ_rows iQ_allRows iQ_columns ++ (WW nW hw lw kw (u.2.2.2.2.1) (u.2.2.2.2.2.1) (u.2.2.2.2.2.2))))))) t.heap ∧ va_D (va_A (WX hX aX kX hT hM fX_ready fX_sheet dX_sheet nX_sheet iX_sheetLength xX_reader (.ref (hO 0)) (.ref (hG 0)) xX_values xX_clauses xX_nets ++ (WG hG aG kG hM hO hQ hw iG_made iG_keptNeeds fG_kept fG_need fG_turn iG_columns ++ (WO hO aO kO hM hQ hw iO_answered iO_searched iO_searchedRelaxed iO_counted fO_countedCase gO_goalNumber gO_goalScale fO_start fO_column fO_chosen ++ (WM hM aM kM iM_stands iM_variables iM_rows iM_goals iM_differents iM_cases fM_from fM_to fM_whole fM_ways iM_plainRows fM_plainRow fM_kept fM_goalOver fM_goalUnder fM_goalMax fM_different ++ (WQ hQ aQ kQ hw fQ_inside fQ_outside fQ_shut iQ_rows iQ_allRows iQ_columns ++ (WW nW hw lw kw wl wb wG)))))) sz) (WX hX aX kX hT hM fX_ready (u.1) (u.2.1) (u.2.2.1) (u.2.2.2.1) xX_reader (.ref (hO 0)) (.ref (hG 0)) xX_values xX_clauses xX_nets ++ (WG hG aG kG hM hO hQ hw iG_made iG_keptNeeds fG_kept fG_need fG_turn iG_columns ++ (WO hO aO kO hM hQ hw iO_answered iO_searched iO_searchedRelaxed iO_counted fO_countedCase gO_goalNumber gO_goalScale fO_start fO_column fO_chosen ++ (WM hM aM kM iM_stands iM_variables iM_rows iM_goals iM_differents iM_cases fM_from fM_to fM_whole fM_ways iM_plainRows fM_plainRow fM_kept fM_goalOver fM_goalUnder fM_goalMax fM_different ++ (WQ hQ aQ kQ hw fQ_inside fQ_outside fQ_shut iQ_rows iQ_allRows iQ_columns ++ (WW nW hw lw kw (u.2.2.2.2.1) (u.2.2.2.2.2.1) (u.2.2.2.2.2.2))))))) ∧ t.heap.size + (nX_sheet / 32) ≤ sz + ((u.2.2.1) / 32) ∧ nS sz t.heap + (2 * nX_sheet) ≤ (2 * (u.2.2.1))) (va_A (WX hX aX kX hT hM fX_ready fX_sheet dX_sheet nX_sheet iX_sheetLength xX_reader (.ref (hO 0)) (.ref (hG 0)) xX_values xX_clauses xX_nets ++ (WG hG aG kG hM hO hQ hw iG_made iG_keptNeeds fG_kept fG_need fG_turn iG_columns ++ (WO hO aO kO hM hQ hw iO_answered iO_searched iO_searchedRelaxed iO_counted fO_countedCase gO_goalNumber gO_goalScale fO_start fO_column fO_chosen ++ (WM hM aM kM iM_stands iM_variables iM_rows iM_goals iM_differents iM_cases fM_from fM_to fM_whole fM_ways iM_plainRows fM_plainRow fM_kept fM_goalOver fM_goalUnder fM_goalMax fM_different ++ (WQ hQ aQ kQ hw fQ_inside fQ_outside fQ_shut iQ_rows iQ_allRows iQ_columns ++ (WW nW hw lw kw wl wb wG)))))) sz)) (vx_X (fun (u : (Nat → Int32) × (Nat) × (Nat) × (Int32) × (Nat → Int32) × (Nat → Int32) × (Nat → Nat → Int64)) => (∀ q : Nat, (-128) ≤ ((u.1) q).toInt ∧ ((u.1) q).toInt ≤ 127) ∧ (64 ≤ (u.2.2.1) ∧ (u.2.2.1) ≤ 60000) ∧ (0 ≤ (u.2.2.2.1).toInt ∧ (u.2.2.2.1).toInt ≤ 30000) ∧ (∀ q : Nat, 0 ≤ ((u.2.2.2.2.1) q).toInt ∧ ((u.2.2.2.2.1) q).toInt ≤ 14) ∧ (∀ q : Nat, 0 ≤ ((u.2.2.2.2.2.1) q).toInt ∧ ((u.2.2.2.2.2.1) q).toInt ≤ 1) ∧ ((u.2.2.2.1).toInt ≤ (((u.2.2.1) : Nat) : Int))) (fun E (u : (Nat → Int32) × (Nat) × (Nat) × (Int32) × (Nat → Int32) × (Nat → Int32) × (Nat → Nat → Int64)) t => (E = "java/lang/IndexOutOfBoundsException" ∨ E = "java/lang/IllegalStateException") ∧ va_P (dC, dI) vwCl (WX hX aX kX hT hM fX_ready (u.1) (u.2.1) (u.2.2.1) (u.2.2.2.1) xX_reader (.ref (hO 0)) (.ref (hG 0)) xX_values xX_clauses xX_nets ++ (WG hG aG kG hM hO hQ hw iG_made iG_keptNeeds fG_kept fG_need fG_turn iG_columns ++ (WO hO aO kO hM hQ hw iO_answered iO_searched iO_searchedRelaxed iO_counted fO_countedCase gO_goalNumber gO_goalScale fO_start fO_column fO_chosen ++ (WM hM aM kM iM_stands iM_variables iM_rows iM_goals iM_differents iM_cases fM_from fM_to fM_whole fM_ways iM_plainRows fM_plainRow fM_kept fM_goalOver fM_goalUnder fM_goalMax fM_different ++ (WQ hQ aQ kQ hw fQ_inside fQ_outside fQ_shut iQ_rows iQ_allRows iQ_columns ++ (WW nW hw lw kw (u.2.2.2.2.1) (u.2.2.2.2.2.1) (u.2.2.2.2.2.2))))))) t.heap ∧ va_D (va_A (WX hX aX kX hT hM fX_ready fX_sheet dX_sheet nX_sheet iX_sheetLength xX_reader (.ref (hO 0)) (.ref (hG 0)) xX_values xX_clauses xX_nets ++ (WG hG aG kG hM hO hQ hw iG_made iG_keptNeeds fG_kept fG_need fG_turn iG_columns ++ (WO hO aO kO hM hQ hw iO_answered iO_searched iO_searchedRelaxed iO_counted fO_countedCase gO_goalNumber gO_goalScale fO_start fO_column fO_chosen ++ (WM hM aM kM iM_stands iM_variables iM_rows iM_goals iM_differents iM_cases fM_from fM_to fM_whole fM_ways iM_plainRows fM_plainRow fM_kept fM_goalOver fM_goalUnder fM_goalMax fM_different ++ (WQ hQ aQ kQ hw fQ_inside fQ_outside fQ_shut iQ_rows iQ_allRows iQ_columns ++ (WW nW hw lw kw wl wb wG)))))) sz) (WX hX aX kX hT hM fX_ready (u.1) (u.2.1) (u.2.2.1) (u.2.2.2.1) xX_reader (.ref (hO 0)) (.ref (hG 0)) xX_values xX_clauses xX_nets ++ (WG hG aG kG hM hO hQ hw iG_made iG_keptNeeds fG_kept fG_need fG_turn iG_columns ++ (WO hO aO kO hM hQ hw iO_answered iO_searched iO_searchedRelaxed iO_counted fO_countedCase gO_goalNumber gO_goalScale fO_start fO_column fO_chosen ++ (WM hM aM kM iM_stands iM_variables iM_rows iM_goals iM_differents iM_cases fM_from fM_to fM_whole fM_ways iM_plainRows fM_plainRow fM_kept fM_goalOver fM_goalUnder fM_goalMax fM_different ++ (WQ hQ aQ kQ hw fQ_inside fQ_outside fQ_shut iQ_rows iQ_allRows iQ_columns ++ (WW nW hw lw kw (u.2.2.2.2.1) (u.2.2.2.2.2.1) (u.2.2.2.2.2.2))))))) ∧ t.heap.size + (nX_sheet / 32) ≤ sz + ((u.2.2.1) / 32) + 1 ∧ nS sz t.heap + (2 * nX_sheet) ≤ (2 * (u.2.2.1)) + 6) (va_A (WX hX aX kX hT hM fX_ready fX_sheet dX_sheet nX_sheet iX_sheetLength xX_reader (.ref (hO 0)) (.ref (hG 0)) xX_values xX_clauses xX_nets ++ (WG hG aG kG hM hO hQ hw iG_made iG_keptNeeds fG_kept fG_need fG_turn iG_columns ++ (WO hO aO kO hM hQ hw iO_answered iO_searched iO_searchedRelaxed iO_counted fO_countedCase gO_goalNumber gO_goalScale fO_start fO_column fO_chosen ++ (WM hM aM kM iM_stands iM_variables iM_rows iM_goals iM_differents iM_cases fM_from fM_to fM_whole fM_ways iM_plainRows fM_plainRow fM_kept fM_goalOver fM_goalUnder fM_goalMax fM_different ++ (WQ hQ aQ kQ hw fQ_inside fQ_outside fQ_shut iQ_rows iQ_allRows iQ_columns ++ (WW nW hw lw kw wl wb wG)))))) sz)) 7501 540000 (va_A (WX hX aX kX hT hM fX_ready fX_sheet dX_sheet nX_sheet iX_sheetLength xX_reader (.ref (hO 0)) (.ref (hG 0)) xX_values xX_clauses xX_nets ++ (WG hG aG kG hM hO hQ hw iG_made iG_keptNeeds fG_kept fG_need fG_turn iG_columns ++ (WO hO aO kO hM hQ hw iO_answered iO_searched iO_searchedRelaxed iO_counted fO_countedCase gO_goalNumber gO_goalScale fO_start fO_column fO_chosen ++ (WM hM aM kM iM_stands iM_variables iM_rows iM_goals iM_differents iM_cases fM_from fM_to fM_whole fM_ways iM_plainRows fM_plainRow fM_kept fM_goalOver fM_goalUnder fM_goalMax fM_different ++ (WQ hQ aQ kQ hw fQ_inside fQ_outside fQ_shut iQ_rows iQ_allRows iQ_columns ++ (WW nW hw lw kw wl wb wG)))))) sz) := by
  refine vx_ofW (cc := cX11_multiplier) (maxL := 2) (ret := (some .int)) (by decide) rfl ?_
  intro p e s m args below meth c s₁ B hml htab hv
  obtain ⟨rfl, hsz, hP, hK, hD0, hE⟩ := hv
  have hx := B.exec
  have hb := B.bytes
  have hr := B.returns
  have hts := atoms_spec (ws := wsMX11_multiplier_1) B.pre
  have hown : s.vm.findClass RX11 = some m.cls := findClass_of_methodNamed B.named
  have hlocks := B.notSynchronized
  subst hsz
  have hD := hD0.self (sz := s.heap.size)
  generalize hAe : va_A (WX hX aX kX hT hM fX_ready fX_sheet dX_sheet nX_sheet iX_sheetLength xX_reader (.ref (hO 0)) (.ref (hG 0)) xX_values xX_clauses xX_nets ++ (WG hG aG kG hM hO hQ hw iG_made iG_keptNeeds fG_kept fG_need fG_turn iG_columns ++ (WO hO aO kO hM hQ hw iO_answered iO_searched iO_searchedRelaxed iO_counted fO_countedCase gO_goalNumber gO_goalScale fO_start fO_column fO_chosen ++ (WM hM aM kM iM_stands iM_variables iM_rows iM_goals iM_differents iM_cases fM_from fM_to fM_whole fM_ways iM_plainRows fM_plainRow fM_kept fM_goalOver fM_goalUnder fM_goalMax fM_different ++ (WQ hQ aQ kQ hw fQ_inside fQ_outside fQ_shut iQ_rows iQ_allRows iQ_columns ++ (WW nW hw lw kw wl wb wG)))))) s.heap.size = A at hD hE ⊢
  have hA : ∀ q : Nat, s.heap.size ≤ q → A q := fun q h => by rw [← hAe]; exact Or.inr h
  have hS : va_S A s.heap s.heap [] := va_S.rf
  have hl := lv_entry ([.ref (hX 0), .int p1]) (n := 2) (Nat.le_of_ble_eq_true rfl)
  rw [lg_entry_eq]
  generalize (lg_sl ([.ref (hX 0), .int p1]) ++ List.replicate (2 - (lg_sl ([.ref (hX 0), .int p1])).length) Slot.unset).toArray = ls at hl ⊢
  have hl : lv_has ls 2 [(0, .ref (hX 0)), (1, .int p1)] := hl
  refine W.widen (k := (nX_sheet / 32 - (nX_sheet / 32))) (n := (2 * nX_sheet - (2 * nX_sheet))) (Nat.zero_le _) (Nat.zero_le _) ?_
  refine lv_aload_n hx hb dX11_multiplier_0 rfl (lv_at hl 0 rfl) ?_
  refine va_get (D := (dC, dI)) (ci := 11) (v := .ref (hG 0)) (C := RX11) (T := TX11) (N := 11) hx hb hts iwsMX11_multiplier_1_in11 hown hK hP 0 rfl rfl 7 (by decide) (hts _ hm_m_X11_multiplier_1_0) (fun _ h9 => h9) rfl dX11_multiplier_1 ?_
  refine lv_ifnull hx hb dX11_multiplier_4 ?_
  refine lv_aload_n hx hb dX11_multiplier_7 rfl (lv_at hl 0 rfl) ?_
  refine va_get (D := (dC, dI)) (ci := 11) (v := .ref (hG 0)) (C := RX11) (T := TX11) (N := 11) hx hb hts iwsMX11_multiplier_1_in11 hown hK hP 0 rfl rfl 7 (by decide) (hts _ hm_m_X11_multiplier_1_0) (fun _ h9 => h9) rfl dX11_multiplier_8 ?_
  refine va_get (D := (dC, dI)) (ci := 3) (v := .int iG_made) (C := RX3) (T := TX3) (N := 17) hx hb hts iwsMX11_multiplier_1_in3 hown hK hP 3 rfl rfl 3 (by decide) (hts (.fieldLink RX11 206 "OptimaWorks$Prover" "made" "Z") (by decide +kernel)) (fun _ h9 => h9) rfl dX11_multiplier_11 ?_
  refine lv_if_ne (tgt := 25) hx hb dX11_multiplier_14 (by decide) (fun c_14 => ?_) (fun c_14 => ?_)
  · have t_14 : iG_made.toInt ≠ 0 := toI_ne c_14 rfl (by decide : (0 : Int32).toInt = 0)
    refine lv_iload_n hx hb dX11_multiplier_25 rfl (lv_at hl 1 rfl) ?_
    refine lv_iconst (v := (-1)) hx hb dX11_multiplier_26 (by decide) ?_
    refine lv_icmp_lt (tgt := 41) hx hb dX11_multiplier_27 (by decide) (fun c_27 => ?_) (fun c_27 => ?_)
    · have t_27 : p1.toInt < (-1) := toI_lt c_27 rfl (by decide : ((-1) : Int32).toInt = (-1))
      refine W.xsz (XC1 := fun E9 st9 t9 => E9 = "java/lang/IndexOutOfBoundsException" ∧ va_P (dC, dI) vwCl (WX hX aX kX hT hM fX_ready fX_sheet dX_sheet nX_sheet iX_sheetLength xX_reader (.ref (hO 0)) (.ref (hG 0)) xX_values xX_clauses xX_nets ++ (WG hG aG kG hM hO hQ hw iG_made iG_keptNeeds fG_kept fG_need fG_turn iG_columns ++ (WO hO aO kO hM hQ hw iO_answered iO_searched iO_searchedRelaxed iO_counted fO_countedCase gO_goalNumber gO_goalScale fO_start fO_column fO_chosen ++ (WM hM aM kM iM_stands iM_variables iM_rows iM_goals iM_differents iM_cases fM_from fM_to fM_whole fM_ways iM_plainRows fM_plainRow fM_kept fM_goalOver fM_goalUnder fM_goalMax fM_different ++ (WQ hQ aQ kQ hw fQ_inside fQ_outside fQ_shut iQ_rows iQ_allRows iQ_columns ++ (WW nW hw lw kw wl wb wG)))))) t9.heap ∧ va_D A (WX hX aX kX hT hM fX_ready fX_sheet dX_sheet nX_sheet iX_sheetLength xX_reader (.ref (hO 0)) (.ref (hG 0)) xX_values xX_clauses xX_nets ++ (WG hG aG kG hM hO hQ hw iG_made iG_keptNeeds fG_kept fG_need fG_turn iG_columns ++ (WO hO aO kO hM hQ hw iO_answered iO_searched iO_searchedRelaxed iO_counted fO_countedCase gO_goalNumber gO_goalScale fO_start fO_column fO_chosen ++ (WM hM aM kM iM_stands iM_variables iM_rows iM_goals iM_differents iM_cases fM_from fM_to fM_whole fM_ways iM_plainRows fM_plainRow fM_kept fM_goalOver fM_goalUnder fM_goalMax fM_different ++ (WQ hQ aQ kQ hw fQ_inside fQ_outside fQ_shut iQ_rows iQ_allRows iQ_columns ++ (WW nW hw lw kw wl wb wG)))))) ∧ va_F A st9 t9) (mc1 := (nX_sheet / 32 - (nX_sheet / 32)) + 1) (ms1 := (2 * nX_sheet - (2 * nX_sheet)) + 6) (by omega) (by omega) (fun E9 t9 h9 hz9 hn9 => ⟨(fX_sheet, dX_sheet, nX_sheet, iX_sheetLength, wl, wb, wG), ⟨b_fX_sheet, (by first | exact b_nX_sheet | with_reducible assumption | exact ⟨by omega, by omega⟩ | assumption), (b_iX_sheetLength), b_wl, b_wb, (by (try dsimp only); exact (by first | with_reducible assumption | omega | (rw [iI_t (by omega) (by omega)]; omega) | (have h7 : (0 : Int32).toInt = 0 := (by decide); omega)))⟩, ⟨(by have h8 := h9.1; exact Or.inl h8), h9.2.1, h9.2.2.1, by (try dsimp only); omega, by (try dsimp only); omega⟩, h9.2.2.2⟩) ?_
      exact vx_throw0 (own := RX11) (cls := "java/lang/IndexOutOfBoundsException") (names := ["java/lang/RuntimeException", "java/lang/Exception"]) (ik := 93) (ic := 95) (A := A) hx hb hst hown (by decide +kernel) (by decide +kernel) (hts _ hm_m_X11_multiplier_1_1) (hts _ hm_m_X11_multiplier_1_2) (vx_hat (B := ngX11_95) (fun w h => hts w (List.mem_cons_of_mem _ (List.mem_append_left _ (List.mem_append_left _ (List.mem_append_left _ (List.mem_append_left _ (List.mem_append_left _ (List.mem_append_right _ h)))))))) (fun _ h => h) (fun w h => va_Nw.use (ngX11_95_ot w h) (hE.2.2.1.2.2.2.1 w h))) (by decide +kernel) hE.2.1.1 hE.2.1.2 hS (by rw [hml]; exact hl.1) dX11_multiplier_41 dX11_multiplier_44 dX11_multiplier_45 dX11_multiplier_48 (fun x hx9 => (htab x hx9).elim) (by decide +kernel) (Nat.le_of_ble_eq_true rfl) (by first | decide +kernel | (dsimp only [headSpec] <;> omega)) (by first | decide +kernel | (dsimp only [headSpec] <;> omega)) hlocks (fun t hvm hz hk => ⟨rfl, hP.kept (fun k q h => hk q.1 ((hP k q h).lt)), hD, ⟨Nat.le_trans hS.1 hz, fun q h1 h2 => (hk q (Nat.lt_of_lt_of_le h1 hS.1)).trans (hS.2.1 q h1 h2)⟩⟩) hS.2.2 (by omega) (by omega)
    · have t_27 : ¬ p1.toInt < (-1) := toI_nlt c_27 rfl (by decide : ((-1) : Int32).toInt = (-1))
      refine lv_iload_n hx hb dX11_multiplier_30 rfl (lv_at hl 1 rfl) ?_
      refine lv_aload_n hx hb dX11_multiplier_31 rfl (lv_at hl 0 rfl) ?_
      refine va_get (D := (dC, dI)) (ci := 11) (v := .ref (hM 0)) (C := RX11) (T := TX11) (N := 11) hx hb hts iwsMX11_multiplier_1_in11 hown hK hP 0 rfl rfl 2 (by decide) (hts (.fieldLink RX11 23 "OptimaWorks" "model" "LOptimaWorks$Model;") (by decide +kernel)) (fun _ h9 => h9) rfl dX11_multiplier_32 ?_
      have p9 := cj_6_3 (WX hX aX kX hT hM fX_ready fX_sheet dX_sheet nX_sheet iX_sheetLength xX_reader (.ref (hO 0)) (.ref (hG 0)) xX_values xX_clauses xX_nets) (WG hG aG kG hM hO hQ hw iG_made iG_keptNeeds fG_kept fG_need fG_turn iG_columns) (WO hO aO kO hM hQ hw iO_answered iO_searched iO_searchedRelaxed iO_counted fO_countedCase gO_goalNumber gO_goalScale fO_start fO_column fO_chosen) (WM hM aM kM iM_stands iM_variables iM_rows iM_goals iM_differents iM_cases fM_from fM_to fM_whole fM_ways iM_plainRows fM_plainRow fM_kept fM_goalOver fM_goalUnder fM_goalMax fM_different) (WQ hQ aQ kQ hw fQ_inside fQ_outside fQ_shut iQ_rows iQ_allRows iQ_columns) (WW nW hw lw kw wl wb wG)
      have hPc := hP.mem (fun q h => p9.mem_iff.mpr (List.mem_append_left _ h))
      have hDc := (hD.perm p9).left
      have hKc : va_K (dC, dI) vwCl (tM kM) _ := hK.sub [17, 18, 19, 20, 21, 22, 23, 24, 25, 26] rfl
      have hFc := freeG p9 hD hS hA
      refine va_calli (va_runV (As := []) (rest := [.int p1]) ⟨hx, hb, hml, hown, hts⟩ (m_X1_needs l dC dI hM aM kM iM_stands iM_variables iM_rows iM_goals iM_differents iM_cases fM_from fM_to fM_whole fM_ways iM_plainRows fM_plainRow fM_kept fM_goalOver fM_goalUnder fM_goalMax fM_different (b_iM_stands) (b_iM_variables) (b_iM_rows) (b_iM_goals) (b_iM_differents) (b_iM_cases) b_fM_ways (b_iM_plainRows) b_fM_plainRow (by first | with_reducible assumption | omega | assumption) s.heap.size) (cwV 0 hts gwsMX11_multiplier_1_1 rfl rfl rfl (by decide +kernel) ⟨by first | decide +kernel | (dsimp only [headSpec] <;> omega), by first | decide +kernel | (dsimp only [headSpec] <;> omega)⟩) (fz_pre (va_recv hK hP (ci := 1) (q0 := 20) rfl rfl) hPc hKc hDc) rfl rfl hl.1 rfl (lv_room (Nat.le_of_ble_eq_true rfl)) dX11_multiplier_35 ⟨by first | decide +kernel | (dsimp only [headSpec] <;> omega), by first | decide +kernel | (dsimp only [headSpec] <;> omega)⟩) hS (fun q _ h => hFc q h) hFc (fun r1 u t9_ H locs ht hvm hw9 hB9 hz1 hk1 hS => ?_)
      revert hw9
      refine fz_a2 ?_
      intro b_r1 f1_0
      have p8 := p9
      obtain ⟨hP, hD⟩ := frameG p9 p8 hP hD hk1 hFc (fz_P ht hB9.1) hB9.2
      have hna := f1_0
      refine lv_icmp_lt (tgt := 49) hx hb dX11_multiplier_38 (by decide) (fun c_38 => ?_) (fun c_38 => ?_)
      · have t_38 : p1.toInt < r1.toInt := toI_lt c_38 rfl rfl
        refine lv_iload_n hx hb dX11_multiplier_49 rfl (lv_at hl 1 rfl) ?_
        refine lv_iconst (v := (-1)) hx hb dX11_multiplier_50 (by decide) ?_
        refine W.known (fun hzk hnk => ?_)
        refine W.widen (k := 1875) (n := 120000) (by omega) (by omega) ?_
        refine W.cut (pc := 72) (fun H locs ls stk => ∃ (wl_j2 : Nat → Int32) (wb_j2 : Nat → Int32) (wG_j2 : Nat → Nat → Int64), (∀ q : Nat, 0 ≤ (wl_j2 q).toInt ∧ (wl_j2 q).toInt ≤ 14) ∧ (∀ q : Nat, 0 ≤ (wb_j2 q).toInt ∧ (wb_j2 q).toInt ≤ 1) ∧ (H.size + (nX_sheet / 32) ≤ s.heap.size + (nX_sheet / 32) ∧ nS s.heap.size H + (2 * nX_sheet) ≤ (2 * nX_sheet)) ∧  stk = [] ∧ va_P (dC, dI) vwCl (WX hX aX kX hT hM fX_ready fX_sheet dX_sheet nX_sheet iX_sheetLength xX_reader (.ref (hO 0)) (.ref (hG 0)) xX_values xX_clauses xX_nets ++ (WG hG aG kG hM hO hQ hw iG_made iG_keptNeeds fG_kept fG_need fG_turn iG_columns ++ (WO hO aO kO hM hQ hw iO_answered iO_searched iO_searchedRelaxed iO_counted fO_countedCase gO_goalNumber gO_goalScale fO_start fO_column fO_chosen ++ (WM hM aM kM iM_stands iM_variables iM_rows iM_goals iM_differents iM_cases fM_from fM_to fM_whole fM_ways iM_plainRows fM_plainRow fM_kept fM_goalOver fM_goalUnder fM_goalMax fM_different ++ (WQ hQ aQ kQ hw fQ_inside fQ_outside fQ_shut iQ_rows iQ_allRows iQ_columns ++ (WW nW hw lw kw wl_j2 wb_j2 wG_j2)))))) H ∧ va_D A (WX hX aX kX hT hM fX_ready fX_sheet dX_sheet nX_sheet iX_sheetLength xX_reader (.ref (hO 0)) (.ref (hG 0)) xX_values xX_clauses xX_nets ++ (WG hG aG kG hM hO hQ hw iG_made iG_keptNeeds fG_kept fG_need fG_turn iG_columns ++ (WO hO aO kO hM hQ hw iO_answered iO_searched iO_searchedRelaxed iO_counted fO_countedCase gO_goalNumber gO_goalScale fO_start fO_column fO_chosen ++ (WM hM aM kM iM_stands iM_variables iM_rows iM_goals iM_differents iM_cases fM_from fM_to fM_whole fM_ways iM_plainRows fM_plainRow fM_kept fM_goalOver fM_goalUnder fM_goalMax fM_different ++ (WQ hQ aQ kQ hw fQ_inside fQ_outside fQ_shut iQ_rows iQ_allRows iQ_columns ++ (WW nW hw lw kw wl_j2 wb_j2 wG_j2)))))) ∧ va_S A s.heap H locs ∧ lv_has ls 2 [(0, .ref (hX 0)), (1, .int p1)]) (fun join2 => ?_) ?_
        · refine W.tight (cells2 := (nX_sheet / 32 - (nX_sheet / 32))) (slots2 := (2 * nX_sheet - (2 * nX_sheet))) hzk hnk ?_
          refine lv_icmp_ne (tgt := 64) hx hb dX11_multiplier_51 (by decide) (fun c_51 => ?_) (fun c_51 => ?_)
          · have t_51 : p1.toInt ≠ (-1) := toI_ne c_51 rfl (by decide : ((-1) : Int32).toInt = (-1))
            refine lv_aload_n hx hb dX11_multiplier_64 rfl (lv_at hl 0 rfl) ?_
            refine va_get (D := (dC, dI)) (ci := 11) (v := .ref (hG 0)) (C := RX11) (T := TX11) (N := 11) hx hb hts iwsMX11_multiplier_1_in11 hown hK hP 0 rfl rfl 7 (by decide) (hts _ hm_m_X11_multiplier_1_0) (fun _ h9 => h9) rfl dX11_multiplier_65 ?_
            refine lv_iload_n hx hb dX11_multiplier_68 rfl (lv_at hl 1 rfl) ?_
            have p9 := cj_6_1_2_3_4_5 (WX hX aX kX hT hM fX_ready fX_sheet dX_sheet nX_sheet iX_sheetLength xX_reader (.ref (hO 0)) (.ref (hG 0)) xX_values xX_clauses xX_nets) (WG hG aG kG hM hO hQ hw iG_made iG_keptNeeds fG_kept fG_need fG_turn iG_columns) (WO hO aO kO hM hQ hw iO_answered iO_searched iO_searchedRelaxed iO_counted fO_countedCase gO_goalNumber gO_goalScale fO_start fO_column fO_chosen) (WM hM aM kM iM_stands iM_variables iM_rows iM_goals iM_differents iM_cases fM_from fM_to fM_whole fM_ways iM_plainRows fM_plainRow fM_kept fM_goalOver fM_goalUnder fM_goalMax fM_different) (WQ hQ aQ kQ hw fQ_inside fQ_outside fQ_shut iQ_rows iQ_allRows iQ_columns) (WW nW hw lw kw wl wb wG)
            have hPc := hP.mem (fun q h => p9.mem_iff.mpr (List.mem_append_left _ h))
            have hDc := (hD.perm p9).left
            have hKc : va_K (dC, dI) vwCl (tG kG ++ (tO kO ++ (tM kM ++ (tQ kQ ++ (tW kw))))) _ := hK.sub [2, 3, 4, 5, 6, 7, 8, 9, 10, 11, 12, 13, 14, 15, 16, 17, 18, 19, 20, 21, 22, 23, 24, 25, 26, 27, 28, 29, 30, 31] rfl
            have hFc := freeG p9 hD hS hA
            refine va_callv (va_runV (As := [.int p1]) (rest := []) ⟨hx, hb, hml, hown, hts⟩ (m_X3_tellMultiplier l dC dI hG aG kG hM hO hQ hw iG_made iG_keptNeeds fG_kept fG_need fG_turn iG_columns aO kO iO_answered iO_searched iO_searchedRelaxed iO_counted fO_countedCase gO_goalNumber gO_goalScale fO_start fO_column fO_chosen aM kM iM_stands iM_variables iM_rows iM_goals iM_differents iM_cases fM_from fM_to fM_whole fM_ways iM_plainRows fM_plainRow fM_kept fM_goalOver fM_goalUnder fM_goalMax fM_different aQ kQ fQ_inside fQ_outside fQ_shut iQ_rows iQ_allRows iQ_columns nW lw kw wl wb wG p1 (b_iG_made) b_fG_need (b_iG_columns) (b_iO_answered) (b_iO_searched) (b_iO_searchedRelaxed) (b_iO_counted) b_fO_countedCase b_fO_column b_fO_chosen (b_iM_stands) (b_iM_variables) (b_iM_rows) (b_iM_goals) (b_iM_differents) (b_iM_cases) b_fM_ways (b_iM_plainRows) b_fM_plainRow (by first | with_reducible assumption | omega | assumption) (b_iQ_rows) (b_iQ_allRows) (b_iQ_columns) (by first | with_reducible assumption | omega | assumption) b_wl b_wb (by first | exact b_p1 | with_reducible assumption | exact ⟨by omega, by omega⟩ | assumption) (by first | with_reducible assumption | omega | (rw [iI_t (by omega) (by omega)]; omega) | decide | assumption) H.size) (cwV 1 hts gwsMX11_multiplier_1_2 rfl rfl rfl (by decide +kernel) ⟨by first | decide +kernel | (dsimp only [headSpec] <;> omega), by first | decide +kernel | (dsimp only [headSpec] <;> omega)⟩) (fz_pre (va_recv hK hP (ci := 3) (q0 := 3) rfl rfl) hPc hKc hDc) rfl rfl hl.1 rfl (lv_room (Nat.le_of_ble_eq_true rfl)) dX11_multiplier_69 ⟨by first | decide +kernel | (dsimp only [headSpec] <;> omega), by first | decide +kernel | (dsimp only [headSpec] <;> omega)⟩) hS (fun q _ h => hFc q h) hFc (fun u t9_ H locs ht hvm hw9 hB9 hz1 hk1 hS => ?_)
            revert u hw9 hB9
            refine fz_p3 ?_
            intro wl_4 wb_4 wG_4 hw9 hB9
            try dsimp only at hw9 hB9
            revert hw9
            refine fz_a2 ?_
            intro b_wl_4 b_wb_4
            have p8 := cj_6_1_2_3_4_5 (WX hX aX kX hT hM fX_ready fX_sheet dX_sheet nX_sheet iX_sheetLength xX_reader (.ref (hO 0)) (.ref (hG 0)) xX_values xX_clauses xX_nets) (WG hG aG kG hM hO hQ hw iG_made iG_keptNeeds fG_kept fG_need fG_turn iG_columns) (WO hO aO kO hM hQ hw iO_answered iO_searched iO_searchedRelaxed iO_counted fO_countedCase gO_goalNumber gO_goalScale fO_start fO_column fO_chosen) (WM hM aM kM iM_stands iM_variables iM_rows iM_goals iM_differents iM_cases fM_from fM_to fM_whole fM_ways iM_plainRows fM_plainRow fM_kept fM_goalOver fM_goalUnder fM_goalMax fM_different) (WQ hQ aQ kQ hw fQ_inside fQ_outside fQ_shut iQ_rows iQ_allRows iQ_columns) (WW nW hw lw kw wl_4 wb_4 wG_4)
            obtain ⟨hP, hD⟩ := frameG p9 p8 hP hD hk1 hFc (fz_P ht hB9.1) hB9.2
            have hl : lv_has _ _ ([(0, .ref (hX 0)), (1, .int p1)]) := lv_sub hl [0, 1] rfl
            refine W.known (fun hza hna => ?_)
            refine W.widen (k := 1875) (n := 120000) (by omega) (by omega) ?_
            exact join2 _ _ _ _ ⟨wl_4, wb_4, wG_4, b_wl_4, b_wb_4, ⟨by omega, by omega⟩, rfl, hP, hD, hS, hl⟩
          · have t_51 : p1.toInt = (-1) := toI_nne c_51 rfl (by decide : ((-1) : Int32).toInt = (-1))
            refine lv_aload_n hx hb dX11_multiplier_54 rfl (lv_at hl 0 rfl) ?_
            refine va_get (D := (dC, dI)) (ci := 11) (v := .ref (hG 0)) (C := RX11) (T := TX11) (N := 11) hx hb hts iwsMX11_multiplier_1_in11 hown hK hP 0 rfl rfl 7 (by decide) (hts _ hm_m_X11_multiplier_1_0) (fun _ h9 => h9) rfl dX11_multiplier_55 ?_
            have p9 := cj_6_1_2_3_4_5 (WX hX aX kX hT hM fX_ready fX_sheet dX_sheet nX_sheet iX_sheetLength xX_reader (.ref (hO 0)) (.ref (hG 0)) xX_values xX_clauses xX_nets) (WG hG aG kG hM hO hQ hw iG_made iG_keptNeeds fG_kept fG_need fG_turn iG_columns) (WO hO aO kO hM hQ hw iO_answered iO_searched iO_searchedRelaxed iO_counted fO_countedCase gO_goalNumber gO_goalScale fO_start fO_column fO_chosen) (WM hM aM kM iM_stands iM_variables iM_rows iM_goals iM_differents iM_cases fM_from fM_to fM_whole fM_ways iM_plainRows fM_plainRow fM_kept fM_goalOver fM_goalUnder fM_goalMax fM_different) (WQ hQ aQ kQ hw fQ_inside fQ_outside fQ_shut iQ_rows iQ_allRows iQ_columns) (WW nW hw lw kw wl wb wG)
            have hPc := hP.mem (fun q h => p9.mem_iff.mpr (List.mem_append_left _ h))
            have hDc := (hD.perm p9).left
            have hKc : va_K (dC, dI) vwCl (tG kG ++ (tO kO ++ (tM kM ++ (tQ kQ ++ (tW kw))))) _ := hK.sub [2, 3, 4, 5, 6, 7, 8, 9, 10, 11, 12, 13, 14, 15, 16, 17, 18, 19, 20, 21, 22, 23, 24, 25, 26, 27, 28, 29, 30, 31] rfl
            have hFc := freeG p9 hD hS hA
            refine va_callv (va_runV (As := []) (rest := []) ⟨hx, hb, hml, hown, hts⟩ (m_X3_tellProved l dC dI hG aG kG hM hO hQ hw iG_made iG_keptNeeds fG_kept fG_need fG_turn iG_columns aO kO iO_answered iO_searched iO_searchedRelaxed iO_counted fO_countedCase gO_goalNumber gO_goalScale fO_start fO_column fO_chosen aM kM iM_stands iM_variables iM_rows iM_goals iM_differents iM_cases fM_from fM_to fM_whole fM_ways iM_plainRows fM_plainRow fM_kept fM_goalOver fM_goalUnder fM_goalMax fM_different aQ kQ fQ_inside fQ_outside fQ_shut iQ_rows iQ_allRows iQ_columns nW lw kw wl wb wG (b_iG_made) b_fG_need (b_iG_columns) (b_iO_answered) (b_iO_searched) (b_iO_searchedRelaxed) (b_iO_counted) b_fO_countedCase b_fO_column b_fO_chosen (b_iM_stands) (b_iM_variables) (b_iM_rows) (b_iM_goals) (b_iM_differents) (b_iM_cases) b_fM_ways (b_iM_plainRows) b_fM_plainRow (by first | with_reducible assumption | omega | assumption) (b_iQ_rows) (b_iQ_allRows) (b_iQ_columns) (by first | with_reducible assumption | omega | assumption) b_wl b_wb (by first | with_reducible assumption | omega | (rw [iI_t (by omega) (by omega)]; omega) | decide | assumption) H.size) (cwV 0 hts gwsMX11_multiplier_1_3 rfl rfl rfl (by decide +kernel) ⟨by first | decide +kernel | (dsimp only [headSpec] <;> omega), by first | decide +kernel | (dsimp only [headSpec] <;> omega)⟩) (fz_pre (va_recv hK hP (ci := 3) (q0 := 3) rfl rfl) hPc hKc hDc) rfl rfl hl.1 rfl (lv_room (Nat.le_of_ble_eq_true rfl)) dX11_multiplier_58 ⟨by first | decide +kernel | (dsimp only [headSpec] <;> omega), by first | decide +kernel | (dsimp only [headSpec] <;> omega)⟩) hS (fun q _ h => hFc q h) hFc (fun u t9_ H locs ht hvm hw9 hB9 hz1 hk1 hS => ?_)
            revert u hw9 hB9
            refine fz_p3 ?_
            intro wl_5 wb_5 wG_5 hw9 hB9
            try dsimp only at hw9 hB9
            revert hw9
            refine fz_a2 ?_
            intro b_wl_5 b_wb_5
            have p8 := cj_6_1_2_3_4_5 (WX hX aX kX hT hM fX_ready fX_sheet dX_sheet nX_sheet iX_sheetLength xX_reader (.ref (hO 0)) (.ref (hG 0)) xX_values xX_clauses xX_nets) (WG hG aG kG hM hO hQ hw iG_made iG_keptNeeds fG_kept fG_need fG_turn iG_columns) (WO hO aO kO hM hQ hw iO_answered iO_searched iO_searchedRelaxed iO_counted fO_countedCase gO_goalNumber gO_goalScale fO_start fO_column fO_chosen) (WM hM aM kM iM_stands iM_variables iM_rows iM_goals iM_differents iM_cases fM_from fM_to fM_whole fM_ways iM_plainRows fM_plainRow fM_kept fM_goalOver fM_goalUnder fM_goalMax fM_different) (WQ hQ aQ kQ hw fQ_inside fQ_outside fQ_shut iQ_rows iQ_allRows iQ_columns) (WW nW hw lw kw wl_5 wb_5 wG_5)
            obtain ⟨hP, hD⟩ := frameG p9 p8 hP hD hk1 hFc (fz_P ht hB9.1) hB9.2
            refine lv_goto (tgt := 72) hx hb dX11_multiplier_61 (by decide) ?_
            have hl : lv_has _ _ ([(0, .ref (hX 0)), (1, .int p1)]) := lv_sub hl [0, 1] rfl
            refine W.known (fun hza hna => ?_)
            refine W.widen (k := 1875) (n := 120000) (by omega) (by omega) ?_
            exact join2 _ _ _ _ ⟨wl_5, wb_5, wG_5, b_wl_5, b_wb_5, ⟨by omega, by omega⟩, rfl, hP, hD, hS, hl⟩
        · rintro H locs ls stk ⟨wl_j2, wb_j2, wG_j2, b_wl_j2, b_wb_j2, ⟨hzj, hnj⟩, rfl, hP, hD, hS, hl⟩
          refine W.tight (cells2 := (nX_sheet / 32 - (nX_sheet / 32))) (slots2 := (2 * nX_sheet - (2 * nX_sheet))) (tg1 hzj hS.1) (tg2 hnj) ?_
          refine lv_aload_n hx hb dX11_multiplier_72 rfl (lv_at hl 0 rfl) ?_
          refine W.known (fun hz0 hn0 => ?_)
          have hS0 := hS.1
          have p9 := cj_6_0_2_3_4_5 (WX hX aX kX hT hM fX_ready fX_sheet dX_sheet nX_sheet iX_sheetLength xX_reader (.ref (hO 0)) (.ref (hG 0)) xX_values xX_clauses xX_nets) (WG hG aG kG hM hO hQ hw iG_made iG_keptNeeds fG_kept fG_need fG_turn iG_columns) (WO hO aO kO hM hQ hw iO_answered iO_searched iO_searchedRelaxed iO_counted fO_countedCase gO_goalNumber gO_goalScale fO_start fO_column fO_chosen) (WM hM aM kM iM_stands iM_variables iM_rows iM_goals iM_differents iM_cases fM_from fM_to fM_whole fM_ways iM_plainRows fM_plainRow fM_kept fM_goalOver fM_goalUnder fM_goalMax fM_different) (WQ hQ aQ kQ hw fQ_inside fQ_outside fQ_shut iQ_rows iQ_allRows iQ_columns) (WW nW hw lw kw wl_j2 wb_j2 wG_j2)
          have hPc := hP.mem (fun q h => p9.mem_iff.mpr (List.mem_append_left _ h))
          have hDc := (hD.perm p9).left
          have hKc : va_K (dC, dI) vwCl (tX kX ++ (tO kO ++ (tM kM ++ (tQ kQ ++ (tW kw))))) _ := hK.sub [0, 1, 7, 8, 9, 10, 11, 12, 13, 14, 15, 16, 17, 18, 19, 20, 21, 22, 23, 24, 25, 26, 27, 28, 29, 30, 31] rfl
          have hFc := freeG p9 hD hS hA
          refine va_calli (va_runV (As := []) (rest := []) ⟨hx, hb, hml, hown, hts⟩ (Met.sI (m_X11_putTold_1 l dC dI hX aX kX hT hM fX_ready fX_sheet dX_sheet nX_sheet iX_sheetLength xX_reader (.ref (hG 0)) xX_values xX_clauses xX_nets hO aO kO hQ hw iO_answered iO_searched iO_searchedRelaxed iO_counted fO_countedCase gO_goalNumber gO_goalScale fO_start fO_column fO_chosen aM kM iM_stands iM_variables iM_rows iM_goals iM_differents iM_cases fM_from fM_to fM_whole fM_ways iM_plainRows fM_plainRow fM_kept fM_goalOver fM_goalUnder fM_goalMax fM_different aQ kQ fQ_inside fQ_outside fQ_shut iQ_rows iQ_allRows iQ_columns nW lw kw wl_j2 wb_j2 wG_j2 b_fX_sheet (by first | exact b_nX_sheet | with_reducible assumption | exact ⟨by omega, by omega⟩ | assumption) (b_iX_sheetLength) (by first | with_reducible assumption | omega | (rw [iI_t (by omega) (by omega)]; omega) | (have h7 : (0 : Int32).toInt = 0 := (by decide); omega)) (b_iO_answered) (b_iO_searched) (b_iO_searchedRelaxed) (b_iO_counted) b_fO_countedCase b_fO_column b_fO_chosen (b_iM_stands) (b_iM_variables) (b_iM_rows) (b_iM_goals) (b_iM_differents) (b_iM_cases) b_fM_ways (b_iM_plainRows) b_fM_plainRow (by first | with_reducible assumption | omega | assumption) (b_iQ_rows) (b_iQ_allRows) (b_iQ_columns) (by first | with_reducible assumption | omega | assumption) b_wl_j2 b_wb_j2 (by first | with_reducible assumption | omega | (rw [iI_t (by omega) (by omega)]; omega) | decide | assumption) H.size) H) (cwV 0 hts gwsMX11_multiplier_1_4 rfl rfl rfl (by decide +kernel) ⟨by first | decide +kernel | (dsimp only [headSpec] <;> omega), by first | decide +kernel | (dsimp only [headSpec] <;> omega)⟩) ⟨fun a U g mk q => by obtain ⟨q0, qh, q1, qP, qK, qD⟩ := q; exact ⟨q0, qh, q1, qP, va_K.moved (u := U) (U := U.calling g mk a) (Vm.Alike.refl U.vm) qK, qD⟩, va_recv hK hP (ci := 11) (q0 := 0) rfl rfl, fun U hU9 hW => ⟨rfl, hU9, by rw [hU9], by rw [hU9]; exact hPc, va_K.moved hW.alike hKc, hDc.weaken (fun _ _ _ _ => trivial)⟩⟩ rfl rfl hl.1 rfl (lv_room (Nat.le_of_ble_eq_true rfl)) dX11_multiplier_73 ⟨by first | decide +kernel | (dsimp only [headSpec] <;> omega), by first | decide +kernel | (dsimp only [headSpec] <;> omega)⟩) hS (fun q _ h => hFc q h) hFc (fun r6 u t9_ H locs ht hvm hw9 hB9 hz1 hk1 hS => ?_)
          revert u hw9 hB9
          refine fz_p7 ?_
          intro fX_sheet_6 dX_sheet_6 nX_sheet_6 iX_sheetLength_6 wl_6 wb_6 wG_6 hw9 hB9
          try dsimp only at hw9 hB9
          revert hw9
          refine fz_a7 ?_
          intro b_fX_sheet_6 b_nX_sheet_6 b_iX_sheetLength_6 b_wl_6 b_wb_6 b_shl_6 f6_0
          have hg1 := hB9.1.2.2.1
          rw [ht] at hg1
          have hg2 := hB9.1.2.2.2
          rw [ht] at hg2
          have hSz := hB9.2
          rw [ht] at hSz
          have p8 := cj_6_0_2_3_4_5 (WX hX aX kX hT hM fX_ready fX_sheet_6 dX_sheet_6 nX_sheet_6 iX_sheetLength_6 xX_reader (.ref (hO 0)) (.ref (hG 0)) xX_values xX_clauses xX_nets) (WG hG aG kG hM hO hQ hw iG_made iG_keptNeeds fG_kept fG_need fG_turn iG_columns) (WO hO aO kO hM hQ hw iO_answered iO_searched iO_searchedRelaxed iO_counted fO_countedCase gO_goalNumber gO_goalScale fO_start fO_column fO_chosen) (WM hM aM kM iM_stands iM_variables iM_rows iM_goals iM_differents iM_cases fM_from fM_to fM_whole fM_ways iM_plainRows fM_plainRow fM_kept fM_goalOver fM_goalUnder fM_goalMax fM_different) (WQ hQ aQ kQ hw fQ_inside fQ_outside fQ_shut iQ_rows iQ_allRows iQ_columns) (WW nW hw lw kw wl_6 wb_6 wG_6)
          obtain ⟨hP, hD⟩ := frameG p9 p8 hP hD hk1 hFc (fz_P ht hB9.1.1) hB9.1.2.1
          have hz9 : H.size ≤ s.heap.size + (nX_sheet_6 / 32 - (nX_sheet / 32)) := by (try dsimp only at hg1); omega
          have hn9 : nS s.heap.size H ≤ (2 * nX_sheet_6 - (2 * nX_sheet)) := by rw [hSz.n hS0]; (try dsimp only at hg2); omega
          refine W.tight (cells2 := (nX_sheet_6 / 32 - (nX_sheet / 32))) (slots2 := (2 * nX_sheet_6 - (2 * nX_sheet))) hz9 hn9 ?_
          clear hz9 hn9 hz0 hn0 hS0 hSz hg1 hg2
          refine vx_ret ?_
          refine W.known (fun hz9 hn9 => ?_)
          refine W.widen (k := 7501) (n := 540000) (by omega) (by omega) ?_
          exact W.iret (v := r6) hx hb hr (fun t9_ ht hW => ⟨⟨r6, (fX_sheet_6, dX_sheet_6, nX_sheet_6, iX_sheetLength_6, wl_6, wb_6, wG_6), rfl, ⟨b_fX_sheet_6, (by (try dsimp only); exact (by first | exact b_nX_sheet_6 | with_reducible assumption | exact ⟨by omega, by omega⟩ | assumption)), b_iX_sheetLength_6, b_wl_6, b_wb_6, (by (try dsimp only); exact (by first | with_reducible assumption | omega | (rw [iI_t (by omega) (by omega)]; omega) | (have h7 : (0 : Int32).toInt = 0 := (by decide); omega))), (by (try dsimp only); omega)⟩, by rw [ht]; exact hP, hD, by rw [ht]; (try dsimp only); omega, by rw [ht]; (try dsimp only); omega⟩, hS.F ht⟩) hS.2.2 dX11_multiplier_76
      · have t_38 : ¬ p1.toInt < r1.toInt := toI_nlt c_38 rfl rfl
        refine W.xsz (XC1 := fun E9 st9 t9 => E9 = "java/lang/IndexOutOfBoundsException" ∧ va_P (dC, dI) vwCl (WX hX aX kX hT hM fX_ready fX_sheet dX_sheet nX_sheet iX_sheetLength xX_reader (.ref (hO 0)) (.ref (hG 0)) xX_values xX_clauses xX_nets ++ (WG hG aG kG hM hO hQ hw iG_made iG_keptNeeds fG_kept fG_need fG_turn iG_columns ++ (WO hO aO kO hM hQ hw iO_answered iO_searched iO_searchedRelaxed iO_counted fO_countedCase gO_goalNumber gO_goalScale fO_start fO_column fO_chosen ++ (WM hM aM kM iM_stands iM_variables iM_rows iM_goals iM_differents iM_cases fM_from fM_to fM_whole fM_ways iM_plainRows fM_plainRow fM_kept fM_goalOver fM_goalUnder fM_goalMax fM_different ++ (WQ hQ aQ kQ hw fQ_inside fQ_outside fQ_shut iQ_rows iQ_allRows iQ_columns ++ (WW nW hw lw kw wl wb wG)))))) t9.heap ∧ va_D A (WX hX aX kX hT hM fX_ready fX_sheet dX_sheet nX_sheet iX_sheetLength xX_reader (.ref (hO 0)) (.ref (hG 0)) xX_values xX_clauses xX_nets ++ (WG hG aG kG hM hO hQ hw iG_made iG_keptNeeds fG_kept fG_need fG_turn iG_columns ++ (WO hO aO kO hM hQ hw iO_answered iO_searched iO_searchedRelaxed iO_counted fO_countedCase gO_goalNumber gO_goalScale fO_start fO_column fO_chosen ++ (WM hM aM kM iM_stands iM_variables iM_rows iM_goals iM_differents iM_cases fM_from fM_to fM_whole fM_ways iM_plainRows fM_plainRow fM_kept fM_goalOver fM_goalUnder fM_goalMax fM_different ++ (WQ hQ aQ kQ hw fQ_inside fQ_outside fQ_shut iQ_rows iQ_allRows iQ_columns ++ (WW nW hw lw kw wl wb wG)))))) ∧ va_F A st9 t9) (mc1 := (nX_sheet / 32 - (nX_sheet / 32)) + 1) (ms1 := (2 * nX_sheet - (2 * nX_sheet)) + 6) (by omega) (by omega) (fun E9 t9 h9 hz9 hn9 => ⟨(fX_sheet, dX_sheet, nX_sheet, iX_sheetLength, wl, wb, wG), ⟨b_fX_sheet, (by first | exact b_nX_sheet | with_reducible assumption | exact ⟨by omega, by omega⟩ | assumption), (b_iX_sheetLength), b_wl, b_wb, (by (try dsimp only); exact (by first | with_reducible assumption | omega | (rw [iI_t (by omega) (by omega)]; omega) | (have h7 : (0 : Int32).toInt = 0 := (by decide); omega)))⟩, ⟨(by have h8 := h9.1; exact Or.inl h8), h9.2.1, h9.2.2.1, by (try dsimp only); omega, by (try dsimp only); omega⟩, h9.2.2.2⟩) ?_
        exact vx_throw0 (own := RX11) (cls := "java/lang/IndexOutOfBoundsException") (names := ["java/lang/RuntimeException", "java/lang/Exception"]) (ik := 93) (ic := 95) (A := A) hx hb hst hown (by decide +kernel) (by decide +kernel) (hts _ hm_m_X11_multiplier_1_1) (hts _ hm_m_X11_multiplier_1_2) (vx_hat (B := ngX11_95) (fun w h => hts w (List.mem_cons_of_mem _ (List.mem_append_left _ (List.mem_append_left _ (List.mem_append_left _ (List.mem_append_left _ (List.mem_append_left _ (List.mem_append_right _ h)))))))) (fun _ h => h) (fun w h => va_Nw.use (ngX11_95_ot w h) (hE.2.2.1.2.2.2.1 w h))) (by decide +kernel) hE.2.1.1 hE.2.1.2 hS (by rw [hml]; exact hl.1) dX11_multiplier_41 dX11_multiplier_44 dX11_multiplier_45 dX11_multiplier_48 (fun x hx9 => (htab x hx9).elim) (by decide +kernel) (Nat.le_of_ble_eq_true rfl) (by first | decide +kernel | (dsimp only [headSpec] <;> omega)) (by first | decide +kernel | (dsimp only [headSpec] <;> omega)) hlocks (fun t hvm hz hk => ⟨rfl, hP.kept (fun k q h => hk q.1 ((hP k q h).lt)), hD, ⟨Nat.le_trans hS.1 hz, fun q h1 h2 => (hk q (Nat.lt_of_lt_of_le h1 hS.1)).trans (hS.2.1 q h1 h2)⟩⟩) hS.2.2 (by omega) (by omega)
  · have t_14 : iG_made.toInt = 0 := toI_nne c_14 rfl (by decide : (0 : Int32).toInt = 0)
    refine W.xsz (XC1 := fun E9 st9 t9 => E9 = "java/lang/IllegalStateException" ∧ va_P (dC, dI) vwCl (WX hX aX kX hT hM fX_ready fX_sheet dX_sheet nX_sheet iX_sheetLength xX_reader (.ref (hO 0)) (.ref (hG 0)) xX_values xX_clauses xX_nets ++ (WG hG aG kG hM hO hQ hw iG_made iG_keptNeeds fG_kept fG_need fG_turn iG_columns ++ (WO hO aO kO hM hQ hw iO_answered iO_searched iO_searchedRelaxed iO_counted fO_countedCase gO_goalNumber gO_goalScale fO_start fO_column fO_chosen ++ (WM hM aM kM iM_stands iM_variables iM_rows iM_goals iM_differents iM_cases fM_from fM_to fM_whole fM_ways iM_plainRows fM_plainRow fM_kept fM_goalOver fM_goalUnder fM_goalMax fM_different ++ (WQ hQ aQ kQ hw fQ_inside fQ_outside fQ_shut iQ_rows iQ_allRows iQ_columns ++ (WW nW hw lw kw wl wb wG)))))) t9.heap ∧ va_D A (WX hX aX kX hT hM fX_ready fX_sheet dX_sheet nX_sheet iX_sheetLength xX_reader (.ref (hO 0)) (.ref (hG 0)) xX_values xX_clauses xX_nets ++ (WG hG aG kG hM hO hQ hw iG_made iG_keptNeeds fG_kept fG_need fG_turn iG_columns ++ (WO hO aO kO hM hQ hw iO_answered iO_searched iO_searchedRelaxed iO_counted fO_countedCase gO_goalNumber gO_goalScale fO_start fO_column fO_chosen ++ (WM hM aM kM iM_stands iM_variables iM_rows iM_goals iM_differents iM_cases fM_from fM_to fM_whole fM_ways iM_plainRows fM_plainRow fM_kept fM_goalOver fM_goalUnder fM_goalMax fM_different ++ (WQ hQ aQ kQ hw fQ_inside fQ_outside fQ_shut iQ_rows iQ_allRows iQ_columns ++ (WW nW hw lw kw wl wb wG)))))) ∧ va_F A st9 t9) (mc1 := (nX_sheet / 32 - (nX_sheet / 32)) + 1) (ms1 := (2 * nX_sheet - (2 * nX_sheet)) + 6) (by omega) (by omega) (fun E9 t9 h9 hz9 hn9 => ⟨(fX_sheet, dX_sheet, nX_sheet, iX_sheetLength, wl, wb, wG), ⟨b_fX_sheet, (by first | exact b_nX_sheet | with_reducible assumption | exact ⟨by omega, by omega⟩ | assumption), (b_iX_sheetLength), b_wl, b_wb, (by (try dsimp only); exact (by first | with_reducible assumption | omega | (rw [iI_t (by omega) (by omega)]; omega) | (have h7 : (0 : Int32).toInt = 0 := (by decide); omega)))⟩, ⟨(by have h8 := h9.1; exact Or.inr (h8)), h9.2.1, h9.2.2.1, by (try dsimp only); omega, by (try dsimp only); omega⟩, h9.2.2.2⟩) ?_
    exact vx_throw0 (own := RX11) (cls := "java/lang/IllegalStateException") (names := ["java/lang/RuntimeException", "java/lang/Exception"]) (ik := 159) (ic := 161) (A := A) hx hb hst hown (by decide +kernel) (by decide +kernel) (hts (.classLink RX11 159 "java/lang/IllegalStateException") (by decide +kernel)) (hts (.initialized "java/lang/IllegalStateException") (by decide +kernel)) (vx_hat (B := ngX11_161) (fun w h => hts w (List.mem_cons_of_mem _ (List.mem_append_right _ h))) (fun _ h => h) (fun w h => va_Nw.use (ngX11_161_ot w h) (hE.2.2.1.2.1 w h))) (by decide +kernel) hE.2.1.1 hE.2.1.2 hS (by rw [hml]; exact hl.1) dX11_multiplier_17 dX11_multiplier_20 dX11_multiplier_21 dX11_multiplier_24 (fun x hx9 => (htab x hx9).elim) (by decide +kernel) (Nat.le_of_ble_eq_true rfl) (by first | decide +kernel | (dsimp only [headSpec] <;> omega)) (by first | decide +kernel | (dsimp only [headSpec] <;> omega)) hlocks (fun t hvm hz hk => ⟨rfl, hP.kept (fun k q h => hk q.1 ((hP k q h).lt)), hD, ⟨Nat.le_trans hS.1 hz, fun q h1 h2 => (hk q (Nat.lt_of_lt_of_le h1 hS.1)).trans (hS.2.1 q h1 h2)⟩⟩) hS.2.2 (by omega) (by omega)
def wsMX11_need_0 : List Cond := .code yX11_need cX11_need 3 (some .int) :: ([.fieldLink RX11 57 "OptimaWorks" "prover" "LOptimaWorks$Prover;"] ++ wsX110)
theorem iwsMX11_need_0_in11 : ∀ w ∈ wsX110, w ∈ wsMX11_need_0 := fun _ h => List.mem_cons_of_mem _ (List.mem_append_right _ h)
theorem gdwsMX11_need_0 : wsMX11_need_0.all goodWord = true := gdC rfl (gdA (by decide +kernel : ([.fieldLink RX11 57 "OptimaWorks" "prover" "LOptimaWorks$Prover;"] : List Cond).all goodWord = true) gdwsX110)
set_option maxHeartbeats 4000000 in
set_option maxRecDepth 100000 in
/-- no need -/
theorem m_X11_need_0 (l : Launch) (dC : Nat → ClassId) (dI : Nat → Nat → Nat) (hX : Nat → Nat) (aX : Nat → Nat) (kX : Nat → ClassId) (hT : Nat → Nat) (hM : Nat → Nat) (fX_ready : Nat → Int32) (fX_sheet : Nat → Int32) (dX_sheet : Nat) (nX_sheet : Nat) (iX_sheetLength : Int32) (xX_reader : Value) (xX_solver : Value) (xX_values : Value) (xX_clauses : Value) (xX_nets : Value) (p1 : Int32) (p2 : Int32) (b_fX_sheet : ∀ q : Nat, (-128) ≤ (fX_sheet q).toInt ∧ (fX_sheet q).toInt ≤ 127) (b_nX_sheet : 64 ≤ nX_sheet ∧ nX_sheet ≤ 60000) (b_iX_sheetLength : 0 ≤ iX_sheetLength.toInt ∧ iX_sheetLength.toInt ≤ 30000) (b_shl : iX_sheetLength.toInt ≤ ((nX_sheet : Nat) : Int)) (sz : Nat) : Met l yX11_need wsMX11_need_0 ({ frames := 0, cells := 0, slots := 0, locals := 0 }) (va_Pc [.ref (hX 0), .int p1, .int p2] (fun U => U.heap.size = sz ∧ va_P (dC, dI) vwCl (WX hX aX kX hT hM fX_ready fX_sheet dX_sheet nX_sheet iX_sheetLength xX_reader xX_solver .null xX_values xX_clauses xX_nets) U.heap ∧ va_K (dC, dI) vwCl (tX kX) U ∧ va_D (fun _ => True) (WX hX aX kX hT hM fX_ready fX_sheet dX_sheet nX_sheet iX_sheetLength xX_reader xX_solver .null xX_values xX_clauses xX_nets))) (va_Qi (fun (r : Int32) (u : Unit) => True) (fun (u : Unit) t => va_P (dC, dI) vwCl (WX hX aX kX hT hM fX_ready fX_sheet dX_sheet nX_sheet iX_sheetLength xX_reader xX_solver .null xX_values xX_clauses xX_nets) t.heap ∧ va_D (va_A (WX hX aX kX hT hM fX_ready fX_sheet dX_sheet nX_sheet iX_sheetLength xX_reader xX_solver .null xX_values xX_clauses xX_nets) sz) (WX hX aX kX hT hM fX_ready fX_sheet dX_sheet nX_sheet iX_sheetLength xX_reader xX_solver .null xX_values xX_clauses xX_nets)) (va_A (WX hX aX kX hT hM fX_ready fX_sheet dX_sheet nX_sheet iX_sheetLength xX_reader xX_solver .null xX_values xX_clauses xX_nets) sz)) 0 0 (va_A (WX hX aX kX hT hM fX_ready fX_sheet dX_sheet nX_sheet iX_sheetLength xX_reader xX_solver .null xX_values xX_clauses xX_nets) sz) := by
  refine Met.ofW (cc := cX11_need) (maxL := 3) (ret := (some .int)) (by decide) rfl ?_
  intro p e s m args below meth c s₁ B hml hv
  obtain ⟨rfl, hsz, hP, hK, hD0⟩ := hv
  have hx := B.exec
  have hb := B.bytes
  have hr := B.returns
  have hts := atoms_spec (ws := wsMX11_need_0) B.pre
  have hown : s.vm.findClass RX11 = some m.cls := findClass_of_methodNamed B.named
  have hlocks := B.notSynchronized
  subst hsz
  have hD := hD0.self (sz := s.heap.size)
  generalize hAe : va_A (WX hX aX kX hT hM fX_ready fX_sheet dX_sheet nX_sheet iX_sheetLength xX_reader xX_solver .null xX_values xX_clauses xX_nets) s.heap.size = A at hD ⊢
  have hA : ∀ q : Nat, s.heap.size ≤ q → A q := fun q h => by rw [← hAe]; exact Or.inr h
  have hS : va_S A s.heap s.heap [] := va_S.rf
  have hl := lv_entry ([.ref (hX 0), .int p1, .int p2]) (n := 3) (Nat.le_of_ble_eq_true rfl)
  rw [lg_entry_eq]
  generalize (lg_sl ([.ref (hX 0), .int p1, .int p2]) ++ List.replicate (3 - (lg_sl ([.ref (hX 0), .int p1, .int p2])).length) Slot.unset).toArray = ls at hl ⊢
  have hl : lv_has ls 3 [(0, .ref (hX 0)), (1, .int p1), (2, .int p2)] := hl
  refine lv_aload_n hx hb dX11_need_0 rfl (lv_at hl 0 rfl) ?_
  refine va_get (D := (dC, dI)) (ci := 11) (v := .null) (C := RX11) (T := TX11) (N := 11) hx hb hts iwsMX11_need_0_in11 hown hK hP 0 rfl rfl 7 (by decide) (hts (.fieldLink RX11 57 "OptimaWorks" "prover" "LOptimaWorks$Prover;") (by decide +kernel)) (fun _ h9 => h9) rfl dX11_need_1 ?_
  refine lv_ifnullN (tgt := 32) hx hb dX11_need_4 (by decide) ?_
  refine lv_iconst (v := (-1)) hx hb dX11_need_32 (by decide) ?_
  refine W.widen (k := 0) (n := 0) (by decide +kernel) (by decide +kernel) ?_
  exact W.iret (v := (-1)) hx hb hr (fun t9_ ht hW => ⟨⟨((-1) : Int32), (), rfl, trivial, by rw [ht]; exact hP, hD⟩, hS.F ht⟩) hS.2.2 dX11_need_33
def wsMX11_multiplier_0 : List Cond := .code yX11_multiplier cX11_multiplier 2 (some .int) :: ([.fieldLink RX11 57 "OptimaWorks" "prover" "LOptimaWorks$Prover;", .classLink RX11 159 "java/lang/IllegalStateException", .initialized "java/lang/IllegalStateException"] ++ wsX110 ++ ((vx_at0 RX11 161 "java/lang/IllegalStateException" ["java/lang/RuntimeException", "java/lang/Exception"]).filter goodWord))
theorem iwsMX11_multiplier_0_in11 : ∀ w ∈ wsX110, w ∈ wsMX11_multiplier_0 := fun _ h => List.mem_cons_of_mem _ (List.mem_append_left _ (List.mem_append_right _ h))
theorem gdwsMX11_multiplier_0 : wsMX11_multiplier_0.all goodWord = true := gdC rfl (gdA (gdA (by decide +kernel : ([.fieldLink RX11 57 "OptimaWorks" "prover" "LOptimaWorks$Prover;", .classLink RX11 159 "java/lang/IllegalStateException", .initialized "java/lang/IllegalStateException"] : List Cond).all goodWord = true) gdwsX110) (gdF _))
set_option maxHeartbeats 4000000 in
set_option maxRecDepth 100000 in
/-- no proof stands -/
theorem m_X11_multiplier_0 (l : Launch) (hst : l.stackTraces = false) (dC : Nat → ClassId) (dI : Nat → Nat → Nat) (hX : Nat → Nat) (aX : Nat → Nat) (kX : Nat → ClassId) (hT : Nat → Nat) (hM : Nat → Nat) (fX_ready : Nat → Int32) (fX_sheet : Nat → Int32) (dX_sheet : Nat) (nX_sheet : Nat) (iX_sheetLength : Int32) (xX_reader : Value) (xX_solver : Value) (xX_values : Value) (xX_clauses : Value) (xX_nets : Value) (p1 : Int32) (b_fX_sheet : ∀ q : Nat, (-128) ≤ (fX_sheet q).toInt ∧ (fX_sheet q).toInt ≤ 127) (b_nX_sheet : 64 ≤ nX_sheet ∧ nX_sheet ≤ 60000) (b_iX_sheetLength : 0 ≤ iX_sheetLength.toInt ∧ iX_sheetLength.toInt ≤ 30000) (b_shl : iX_sheetLength.toInt ≤ ((nX_sheet : Nat) : Int)) (sz : Nat) : vx_Met l yX11_multiplier wsMX11_multiplier_0 ({ frames := 6, cells := 1, slots := 6, locals := 81 }) (va_Pc [.ref (hX 0), .int p1] (fun U => U.heap.size = sz ∧ va_P (dC, dI) vwCl (WX hX aX kX hT hM fX_ready fX_sheet dX_sheet nX_sheet iX_sheetLength xX_reader xX_solver .null xX_values xX_clauses xX_nets) U.heap ∧ va_K (dC, dI) vwCl (tX kX) U ∧ va_D (fun _ => True) (WX hX aX kX hT hM fX_ready fX_sheet dX_sheet nX_sheet iX_sheetLength xX_reader xX_solver .null xX_values xX_clauses xX_nets) ∧ CE (va_A (WX hX aX kX hT hM fX_ready fX_sheet dX_sheet nX_sheet iX_sheetLength xX_reader xX_solver .null xX_values xX_clauses xX_nets) sz) U U.heap)) (va_Qi (fun (r : Int32) (u : Unit) => False) (fun (u : Unit) t => va_P (dC, dI) vwCl (WX hX aX kX hT hM fX_ready fX_sheet dX_sheet nX_sheet iX_sheetLength xX_reader xX_solver .null xX_values xX_clauses xX_nets) t.heap ∧ va_D (va_A (WX hX aX kX hT hM fX_ready fX_sheet dX_sheet nX_sheet iX_sheetLength xX_reader xX_solver .null xX_values xX_clauses xX_nets) sz) (WX hX aX kX hT hM fX_ready fX_sheet dX_sheet nX_sheet iX_sheetLength xX_reader xX_solver .null xX_values xX_clauses xX_nets)) (va_A (WX hX aX kX hT hM fX_ready fX_sheet dX_sheet nX_sheet iX_sheetLength xX_reader xX_solver .null xX_values xX_clauses xX_nets) sz)) (vx_X (fun (u : Unit) => True) (fun E (u : Unit) t => (E = "java/lang/IllegalStateException") ∧ va_P (dC, dI) vwCl (WX hX aX kX hT hM fX_ready fX_sheet dX_sheet nX_sheet iX_sheetLength xX_reader xX_solver .null xX_values xX_clauses xX_nets) t.heap ∧ va_D (va_A (WX hX aX kX hT hM fX_ready fX_sheet dX_sheet nX_sheet iX_sheetLength xX_reader xX_solver .null xX_values xX_clauses xX_nets) sz) (WX hX aX kX hT hM fX_ready fX_sheet dX_sheet nX_sheet iX_sheetLength xX_reader xX_solver .null xX_values xX_clauses xX_nets)) (va_A (WX hX aX kX hT hM fX_ready fX_sheet dX_sheet nX_sheet iX_sheetLength xX_reader xX_solver .null xX_values xX_clauses xX_nets) sz)) 1 6 (va_A (WX hX aX kX hT hM fX_ready fX_sheet dX_sheet nX_sheet iX_sheetLength xX_reader xX_solver .null xX_values xX_clauses xX_nets) sz) := by
  refine vx_ofW (cc := cX11_multiplier) (maxL := 2) (ret := (some .int)) (by decide) rfl ?_
  intro p e s m args below meth c s₁ B hml htab hv
  obtain ⟨rfl, hsz, hP, hK, hD0, hE⟩ := hv
  have hx := B.exec
  have hb := B.bytes
  have hr := B.returns
  have hts := atoms_spec (ws := wsMX11_multiplier_0) B.pre
  have hown : s.vm.findClass RX11 = some m.cls := findClass_of_methodNamed B.named
  have hlocks := B.notSynchronized
  subst hsz
  have hD := hD0.self (sz := s.heap.size)
  generalize hAe : va_A (WX hX aX kX hT hM fX_ready fX_sheet dX_sheet nX_sheet iX_sheetLength xX_reader xX_solver .null xX_values xX_clauses xX_nets) s.heap.size = A at hD hE ⊢
  have hA : ∀ q : Nat, s.heap.size ≤ q → A q := fun q h => by rw [← hAe]; exact Or.inr h
  have hS : va_S A s.heap s.heap [] := va_S.rf
  have hl := lv_entry ([.ref (hX 0), .int p1]) (n := 2) (Nat.le_of_ble_eq_true rfl)
  rw [lg_entry_eq]
  generalize (lg_sl ([.ref (hX 0), .int p1]) ++ List.replicate (2 - (lg_sl ([.ref (hX 0), .int p1])).length) Slot.unset).toArray = ls at hl ⊢
  have hl : lv_has ls 2 [(0, .ref (hX 0)), (1, .int p1)] := hl
  refine lv_aload_n hx hb dX11_multiplier_0 rfl (lv_at hl 0 rfl) ?_
  refine va_get (D := (dC, dI)) (ci := 11) (v := .null) (C := RX11) (T := TX11) (N := 11) hx hb hts iwsMX11_multiplier_0_in11 hown hK hP 0 rfl rfl 7 (by decide) (hts (.fieldLink RX11 57 "OptimaWorks" "prover" "LOptimaWorks$Prover;") (by decide +kernel)) (fun _ h9 => h9) rfl dX11_multiplier_1 ?_
  refine lv_ifnullN (tgt := 17) hx hb dX11_multiplier_4 (by decide) ?_
  exact vx_throw0 (own := RX11) (cls := "java/lang/IllegalStateException") (names := ["java/lang/RuntimeException", "java/lang/Exception"]) (ik := 159) (ic := 161) (A := A) hx hb hst hown (by decide +kernel) (by decide +kernel) (hts (.classLink RX11 159 "java/lang/IllegalStateException") (by decide +kernel)) (hts (.initialized "java/lang/IllegalStateException") (by decide +kernel)) (vx_hat (B := ngX11_161) (fun w h => hts w (List.mem_cons_of_mem _ (List.mem_append_right _ h))) (fun _ h => h) (fun w h => va_Nw.use (ngX11_161_ot w h) (hE.2.2.1.2.1 w h))) (by decide +kernel) hE.2.1.1 hE.2.1.2 hS (by rw [hml]; exact hl.1) dX11_multiplier_17 dX11_multiplier_20 dX11_multiplier_21 dX11_multiplier_24 (fun x hx9 => (htab x hx9).elim) (by decide +kernel) (Nat.le_of_ble_eq_true rfl) (by decide +kernel) (by decide +kernel) hlocks (fun t hvm hz hk => ⟨(), trivial, ⟨rfl, hP.kept (fun k q h => hk q.1 ((hP k q h).lt)), hD⟩, ⟨Nat.le_trans hS.1 hz, fun q h1 h2 => (hk q (Nat.lt_of_lt_of_le h1 hS.1)).trans (hS.2.1 q h1 h2)⟩⟩) hS.2.2 (by decide +kernel) (by decide +kernel)
end
section
def NetO (kN : Nat → ClassId) (qN : NtD) (o : Value) (w : va_W) : Prop := (o = .null ∧ w = [] ∧ qN = ntZ) ∨ ∃ (hN : Nat → Nat) (aN : Nat → Nat) (iN_arcs : Int32) (fN_from : Nat → Int32) (fN_to : Nat → Int32) (fN_room : Nat → Int32) (fN_cost : Nat → Int32) (iN_reached : Int32) (fN_free : Nat → Int32) (fN_before : Nat → Int32) (fN_flow : Nat → Int32) (fN_length : Nat → Int32) (fN_stop : Nat → Int32) (iN_stops : Int32) (fN_price : Nat → Int32) (fN_rest : Nat → Int32), (0 ≤ iN_arcs.toInt ∧ iN_arcs.toInt ≤ 40) ∧ (∀ q : Nat, 0 ≤ (fN_from q).toInt ∧ (fN_from q).toInt ≤ 11) ∧ (∀ q : Nat, 0 ≤ (fN_to q).toInt ∧ (fN_to q).toInt ≤ 11) ∧ (∀ q : Nat, 0 ≤ (fN_before q).toInt ∧ (fN_before q).toInt ≤ 79) ∧ (∀ q : Nat, 0 ≤ (fN_stop q).toInt ∧ (fN_stop q).toInt ≤ 11) ∧ (0 ≤ iN_stops.toInt ∧ iN_stops.toInt ≤ 8) ∧ (o = .ref (hN 0)) ∧ (w = WN hN aN kN iN_arcs fN_from fN_to fN_room fN_cost iN_reached fN_free fN_before fN_flow fN_length fN_stop iN_stops fN_price fN_rest) ∧ (qN = (iN_arcs.toInt, fN_from, fN_to, fN_room, fN_cost))
def ClaO (kC : Nat → ClassId) (qC : ClD) (o : Value) (w : va_W) : Prop := (o = .null ∧ w = [] ∧ qC = clZ) ∨ ∃ (hC : Nat → Nat) (aC : Nat → Nat) (iC_clauses : Int32) (fC_wants : Nat → Int32) (fC_wantsNot : Nat → Int32) (fC_weight : Nat → Int32) (fC_broken : Nat → Int32) (fC_loss : Nat → Int32) (iC_musts : Int32), (0 ≤ iC_clauses.toInt ∧ iC_clauses.toInt ≤ 24) ∧ (cVal (iC_clauses.toInt, fC_wants, fC_wantsNot, fC_weight)) ∧ (ClI (iC_clauses.toInt, fC_wants, fC_wantsNot, fC_weight) fC_broken fC_loss iC_musts) ∧ (o = .ref (hC 0)) ∧ (w = WC hC aC kC iC_clauses fC_wants fC_wantsNot fC_weight fC_broken fC_loss iC_musts) ∧ (qC = (iC_clauses.toInt, fC_wants, fC_wantsNot, fC_weight))
def ValO (kV : Nat → ClassId) (nV_list : Nat) (qV : VlD) (o : Value) (w : va_W) : Prop := (o = .null ∧ w = [] ∧ nV_list = 0 ∧ qV = vlZ) ∨ ∃ (hV : Nat → Nat) (aV : Nat → Nat) (iV_holders : Int32) (iV_rules : Int32) (fV_pairs : Nat → Int32) (fV_domain : Nat → Int32) (fV_kind : Nat → Int32) (fV_a : Nat → Int32) (fV_b : Nat → Int32) (fV_c : Nat → Int32) (fV_rulePairs : Nat → Int32) (fV_lastHolder : Nat → Int32) (fV_now : Nat → Int32) (iV_doneFor : Int32) (iV_changed : Int32) (gV_fore : Nat → Int64) (gV_back : Nat → Int64) (fV_together : Nat → Int32) (fV_member : Nat → Int32) (gV_list : Nat → Int64) (dV_list : Nat) (iV_listed : Int32) (iV_listDone : Int32), (0 ≤ iV_holders.toInt ∧ iV_holders.toInt ≤ 10) ∧ (0 ≤ iV_rules.toInt ∧ iV_rules.toInt ≤ 12) ∧ (∀ q : Nat, 0 ≤ (fV_kind q).toInt ∧ (fV_kind q).toInt ≤ 4) ∧ (0 ≤ iV_changed.toInt ∧ iV_changed.toInt ≤ 1) ∧ (∀ q : Nat, (-1) ≤ (fV_member q).toInt ∧ (fV_member q).toInt ≤ 15) ∧ (0 ≤ nV_list ∧ nV_list ≤ 20000) ∧ ((-1) ≤ iV_listed.toInt ∧ iV_listed.toInt ≤ 5000) ∧ (0 ≤ iV_listDone.toInt ∧ iV_listDone.toInt ≤ 1) ∧ (RuV fV_kind fV_a fV_b fV_c fV_lastHolder) ∧ (iV_listed.toInt ≤ ((nV_list : Nat) : Int)) ∧ (o = .ref (hV 0)) ∧ (w = WV hV aV kV iV_holders iV_rules fV_pairs fV_domain fV_kind fV_a fV_b fV_c fV_rulePairs fV_lastHolder fV_now iV_doneFor iV_changed gV_fore gV_back fV_together fV_member gV_list dV_list nV_list iV_listed iV_listDone) ∧ (qV = (iV_holders.toInt, iV_rules.toInt))
def SolO (kO kQ : Nat → ClassId) (kw : ClassId) (hM : Nat → Nat) (o : Value) (w : va_W) : Prop := (o = .null ∧ w = []) ∨ ∃ (hO : Nat → Nat) (aO : Nat → Nat) (hQ : Nat → Nat) (hw : Nat → Nat) (iO_answered : Int32) (iO_searched : Int32) (iO_searchedRelaxed : Int32) (iO_counted : Int32) (fO_countedCase : Nat → Int32) (gO_goalNumber : Nat → Int64) (gO_goalScale : Nat → Int64) (fO_start : Nat → Int32) (fO_column : Nat → Int32) (fO_chosen : Nat → Int32) (aQ : Nat → Nat) (fQ_inside : Nat → Int32) (fQ_outside : Nat → Int32) (fQ_shut : Nat → Int32) (iQ_rows : Int32) (iQ_allRows : Int32) (iQ_columns : Int32) (nW : Nat) (lw : Nat → Nat) (wl : Nat → Int32) (wb : Nat → Int32) (wG : Nat → Nat → Int64), (0 ≤ iO_answered.toInt ∧ iO_answered.toInt ≤ 1) ∧ (0 ≤ iO_searched.toInt ∧ iO_searched.toInt ≤ 1) ∧ (0 ≤ iO_searchedRelaxed.toInt ∧ iO_searchedRelaxed.toInt ≤ 1) ∧ ((-1) ≤ iO_counted.toInt ∧ iO_counted.toInt ≤ 64) ∧ (∀ q : Nat, 0 ≤ (fO_countedCase q).toInt ∧ (fO_countedCase q).toInt ≤ 200000) ∧ (∀ q : Nat, (-1) ≤ (fO_column q).toInt ∧ (fO_column q).toInt ≤ 8) ∧ (∀ q : Nat, 0 ≤ (fO_chosen q).toInt ∧ (fO_chosen q).toInt ≤ 2) ∧ (0 ≤ iQ_rows.toInt ∧ iQ_rows.toInt ≤ 40) ∧ (0 ≤ iQ_allRows.toInt ∧ iQ_allRows.toInt ≤ 40) ∧ (0 ≤ iQ_columns.toInt ∧ iQ_columns.toInt ≤ 40) ∧ (TbO iQ_rows iQ_allRows iQ_columns) ∧ (∀ q : Nat, 0 ≤ (wl q).toInt ∧ (wl q).toInt ≤ 14) ∧ (∀ q : Nat, 0 ≤ (wb q).toInt ∧ (wb q).toInt ≤ 1) ∧ (nW = 432) ∧ (o = .ref (hO 0)) ∧ (w = WO hO aO kO hM hQ hw iO_answered iO_searched iO_searchedRelaxed iO_counted fO_countedCase gO_goalNumber gO_goalScale fO_start fO_column fO_chosen ++ (WQ hQ aQ kQ hw fQ_inside fQ_outside fQ_shut iQ_rows iQ_allRows iQ_columns ++ (WW nW hw lw kw wl wb wG)))
def PrvO (kO kQ kG : Nat → ClassId) (kw : ClassId) (hM : Nat → Nat) (o o2 : Value) (w : va_W) : Prop := (SolO kO kQ kw hM o w ∧ o2 = .null) ∨ ∃ (hO : Nat → Nat) (aO : Nat → Nat) (hQ : Nat → Nat) (hw : Nat → Nat) (iO_answered : Int32) (iO_searched : Int32) (iO_searchedRelaxed : Int32) (iO_counted : Int32) (fO_countedCase : Nat → Int32) (gO_goalNumber : Nat → Int64) (gO_goalScale : Nat → Int64) (fO_start : Nat → Int32) (fO_column : Nat → Int32) (fO_chosen : Nat → Int32) (aQ : Nat → Nat) (fQ_inside : Nat → Int32) (fQ_outside : Nat → Int32) (fQ_shut : Nat → Int32) (iQ_rows : Int32) (iQ_allRows : Int32) (iQ_columns : Int32) (hG : Nat → Nat) (aG : Nat → Nat) (iG_made : Int32) (iG_keptNeeds : Int32) (fG_kept : Nat → Int32) (fG_need : Nat → Int32) (fG_turn : Nat → Int32) (iG_columns : Int32) (nW : Nat) (lw : Nat → Nat) (wl : Nat → Int32) (wb : Nat → Int32) (wG : Nat → Nat → Int64), (0 ≤ iO_answered.toInt ∧ iO_answered.toInt ≤ 1) ∧ (0 ≤ iO_searched.toInt ∧ iO_searched.toInt ≤ 1) ∧ (0 ≤ iO_searchedRelaxed.toInt ∧ iO_searchedRelaxed.toInt ≤ 1) ∧ ((-1) ≤ iO_counted.toInt ∧ iO_counted.toInt ≤ 64) ∧ (∀ q : Nat, 0 ≤ (fO_countedCase q).toInt ∧ (fO_countedCase q).toInt ≤ 200000) ∧ (∀ q : Nat, (-1) ≤ (fO_column q).toInt ∧ (fO_column q).toInt ≤ 8) ∧ (∀ q : Nat, 0 ≤ (fO_chosen q).toInt ∧ (fO_chosen q).toInt ≤ 2) ∧ (0 ≤ iQ_rows.toInt ∧ iQ_rows.toInt ≤ 40) ∧ (0 ≤ iQ_allRows.toInt ∧ iQ_allRows.toInt ≤ 40) ∧ (0 ≤ iQ_columns.toInt ∧ iQ_columns.toInt ≤ 40) ∧ (TbO iQ_rows iQ_allRows iQ_columns) ∧ (0 ≤ iG_made.toInt ∧ iG_made.toInt ≤ 1) ∧ (∀ q : Nat, 0 ≤ (fG_need q).toInt ∧ (fG_need q).toInt ≤ 27) ∧ (0 ≤ iG_columns.toInt ∧ iG_columns.toInt ≤ 40) ∧ (∀ q : Nat, 0 ≤ (wl q).toInt ∧ (wl q).toInt ≤ 14) ∧ (∀ q : Nat, 0 ≤ (wb q).toInt ∧ (wb q).toInt ≤ 1) ∧ (474 ≤ nW) ∧ (o = .ref (hO 0)) ∧ (o2 = .ref (hG 0)) ∧ (w = WO hO aO kO hM hQ hw iO_answered iO_searched iO_searchedRelaxed iO_counted fO_countedCase gO_goalNumber gO_goalScale fO_start fO_column fO_chosen ++ (WQ hQ aQ kQ hw fQ_inside fQ_outside fQ_shut iQ_rows iQ_allRows iQ_columns ++ (WG hG aG kG hM hO hQ hw iG_made iG_keptNeeds fG_kept fG_need fG_turn iG_columns ++ (WW nW hw lw kw wl wb wG))))
def RdrO (kJ kL kF : Nat → ClassId) (hT : Nat → Nat) (hM : Nat → Nat) (nF_tree : Nat) (nL_params : Nat) (o : Value) (w : va_W) : Prop := (o = .null ∧ w = [] ∧ nF_tree = 0 ∧ nL_params = 0) ∨ ∃ (hJ : Nat → Nat) (aJ : Nat → Nat) (hL : Nat → Nat) (iJ_used : Int32) (iJ_depth : Int32) (jJ_ownName : Int64) (gJ_binder : Nat → Int64) (iJ_binders : Int32) (iJ_firstSet : Int32) (iJ_secondSet : Int32) (aL : Nat → Nat) (xL_tree : Value) (iL_names : Int32) (gL_key : Nat → Int64) (fL_kind : Nat → Int32) (fL_one : Nat → Int32) (fL_two : Nat → Int32) (fL_base : Nat → Int32) (iL_params : Int32) (fL_paramOver : Nat → Int32) (dL_paramOver : Nat) (fL_paramUnder : Nat → Int32) (dL_paramUnder : Nat) (nL_pu : Nat) (gL_over : Nat → Int64) (gL_under : Nat → Int64) (fL_bound : Nat → Int32) (iL_nameAt : Int32) (iL_startAt : Int32) (iL_steps : Int32) (jL_scaleOver : Int64) (jL_scaleUnder : Int64) (hF : Nat → Nat) (aF : Nat → Nat) (dF_tree : Nat) (fF_tree : Nat → Int32), (0 ≤ iJ_used.toInt ∧ iJ_used.toInt ≤ 72200) ∧ (0 ≤ iJ_depth.toInt ∧ iJ_depth.toInt ≤ 25) ∧ (0 ≤ iJ_binders.toInt ∧ iJ_binders.toInt ≤ 64) ∧ ((-1) ≤ iJ_firstSet.toInt ∧ iJ_firstSet.toInt ≤ 39) ∧ ((-1) ≤ iJ_secondSet.toInt ∧ iJ_secondSet.toInt ≤ 39) ∧ (0 ≤ iL_names.toInt ∧ iL_names.toInt ≤ 40) ∧ (∀ q : Nat, 0 ≤ (fL_kind q).toInt ∧ (fL_kind q).toInt ≤ 5) ∧ (∀ q : Nat, (-1) ≤ (fL_two q).toInt ∧ (fL_two q).toInt ≤ 39) ∧ (∀ q : Nat, 0 ≤ (fL_base q).toInt ∧ (fL_base q).toInt ≤ 2560) ∧ (0 ≤ iL_params.toInt ∧ iL_params.toInt ≤ 2560) ∧ (0 ≤ nL_params ∧ nL_params ≤ 2560) ∧ (NmL iL_names fL_kind fL_one fL_two fL_base nL_params) ∧ (iL_params.toInt ≤ ((nL_params : Nat) : Int)) ∧ (nL_pu = nL_params) ∧ (7 ≤ nF_tree ∧ nF_tree ≤ 72200) ∧ (o = .ref (hJ 0)) ∧ (w = WJ hJ aJ kJ hT hM hL (.ref dF_tree) iJ_used iJ_depth jJ_ownName gJ_binder iJ_binders iJ_firstSet iJ_secondSet ++ (WL hL aL kL hT hM xL_tree iL_names gL_key fL_kind fL_one fL_two fL_base iL_params fL_paramOver dL_paramOver nL_params fL_paramUnder dL_paramUnder nL_pu gL_over gL_under fL_bound iL_nameAt iL_startAt iL_steps jL_scaleOver jL_scaleUnder ++ (WF hF aF kF dF_tree nF_tree fF_tree)))
end
section
theorem dX11_theNets_7 : decode cX11_theNets 7 = .ok (.aload_n 0, 1) := dk_42 (by decide +kernel)
theorem dX11_theNets_8 : decode cX11_theNets 8 = .ok (.new 419, 3) := dk_187 (by decide +kernel)
theorem dX11_theNets_11 : decode cX11_theNets 11 = .ok (.dup, 1) := dk_89 (by decide +kernel)
theorem dX11_theNets_12 : decode cX11_theNets 12 = .ok (.invokespecial 421, 3) := dk_183 (by decide +kernel)
theorem dX11_theNets_15 : decode cX11_theNets 15 = .ok (.putfield 415, 3) := dk_181 (by decide +kernel)
def wsMX11_theNets_0 : List Cond := .code yX11_theNets cX11_theNets 1 (some (.object "OptimaWorks$NetDesk")) :: ([.fieldLink RX11 415 "OptimaWorks" "nets" "LOptimaWorks$NetDesk;", .classLink RX11 419 RX2, .instantiable RX2 14, .initialized RX2, .instanceMethod yX2_init] ++ wsX20 ++ wsX110 ++ (wsX2_init))
theorem iwsMX11_theNets_0_in2 : ∀ w ∈ wsX20, w ∈ wsMX11_theNets_0 := fun _ h => List.mem_cons_of_mem _ (List.mem_append_left _ (List.mem_append_left _ (List.mem_append_right _ h)))
theorem iwsMX11_theNets_0_in11 : ∀ w ∈ wsX110, w ∈ wsMX11_theNets_0 := fun _ h => List.mem_cons_of_mem _ (List.mem_append_left _ (List.mem_append_right _ h))
theorem gwsMX11_theNets_0_0 : GoodIn wsMX11_theNets_0 (wsX2_init) := goodIn_sub (fun _ h => List.mem_cons_of_mem _ (List.mem_append_right _ h)) (by decide +kernel)
theorem gdwsMX11_theNets_0 : wsMX11_theNets_0.all goodWord = true := gdC rfl (gdA (gdA (gdA (by decide +kernel : ([.fieldLink RX11 415 "OptimaWorks" "nets" "LOptimaWorks$NetDesk;", .classLink RX11 419 RX2, .instantiable RX2 14, .initialized RX2, .instanceMethod yX2_init] : List Cond).all goodWord = true) gdwsX20) gdwsX110) (by decide +kernel))
theorem hm_m_X11_theNets_0_0 : (.fieldLink RX11 415 "OptimaWorks" "nets" "LOptimaWorks$NetDesk;" : Cond) ∈ wsMX11_theNets_0 := by decide +kernel
theorem hm_m_X11_theNets_0_1 : (.initialized RX2 : Cond) ∈ wsMX11_theNets_0 := by decide +kernel
set_option maxHeartbeats 4000000 in
set_option maxRecDepth 100000 in
/-- the desk of nets is made -/
theorem m_X11_theNets_0 (l : Launch) (hst : l.stackTraces = false) (dC : Nat → ClassId) (dI : Nat → Nat → Nat) (hX : Nat → Nat) (aX : Nat → Nat) (kX : Nat → ClassId) (hT : Nat → Nat) (hM : Nat → Nat) (fX_ready : Nat → Int32) (fX_sheet : Nat → Int32) (dX_sheet : Nat) (nX_sheet : Nat) (iX_sheetLength : Int32) (xX_reader : Value) (xX_solver : Value) (xX_prover : Value) (xX_values : Value) (xX_clauses : Value) (kN : Nat → ClassId) (b_fX_sheet : ∀ q : Nat, (-128) ≤ (fX_sheet q).toInt ∧ (fX_sheet q).toInt ≤ 127) (b_nX_sheet : 64 ≤ nX_sheet ∧ nX_sheet ≤ 60000) (b_iX_sheetLength : 0 ≤ iX_sheetLength.toInt ∧ iX_sheetLength.toInt ≤ 30000) (b_shl : iX_sheetLength.toInt ≤ ((nX_sheet : Nat) : Int)) (sz : Nat) : Met l yX11_theNets wsMX11_theNets_0 ({ frames := 2, cells := 12, slots := 1478, locals := 32 }) (va_Pc [.ref (hX 0)] (fun U => U.heap.size = sz ∧ va_P (dC, dI) vwCl (WX hX aX kX hT hM fX_ready fX_sheet dX_sheet nX_sheet iX_sheetLength xX_reader xX_solver xX_prover xX_values xX_clauses .null) U.heap ∧ va_K (dC, dI) vwCl (tX kX ++ (tN kN)) U ∧ va_D (fun _ => True) (WX hX aX kX hT hM fX_ready fX_sheet dX_sheet nX_sheet iX_sheetLength xX_reader xX_solver xX_prover xX_values xX_clauses .null) ∧ CE (va_A (WX hX aX kX hT hM fX_ready fX_sheet dX_sheet nX_sheet iX_sheetLength xX_reader xX_solver xX_prover xX_values xX_clauses .null) sz) U U.heap)) (va_Qr (fun (u : (Nat → Nat) × (Nat → Nat)) => True) (fun (u : (Nat → Nat) × (Nat → Nat)) ra t => ra = ((u.1) 0) ∧ va_P (dC, dI) vwCl (WX hX aX kX hT hM fX_ready fX_sheet dX_sheet nX_sheet iX_sheetLength xX_reader xX_solver xX_prover xX_values xX_clauses (.ref ((u.1) 0)) ++ (WN (u.1) (u.2) kN 0 (fun _ => 0) (fun _ => 0) (fun _ => 0) (fun _ => 0) 0 (fun _ => 0) (fun _ => 0) (fun _ => 0) (fun _ => 0) (fun _ => 0) 0 (fun _ => 0) (fun _ => 0))) t.heap ∧ va_D (va_A (WX hX aX kX hT hM fX_ready fX_sheet dX_sheet nX_sheet iX_sheetLength xX_reader xX_solver xX_prover xX_values xX_clauses .null) sz) (WX hX aX kX hT hM fX_ready fX_sheet dX_sheet nX_sheet iX_sheetLength xX_reader xX_solver xX_prover xX_values xX_clauses (.ref ((u.1) 0)) ++ (WN (u.1) (u.2) kN 0 (fun _ => 0) (fun _ => 0) (fun _ => 0) (fun _ => 0) 0 (fun _ => 0) (fun _ => 0) (fun _ => 0) (fun _ => 0) (fun _ => 0) 0 (fun _ => 0) (fun _ => 0)))) (va_A (WX hX aX kX hT hM fX_ready fX_sheet dX_sheet nX_sheet iX_sheetLength xX_reader xX_solver xX_prover xX_values xX_clauses .null) sz)) 12 1478 (va_A (WX hX aX kX hT hM fX_ready fX_sheet dX_sheet nX_sheet iX_sheetLength xX_reader xX_solver xX_prover xX_values xX_clauses .null) sz) := by
  refine Met.ofW (cc := cX11_theNets) (maxL := 1) (ret := (some (.object "OptimaWorks$NetDesk"))) (by decide) rfl ?_
  intro p e s m args below meth c s₁ B hml hv
  obtain ⟨rfl, hsz, hP, hK, hD0, hE⟩ := hv
  have hx := B.exec
  have hb := B.bytes
  have hr := B.returns
  have hts := atoms_spec (ws := wsMX11_theNets_0) B.pre
  have hown : s.vm.findClass RX11 = some m.cls := findClass_of_methodNamed B.named
  have hlocks := B.notSynchronized
  subst hsz
  have hD := hD0.self (sz := s.heap.size)
  generalize hAe : va_A (WX hX aX kX hT hM fX_ready fX_sheet dX_sheet nX_sheet iX_sheetLength xX_reader xX_solver xX_prover xX_values xX_clauses .null) s.heap.size = A at hD hE ⊢
  have hA : ∀ q : Nat, s.heap.size ≤ q → A q := fun q h => by rw [← hAe]; exact Or.inr h
  have hS : va_S A s.heap s.heap [] := va_S.rf
  have hl := lv_entry ([.ref (hX 0)]) (n := 1) (Nat.le_of_ble_eq_true rfl)
  rw [lg_entry_eq]
  generalize (lg_sl ([.ref (hX 0)]) ++ List.replicate (1 - (lg_sl ([.ref (hX 0)])).length) Slot.unset).toArray = ls at hl ⊢
  have hl : lv_has ls 1 [(0, .ref (hX 0))] := hl
  refine lv_aload_n hx hb dX11_theNets_0 rfl (lv_at hl 0 rfl) ?_
  refine va_get (D := (dC, dI)) (ci := 11) (v := .null) (C := RX11) (T := TX11) (N := 11) hx hb hts iwsMX11_theNets_0_in11 hown hK hP 0 rfl rfl 10 (by decide) (hts _ hm_m_X11_theNets_0_0) (fun _ h9 => h9) rfl dX11_theNets_1 ?_
  refine lv_ifnonnullN hx hb dX11_theNets_4 ?_
  refine lv_aload_n hx hb dX11_theNets_7 rfl (lv_at hl 0 rfl) ?_
  refine va_new (ci := 2) (fs := [.int 0, .null, .null, .null, .null, .int 0, .null, .null, .null, .null, .null, .int 0, .null, .null]) (C := RX2) (T := TX2) (N := 14) hx hb hts iwsMX11_theNets_0_in2 tyX2 tyX2_ok hown (hts (.classLink RX11 419 RX2) (by decide +kernel)) (hts (.instantiable RX2 14) (by decide +kernel)) (hts _ hm_m_X11_theNets_0_1) hK hP hD hS hA rfl (by decide +kernel) (by decide +kernel) (by decide +kernel) dX11_theNets_8 (fun qo1 H hP hD hS => ?_)
  obtain ⟨hN, rfl⟩ : ∃ h9 : Nat → Nat, qo1 = h9 0 := ⟨fun _ => qo1, rfl⟩
  have hP : va_P (dC, dI) vwCl (WX hX aX kX hT hM fX_ready fX_sheet dX_sheet nX_sheet iX_sheetLength xX_reader xX_solver xX_prover xX_values xX_clauses .null ++ ([(hN 0, .inr (2, [.int 0, .null, .null, .null, .null, .int 0, .null, .null, .null, .null, .null, .int 0, .null, .null]))])) H := by first | exact hP | (simp only [List.append_assoc] at hP ⊢; exact hP)
  have hD : va_D A (WX hX aX kX hT hM fX_ready fX_sheet dX_sheet nX_sheet iX_sheetLength xX_reader xX_solver xX_prover xX_values xX_clauses .null ++ ([(hN 0, .inr (2, [.int 0, .null, .null, .null, .null, .int 0, .null, .null, .null, .null, .null, .int 0, .null, .null]))])) := by first | exact hD | (simp only [List.append_assoc] at hD ⊢; exact hD)
  refine W.widen (k := 1) (n := 14) (by decide +kernel) (by decide +kernel) ?_
  refine lv_dup hx hb dX11_theNets_11 rfl ?_
  have p9 : List.Perm (α := Nat × va_E) (WX hX aX kX hT hM fX_ready fX_sheet dX_sheet nX_sheet iX_sheetLength xX_reader xX_solver xX_prover xX_values xX_clauses .null ++ ([(hN 0, .inr (2, [.int 0, .null, .null, .null, .null, .int 0, .null, .null, .null, .null, .null, .int 0, .null, .null]))])) (([(hN 0, .inr (2, [.int 0, .null, .null, .null, .null, .int 0, .null, .null, .null, .null, .null, .int 0, .null, .null]))]) ++ (WX hX aX kX hT hM fX_ready fX_sheet dX_sheet nX_sheet iX_sheetLength xX_reader xX_solver xX_prover xX_values xX_clauses .null)) := (List.perm_append_comm)
  have hPc := hP.mem (fun q h => p9.mem_iff.mpr (List.mem_append_left _ h))
  have hDc := (hD.perm p9).left
  have hKc : va_K (dC, dI) vwCl (tN kN) _ := hK.sub [2, 3, 4, 5, 6, 7, 8, 9, 10, 11, 12] rfl
  have hFc := freeG p9 hD hS hA
  refine va_callv (va_runIN (As := []) (rest := [.ref (hN 0), .ref (hX 0)]) ⟨hx, hb, hml, hown, hts⟩ (k_X2_init l dC dI hN kN H.size) ⟨va_cnB 0 hts gwsMX11_theNets_0_0 rfl rfl rfl (hE.2.2.1.2.2.2.2.1 (.methodLinkNest RX11 421 yX2_init RX11) (by decide +kernel)) (hts _ hm_m_X11_theNets_0_1) (by decide +kernel) ⟨by decide +kernel, by decide +kernel⟩, rfl, (hts (.instanceMethod yX2_init) (by decide +kernel))⟩ ⟨fun a U g mk q => by obtain ⟨q0, q1, qP, qK, qD⟩ := q; exact ⟨q0, q1, qP, va_K.moved (u := U) (U := U.calling g mk a) (Vm.Alike.refl U.vm) qK, qD⟩, fun U hU9 hW => ⟨rfl, by rw [hU9], by rw [hU9]; exact hPc, va_K.moved hW.alike hKc, hDc.weaken (fun _ _ _ _ => trivial)⟩⟩ rfl rfl hl.1 rfl (lv_room (Nat.le_of_ble_eq_true rfl)) dX11_theNets_12 (by decide +kernel)) hS (fun q _ h => hFc q h) hFc (fun u t9_ H1 locs ht hvm hw9 hB9 hz1 hk1 hS => ?_)
  obtain ⟨aN, hwu⟩ : ∃ w9, w9 = u := ⟨u, rfl⟩
  subst hwu
  clear hw9
  revert hB9
  refine fz_a2 ?_
  intro hP1 hD1
  rw [ht] at hP1
  have p8 : List.Perm (α := Nat × va_E) (WX hX aX kX hT hM fX_ready fX_sheet dX_sheet nX_sheet iX_sheetLength xX_reader xX_solver xX_prover xX_values xX_clauses .null ++ (WN hN aN kN 0 (fun _ => 0) (fun _ => 0) (fun _ => 0) (fun _ => 0) 0 (fun _ => 0) (fun _ => 0) (fun _ => 0) (fun _ => 0) (fun _ => 0) 0 (fun _ => 0) (fun _ => 0))) ((WN hN aN kN 0 (fun _ => 0) (fun _ => 0) (fun _ => 0) (fun _ => 0) 0 (fun _ => 0) (fun _ => 0) (fun _ => 0) (fun _ => 0) (fun _ => 0) 0 (fun _ => 0) (fun _ => 0)) ++ (WX hX aX kX hT hM fX_ready fX_sheet dX_sheet nX_sheet iX_sheetLength xX_reader xX_solver xX_prover xX_values xX_clauses .null)) := (List.perm_append_comm)
  obtain ⟨hP, hD⟩ := frameG p9 p8 hP hD hk1 hFc hP1 hD1
  generalize H1 = H at hP hS ⊢
  clear p9 p8 hPc hDc hKc hFc
  have hP : va_P (dC, dI) vwCl (WX hX aX kX hT hM fX_ready fX_sheet dX_sheet nX_sheet iX_sheetLength xX_reader xX_solver xX_prover xX_values xX_clauses .null ++ (WN hN aN kN 0 (fun _ => 0) (fun _ => 0) (fun _ => 0) (fun _ => 0) 0 (fun _ => 0) (fun _ => 0) (fun _ => 0) (fun _ => 0) (fun _ => 0) 0 (fun _ => 0) (fun _ => 0))) H := hP
  have hD := fz_sd hP (hD) rfl
  refine W.widen (k := 12) (n := 1478) (by decide +kernel) (by decide +kernel) ?_
  refine va_put (D := (dC, dI)) (ci := 11) (v := .ref (hN 0)) (ty := .object "OptimaWorks$NetDesk") (C := RX11) (T := TX11) (N := 11) hx hb hts iwsMX11_theNets_0_in11 tyX11 tyX11_ok nmX11 hown hK hP hD hS 0 rfl rfl 10 (by decide) (hts _ hm_m_X11_theNets_0_0) (fun _ h9 => h9) rfl (by decide +kernel) rfl rfl (Nat.le_of_ble_eq_true rfl) dX11_theNets_15 (fun H locs hP hD hS => ?_)
  have hP : va_P (dC, dI) vwCl (WX hX aX kX hT hM fX_ready fX_sheet dX_sheet nX_sheet iX_sheetLength xX_reader xX_solver xX_prover xX_values xX_clauses (.ref (hN 0)) ++ (WN hN aN kN 0 (fun _ => 0) (fun _ => 0) (fun _ => 0) (fun _ => 0) 0 (fun _ => 0) (fun _ => 0) (fun _ => 0) (fun _ => 0) (fun _ => 0) 0 (fun _ => 0) (fun _ => 0))) H := hP
  have hD := fz_sd hP (hD) rfl
  refine lv_aload_n hx hb dX11_theNets_18 rfl (lv_at hl 0 rfl) ?_
  refine va_get (D := (dC, dI)) (ci := 11) (v := .ref (hN 0)) (C := RX11) (T := TX11) (N := 11) hx hb hts iwsMX11_theNets_0_in11 hown hK hP 0 rfl rfl 10 (by decide) (hts _ hm_m_X11_theNets_0_0) (fun _ h9 => h9) rfl dX11_theNets_19 ?_
  refine W.widen (k := 12) (n := 1478) (by decide +kernel) (by decide +kernel) ?_
  exact W.aret hx hb hr (Or.inl ⟨_, rfl⟩) (Or.inr ⟨_, rfl⟩) (fun t9_ ht hW => ⟨⟨(hN, aN), _, rfl, trivial, rfl, by rw [ht]; exact hP, hD⟩, hS.F ht⟩) hS.2.2 dX11_theNets_22
theorem dX11_theClauses_7 : decode cX11_theClauses 7 = .ok (.aload_n 0, 1) := dk_42 (by decide +kernel)
theorem dX11_theClauses_8 : decode cX11_theClauses 8 = .ok (.new 390, 3) := dk_187 (by decide +kernel)
theorem dX11_theClauses_11 : decode cX11_theClauses 11 = .ok (.dup, 1) := dk_89 (by decide +kernel)
theorem dX11_theClauses_12 : decode cX11_theClauses 12 = .ok (.invokespecial 392, 3) := dk_183 (by decide +kernel)
theorem dX11_theClauses_15 : decode cX11_theClauses 15 = .ok (.putfield 386, 3) := dk_181 (by decide +kernel)
def wsMX11_theClauses_0 : List Cond := .code yX11_theClauses cX11_theClauses 1 (some (.object "OptimaWorks$ClauseDesk")) :: ([.fieldLink RX11 386 "OptimaWorks" "clauses" "LOptimaWorks$ClauseDesk;", .classLink RX11 390 RX0, .instantiable RX0 7, .initialized RX0, .instanceMethod yX0_init] ++ wsX00 ++ wsX110 ++ (wsX0_init))
theorem iwsMX11_theClauses_0_in0 : ∀ w ∈ wsX00, w ∈ wsMX11_theClauses_0 := fun _ h => List.mem_cons_of_mem _ (List.mem_append_left _ (List.mem_append_left _ (List.mem_append_right _ h)))
theorem iwsMX11_theClauses_0_in11 : ∀ w ∈ wsX110, w ∈ wsMX11_theClauses_0 := fun _ h => List.mem_cons_of_mem _ (List.mem_append_left _ (List.mem_append_right _ h))
theorem gwsMX11_theClauses_0_0 : GoodIn wsMX11_theClauses_0 (wsX0_init) := goodIn_sub (fun _ h => List.mem_cons_of_mem _ (List.mem_append_right _ h)) (by decide +kernel)
theorem gdwsMX11_theClauses_0 : wsMX11_theClauses_0.all goodWord = true := gdC rfl (gdA (gdA (gdA (by decide +kernel : ([.fieldLink RX11 386 "OptimaWorks" "clauses" "LOptimaWorks$ClauseDesk;", .classLink RX11 390 RX0, .instantiable RX0 7, .initialized RX0, .instanceMethod yX0_init] : List Cond).all goodWord = true) gdwsX00) gdwsX110) (by decide +kernel))
theorem hm_m_X11_theClauses_0_0 : (.fieldLink RX11 386 "OptimaWorks" "clauses" "LOptimaWorks$ClauseDesk;" : Cond) ∈ wsMX11_theClauses_0 := by decide +kernel
theorem hm_m_X11_theClauses_0_1 : (.initialized RX0 : Cond) ∈ wsMX11_theClauses_0 := by decide +kernel
set_option maxHeartbeats 4000000 in
set_option maxRecDepth 100000 in
/-- the desk of clauses is made -/
theorem m_X11_theClauses_0 (l : Launch) (hst : l.stackTraces = false) (dC : Nat → ClassId) (dI : Nat → Nat → Nat) (hX : Nat → Nat) (aX : Nat → Nat) (kX : Nat → ClassId) (hT : Nat → Nat) (hM : Nat → Nat) (fX_ready : Nat → Int32) (fX_sheet : Nat → Int32) (dX_sheet : Nat) (nX_sheet : Nat) (iX_sheetLength : Int32) (xX_reader : Value) (xX_solver : Value) (xX_prover : Value) (xX_values : Value) (xX_nets : Value) (kC : Nat → ClassId) (b_fX_sheet : ∀ q : Nat, (-128) ≤ (fX_sheet q).toInt ∧ (fX_sheet q).toInt ≤ 127) (b_nX_sheet : 64 ≤ nX_sheet ∧ nX_sheet ≤ 60000) (b_iX_sheetLength : 0 ≤ iX_sheetLength.toInt ∧ iX_sheetLength.toInt ≤ 30000) (b_shl : iX_sheetLength.toInt ≤ ((nX_sheet : Nat) : Int)) (sz : Nat) : Met l yX11_theClauses wsMX11_theClauses_0 ({ frames := 2, cells := 6, slots := 8271, locals := 32 }) (va_Pc [.ref (hX 0)] (fun U => U.heap.size = sz ∧ va_P (dC, dI) vwCl (WX hX aX kX hT hM fX_ready fX_sheet dX_sheet nX_sheet iX_sheetLength xX_reader xX_solver xX_prover xX_values .null xX_nets) U.heap ∧ va_K (dC, dI) vwCl (tX kX ++ (tC kC)) U ∧ va_D (fun _ => True) (WX hX aX kX hT hM fX_ready fX_sheet dX_sheet nX_sheet iX_sheetLength xX_reader xX_solver xX_prover xX_values .null xX_nets) ∧ CE (va_A (WX hX aX kX hT hM fX_ready fX_sheet dX_sheet nX_sheet iX_sheetLength xX_reader xX_solver xX_prover xX_values .null xX_nets) sz) U U.heap)) (va_Qr (fun (u : (Nat → Nat) × (Nat → Nat)) => True) (fun (u : (Nat → Nat) × (Nat → Nat)) ra t => ra = ((u.1) 0) ∧ va_P (dC, dI) vwCl (WX hX aX kX hT hM fX_ready fX_sheet dX_sheet nX_sheet iX_sheetLength xX_reader xX_solver xX_prover xX_values (.ref ((u.1) 0)) xX_nets ++ (WC (u.1) (u.2) kC 0 (fun _ => 0) (fun _ => 0) (fun _ => 0) (fun _ => 0) (fun _ => 0) 0)) t.heap ∧ va_D (va_A (WX hX aX kX hT hM fX_ready fX_sheet dX_sheet nX_sheet iX_sheetLength xX_reader xX_solver xX_prover xX_values .null xX_nets) sz) (WX hX aX kX hT hM fX_ready fX_sheet dX_sheet nX_sheet iX_sheetLength xX_reader xX_solver xX_prover xX_values (.ref ((u.1) 0)) xX_nets ++ (WC (u.1) (u.2) kC 0 (fun _ => 0) (fun _ => 0) (fun _ => 0) (fun _ => 0) (fun _ => 0) 0))) (va_A (WX hX aX kX hT hM fX_ready fX_sheet dX_sheet nX_sheet iX_sheetLength xX_reader xX_solver xX_prover xX_values .null xX_nets) sz)) 6 8271 (va_A (WX hX aX kX hT hM fX_ready fX_sheet dX_sheet nX_sheet iX_sheetLength xX_reader xX_solver xX_prover xX_values .null xX_nets) sz) := by
  refine Met.ofW (cc := cX11_theClauses) (maxL := 1) (ret := (some (.object "OptimaWorks$ClauseDesk"))) (by decide) rfl ?_
  intro p e s m args below meth c s₁ B hml hv
  obtain ⟨rfl, hsz, hP, hK, hD0, hE⟩ := hv
  have hx := B.exec
  have hb := B.bytes
  have hr := B.returns
  have hts := atoms_spec (ws := wsMX11_theClauses_0) B.pre
  have hown : s.vm.findClass RX11 = some m.cls := findClass_of_methodNamed B.named
  have hlocks := B.notSynchronized
  subst hsz
  have hD := hD0.self (sz := s.heap.size)
  generalize hAe : va_A (WX hX aX kX hT hM fX_ready fX_sheet dX_sheet nX_sheet iX_sheetLength xX_reader xX_solver xX_prover xX_values .null xX_nets) s.heap.size = A at hD hE ⊢
  have hA : ∀ q : Nat, s.heap.size ≤ q → A q := fun q h => by rw [← hAe]; exact Or.inr h
  have hS : va_S A s.heap s.heap [] := va_S.rf
  have hl := lv_entry ([.ref (hX 0)]) (n := 1) (Nat.le_of_ble_eq_true rfl)
  rw [lg_entry_eq]
  generalize (lg_sl ([.ref (hX 0)]) ++ List.replicate (1 - (lg_sl ([.ref (hX 0)])).length) Slot.unset).toArray = ls at hl ⊢
  have hl : lv_has ls 1 [(0, .ref (hX 0))] := hl
  refine lv_aload_n hx hb dX11_theClauses_0 rfl (lv_at hl 0 rfl) ?_
  refine va_get (D := (dC, dI)) (ci := 11) (v := .null) (C := RX11) (T := TX11) (N := 11) hx hb hts iwsMX11_theClauses_0_in11 hown hK hP 0 rfl rfl 9 (by decide) (hts _ hm_m_X11_theClauses_0_0) (fun _ h9 => h9) rfl dX11_theClauses_1 ?_
  refine lv_ifnonnullN hx hb dX11_theClauses_4 ?_
  refine lv_aload_n hx hb dX11_theClauses_7 rfl (lv_at hl 0 rfl) ?_
  refine va_new (ci := 0) (fs := [.int 0, .null, .null, .null, .null, .null, .int 0]) (C := RX0) (T := TX0) (N := 7) hx hb hts iwsMX11_theClauses_0_in0 tyX0 tyX0_ok hown (hts (.classLink RX11 390 RX0) (by decide +kernel)) (hts (.instantiable RX0 7) (by decide +kernel)) (hts _ hm_m_X11_theClauses_0_1) hK hP hD hS hA rfl (by decide +kernel) (by decide +kernel) (by decide +kernel) dX11_theClauses_8 (fun qo1 H hP hD hS => ?_)
  obtain ⟨hC, rfl⟩ : ∃ h9 : Nat → Nat, qo1 = h9 0 := ⟨fun _ => qo1, rfl⟩
  have hP : va_P (dC, dI) vwCl (WX hX aX kX hT hM fX_ready fX_sheet dX_sheet nX_sheet iX_sheetLength xX_reader xX_solver xX_prover xX_values .null xX_nets ++ ([(hC 0, .inr (0, [.int 0, .null, .null, .null, .null, .null, .int 0]))])) H := by first | exact hP | (simp only [List.append_assoc] at hP ⊢; exact hP)
  have hD : va_D A (WX hX aX kX hT hM fX_ready fX_sheet dX_sheet nX_sheet iX_sheetLength xX_reader xX_solver xX_prover xX_values .null xX_nets ++ ([(hC 0, .inr (0, [.int 0, .null, .null, .null, .null, .null, .int 0]))])) := by first | exact hD | (simp only [List.append_assoc] at hD ⊢; exact hD)
  refine W.widen (k := 1) (n := 7) (by decide +kernel) (by decide +kernel) ?_
  refine lv_dup hx hb dX11_theClauses_11 rfl ?_
  have p9 : List.Perm (α := Nat × va_E) (WX hX aX kX hT hM fX_ready fX_sheet dX_sheet nX_sheet iX_sheetLength xX_reader xX_solver xX_prover xX_values .null xX_nets ++ ([(hC 0, .inr (0, [.int 0, .null, .null, .null, .null, .null, .int 0]))])) (([(hC 0, .inr (0, [.int 0, .null, .null, .null, .null, .null, .int 0]))]) ++ (WX hX aX kX hT hM fX_ready fX_sheet dX_sheet nX_sheet iX_sheetLength xX_reader xX_solver xX_prover xX_values .null xX_nets)) := (List.perm_append_comm)
  have hPc := hP.mem (fun q h => p9.mem_iff.mpr (List.mem_append_left _ h))
  have hDc := (hD.perm p9).left
  have hKc : va_K (dC, dI) vwCl (tC kC) _ := hK.sub [2, 3, 4, 5, 6] rfl
  have hFc := freeG p9 hD hS hA
  refine va_callv (va_runIN (As := []) (rest := [.ref (hC 0), .ref (hX 0)]) ⟨hx, hb, hml, hown, hts⟩ (k_X0_init l dC dI hC kC H.size) ⟨va_cnB 0 hts gwsMX11_theClauses_0_0 rfl rfl rfl (hE.2.2.1.2.2.2.2.1 (.methodLinkNest RX11 392 yX0_init RX11) (by decide +kernel)) (hts _ hm_m_X11_theClauses_0_1) (by decide +kernel) ⟨by decide +kernel, by decide +kernel⟩, rfl, (hts (.instanceMethod yX0_init) (by decide +kernel))⟩ ⟨fun a U g mk q => by obtain ⟨q0, q1, qP, qK, qD⟩ := q; exact ⟨q0, q1, qP, va_K.moved (u := U) (U := U.calling g mk a) (Vm.Alike.refl U.vm) qK, qD⟩, fun U hU9 hW => ⟨rfl, by rw [hU9], by rw [hU9]; exact hPc, va_K.moved hW.alike hKc, hDc.weaken (fun _ _ _ _ => trivial)⟩⟩ rfl rfl hl.1 rfl (lv_room (Nat.le_of_ble_eq_true rfl)) dX11_theClauses_12 (by decide +kernel)) hS (fun q _ h => hFc q h) hFc (fun u t9_ H1 locs ht hvm hw9 hB9 hz1 hk1 hS => ?_)
  obtain ⟨aC, hwu⟩ : ∃ w9, w9 = u := ⟨u, rfl⟩
  subst hwu
  clear hw9
  revert hB9
  refine fz_a2 ?_
  intro hP1 hD1
  rw [ht] at hP1
  have p8 : List.Perm (α := Nat × va_E) (WX hX aX kX hT hM fX_ready fX_sheet dX_sheet nX_sheet iX_sheetLength xX_reader xX_solver xX_prover xX_values .null xX_nets ++ (WC hC aC kC 0 (fun _ => 0) (fun _ => 0) (fun _ => 0) (fun _ => 0) (fun _ => 0) 0)) ((WC hC aC kC 0 (fun _ => 0) (fun _ => 0) (fun _ => 0) (fun _ => 0) (fun _ => 0) 0) ++ (WX hX aX kX hT hM fX_ready fX_sheet dX_sheet nX_sheet iX_sheetLength xX_reader xX_solver xX_prover xX_values .null xX_nets)) := (List.perm_append_comm)
  obtain ⟨hP, hD⟩ := frameG p9 p8 hP hD hk1 hFc hP1 hD1
  generalize H1 = H at hP hS ⊢
  clear p9 p8 hPc hDc hKc hFc
  have hP : va_P (dC, dI) vwCl (WX hX aX kX hT hM fX_ready fX_sheet dX_sheet nX_sheet iX_sheetLength xX_reader xX_solver xX_prover xX_values .null xX_nets ++ (WC hC aC kC 0 (fun _ => 0) (fun _ => 0) (fun _ => 0) (fun _ => 0) (fun _ => 0) 0)) H := hP
  have hD := fz_sd hP (hD) rfl
  refine W.widen (k := 6) (n := 8271) (by decide +kernel) (by decide +kernel) ?_
  refine va_put (D := (dC, dI)) (ci := 11) (v := .ref (hC 0)) (ty := .object "OptimaWorks$ClauseDesk") (C := RX11) (T := TX11) (N := 11) hx hb hts iwsMX11_theClauses_0_in11 tyX11 tyX11_ok nmX11 hown hK hP hD hS 0 rfl rfl 9 (by decide) (hts _ hm_m_X11_theClauses_0_0) (fun _ h9 => h9) rfl (by decide +kernel) rfl rfl (Nat.le_of_ble_eq_true rfl) dX11_theClauses_15 (fun H locs hP hD hS => ?_)
  have hP : va_P (dC, dI) vwCl (WX hX aX kX hT hM fX_ready fX_sheet dX_sheet nX_sheet iX_sheetLength xX_reader xX_solver xX_prover xX_values (.ref (hC 0)) xX_nets ++ (WC hC aC kC 0 (fun _ => 0) (fun _ => 0) (fun _ => 0) (fun _ => 0) (fun _ => 0) 0)) H := hP
  have hD := fz_sd hP (hD) rfl
  refine lv_aload_n hx hb dX11_theClauses_18 rfl (lv_at hl 0 rfl) ?_
  refine va_get (D := (dC, dI)) (ci := 11) (v := .ref (hC 0)) (C := RX11) (T := TX11) (N := 11) hx hb hts iwsMX11_theClauses_0_in11 hown hK hP 0 rfl rfl 9 (by decide) (hts _ hm_m_X11_theClauses_0_0) (fun _ h9 => h9) rfl dX11_theClauses_19 ?_
  refine W.widen (k := 6) (n := 8271) (by decide +kernel) (by decide +kernel) ?_
  exact W.aret hx hb hr (Or.inl ⟨_, rfl⟩) (Or.inr ⟨_, rfl⟩) (fun t9_ ht hW => ⟨⟨(hC, aC), _, rfl, trivial, rfl, by rw [ht]; exact hP, hD⟩, hS.F ht⟩) hS.2.2 dX11_theClauses_22
theorem dX11_theValues_7 : decode cX11_theValues 7 = .ok (.aload_n 0, 1) := dk_42 (by decide +kernel)
theorem dX11_theValues_8 : decode cX11_theValues 8 = .ok (.new 341, 3) := dk_187 (by decide +kernel)
theorem dX11_theValues_11 : decode cX11_theValues 11 = .ok (.dup, 1) := dk_89 (by decide +kernel)
theorem dX11_theValues_12 : decode cX11_theValues 12 = .ok (.invokespecial 343, 3) := dk_183 (by decide +kernel)
theorem dX11_theValues_15 : decode cX11_theValues 15 = .ok (.putfield 337, 3) := dk_181 (by decide +kernel)
def wsMX11_theValues_0 : List Cond := .code yX11_theValues cX11_theValues 1 (some (.object "OptimaWorks$ValueDesk")) :: ([.fieldLink RX11 337 "OptimaWorks" "values" "LOptimaWorks$ValueDesk;", .classLink RX11 341 RX7, .instantiable RX7 20, .initialized RX7, .instanceMethod yX7_init] ++ wsX70 ++ wsX110 ++ (wsX7_init))
theorem iwsMX11_theValues_0_in7 : ∀ w ∈ wsX70, w ∈ wsMX11_theValues_0 := fun _ h => List.mem_cons_of_mem _ (List.mem_append_left _ (List.mem_append_left _ (List.mem_append_right _ h)))
theorem iwsMX11_theValues_0_in11 : ∀ w ∈ wsX110, w ∈ wsMX11_theValues_0 := fun _ h => List.mem_cons_of_mem _ (List.mem_append_left _ (List.mem_append_right _ h))
theorem gwsMX11_theValues_0_0 : GoodIn wsMX11_theValues_0 (wsX7_init) := goodIn_sub (fun _ h => List.mem_cons_of_mem _ (List.mem_append_right _ h)) (by decide +kernel)
theorem gdwsMX11_theValues_0 : wsMX11_theValues_0.all goodWord = true := gdC rfl (gdA (gdA (gdA (by decide +kernel : ([.fieldLink RX11 337 "OptimaWorks" "values" "LOptimaWorks$ValueDesk;", .classLink RX11 341 RX7, .instantiable RX7 20, .initialized RX7, .instanceMethod yX7_init] : List Cond).all goodWord = true) gdwsX70) gdwsX110) (by decide +kernel))
theorem hm_m_X11_theValues_0_0 : (.fieldLink RX11 337 "OptimaWorks" "values" "LOptimaWorks$ValueDesk;" : Cond) ∈ wsMX11_theValues_0 := by decide +kernel
theorem hm_m_X11_theValues_0_1 : (.initialized RX7 : Cond) ∈ wsMX11_theValues_0 := by decide +kernel
set_option maxHeartbeats 4000000 in
set_option maxRecDepth 100000 in
/-- the desk of values is made -/
theorem m_X11_theValues_0 (l : Launch) (hst : l.stackTraces = false) (dC : Nat → ClassId) (dI : Nat → Nat → Nat) (hX : Nat → Nat) (aX : Nat → Nat) (kX : Nat → ClassId) (hT : Nat → Nat) (hM : Nat → Nat) (fX_ready : Nat → Int32) (fX_sheet : Nat → Int32) (dX_sheet : Nat) (nX_sheet : Nat) (iX_sheetLength : Int32) (xX_reader : Value) (xX_solver : Value) (xX_prover : Value) (xX_clauses : Value) (xX_nets : Value) (kV : Nat → ClassId) (b_fX_sheet : ∀ q : Nat, (-128) ≤ (fX_sheet q).toInt ∧ (fX_sheet q).toInt ≤ 127) (b_nX_sheet : 64 ≤ nX_sheet ∧ nX_sheet ≤ 60000) (b_iX_sheetLength : 0 ≤ iX_sheetLength.toInt ∧ iX_sheetLength.toInt ≤ 30000) (b_shl : iX_sheetLength.toInt ≤ ((nX_sheet : Nat) : Int)) (sz : Nat) : Met l yX11_theValues wsMX11_theValues_0 ({ frames := 2, cells := 15, slots := 1408, locals := 32 }) (va_Pc [.ref (hX 0)] (fun U => U.heap.size = sz ∧ va_P (dC, dI) vwCl (WX hX aX kX hT hM fX_ready fX_sheet dX_sheet nX_sheet iX_sheetLength xX_reader xX_solver xX_prover .null xX_clauses xX_nets) U.heap ∧ va_K (dC, dI) vwCl (tX kX ++ (tV kV)) U ∧ va_D (fun _ => True) (WX hX aX kX hT hM fX_ready fX_sheet dX_sheet nX_sheet iX_sheetLength xX_reader xX_solver xX_prover .null xX_clauses xX_nets) ∧ CE (va_A (WX hX aX kX hT hM fX_ready fX_sheet dX_sheet nX_sheet iX_sheetLength xX_reader xX_solver xX_prover .null xX_clauses xX_nets) sz) U U.heap)) (va_Qr (fun (u : (Nat → Nat) × (Nat → Nat)) => True) (fun (u : (Nat → Nat) × (Nat → Nat)) ra t => ra = ((u.1) 0) ∧ va_P (dC, dI) vwCl (WX hX aX kX hT hM fX_ready fX_sheet dX_sheet nX_sheet iX_sheetLength xX_reader xX_solver xX_prover (.ref ((u.1) 0)) xX_clauses xX_nets ++ (WV (u.1) (u.2) kV 0 0 (fun _ => 0) (fun _ => 0) (fun _ => 0) (fun _ => 0) (fun _ => 0) (fun _ => 0) (fun _ => 0) (fun _ => 0) (fun _ => 0) (-1) 0 (fun _ => 0) (fun _ => 0) (fun _ => 0) (fun _ => 0) (fun _ => 0) ((u.2) 13) 0 0 0)) t.heap ∧ va_D (va_A (WX hX aX kX hT hM fX_ready fX_sheet dX_sheet nX_sheet iX_sheetLength xX_reader xX_solver xX_prover .null xX_clauses xX_nets) sz) (WX hX aX kX hT hM fX_ready fX_sheet dX_sheet nX_sheet iX_sheetLength xX_reader xX_solver xX_prover (.ref ((u.1) 0)) xX_clauses xX_nets ++ (WV (u.1) (u.2) kV 0 0 (fun _ => 0) (fun _ => 0) (fun _ => 0) (fun _ => 0) (fun _ => 0) (fun _ => 0) (fun _ => 0) (fun _ => 0) (fun _ => 0) (-1) 0 (fun _ => 0) (fun _ => 0) (fun _ => 0) (fun _ => 0) (fun _ => 0) ((u.2) 13) 0 0 0))) (va_A (WX hX aX kX hT hM fX_ready fX_sheet dX_sheet nX_sheet iX_sheetLength xX_reader xX_solver xX_prover .null xX_clauses xX_nets) sz)) 15 1408 (va_A (WX hX aX kX hT hM fX_ready fX_sheet dX_sheet nX_sheet iX_sheetLength xX_reader xX_solver xX_prover .null xX_clauses xX_nets) sz) := by
  refine Met.ofW (cc := cX11_theValues) (maxL := 1) (ret := (some (.object "OptimaWorks$ValueDesk"))) (by decide) rfl ?_
  intro p e s m args below meth c s₁ B hml hv
  obtain ⟨rfl, hsz, hP, hK, hD0, hE⟩ := hv
  have hx := B.exec
  have hb := B.bytes
  have hr := B.returns
  have hts := atoms_spec (ws := wsMX11_theValues_0) B.pre
  have hown : s.vm.findClass RX11 = some m.cls := findClass_of_methodNamed B.named
  have hlocks := B.notSynchronized
  subst hsz
  have hD := hD0.self (sz := s.heap.size)
  generalize hAe : va_A (WX hX aX kX hT hM fX_ready fX_sheet dX_sheet nX_sheet iX_sheetLength xX_reader xX_solver xX_prover .null xX_clauses xX_nets) s.heap.size = A at hD hE ⊢
  have hA : ∀ q : Nat, s.heap.size ≤ q → A q := fun q h => by rw [← hAe]; exact Or.inr h
  have hS : va_S A s.heap s.heap [] := va_S.rf
  have hl := lv_entry ([.ref (hX 0)]) (n := 1) (Nat.le_of_ble_eq_true rfl)
  rw [lg_entry_eq]
  generalize (lg_sl ([.ref (hX 0)]) ++ List.replicate (1 - (lg_sl ([.ref (hX 0)])).length) Slot.unset).toArray = ls at hl ⊢
  have hl : lv_has ls 1 [(0, .ref (hX 0))] := hl
  refine lv_aload_n hx hb dX11_theValues_0 rfl (lv_at hl 0 rfl) ?_
  refine va_get (D := (dC, dI)) (ci := 11) (v := .null) (C := RX11) (T := TX11) (N := 11) hx hb hts iwsMX11_theValues_0_in11 hown hK hP 0 rfl rfl 8 (by decide) (hts _ hm_m_X11_theValues_0_0) (fun _ h9 => h9) rfl dX11_theValues_1 ?_
  refine lv_ifnonnullN hx hb dX11_theValues_4 ?_
  refine lv_aload_n hx hb dX11_theValues_7 rfl (lv_at hl 0 rfl) ?_
  refine va_new (ci := 7) (fs := [.int 0, .int 0, .null, .null, .null, .null, .null, .null, .null, .null, .null, .int 0, .int 0, .null, .null, .null, .null, .null, .int 0, .int 0]) (C := RX7) (T := TX7) (N := 20) hx hb hts iwsMX11_theValues_0_in7 tyX7 tyX7_ok hown (hts (.classLink RX11 341 RX7) (by decide +kernel)) (hts (.instantiable RX7 20) (by decide +kernel)) (hts _ hm_m_X11_theValues_0_1) hK hP hD hS hA rfl (by decide +kernel) (by decide +kernel) (by decide +kernel) dX11_theValues_8 (fun qo1 H hP hD hS => ?_)
  obtain ⟨hV, rfl⟩ : ∃ h9 : Nat → Nat, qo1 = h9 0 := ⟨fun _ => qo1, rfl⟩
  have hP : va_P (dC, dI) vwCl (WX hX aX kX hT hM fX_ready fX_sheet dX_sheet nX_sheet iX_sheetLength xX_reader xX_solver xX_prover .null xX_clauses xX_nets ++ ([(hV 0, .inr (7, [.int 0, .int 0, .null, .null, .null, .null, .null, .null, .null, .null, .null, .int 0, .int 0, .null, .null, .null, .null, .null, .int 0, .int 0]))])) H := by first | exact hP | (simp only [List.append_assoc] at hP ⊢; exact hP)
  have hD : va_D A (WX hX aX kX hT hM fX_ready fX_sheet dX_sheet nX_sheet iX_sheetLength xX_reader xX_solver xX_prover .null xX_clauses xX_nets ++ ([(hV 0, .inr (7, [.int 0, .int 0, .null, .null, .null, .null, .null, .null, .null, .null, .null, .int 0, .int 0, .null, .null, .null, .null, .null, .int 0, .int 0]))])) := by first | exact hD | (simp only [List.append_assoc] at hD ⊢; exact hD)
  refine W.widen (k := 1) (n := 20) (by decide +kernel) (by decide +kernel) ?_
  refine lv_dup hx hb dX11_theValues_11 rfl ?_
  have p9 : List.Perm (α := Nat × va_E) (WX hX aX kX hT hM fX_ready fX_sheet dX_sheet nX_sheet iX_sheetLength xX_reader xX_solver xX_prover .null xX_clauses xX_nets ++ ([(hV 0, .inr (7, [.int 0, .int 0, .null, .null, .null, .null, .null, .null, .null, .null, .null, .int 0, .int 0, .null, .null, .null, .null, .null, .int 0, .int 0]))])) (([(hV 0, .inr (7, [.int 0, .int 0, .null, .null, .null, .null, .null, .null, .null, .null, .null, .int 0, .int 0, .null, .null, .null, .null, .null, .int 0, .int 0]))]) ++ (WX hX aX kX hT hM fX_ready fX_sheet dX_sheet nX_sheet iX_sheetLength xX_reader xX_solver xX_prover .null xX_clauses xX_nets)) := (List.perm_append_comm)
  have hPc := hP.mem (fun q h => p9.mem_iff.mpr (List.mem_append_left _ h))
  have hDc := (hD.perm p9).left
  have hKc : va_K (dC, dI) vwCl (tV kV) _ := hK.sub [2, 3, 4, 5, 6, 7, 8, 9, 10, 11, 12, 13, 14, 15] rfl
  have hFc := freeG p9 hD hS hA
  refine va_callv (va_runIN (As := []) (rest := [.ref (hV 0), .ref (hX 0)]) ⟨hx, hb, hml, hown, hts⟩ (k_X7_init l dC dI hV kV H.size) ⟨va_cnB 0 hts gwsMX11_theValues_0_0 rfl rfl rfl (hE.2.2.1.2.2.2.2.1 (.methodLinkNest RX11 343 yX7_init RX11) (by decide +kernel)) (hts _ hm_m_X11_theValues_0_1) (by decide +kernel) ⟨by decide +kernel, by decide +kernel⟩, rfl, (hts (.instanceMethod yX7_init) (by decide +kernel))⟩ ⟨fun a U g mk q => by obtain ⟨q0, q1, qP, qK, qD⟩ := q; exact ⟨q0, q1, qP, va_K.moved (u := U) (U := U.calling g mk a) (Vm.Alike.refl U.vm) qK, qD⟩, fun U hU9 hW => ⟨rfl, by rw [hU9], by rw [hU9]; exact hPc, va_K.moved hW.alike hKc, hDc.weaken (fun _ _ _ _ => trivial)⟩⟩ rfl rfl hl.1 rfl (lv_room (Nat.le_of_ble_eq_true rfl)) dX11_theValues_12 (by decide +kernel)) hS (fun q _ h => hFc q h) hFc (fun u t9_ H1 locs ht hvm hw9 hB9 hz1 hk1 hS => ?_)
  obtain ⟨aV, hwu⟩ : ∃ w9, w9 = u := ⟨u, rfl⟩
  subst hwu
  clear hw9
  revert hB9
  refine fz_a2 ?_
  intro hP1 hD1
  rw [ht] at hP1
  have p8 : List.Perm (α := Nat × va_E) (WX hX aX kX hT hM fX_ready fX_sheet dX_sheet nX_sheet iX_sheetLength xX_reader xX_solver xX_prover .null xX_clauses xX_nets ++ (WV hV aV kV 0 0 (fun _ => 0) (fun _ => 0) (fun _ => 0) (fun _ => 0) (fun _ => 0) (fun _ => 0) (fun _ => 0) (fun _ => 0) (fun _ => 0) (-1) 0 (fun _ => 0) (fun _ => 0) (fun _ => 0) (fun _ => 0) (fun _ => 0) (aV 13) 0 0 0)) ((WV hV aV kV 0 0 (fun _ => 0) (fun _ => 0) (fun _ => 0) (fun _ => 0) (fun _ => 0) (fun _ => 0) (fun _ => 0) (fun _ => 0) (fun _ => 0) (-1) 0 (fun _ => 0) (fun _ => 0) (fun _ => 0) (fun _ => 0) (fun _ => 0) (aV 13) 0 0 0) ++ (WX hX aX kX hT hM fX_ready fX_sheet dX_sheet nX_sheet iX_sheetLength xX_reader xX_solver xX_prover .null xX_clauses xX_nets)) := (List.perm_append_comm)
  obtain ⟨hP, hD⟩ := frameG p9 p8 hP hD hk1 hFc hP1 hD1
  generalize H1 = H at hP hS ⊢
  clear p9 p8 hPc hDc hKc hFc
  have hP : va_P (dC, dI) vwCl (WX hX aX kX hT hM fX_ready fX_sheet dX_sheet nX_sheet iX_sheetLength xX_reader xX_solver xX_prover .null xX_clauses xX_nets ++ (WV hV aV kV 0 0 (fun _ => 0) (fun _ => 0) (fun _ => 0) (fun _ => 0) (fun _ => 0) (fun _ => 0) (fun _ => 0) (fun _ => 0) (fun _ => 0) (-1) 0 (fun _ => 0) (fun _ => 0) (fun _ => 0) (fun _ => 0) (fun _ => 0) (aV 13) 0 0 0)) H := hP
  have hD := fz_sd hP (hD) rfl
  refine W.widen (k := 15) (n := 1408) (by decide +kernel) (by decide +kernel) ?_
  refine va_put (D := (dC, dI)) (ci := 11) (v := .ref (hV 0)) (ty := .object "OptimaWorks$ValueDesk") (C := RX11) (T := TX11) (N := 11) hx hb hts iwsMX11_theValues_0_in11 tyX11 tyX11_ok nmX11 hown hK hP hD hS 0 rfl rfl 8 (by decide) (hts _ hm_m_X11_theValues_0_0) (fun _ h9 => h9) rfl (by decide +kernel) rfl rfl (Nat.le_of_ble_eq_true rfl) dX11_theValues_15 (fun H locs hP hD hS => ?_)
  have hP : va_P (dC, dI) vwCl (WX hX aX kX hT hM fX_ready fX_sheet dX_sheet nX_sheet iX_sheetLength xX_reader xX_solver xX_prover (.ref (hV 0)) xX_clauses xX_nets ++ (WV hV aV kV 0 0 (fun _ => 0) (fun _ => 0) (fun _ => 0) (fun _ => 0) (fun _ => 0) (fun _ => 0) (fun _ => 0) (fun _ => 0) (fun _ => 0) (-1) 0 (fun _ => 0) (fun _ => 0) (fun _ => 0) (fun _ => 0) (fun _ => 0) (aV 13) 0 0 0)) H := hP
  have hD := fz_sd hP (hD) rfl
  refine lv_aload_n hx hb dX11_theValues_18 rfl (lv_at hl 0 rfl) ?_
  refine va_get (D := (dC, dI)) (ci := 11) (v := .ref (hV 0)) (C := RX11) (T := TX11) (N := 11) hx hb hts iwsMX11_theValues_0_in11 hown hK hP 0 rfl rfl 8 (by decide) (hts _ hm_m_X11_theValues_0_0) (fun _ h9 => h9) rfl dX11_theValues_19 ?_
  refine W.widen (k := 15) (n := 1408) (by decide +kernel) (by decide +kernel) ?_
  exact W.aret hx hb hr (Or.inl ⟨_, rfl⟩) (Or.inr ⟨_, rfl⟩) (fun t9_ ht hW => ⟨⟨(hV, aV), _, rfl, trivial, rfl, by rw [ht]; exact hP, hD⟩, hS.F ht⟩) hS.2.2 dX11_theValues_22
def wsMX11_arc_0 : List Cond := .code yX11_arc cX11_arc 6 (some .int) :: ([.classLink RX11 77 "java/lang/IllegalArgumentException", .initialized "java/lang/IllegalArgumentException", .fieldLink RX11 429 "OptimaWorks$NetDesk" "arcs" "I", .fieldLink RX11 415 "OptimaWorks" "nets" "LOptimaWorks$NetDesk;"] ++ wsX20 ++ wsX110 ++ (va_wsS RX11 422 yX11_isNode wsMX11_isNode) ++ ((vx_at0 RX11 79 "java/lang/IllegalArgumentException" ["java/lang/RuntimeException", "java/lang/Exception"]).filter goodWord) ++ (wsV RX11 425 RX11 yX11_theNets wsMX11_theNets_0) ++ (wsV RX11 432 RX2 yX2_addArc wsMX2_addArc))
theorem iwsMX11_arc_0_in2 : ∀ w ∈ wsX20, w ∈ wsMX11_arc_0 := fun _ h => List.mem_cons_of_mem _ (List.mem_append_left _ (List.mem_append_left _ (List.mem_append_left _ (List.mem_append_left _ (List.mem_append_left _ (List.mem_append_right _ h))))))
theorem iwsMX11_arc_0_in11 : ∀ w ∈ wsX110, w ∈ wsMX11_arc_0 := fun _ h => List.mem_cons_of_mem _ (List.mem_append_left _ (List.mem_append_left _ (List.mem_append_left _ (List.mem_append_left _ (List.mem_append_right _ h)))))
theorem gwsMX11_arc_0_0 : GoodIn wsMX11_arc_0 (va_wsS RX11 422 yX11_isNode wsMX11_isNode) := goodIn_sub (fun _ h => List.mem_cons_of_mem _ (List.mem_append_left _ (List.mem_append_left _ (List.mem_append_left _ (List.mem_append_right _ h))))) (gdS (by decide +kernel) gdwsMX11_isNode)
theorem gwsMX11_arc_0_2 : GoodIn wsMX11_arc_0 (wsV RX11 425 RX11 yX11_theNets wsMX11_theNets_0) := goodIn_sub (fun _ h => List.mem_cons_of_mem _ (List.mem_append_left _ (List.mem_append_right _ h))) (gdV (by decide +kernel) gdwsMX11_theNets_0)
theorem gwsMX11_arc_0_3 : GoodIn wsMX11_arc_0 (wsV RX11 432 RX2 yX2_addArc wsMX2_addArc) := goodIn_sub (fun _ h => List.mem_cons_of_mem _ (List.mem_append_right _ h)) (gdV (by decide +kernel) gdwsMX2_addArc)
theorem gdwsMX11_arc_0 : wsMX11_arc_0.all goodWord = true := gdC rfl (gdA (gdA (gdA (gdA (gdA (gdA (by decide +kernel : ([.classLink RX11 77 "java/lang/IllegalArgumentException", .initialized "java/lang/IllegalArgumentException", .fieldLink RX11 429 "OptimaWorks$NetDesk" "arcs" "I", .fieldLink RX11 415 "OptimaWorks" "nets" "LOptimaWorks$NetDesk;"] : List Cond).all goodWord = true) gdwsX20) gdwsX110) (gdS (by decide +kernel) gdwsMX11_isNode)) (gdF _)) (gdV (by decide +kernel) gdwsMX11_theNets_0)) (gdV (by decide +kernel) gdwsMX2_addArc))
theorem hm_m_X11_arc_0_0 : (.classLink RX11 77 "java/lang/IllegalArgumentException" : Cond) ∈ wsMX11_arc_0 := by decide +kernel
theorem hm_m_X11_arc_0_1 : (.initialized "java/lang/IllegalArgumentException" : Cond) ∈ wsMX11_arc_0 := by decide +kernel
set_option maxHeartbeats 4000000 in
set_option maxRecDepth 100000 in
/-- an arc -/
theorem m_X11_arc_0 (l : Launch) (hst : l.stackTraces = false) (dC : Nat → ClassId) (dI : Nat → Nat → Nat) (hX : Nat → Nat) (aX : Nat → Nat) (kX : Nat → ClassId) (hT : Nat → Nat) (hM : Nat → Nat) (fX_ready : Nat → Int32) (fX_sheet : Nat → Int32) (dX_sheet : Nat) (nX_sheet : Nat) (iX_sheetLength : Int32) (xX_reader : Value) (xX_solver : Value) (xX_prover : Value) (xX_values : Value) (xX_clauses : Value) (kN : Nat → ClassId) (p1 : Int32) (p2 : Int32) (p3 : Int32) (p4 : Int32) (b_fX_sheet : ∀ q : Nat, (-128) ≤ (fX_sheet q).toInt ∧ (fX_sheet q).toInt ≤ 127) (b_nX_sheet : 64 ≤ nX_sheet ∧ nX_sheet ≤ 60000) (b_iX_sheetLength : 0 ≤ iX_sheetLength.toInt ∧ iX_sheetLength.toInt ≤ 30000) (b_shl : iX_sheetLength.toInt ≤ ((nX_sheet : Nat) : Int)) (sz : Nat) : vx_Met l yX11_arc wsMX11_arc_0 ({ frames := 6, cells := 13, slots := 1484, locals := 81 }) (va_Pc [.ref (hX 0), .int p1, .int p2, .int p3, .int p4] (fun U => U.heap.size = sz ∧ va_P (dC, dI) vwCl (WX hX aX kX hT hM fX_ready fX_sheet dX_sheet nX_sheet iX_sheetLength xX_reader xX_solver xX_prover xX_values xX_clauses .null) U.heap ∧ va_K (dC, dI) vwCl (tX kX ++ (tN kN)) U ∧ va_D (fun _ => True) (WX hX aX kX hT hM fX_ready fX_sheet dX_sheet nX_sheet iX_sheetLength xX_reader xX_solver xX_prover xX_values xX_clauses .null) ∧ CE (va_A (WX hX aX kX hT hM fX_ready fX_sheet dX_sheet nX_sheet iX_sheetLength xX_reader xX_solver xX_prover xX_values xX_clauses .null) sz) U U.heap)) (va_Qi (fun (r : Int32) (u : (Value) × (va_W)) => (r.toInt = 0) ∧ ((0 ≤ p1.toInt ∧ p1.toInt ≤ 11 ∧ 0 ≤ p2.toInt ∧ p2.toInt ≤ 11 ∧ p1.toInt ≠ p2.toInt ∧ 0 ≤ p3.toInt ∧ p3.toInt ≤ 1000 ∧ 0 ≤ p4.toInt ∧ p4.toInt ≤ 1000)) ∧ (NetO kN (ntAdd ntZ p1 p2 p3 p4) (u.1) (u.2))) (fun (u : (Value) × (va_W)) t => va_P (dC, dI) vwCl (WX hX aX kX hT hM fX_ready fX_sheet dX_sheet nX_sheet iX_sheetLength xX_reader xX_solver xX_prover xX_values xX_clauses (u.1) ++ ((u.2))) t.heap ∧ va_D (va_A (WX hX aX kX hT hM fX_ready fX_sheet dX_sheet nX_sheet iX_sheetLength xX_reader xX_solver xX_prover xX_values xX_clauses .null) sz) (WX hX aX kX hT hM fX_ready fX_sheet dX_sheet nX_sheet iX_sheetLength xX_reader xX_solver xX_prover xX_values xX_clauses (u.1) ++ ((u.2)))) (va_A (WX hX aX kX hT hM fX_ready fX_sheet dX_sheet nX_sheet iX_sheetLength xX_reader xX_solver xX_prover xX_values xX_clauses .null) sz)) (vx_X (fun (u : (Value) × (va_W)) => (NetO kN ntZ (u.1) (u.2))) (fun E (u : (Value) × (va_W)) t => ((E = "java/lang/IllegalArgumentException" ∧ (¬ (0 ≤ p1.toInt ∧ p1.toInt ≤ 11 ∧ 0 ≤ p2.toInt ∧ p2.toInt ≤ 11 ∧ p1.toInt ≠ p2.toInt ∧ 0 ≤ p3.toInt ∧ p3.toInt ≤ 1000 ∧ 0 ≤ p4.toInt ∧ p4.toInt ≤ 1000)))) ∧ va_P (dC, dI) vwCl (WX hX aX kX hT hM fX_ready fX_sheet dX_sheet nX_sheet iX_sheetLength xX_reader xX_solver xX_prover xX_values xX_clauses (u.1) ++ ((u.2))) t.heap ∧ va_D (va_A (WX hX aX kX hT hM fX_ready fX_sheet dX_sheet nX_sheet iX_sheetLength xX_reader xX_solver xX_prover xX_values xX_clauses .null) sz) (WX hX aX kX hT hM fX_ready fX_sheet dX_sheet nX_sheet iX_sheetLength xX_reader xX_solver xX_prover xX_values xX_clauses (u.1) ++ ((u.2)))) (va_A (WX hX aX kX hT hM fX_ready fX_sheet dX_sheet nX_sheet iX_sheetLength xX_reader xX_solver xX_prover xX_values xX_clauses .null) sz)) 13 1484 (va_A (WX hX aX kX hT hM fX_ready fX_sheet dX_sheet nX_sheet iX_sheetLength xX_reader xX_solver xX_prover xX_values xX_clauses .null) sz) := by
  refine vx_ofW (cc := cX11_arc) (maxL := 6) (ret := (some .int)) (by decide) rfl ?_
  intro p e s m args below meth c s₁ B hml htab hv
  obtain ⟨rfl, hsz, hP, hK, hD0, hE⟩ := hv
  have hx := B.exec
  have hb := B.bytes
  have hr := B.returns
  have hts := atoms_spec (ws := wsMX11_arc_0) B.pre
  have hown : s.vm.findClass RX11 = some m.cls := findClass_of_methodNamed B.named
  have hlocks := B.notSynchronized
  subst hsz
  have hD := hD0.self (sz := s.heap.size)
  generalize hAe : va_A (WX hX aX kX hT hM fX_ready fX_sheet dX_sheet nX_sheet iX_sheetLength xX_reader xX_solver xX_prover xX_values xX_clauses .null) s.heap.size = A at hD hE ⊢
  have hA : ∀ q : Nat, s.heap.size ≤ q → A q := fun q h => by rw [← hAe]; exact Or.inr h
  have hS : va_S A s.heap s.heap [] := va_S.rf
  have hl := lv_entry ([.ref (hX 0), .int p1, .int p2, .int p3, .int p4]) (n := 6) (Nat.le_of_ble_eq_true rfl)
  rw [lg_entry_eq]
  generalize (lg_sl ([.ref (hX 0), .int p1, .int p2, .int p3, .int p4]) ++ List.replicate (6 - (lg_sl ([.ref (hX 0), .int p1, .int p2, .int p3, .int p4])).length) Slot.unset).toArray = ls at hl ⊢
  have hl : lv_has ls 6 [(0, .ref (hX 0)), (1, .int p1), (2, .int p2), (3, .int p3), (4, .int p4)] := hl
  refine lv_iload_n hx hb dX11_arc_0 rfl (lv_at hl 3 rfl) ?_
  refine W.cut (pc := 29) (fun H locs ls stk => ∃ (k0_j2 : Int32), (0 ≤ k0_j2.toInt ∧ k0_j2.toInt ≤ 1) ∧ ((k0_j2.toInt = 1 ∧ (0 ≤ p3.toInt ∧ p3.toInt ≤ 1000 ∧ 0 ≤ p4.toInt ∧ p4.toInt ≤ 1000)) ∨ (k0_j2.toInt = 0 ∧ ¬ (0 ≤ p3.toInt ∧ p3.toInt ≤ 1000 ∧ 0 ≤ p4.toInt ∧ p4.toInt ≤ 1000))) ∧  stk = [.int k0_j2] ∧ va_P (dC, dI) vwCl (WX hX aX kX hT hM fX_ready fX_sheet dX_sheet nX_sheet iX_sheetLength xX_reader xX_solver xX_prover xX_values xX_clauses .null) H ∧ va_D A (WX hX aX kX hT hM fX_ready fX_sheet dX_sheet nX_sheet iX_sheetLength xX_reader xX_solver xX_prover xX_values xX_clauses .null) ∧ va_S A s.heap H locs ∧ lv_has ls 6 [(0, .ref (hX 0)), (1, .int p1), (2, .int p2), (3, .int p3), (4, .int p4)]) (fun join2 => ?_) ?_
  · refine lv_if_lt (tgt := 28) hx hb dX11_arc_1 (by decide) (fun c_1 => ?_) (fun c_1 => ?_)
    · have t_1 : p3.toInt < 0 := toI_lt c_1 rfl (by decide : (0 : Int32).toInt = 0)
      refine lv_iconst (v := 0) hx hb dX11_arc_28 (by decide) ?_
      have hl : lv_has _ _ ([(0, .ref (hX 0)), (1, .int p1), (2, .int p2), (3, .int p3), (4, .int p4)]) := lv_sub hl [0, 1, 2, 3, 4] rfl
      exact join2 _ _ _ _ ⟨0, (show 0 ≤ (0 : Int32).toInt ∧ (0 : Int32).toInt ≤ 1 from by decide), (show ((0 : Int32).toInt = 1 ∧ (0 ≤ p3.toInt ∧ p3.toInt ≤ 1000 ∧ 0 ≤ p4.toInt ∧ p4.toInt ≤ 1000)) ∨ ((0 : Int32).toInt = 0 ∧ ¬ (0 ≤ p3.toInt ∧ p3.toInt ≤ 1000 ∧ 0 ≤ p4.toInt ∧ p4.toInt ≤ 1000)) from by first | exact Or.inl ⟨by decide, by omega⟩ | exact Or.inr ⟨by decide, by omega⟩), rfl, hP, hD, hS, hl⟩
    · have t_1 : ¬ p3.toInt < 0 := toI_nlt c_1 rfl (by decide : (0 : Int32).toInt = 0)
      refine lv_iload_n hx hb dX11_arc_4 rfl (lv_at hl 3 rfl) ?_
      refine lv_sipush (v := 1000) hx hb dX11_arc_5 (by decide) ?_
      refine lv_icmp_gt (tgt := 28) hx hb dX11_arc_8 (by decide) (fun c_8 => ?_) (fun c_8 => ?_)
      · have t_8 : p3.toInt > 1000 := toI_gt c_8 rfl (by decide : (1000 : Int32).toInt = 1000)
        refine lv_iconst (v := 0) hx hb dX11_arc_28 (by decide) ?_
        have hl : lv_has _ _ ([(0, .ref (hX 0)), (1, .int p1), (2, .int p2), (3, .int p3), (4, .int p4)]) := lv_sub hl [0, 1, 2, 3, 4] rfl
        exact join2 _ _ _ _ ⟨0, (show 0 ≤ (0 : Int32).toInt ∧ (0 : Int32).toInt ≤ 1 from by decide), (show ((0 : Int32).toInt = 1 ∧ (0 ≤ p3.toInt ∧ p3.toInt ≤ 1000 ∧ 0 ≤ p4.toInt ∧ p4.toInt ≤ 1000)) ∨ ((0 : Int32).toInt = 0 ∧ ¬ (0 ≤ p3.toInt ∧ p3.toInt ≤ 1000 ∧ 0 ≤ p4.toInt ∧ p4.toInt ≤ 1000)) from by first | exact Or.inl ⟨by decide, by omega⟩ | exact Or.inr ⟨by decide, by omega⟩), rfl, hP, hD, hS, hl⟩
      · have t_8 : ¬ p3.toInt > 1000 := toI_ngt c_8 rfl (by decide : (1000 : Int32).toInt = 1000)
        refine lv_iload hx hb dX11_arc_11 (lv_at hl 4 rfl) ?_
        refine lv_if_lt (tgt := 28) hx hb dX11_arc_13 (by decide) (fun c_13 => ?_) (fun c_13 => ?_)
        · have t_13 : p4.toInt < 0 := toI_lt c_13 rfl (by decide : (0 : Int32).toInt = 0)
          refine lv_iconst (v := 0) hx hb dX11_arc_28 (by decide) ?_
          have hl : lv_has _ _ ([(0, .ref (hX 0)), (1, .int p1), (2, .int p2), (3, .int p3), (4, .int p4)]) := lv_sub hl [0, 1, 2, 3, 4] rfl
          exact join2 _ _ _ _ ⟨0, (show 0 ≤ (0 : Int32).toInt ∧ (0 : Int32).toInt ≤ 1 from by decide), (show ((0 : Int32).toInt = 1 ∧ (0 ≤ p3.toInt ∧ p3.toInt ≤ 1000 ∧ 0 ≤ p4.toInt ∧ p4.toInt ≤ 1000)) ∨ ((0 : Int32).toInt = 0 ∧ ¬ (0 ≤ p3.toInt ∧ p3.toInt ≤ 1000 ∧ 0 ≤ p4.toInt ∧ p4.toInt ≤ 1000)) from by first | exact Or.inl ⟨by decide, by omega⟩ | exact Or.inr ⟨by decide, by omega⟩), rfl, hP, hD, hS, hl⟩
        · have t_13 : ¬ p4.toInt < 0 := toI_nlt c_13 rfl (by decide : (0 : Int32).toInt = 0)
          refine lv_iload hx hb dX11_arc_16 (lv_at hl 4 rfl) ?_
          refine lv_sipush (v := 1000) hx hb dX11_arc_18 (by decide) ?_
          refine lv_icmp_gt (tgt := 28) hx hb dX11_arc_21 (by decide) (fun c_21 => ?_) (fun c_21 => ?_)
          · have t_21 : p4.toInt > 1000 := toI_gt c_21 rfl (by decide : (1000 : Int32).toInt = 1000)
            refine lv_iconst (v := 0) hx hb dX11_arc_28 (by decide) ?_
            have hl : lv_has _ _ ([(0, .ref (hX 0)), (1, .int p1), (2, .int p2), (3, .int p3), (4, .int p4)]) := lv_sub hl [0, 1, 2, 3, 4] rfl
            exact join2 _ _ _ _ ⟨0, (show 0 ≤ (0 : Int32).toInt ∧ (0 : Int32).toInt ≤ 1 from by decide), (show ((0 : Int32).toInt = 1 ∧ (0 ≤ p3.toInt ∧ p3.toInt ≤ 1000 ∧ 0 ≤ p4.toInt ∧ p4.toInt ≤ 1000)) ∨ ((0 : Int32).toInt = 0 ∧ ¬ (0 ≤ p3.toInt ∧ p3.toInt ≤ 1000 ∧ 0 ≤ p4.toInt ∧ p4.toInt ≤ 1000)) from by first | exact Or.inl ⟨by decide, by omega⟩ | exact Or.inr ⟨by decide, by omega⟩), rfl, hP, hD, hS, hl⟩
          · have t_21 : ¬ p4.toInt > 1000 := toI_ngt c_21 rfl (by decide : (1000 : Int32).toInt = 1000)
            refine lv_iconst (v := 1) hx hb dX11_arc_24 (by decide) ?_
            refine lv_goto (tgt := 29) hx hb dX11_arc_25 (by decide) ?_
            have hl : lv_has _ _ ([(0, .ref (hX 0)), (1, .int p1), (2, .int p2), (3, .int p3), (4, .int p4)]) := lv_sub hl [0, 1, 2, 3, 4] rfl
            exact join2 _ _ _ _ ⟨1, (show 0 ≤ (1 : Int32).toInt ∧ (1 : Int32).toInt ≤ 1 from by decide), (show ((1 : Int32).toInt = 1 ∧ (0 ≤ p3.toInt ∧ p3.toInt ≤ 1000 ∧ 0 ≤ p4.toInt ∧ p4.toInt ≤ 1000)) ∨ ((1 : Int32).toInt = 0 ∧ ¬ (0 ≤ p3.toInt ∧ p3.toInt ≤ 1000 ∧ 0 ≤ p4.toInt ∧ p4.toInt ≤ 1000)) from by first | exact Or.inl ⟨by decide, by omega⟩ | exact Or.inr ⟨by decide, by omega⟩), rfl, hP, hD, hS, hl⟩
  · rintro H locs ls stk ⟨k0_j2, b_k0_j2, hlen, rfl, hP, hD, hS, hl⟩
    refine lv_istore hx hb dX11_arc_29 hl (by decide) rfl (fun ls (hl : lv_has ls _ ([(5, .int k0_j2), (0, .ref (hX 0)), (1, .int p1), (2, .int p2), (3, .int p3), (4, .int p4)])) => ?_)
    refine lv_iload_n hx hb dX11_arc_31 rfl (lv_at hl 2 rfl) ?_
    have hFc := noneFree hS hA
    refine va_calli (va_runS (As := [.int p1]) (rest := []) ⟨hx, hb, hml, hown, hts⟩ (m_X11_isNode l dC dI p1 H.size) (va_cwS 1 hts gwsMX11_arc_0_0 rfl rfl rfl (by decide +kernel) ⟨by decide +kernel, by decide +kernel⟩) ⟨fun a U g mk q => by obtain ⟨q0, q1, qP, qK, qD⟩ := q; exact ⟨q0, q1, qP, va_K.moved (u := U) (U := U.calling g mk a) (Vm.Alike.refl U.vm) qK, qD⟩, fun U hU9 hW => ⟨rfl, by rw [hU9], by rw [hU9]; exact nilP, va_K.moved hW.alike (hK.sub (tys' := []) [] rfl), nilD⟩⟩ rfl rfl hl.1 rfl (lv_room (Nat.le_of_ble_eq_true rfl)) dX11_arc_32 (by decide +kernel)) hS (fun q _ h => hFc q h) hFc (fun r1 u t9_ H1 locs ht hvm hw9 hB9 hz1 hk1 hS => ?_)
    revert hw9
    refine fz_a3 ?_
    intro b_r1 f1_0 f1_1
    clear hB9
    have hP := keepAll hP hk1
    generalize H1 = H at hP hS ⊢
    have hP : va_P (dC, dI) vwCl (WX hX aX kX hT hM fX_ready fX_sheet dX_sheet nX_sheet iX_sheetLength xX_reader xX_solver xX_prover xX_values xX_clauses .null) H := hP
    have hD := fz_sd hP (hD) rfl
    have hn1 := f1_0
    have hy1 := f1_1
    refine lv_if_eq (tgt := 55) hx hb dX11_arc_35 (by decide) (fun c_35 => ?_) (fun c_35 => ?_)
    · have t_35 : r1.toInt = 0 := toI_eq c_35 rfl (by decide : (0 : Int32).toInt = 0)
      exact vx_throw0 (own := RX11) (cls := "java/lang/IllegalArgumentException") (names := ["java/lang/RuntimeException", "java/lang/Exception"]) (ik := 77) (ic := 79) (A := A) hx hb hst hown (by decide +kernel) (by decide +kernel) (hts _ hm_m_X11_arc_0_0) (hts _ hm_m_X11_arc_0_1) (vx_hat (B := ngX11_79) (fun w h => hts w (List.mem_cons_of_mem _ (List.mem_append_left _ (List.mem_append_left _ (List.mem_append_right _ h))))) (fun _ h => h) (fun w h => va_Nw.use (ngX11_79_ot w h) (hE.2.2.1.2.2.1 w h))) (by decide +kernel) hE.2.1.1 hE.2.1.2 hS (by rw [hml]; exact hl.1) dX11_arc_55 dX11_arc_58 dX11_arc_59 dX11_arc_62 (fun x hx9 => (htab x hx9).elim) (by decide +kernel) (Nat.le_of_ble_eq_true rfl) (by decide +kernel) (by decide +kernel) hlocks (fun t hvm hz hk => ⟨(.null, ([])), (by (try dsimp only); exact Or.inl ⟨rfl, rfl, rfl⟩), ⟨⟨rfl, by omega⟩, by first | exact hP.kept (fun k q h => hk q.1 ((hP k q h).lt)) | (simp only [List.append_nil]; exact hP.kept (fun k q h => hk q.1 ((hP k q h).lt))), by first | exact hD | (simp only [List.append_nil]; exact hD)⟩, ⟨Nat.le_trans hS.1 hz, fun q h1 h2 => (hk q (Nat.lt_of_lt_of_le h1 hS.1)).trans (hS.2.1 q h1 h2)⟩⟩) hS.2.2 (by decide +kernel) (by decide +kernel)
    · have t_35 : ¬ r1.toInt = 0 := toI_neq c_35 rfl (by decide : (0 : Int32).toInt = 0)
      refine lv_iload_n hx hb dX11_arc_38 rfl (lv_at hl 3 rfl) ?_
      have hFc := noneFree hS hA
      refine va_calli (va_runS (As := [.int p2]) (rest := []) ⟨hx, hb, hml, hown, hts⟩ (m_X11_isNode l dC dI p2 H.size) (va_cwS 1 hts gwsMX11_arc_0_0 rfl rfl rfl (by decide +kernel) ⟨by decide +kernel, by decide +kernel⟩) ⟨fun a U g mk q => by obtain ⟨q0, q1, qP, qK, qD⟩ := q; exact ⟨q0, q1, qP, va_K.moved (u := U) (U := U.calling g mk a) (Vm.Alike.refl U.vm) qK, qD⟩, fun U hU9 hW => ⟨rfl, by rw [hU9], by rw [hU9]; exact nilP, va_K.moved hW.alike (hK.sub (tys' := []) [] rfl), nilD⟩⟩ rfl rfl hl.1 rfl (lv_room (Nat.le_of_ble_eq_true rfl)) dX11_arc_39 (by decide +kernel)) hS (fun q _ h => hFc q h) hFc (fun r2 u t9_ H1 locs ht hvm hw9 hB9 hz1 hk1 hS => ?_)
      revert hw9
      refine fz_a3 ?_
      intro b_r2 f2_0 f2_1
      clear hB9
      have hP := keepAll hP hk1
      generalize H1 = H at hP hS ⊢
      have hP : va_P (dC, dI) vwCl (WX hX aX kX hT hM fX_ready fX_sheet dX_sheet nX_sheet iX_sheetLength xX_reader xX_solver xX_prover xX_values xX_clauses .null) H := hP
      have hD := fz_sd hP (hD) rfl
      have hn2 := f2_0
      have hy2 := f2_1
      refine lv_if_eq (tgt := 55) hx hb dX11_arc_42 (by decide) (fun c_42 => ?_) (fun c_42 => ?_)
      · have t_42 : r2.toInt = 0 := toI_eq c_42 rfl (by decide : (0 : Int32).toInt = 0)
        exact vx_throw0 (own := RX11) (cls := "java/lang/IllegalArgumentException") (names := ["java/lang/RuntimeException", "java/lang/Exception"]) (ik := 77) (ic := 79) (A := A) hx hb hst hown (by decide +kernel) (by decide +kernel) (hts _ hm_m_X11_arc_0_0) (hts _ hm_m_X11_arc_0_1) (vx_hat (B := ngX11_79) (fun w h => hts w (List.mem_cons_of_mem _ (List.mem_append_left _ (List.mem_append_left _ (List.mem_append_right _ h))))) (fun _ h => h) (fun w h => va_Nw.use (ngX11_79_ot w h) (hE.2.2.1.2.2.1 w h))) (by decide +kernel) hE.2.1.1 hE.2.1.2 hS (by rw [hml]; exact hl.1) dX11_arc_55 dX11_arc_58 dX11_arc_59 dX11_arc_62 (fun x hx9 => (htab x hx9).elim) (by decide +kernel) (Nat.le_of_ble_eq_true rfl) (by decide +kernel) (by decide +kernel) hlocks (fun t hvm hz hk => ⟨(.null, ([])), (by (try dsimp only); exact Or.inl ⟨rfl, rfl, rfl⟩), ⟨⟨rfl, by omega⟩, by first | exact hP.kept (fun k q h => hk q.1 ((hP k q h).lt)) | (simp only [List.append_nil]; exact hP.kept (fun k q h => hk q.1 ((hP k q h).lt))), by first | exact hD | (simp only [List.append_nil]; exact hD)⟩, ⟨Nat.le_trans hS.1 hz, fun q h1 h2 => (hk q (Nat.lt_of_lt_of_le h1 hS.1)).trans (hS.2.1 q h1 h2)⟩⟩) hS.2.2 (by decide +kernel) (by decide +kernel)
      · have t_42 : ¬ r2.toInt = 0 := toI_neq c_42 rfl (by decide : (0 : Int32).toInt = 0)
        refine lv_iload hx hb dX11_arc_45 (lv_at hl 0 rfl) ?_
        refine lv_if_eq (tgt := 55) hx hb dX11_arc_47 (by decide) (fun c_47 => ?_) (fun c_47 => ?_)
        · have t_47 : k0_j2.toInt = 0 := toI_eq c_47 rfl (by decide : (0 : Int32).toInt = 0)
          exact vx_throw0 (own := RX11) (cls := "java/lang/IllegalArgumentException") (names := ["java/lang/RuntimeException", "java/lang/Exception"]) (ik := 77) (ic := 79) (A := A) hx hb hst hown (by decide +kernel) (by decide +kernel) (hts _ hm_m_X11_arc_0_0) (hts _ hm_m_X11_arc_0_1) (vx_hat (B := ngX11_79) (fun w h => hts w (List.mem_cons_of_mem _ (List.mem_append_left _ (List.mem_append_left _ (List.mem_append_right _ h))))) (fun _ h => h) (fun w h => va_Nw.use (ngX11_79_ot w h) (hE.2.2.1.2.2.1 w h))) (by decide +kernel) hE.2.1.1 hE.2.1.2 hS (by rw [hml]; exact hl.1) dX11_arc_55 dX11_arc_58 dX11_arc_59 dX11_arc_62 (fun x hx9 => (htab x hx9).elim) (by decide +kernel) (Nat.le_of_ble_eq_true rfl) (by decide +kernel) (by decide +kernel) hlocks (fun t hvm hz hk => ⟨(.null, ([])), (by (try dsimp only); exact Or.inl ⟨rfl, rfl, rfl⟩), ⟨⟨rfl, by omega⟩, by first | exact hP.kept (fun k q h => hk q.1 ((hP k q h).lt)) | (simp only [List.append_nil]; exact hP.kept (fun k q h => hk q.1 ((hP k q h).lt))), by first | exact hD | (simp only [List.append_nil]; exact hD)⟩, ⟨Nat.le_trans hS.1 hz, fun q h1 h2 => (hk q (Nat.lt_of_lt_of_le h1 hS.1)).trans (hS.2.1 q h1 h2)⟩⟩) hS.2.2 (by decide +kernel) (by decide +kernel)
        · have t_47 : ¬ k0_j2.toInt = 0 := toI_neq c_47 rfl (by decide : (0 : Int32).toInt = 0)
          refine lv_iload_n hx hb dX11_arc_50 rfl (lv_at hl 2 rfl) ?_
          refine lv_iload_n hx hb dX11_arc_51 rfl (lv_at hl 3 rfl) ?_
          refine lv_icmp_ne (tgt := 63) hx hb dX11_arc_52 (by decide) (fun c_52 => ?_) (fun c_52 => ?_)
          · have t_52 : p1.toInt ≠ p2.toInt := toI_ne c_52 rfl rfl
            refine lv_aload_n hx hb dX11_arc_63 rfl (lv_at hl 1 rfl) ?_
            have hFc := allFree hD hS hA
            refine va_callr (va_runV (As := []) (rest := []) ⟨hx, hb, hml, hown, hts⟩ (m_X11_theNets_0 l hst dC dI hX aX kX hT hM fX_ready fX_sheet dX_sheet nX_sheet iX_sheetLength xX_reader xX_solver xX_prover xX_values xX_clauses kN b_fX_sheet (by first | exact b_nX_sheet | with_reducible assumption | exact ⟨by omega, by omega⟩ | assumption) (b_iX_sheetLength) (by first | with_reducible assumption | omega | assumption) H.size) (cwV 0 hts gwsMX11_arc_0_2 rfl rfl rfl hd_yX11_theNets_RX11 (by decide +kernel)) (fz_preE (va_recv hK hP (ci := 11) (q0 := 0) rfl rfl) hP hK hD (fun a U g mk qE => qE.call) (fun U hU9 hW => by rw [hU9]; exact (((hE : CE A s s.heap).kept hS.2.1).narrow (fun q h => hFc q h)).warm hW)) rfl rfl hl.1 rfl (lv_room (Nat.le_of_ble_eq_true rfl)) dX11_arc_64 (by decide +kernel)) hS (fun q _ h => hFc q h) hFc (fun u ra3 t9_ H locs ht hvm hw9 hB9 hz1 hk1 hS => ?_)
            revert u hw9 hB9
            refine fz_p2 ?_
            intro hN aN hw9 hB9
            try dsimp only at hw9 hB9
            revert hB9
            refine fz_a2 ?_
            intro hra hB9
            subst hra
            clear hw9
            have hP : va_P (dC, dI) vwCl (WX hX aX kX hT hM fX_ready fX_sheet dX_sheet nX_sheet iX_sheetLength xX_reader xX_solver xX_prover xX_values xX_clauses (.ref (hN 0)) ++ (WN hN aN kN 0 (fun _ => 0) (fun _ => 0) (fun _ => 0) (fun _ => 0) 0 (fun _ => 0) (fun _ => 0) (fun _ => 0) (fun _ => 0) (fun _ => 0) 0 (fun _ => 0) (fun _ => 0))) H := fz_P ht hB9.1
            have hD := fz_sd hP (hB9.2.weaken (fun _ q _ h => hFc q.1 h)) rfl
            refine W.widen (k := 12) (n := 1478) (by decide +kernel) (by decide +kernel) ?_
            refine va_get (D := (dC, dI)) (ci := 2) (v := .int 0) (C := RX2) (T := TX2) (N := 14) hx hb hts iwsMX11_arc_0_in2 hown hK hP 3 rfl rfl 0 (by decide) (hts (.fieldLink RX11 429 "OptimaWorks$NetDesk" "arcs" "I") (by decide +kernel)) (fun _ h9 => h9) rfl dX11_arc_67 ?_
            refine lv_bipush (v := 40) hx hb dX11_arc_70 (by decide) ?_
            refine lv_icmp_lt (tgt := 83) hx hb dX11_arc_72 (by decide) (fun _ => ?_) (fun c9 => absurd (by decide) c9)
            refine lv_aload_n hx hb dX11_arc_83 rfl (lv_at hl 1 rfl) ?_
            refine va_get (D := (dC, dI)) (ci := 11) (v := .ref (hN 0)) (C := RX11) (T := TX11) (N := 11) hx hb hts iwsMX11_arc_0_in11 hown hK hP 0 rfl rfl 10 (by decide) (hts (.fieldLink RX11 415 "OptimaWorks" "nets" "LOptimaWorks$NetDesk;") (by decide +kernel)) (fun _ h9 => h9) rfl dX11_arc_84 ?_
            refine lv_iload_n hx hb dX11_arc_87 rfl (lv_at hl 2 rfl) ?_
            refine lv_iload_n hx hb dX11_arc_88 rfl (lv_at hl 3 rfl) ?_
            refine lv_iload_n hx hb dX11_arc_89 rfl (lv_at hl 4 rfl) ?_
            refine lv_iload hx hb dX11_arc_90 (lv_at hl 5 rfl) ?_
            have p9 := cj_2_1 (WX hX aX kX hT hM fX_ready fX_sheet dX_sheet nX_sheet iX_sheetLength xX_reader xX_solver xX_prover xX_values xX_clauses (.ref (hN 0))) (WN hN aN kN 0 (fun _ => 0) (fun _ => 0) (fun _ => 0) (fun _ => 0) 0 (fun _ => 0) (fun _ => 0) (fun _ => 0) (fun _ => 0) (fun _ => 0) 0 (fun _ => 0) (fun _ => 0))
            have hPc := hP.mem (fun q h => p9.mem_iff.mpr (List.mem_append_left _ h))
            have hDc := (hD.perm p9).left
            have hKc : va_K (dC, dI) vwCl (tN kN) _ := hK.sub [2, 3, 4, 5, 6, 7, 8, 9, 10, 11, 12] rfl
            have hFc := freeG p9 hD hS hA
            refine va_calli (va_runV (As := [.int p1, .int p2, .int p3, .int p4]) (rest := []) ⟨hx, hb, hml, hown, hts⟩ (m_X2_addArc l dC dI hN aN kN 0 (fun _ => 0) (fun _ => 0) (fun _ => 0) (fun _ => 0) 0 (fun _ => 0) (fun _ => 0) (fun _ => 0) (fun _ => 0) (fun _ => 0) 0 (fun _ => 0) (fun _ => 0) p1 p2 p3 p4 (show 0 ≤ (0 : Int32).toInt ∧ (0 : Int32).toInt ≤ 40 from by decide) (zr_r (by decide) (by decide)) (zr_r (by decide) (by decide)) (zr_r (by decide) (by decide)) (zr_r (by decide) (by decide)) (show 0 ≤ (0 : Int32).toInt ∧ (0 : Int32).toInt ≤ 8 from by decide) (by first | exact b_p1 | with_reducible assumption | exact ⟨by omega, by omega⟩ | assumption) (by first | exact b_p2 | with_reducible assumption | exact ⟨by omega, by omega⟩ | assumption) (by first | with_reducible assumption | omega | (rw [iI_t (by omega) (by omega)]; omega) | decide | assumption) H.size) (cwV 4 hts gwsMX11_arc_0_3 rfl rfl rfl hd_yX2_addArc_RX2 (by decide +kernel)) (fz_pre (va_recv hK hP (ci := 2) (q0 := 3) rfl rfl) hPc hKc hDc) rfl rfl hl.1 rfl (lv_room (Nat.le_of_ble_eq_true rfl)) dX11_arc_92 (by decide +kernel)) hS (fun q _ h => hFc q h) hFc (fun r4 u t9_ H locs ht hvm hw9 hB9 hz1 hk1 hS => ?_)
            revert u hw9 hB9
            refine fz_p5 ?_
            intro iN_arcs_4 fN_from_4 fN_to_4 fN_room_4 fN_cost_4 hw9 hB9
            try dsimp only at hw9 hB9
            revert hw9
            refine fz_a9 ?_
            intro b_iN_arcs_4 b_fN_from_4 b_fN_to_4 f4_0 f4_1 f4_2 f4_3 f4_4 f4_5
            have p8 := cj_2_1 (WX hX aX kX hT hM fX_ready fX_sheet dX_sheet nX_sheet iX_sheetLength xX_reader xX_solver xX_prover xX_values xX_clauses (.ref (hN 0))) (WN hN aN kN iN_arcs_4 fN_from_4 fN_to_4 fN_room_4 fN_cost_4 0 (fun _ => 0) (fun _ => 0) (fun _ => 0) (fun _ => 0) (fun _ => 0) 0 (fun _ => 0) (fun _ => 0))
            obtain ⟨hP, hD⟩ := frameG p9 p8 hP hD hk1 hFc (fz_P ht hB9.1) hB9.2
            have hq0 := f4_0
            have hq1 := f4_1
            have hq2 := f4_2
            have hq3 := f4_3
            have hq4 := f4_4
            have hq5 := f4_5
            refine vx_ret ?_
            refine W.widen (k := 13) (n := 1484) (by decide +kernel) (by decide +kernel) ?_
            exact W.iret (v := r4) hx hb hr (fun t9_ ht hW => ⟨⟨r4, ((.ref (hN 0)), (WN hN aN kN iN_arcs_4 fN_from_4 fN_to_4 fN_room_4 fN_cost_4 0 (fun _ => 0) (fun _ => 0) (fun _ => 0) (fun _ => 0) (fun _ => 0) 0 (fun _ => 0) (fun _ => 0))), rfl, ⟨(by (try dsimp only); have h7 : (0 : Int32).toInt = 0 := (by decide); omega), (by (try dsimp only); omega), (by (try dsimp only); exact Or.inr ⟨hN, aN, iN_arcs_4, fN_from_4, fN_to_4, fN_room_4, fN_cost_4, 0, (fun _ => 0), (fun _ => 0), (fun _ => 0), (fun _ => 0), (fun _ => 0), 0, (fun _ => 0), (fun _ => 0), (b_iN_arcs_4), b_fN_from_4, b_fN_to_4, (zr_r (by decide) (by decide)), (zr_r (by decide) (by decide)), (show 0 ≤ (0 : Int32).toInt ∧ (0 : Int32).toInt ≤ 8 from by decide), rfl, rfl, (ntAdd_0 hq0 hq2 hq3 hq4 hq5)⟩)⟩, by rw [ht]; exact hP, hD⟩, hS.F ht⟩) hS.2.2 dX11_arc_95
          · have t_52 : p1.toInt = p2.toInt := toI_nne c_52 rfl rfl
            exact vx_throw0 (own := RX11) (cls := "java/lang/IllegalArgumentException") (names := ["java/lang/RuntimeException", "java/lang/Exception"]) (ik := 77) (ic := 79) (A := A) hx hb hst hown (by decide +kernel) (by decide +kernel) (hts _ hm_m_X11_arc_0_0) (hts _ hm_m_X11_arc_0_1) (vx_hat (B := ngX11_79) (fun w h => hts w (List.mem_cons_of_mem _ (List.mem_append_left _ (List.mem_append_left _ (List.mem_append_right _ h))))) (fun _ h => h) (fun w h => va_Nw.use (ngX11_79_ot w h) (hE.2.2.1.2.2.1 w h))) (by decide +kernel) hE.2.1.1 hE.2.1.2 hS (by rw [hml]; exact hl.1) dX11_arc_55 dX11_arc_58 dX11_arc_59 dX11_arc_62 (fun x hx9 => (htab x hx9).elim) (by decide +kernel) (Nat.le_of_ble_eq_true rfl) (by decide +kernel) (by decide +kernel) hlocks (fun t hvm hz hk => ⟨(.null, ([])), (by (try dsimp only); exact Or.inl ⟨rfl, rfl, rfl⟩), ⟨⟨rfl, by omega⟩, by first | exact hP.kept (fun k q h => hk q.1 ((hP k q h).lt)) | (simp only [List.append_nil]; exact hP.kept (fun k q h => hk q.1 ((hP k q h).lt))), by first | exact hD | (simp only [List.append_nil]; exact hD)⟩, ⟨Nat.le_trans hS.1 hz, fun q h1 h2 => (hk q (Nat.lt_of_lt_of_le h1 hS.1)).trans (hS.2.1 q h1 h2)⟩⟩) hS.2.2 (by decide +kernel) (by decide +kernel)
def wsMX11_unarc_0 : List Cond := .code yX11_unarc cX11_unarc 1 (some .boolean) :: ([] ++ (wsV RX11 425 RX11 yX11_theNets wsMX11_theNets_0) ++ (wsV RX11 435 RX2 yX2_dropArc wsMX2_dropArc))
theorem gwsMX11_unarc_0_0 : GoodIn wsMX11_unarc_0 (wsV RX11 425 RX11 yX11_theNets wsMX11_theNets_0) := goodIn_sub (fun _ h => List.mem_cons_of_mem _ (List.mem_append_left _ (List.mem_append_right _ h))) (gdV (by decide +kernel) gdwsMX11_theNets_0)
theorem gwsMX11_unarc_0_1 : GoodIn wsMX11_unarc_0 (wsV RX11 435 RX2 yX2_dropArc wsMX2_dropArc) := goodIn_sub (fun _ h => List.mem_cons_of_mem _ (List.mem_append_right _ h)) (gdV (by decide +kernel) gdwsMX2_dropArc)
theorem gdwsMX11_unarc_0 : wsMX11_unarc_0.all goodWord = true := gdC rfl (gdA (gdA (by decide +kernel : ([] : List Cond).all goodWord = true) (gdV (by decide +kernel) gdwsMX11_theNets_0)) (gdV (by decide +kernel) gdwsMX2_dropArc))
set_option maxHeartbeats 4000000 in
set_option maxRecDepth 100000 in
/-- an arc less -/
theorem m_X11_unarc_0 (l : Launch) (hst : l.stackTraces = false) (dC : Nat → ClassId) (dI : Nat → Nat → Nat) (hX : Nat → Nat) (aX : Nat → Nat) (kX : Nat → ClassId) (hT : Nat → Nat) (hM : Nat → Nat) (fX_ready : Nat → Int32) (fX_sheet : Nat → Int32) (dX_sheet : Nat) (nX_sheet : Nat) (iX_sheetLength : Int32) (xX_reader : Value) (xX_solver : Value) (xX_prover : Value) (xX_values : Value) (xX_clauses : Value) (kN : Nat → ClassId) (b_fX_sheet : ∀ q : Nat, (-128) ≤ (fX_sheet q).toInt ∧ (fX_sheet q).toInt ≤ 127) (b_nX_sheet : 64 ≤ nX_sheet ∧ nX_sheet ≤ 60000) (b_iX_sheetLength : 0 ≤ iX_sheetLength.toInt ∧ iX_sheetLength.toInt ≤ 30000) (b_shl : iX_sheetLength.toInt ≤ ((nX_sheet : Nat) : Int)) (sz : Nat) : Met l yX11_unarc wsMX11_unarc_0 ({ frames := 3, cells := 12, slots := 1478, locals := 52 }) (va_Pc [.ref (hX 0)] (fun U => U.heap.size = sz ∧ va_P (dC, dI) vwCl (WX hX aX kX hT hM fX_ready fX_sheet dX_sheet nX_sheet iX_sheetLength xX_reader xX_solver xX_prover xX_values xX_clauses .null) U.heap ∧ va_K (dC, dI) vwCl (tX kX ++ (tN kN)) U ∧ va_D (fun _ => True) (WX hX aX kX hT hM fX_ready fX_sheet dX_sheet nX_sheet iX_sheetLength xX_reader xX_solver xX_prover xX_values xX_clauses .null) ∧ CE (va_A (WX hX aX kX hT hM fX_ready fX_sheet dX_sheet nX_sheet iX_sheetLength xX_reader xX_solver xX_prover xX_values xX_clauses .null) sz) U U.heap)) (va_Qi (fun (r : Int32) (u : (Value) × (va_W)) => (0 ≤ r.toInt ∧ r.toInt ≤ 1) ∧ (r.toInt = 0) ∧ (NetO kN ntZ (u.1) (u.2))) (fun (u : (Value) × (va_W)) t => va_P (dC, dI) vwCl (WX hX aX kX hT hM fX_ready fX_sheet dX_sheet nX_sheet iX_sheetLength xX_reader xX_solver xX_prover xX_values xX_clauses (u.1) ++ ((u.2))) t.heap ∧ va_D (va_A (WX hX aX kX hT hM fX_ready fX_sheet dX_sheet nX_sheet iX_sheetLength xX_reader xX_solver xX_prover xX_values xX_clauses .null) sz) (WX hX aX kX hT hM fX_ready fX_sheet dX_sheet nX_sheet iX_sheetLength xX_reader xX_solver xX_prover xX_values xX_clauses (u.1) ++ ((u.2)))) (va_A (WX hX aX kX hT hM fX_ready fX_sheet dX_sheet nX_sheet iX_sheetLength xX_reader xX_solver xX_prover xX_values xX_clauses .null) sz)) 12 1478 (va_A (WX hX aX kX hT hM fX_ready fX_sheet dX_sheet nX_sheet iX_sheetLength xX_reader xX_solver xX_prover xX_values xX_clauses .null) sz) := by
  refine Met.ofW (cc := cX11_unarc) (maxL := 1) (ret := (some .boolean)) (by decide) rfl ?_
  intro p e s m args below meth c s₁ B hml hv
  obtain ⟨rfl, hsz, hP, hK, hD0, hE⟩ := hv
  have hx := B.exec
  have hb := B.bytes
  have hr := B.returns
  have hts := atoms_spec (ws := wsMX11_unarc_0) B.pre
  have hown : s.vm.findClass RX11 = some m.cls := findClass_of_methodNamed B.named
  have hlocks := B.notSynchronized
  subst hsz
  have hD := hD0.self (sz := s.heap.size)
  generalize hAe : va_A (WX hX aX kX hT hM fX_ready fX_sheet dX_sheet nX_sheet iX_sheetLength xX_reader xX_solver xX_prover xX_values xX_clauses .null) s.heap.size = A at hD hE ⊢
  have hA : ∀ q : Nat, s.heap.size ≤ q → A q := fun q h => by rw [← hAe]; exact Or.inr h
  have hS : va_S A s.heap s.heap [] := va_S.rf
  have hl := lv_entry ([.ref (hX 0)]) (n := 1) (Nat.le_of_ble_eq_true rfl)
  rw [lg_entry_eq]
  generalize (lg_sl ([.ref (hX 0)]) ++ List.replicate (1 - (lg_sl ([.ref (hX 0)])).length) Slot.unset).toArray = ls at hl ⊢
  have hl : lv_has ls 1 [(0, .ref (hX 0))] := hl
  refine lv_aload_n hx hb dX11_unarc_0 rfl (lv_at hl 0 rfl) ?_
  have hFc := allFree hD hS hA
  refine va_callr (va_runV (As := []) (rest := []) ⟨hx, hb, hml, hown, hts⟩ (m_X11_theNets_0 l hst dC dI hX aX kX hT hM fX_ready fX_sheet dX_sheet nX_sheet iX_sheetLength xX_reader xX_solver xX_prover xX_values xX_clauses kN b_fX_sheet (by first | exact b_nX_sheet | with_reducible assumption | exact ⟨by omega, by omega⟩ | assumption) (b_iX_sheetLength) (by first | with_reducible assumption | omega | assumption) s.heap.size) (cwV 0 hts gwsMX11_unarc_0_0 rfl rfl rfl hd_yX11_theNets_RX11 (by decide +kernel)) (fz_preE (va_recv hK hP (ci := 11) (q0 := 0) rfl rfl) hP hK hD (fun a U g mk qE => qE.call) (fun U hU9 hW => by rw [hU9]; exact (((hE : CE A s s.heap).kept hS.2.1).narrow (fun q h => hFc q h)).warm hW)) rfl rfl hl.1 rfl (lv_room (Nat.le_of_ble_eq_true rfl)) dX11_unarc_1 (by decide +kernel)) hS (fun q _ h => hFc q h) hFc (fun u ra1 t9_ H locs ht hvm hw9 hB9 hz1 hk1 hS => ?_)
  revert u hw9 hB9
  refine fz_p2 ?_
  intro hN aN hw9 hB9
  try dsimp only at hw9 hB9
  revert hB9
  refine fz_a2 ?_
  intro hra hB9
  subst hra
  clear hw9
  have hP : va_P (dC, dI) vwCl (WX hX aX kX hT hM fX_ready fX_sheet dX_sheet nX_sheet iX_sheetLength xX_reader xX_solver xX_prover xX_values xX_clauses (.ref (hN 0)) ++ (WN hN aN kN 0 (fun _ => 0) (fun _ => 0) (fun _ => 0) (fun _ => 0) 0 (fun _ => 0) (fun _ => 0) (fun _ => 0) (fun _ => 0) (fun _ => 0) 0 (fun _ => 0) (fun _ => 0))) H := fz_P ht hB9.1
  have hD := fz_sd hP (hB9.2.weaken (fun _ q _ h => hFc q.1 h)) rfl
  refine W.widen (k := 12) (n := 1478) (by decide +kernel) (by decide +kernel) ?_
  have p9 := cj_2_1 (WX hX aX kX hT hM fX_ready fX_sheet dX_sheet nX_sheet iX_sheetLength xX_reader xX_solver xX_prover xX_values xX_clauses (.ref (hN 0))) (WN hN aN kN 0 (fun _ => 0) (fun _ => 0) (fun _ => 0) (fun _ => 0) 0 (fun _ => 0) (fun _ => 0) (fun _ => 0) (fun _ => 0) (fun _ => 0) 0 (fun _ => 0) (fun _ => 0))
  have hPc := hP.mem (fun q h => p9.mem_iff.mpr (List.mem_append_left _ h))
  have hDc := (hD.perm p9).left
  have hKc : va_K (dC, dI) vwCl (tN kN) _ := hK.sub [2, 3, 4, 5, 6, 7, 8, 9, 10, 11, 12] rfl
  have hFc := freeG p9 hD hS hA
  refine va_calli (va_runV (As := []) (rest := []) ⟨hx, hb, hml, hown, hts⟩ (m_X2_dropArc l dC dI hN aN kN 0 (fun _ => 0) (fun _ => 0) (fun _ => 0) (fun _ => 0) 0 (fun _ => 0) (fun _ => 0) (fun _ => 0) (fun _ => 0) (fun _ => 0) 0 (fun _ => 0) (fun _ => 0) (show 0 ≤ (0 : Int32).toInt ∧ (0 : Int32).toInt ≤ 40 from by decide) (zr_r (by decide) (by decide)) (zr_r (by decide) (by decide)) (zr_r (by decide) (by decide)) (zr_r (by decide) (by decide)) (show 0 ≤ (0 : Int32).toInt ∧ (0 : Int32).toInt ≤ 8 from by decide) H.size) (cwV 0 hts gwsMX11_unarc_0_1 rfl rfl rfl hd_yX2_dropArc_RX2 (by decide +kernel)) (fz_pre (va_recv hK hP (ci := 2) (q0 := 3) rfl rfl) hPc hKc hDc) rfl rfl hl.1 rfl (lv_room (Nat.le_of_ble_eq_true rfl)) dX11_unarc_4 (by decide +kernel)) hS (fun q _ h => hFc q h) hFc (fun r2 iN_arcs_2 t9_ H locs ht hvm hw9 hB9 hz1 hk1 hS => ?_)
  revert hw9
  refine fz_a3 ?_
  intro b_iN_arcs_2 b_r2 f2_0
  have p8 := cj_2_1 (WX hX aX kX hT hM fX_ready fX_sheet dX_sheet nX_sheet iX_sheetLength xX_reader xX_solver xX_prover xX_values xX_clauses (.ref (hN 0))) (WN hN aN kN iN_arcs_2 (fun _ => 0) (fun _ => 0) (fun _ => 0) (fun _ => 0) 0 (fun _ => 0) (fun _ => 0) (fun _ => 0) (fun _ => 0) (fun _ => 0) 0 (fun _ => 0) (fun _ => 0))
  obtain ⟨hP, hD⟩ := frameG p9 p8 hP hD hk1 hFc (fz_P ht hB9.1) hB9.2
  refine W.widen (k := 12) (n := 1478) (by decide +kernel) (by decide +kernel) ?_
  exact W.zret (v := r2) hx hb hr (by rcases z01 (x := r2) (by first | exact b_r2 | with_reducible assumption | exact ⟨by omega, by omega⟩ | assumption) with h9 | h9 <;> rw [h9] <;> rfl) (fun t9_ ht hW => ⟨⟨r2, ((.ref (hN 0)), (WN hN aN kN iN_arcs_2 (fun _ => 0) (fun _ => 0) (fun _ => 0) (fun _ => 0) 0 (fun _ => 0) (fun _ => 0) (fun _ => 0) (fun _ => 0) (fun _ => 0) 0 (fun _ => 0) (fun _ => 0))), rfl, ⟨(by first | exact b_r2 | with_reducible assumption | exact ⟨by omega, by omega⟩ | assumption), (by (try dsimp only); have h7 : (0 : Int32).toInt = 0 := (by decide); omega), (by (try dsimp only); exact Or.inr ⟨hN, aN, iN_arcs_2, (fun _ => 0), (fun _ => 0), (fun _ => 0), (fun _ => 0), 0, (fun _ => 0), (fun _ => 0), (fun _ => 0), (fun _ => 0), (fun _ => 0), 0, (fun _ => 0), (fun _ => 0), (b_iN_arcs_2), (zr_r (by decide) (by decide)), (zr_r (by decide) (by decide)), (zr_r (by decide) (by decide)), (zr_r (by decide) (by decide)), (show 0 ≤ (0 : Int32).toInt ∧ (0 : Int32).toInt ≤ 8 from by decide), rfl, rfl, (ntZ_x (by have h7 : (0 : Int32).toInt = 0 := (by decide); omega))⟩)⟩, by rw [ht]; exact hP, hD⟩, hS.F ht⟩) hS.2.2 dX11_unarc_7
def wsMX11_greatest_0 : List Cond := .code yX11_greatest cX11_greatest 3 (some .int) :: ([] ++ (va_wsS RX11 438 yX11_needNodes wsMX11_needNodes) ++ (wsV RX11 425 RX11 yX11_theNets wsMX11_theNets_0) ++ (wsV RX11 441 RX2 yX2_fill wsMX2_fill))
theorem gwsMX11_greatest_0_0 : GoodIn wsMX11_greatest_0 (va_wsS RX11 438 yX11_needNodes wsMX11_needNodes) := goodIn_sub (fun _ h => List.mem_cons_of_mem _ (List.mem_append_left _ (List.mem_append_left _ (List.mem_append_right _ h)))) (gdS (by decide +kernel) gdwsMX11_needNodes)
theorem gwsMX11_greatest_0_1 : GoodIn wsMX11_greatest_0 (wsV RX11 425 RX11 yX11_theNets wsMX11_theNets_0) := goodIn_sub (fun _ h => List.mem_cons_of_mem _ (List.mem_append_left _ (List.mem_append_right _ h))) (gdV (by decide +kernel) gdwsMX11_theNets_0)
theorem gwsMX11_greatest_0_2 : GoodIn wsMX11_greatest_0 (wsV RX11 441 RX2 yX2_fill wsMX2_fill) := goodIn_sub (fun _ h => List.mem_cons_of_mem _ (List.mem_append_right _ h)) (gdV (by decide +kernel) gdwsMX2_fill)
theorem gdwsMX11_greatest_0 : wsMX11_greatest_0.all goodWord = true := gdC rfl (gdA (gdA (gdA (by decide +kernel : ([] : List Cond).all goodWord = true) (gdS (by decide +kernel) gdwsMX11_needNodes)) (gdV (by decide +kernel) gdwsMX11_theNets_0)) (gdV (by decide +kernel) gdwsMX2_fill))
set_option maxHeartbeats 4000000 in
set_option maxRecDepth 100000 in
/-- a greatest flow -/
theorem m_X11_greatest_0 (l : Launch) (hst : l.stackTraces = false) (dC : Nat → ClassId) (dI : Nat → Nat → Nat) (hX : Nat → Nat) (aX : Nat → Nat) (kX : Nat → ClassId) (hT : Nat → Nat) (hM : Nat → Nat) (fX_ready : Nat → Int32) (fX_sheet : Nat → Int32) (dX_sheet : Nat) (nX_sheet : Nat) (iX_sheetLength : Int32) (xX_reader : Value) (xX_solver : Value) (xX_prover : Value) (xX_values : Value) (xX_clauses : Value) (kN : Nat → ClassId) (p1 : Int32) (p2 : Int32) (b_fX_sheet : ∀ q : Nat, (-128) ≤ (fX_sheet q).toInt ∧ (fX_sheet q).toInt ≤ 127) (b_nX_sheet : 64 ≤ nX_sheet ∧ nX_sheet ≤ 60000) (b_iX_sheetLength : 0 ≤ iX_sheetLength.toInt ∧ iX_sheetLength.toInt ≤ 30000) (b_shl : iX_sheetLength.toInt ≤ ((nX_sheet : Nat) : Int)) (sz : Nat) : vx_Met l yX11_greatest wsMX11_greatest_0 ({ frames := 7, cells := 12, slots := 1478, locals := 102 }) (va_Pc [.ref (hX 0), .int p1, .int p2] (fun U => U.heap.size = sz ∧ va_P (dC, dI) vwCl (WX hX aX kX hT hM fX_ready fX_sheet dX_sheet nX_sheet iX_sheetLength xX_reader xX_solver xX_prover xX_values xX_clauses .null) U.heap ∧ va_K (dC, dI) vwCl (tX kX ++ (tN kN)) U ∧ va_D (fun _ => True) (WX hX aX kX hT hM fX_ready fX_sheet dX_sheet nX_sheet iX_sheetLength xX_reader xX_solver xX_prover xX_values xX_clauses .null) ∧ CE (va_A (WX hX aX kX hT hM fX_ready fX_sheet dX_sheet nX_sheet iX_sheetLength xX_reader xX_solver xX_prover xX_values xX_clauses .null) sz) U U.heap)) (va_Qi (fun (r : Int32) (u : (Value) × (va_W)) => (((0 ≤ p1.toInt ∧ p1.toInt ≤ 11) ∧ 0 ≤ p2.toInt ∧ p2.toInt ≤ 11) ∧ p1.toInt ≠ p2.toInt) ∧ (mxF ntZ p1.toInt.toNat p2.toInt.toNat r.toInt) ∧ (NetO kN ntZ (u.1) (u.2))) (fun (u : (Value) × (va_W)) t => va_P (dC, dI) vwCl (WX hX aX kX hT hM fX_ready fX_sheet dX_sheet nX_sheet iX_sheetLength xX_reader xX_solver xX_prover xX_values xX_clauses (u.1) ++ ((u.2))) t.heap ∧ va_D (va_A (WX hX aX kX hT hM fX_ready fX_sheet dX_sheet nX_sheet iX_sheetLength xX_reader xX_solver xX_prover xX_values xX_clauses .null) sz) (WX hX aX kX hT hM fX_ready fX_sheet dX_sheet nX_sheet iX_sheetLength xX_reader xX_solver xX_prover xX_values xX_clauses (u.1) ++ ((u.2)))) (va_A (WX hX aX kX hT hM fX_ready fX_sheet dX_sheet nX_sheet iX_sheetLength xX_reader xX_solver xX_prover xX_values xX_clauses .null) sz)) (vx_X (fun (u : (Value) × (va_W)) => (NetO kN ntZ (u.1) (u.2))) (fun E (u : (Value) × (va_W)) t => ((E = "java/lang/IndexOutOfBoundsException" ∧ (¬ ((0 ≤ p1.toInt ∧ p1.toInt ≤ 11) ∧ 0 ≤ p2.toInt ∧ p2.toInt ≤ 11))) ∨ (E = "java/lang/IllegalArgumentException" ∧ (((0 ≤ p1.toInt ∧ p1.toInt ≤ 11) ∧ 0 ≤ p2.toInt ∧ p2.toInt ≤ 11) ∧ p1.toInt = p2.toInt))) ∧ va_P (dC, dI) vwCl (WX hX aX kX hT hM fX_ready fX_sheet dX_sheet nX_sheet iX_sheetLength xX_reader xX_solver xX_prover xX_values xX_clauses (u.1) ++ ((u.2))) t.heap ∧ va_D (va_A (WX hX aX kX hT hM fX_ready fX_sheet dX_sheet nX_sheet iX_sheetLength xX_reader xX_solver xX_prover xX_values xX_clauses .null) sz) (WX hX aX kX hT hM fX_ready fX_sheet dX_sheet nX_sheet iX_sheetLength xX_reader xX_solver xX_prover xX_values xX_clauses (u.1) ++ ((u.2)))) (va_A (WX hX aX kX hT hM fX_ready fX_sheet dX_sheet nX_sheet iX_sheetLength xX_reader xX_solver xX_prover xX_values xX_clauses .null) sz)) 12 1478 (va_A (WX hX aX kX hT hM fX_ready fX_sheet dX_sheet nX_sheet iX_sheetLength xX_reader xX_solver xX_prover xX_values xX_clauses .null) sz) := by
  refine vx_ofW (cc := cX11_greatest) (maxL := 3) (ret := (some .int)) (by decide) rfl ?_
  intro p e s m args below meth c s₁ B hml htab hv
  obtain ⟨rfl, hsz, hP, hK, hD0, hE⟩ := hv
  have hx := B.exec
  have hb := B.bytes
  have hr := B.returns
  have hts := atoms_spec (ws := wsMX11_greatest_0) B.pre
  have hown : s.vm.findClass RX11 = some m.cls := findClass_of_methodNamed B.named
  have hlocks := B.notSynchronized
  subst hsz
  have hD := hD0.self (sz := s.heap.size)
  generalize hAe : va_A (WX hX aX kX hT hM fX_ready fX_sheet dX_sheet nX_sheet iX_sheetLength xX_reader xX_solver xX_prover xX_values xX_clauses .null) s.heap.size = A at hD hE ⊢
  have hA : ∀ q : Nat, s.heap.size ≤ q → A q := fun q h => by rw [← hAe]; exact Or.inr h
  have hS : va_S A s.heap s.heap [] := va_S.rf
  have hl := lv_entry ([.ref (hX 0), .int p1, .int p2]) (n := 3) (Nat.le_of_ble_eq_true rfl)
  rw [lg_entry_eq]
  generalize (lg_sl ([.ref (hX 0), .int p1, .int p2]) ++ List.replicate (3 - (lg_sl ([.ref (hX 0), .int p1, .int p2])).length) Slot.unset).toArray = ls at hl ⊢
  have hl : lv_has ls 3 [(0, .ref (hX 0)), (1, .int p1), (2, .int p2)] := hl
  refine lv_iload_n hx hb dX11_greatest_0 rfl (lv_at hl 1 rfl) ?_
  refine lv_iload_n hx hb dX11_greatest_1 rfl (lv_at hl 2 rfl) ?_
  refine W.known (fun hz0 _ => ?_)
  have hFc := noneFree hS hA
  refine vx_callv (vx_runS (As := [.int p1, .int p2]) (rest := []) ⟨hx, hb, hml, hown, hts⟩ (m_X11_needNodes l hst dC dI p1 p2 s.heap.size) (va_cwS 2 hts gwsMX11_greatest_0_0 rfl rfl rfl (by decide +kernel) ⟨by decide +kernel, by decide +kernel⟩) ⟨fun a U g mk q => by obtain ⟨q0, q1, qP, qK, qD, qE⟩ := q; exact ⟨q0, q1, qP, va_K.moved (u := U) (U := U.calling g mk a) (Vm.Alike.refl U.vm) qK, qD, qE.call⟩, fun U hU9 hW => ⟨rfl, by rw [hU9], by rw [hU9]; exact nilP, va_K.moved hW.alike (hK.sub (tys' := []) [] rfl), nilD, by rw [hU9]; exact (((hE : CE A s s.heap).kept hS.2.1).narrow (fun q h => hFc q h)).warm hW⟩⟩ rfl rfl hl.1 rfl (lv_room (Nat.le_of_ble_eq_true rfl)) dX11_greatest_2 (by decide +kernel)) hS (fun q _ h => hFc q h) hFc (fun q _ h => hFc q h) (fun E ce q9 u t9_ H1 locs ht hvm hw9 hB9 hz1 hk1 hS hc1 hc2 hc3 => ?_) (fun u t9_ H1 locs ht hvm hw9 hB9 hz1 hk1 hS => ?_)
  · revert hB9
    refine fz_a2 ?_
    intro hEx hB9
    clear hw9
    clear hB9
    have hP := keepAll hP hk1
    generalize H1 = H at hP hS hc1 ⊢
    have hP : va_P (dC, dI) vwCl (WX hX aX kX hT hM fX_ready fX_sheet dX_sheet nX_sheet iX_sheetLength xX_reader xX_solver xX_prover xX_values xX_clauses .null) H := hP
    have hD := fz_sd hP (hD) rfl
    exact vx_out (fun x hx9 => (htab x hx9).elim) hlocks hc1 hc2 hc3 (fun t9_ ht hvm => ⟨(.null, ([])), (by (try dsimp only); exact Or.inl ⟨rfl, rfl, rfl⟩), ⟨(by rcases hEx with h9 | h9; exact Or.inl ⟨h9.1, (by have h8 := h9.2; omega)⟩; exact Or.inr (⟨h9.1, (by have h8 := h9.2; omega)⟩)), by rw [ht]; first | exact hP | (simp only [List.append_nil]; exact hP), by first | exact hD | (simp only [List.append_nil]; exact hD)⟩, hS.F ht⟩) hS.2.2 (by decide +kernel) (by decide +kernel)
  have f1_0 := hw9
  try dsimp only at f1_0
  obtain ⟨_, hz8⟩ := hB9
  rw [ht] at hz8
  have hz9 : H1.size ≤ s.heap.size + 0 := by rw [hz8]; exact hz0
  refine W.tight (cells2 := 0) (slots2 := 0) hz9 (nS_0 hz9) ?_
  clear hz8 hz9
  have hP := keepAll hP hk1
  generalize H1 = H at hP hS ⊢
  have hP : va_P (dC, dI) vwCl (WX hX aX kX hT hM fX_ready fX_sheet dX_sheet nX_sheet iX_sheetLength xX_reader xX_solver xX_prover xX_values xX_clauses .null) H := hP
  have hD := fz_sd hP (hD) rfl
  have hnn := f1_0
  refine lv_aload_n hx hb dX11_greatest_5 rfl (lv_at hl 0 rfl) ?_
  have hFc := allFree hD hS hA
  refine va_callr (va_runV (As := []) (rest := []) ⟨hx, hb, hml, hown, hts⟩ (m_X11_theNets_0 l hst dC dI hX aX kX hT hM fX_ready fX_sheet dX_sheet nX_sheet iX_sheetLength xX_reader xX_solver xX_prover xX_values xX_clauses kN b_fX_sheet (by first | exact b_nX_sheet | with_reducible assumption | exact ⟨by omega, by omega⟩ | assumption) (b_iX_sheetLength) (by first | with_reducible assumption | omega | assumption) H.size) (cwV 0 hts gwsMX11_greatest_0_1 rfl rfl rfl hd_yX11_theNets_RX11 (by decide +kernel)) (fz_preE (va_recv hK hP (ci := 11) (q0 := 0) rfl rfl) hP hK hD (fun a U g mk qE => qE.call) (fun U hU9 hW => by rw [hU9]; exact (((hE : CE A s s.heap).kept hS.2.1).narrow (fun q h => hFc q h)).warm hW)) rfl rfl hl.1 rfl (lv_room (Nat.le_of_ble_eq_true rfl)) dX11_greatest_6 (by decide +kernel)) hS (fun q _ h => hFc q h) hFc (fun u ra2 t9_ H locs ht hvm hw9 hB9 hz1 hk1 hS => ?_)
  revert u hw9 hB9
  refine fz_p2 ?_
  intro hN aN hw9 hB9
  try dsimp only at hw9 hB9
  revert hB9
  refine fz_a2 ?_
  intro hra hB9
  subst hra
  clear hw9
  have hP : va_P (dC, dI) vwCl (WX hX aX kX hT hM fX_ready fX_sheet dX_sheet nX_sheet iX_sheetLength xX_reader xX_solver xX_prover xX_values xX_clauses (.ref (hN 0)) ++ (WN hN aN kN 0 (fun _ => 0) (fun _ => 0) (fun _ => 0) (fun _ => 0) 0 (fun _ => 0) (fun _ => 0) (fun _ => 0) (fun _ => 0) (fun _ => 0) 0 (fun _ => 0) (fun _ => 0))) H := fz_P ht hB9.1
  have hD := fz_sd hP (hB9.2.weaken (fun _ q _ h => hFc q.1 h)) rfl
  refine W.widen (k := 12) (n := 1478) (by decide +kernel) (by decide +kernel) ?_
  refine lv_iload_n hx hb dX11_greatest_9 rfl (lv_at hl 1 rfl) ?_
  refine lv_iload_n hx hb dX11_greatest_10 rfl (lv_at hl 2 rfl) ?_
  have p9 := cj_2_1 (WX hX aX kX hT hM fX_ready fX_sheet dX_sheet nX_sheet iX_sheetLength xX_reader xX_solver xX_prover xX_values xX_clauses (.ref (hN 0))) (WN hN aN kN 0 (fun _ => 0) (fun _ => 0) (fun _ => 0) (fun _ => 0) 0 (fun _ => 0) (fun _ => 0) (fun _ => 0) (fun _ => 0) (fun _ => 0) 0 (fun _ => 0) (fun _ => 0))
  have hPc := hP.mem (fun q h => p9.mem_iff.mpr (List.mem_append_left _ h))
  have hDc := (hD.perm p9).left
  have hKc : va_K (dC, dI) vwCl (tN kN) _ := hK.sub [2, 3, 4, 5, 6, 7, 8, 9, 10, 11, 12] rfl
  have hFc := freeG p9 hD hS hA
  refine va_calli (va_runV (As := [.int p1, .int p2]) (rest := []) ⟨hx, hb, hml, hown, hts⟩ (m_X2_fill l dC dI hN aN kN 0 (fun _ => 0) (fun _ => 0) (fun _ => 0) (fun _ => 0) 0 (fun _ => 0) (fun _ => 0) (fun _ => 0) (fun _ => 0) (fun _ => 0) 0 (fun _ => 0) (fun _ => 0) p1 p2 (show 0 ≤ (0 : Int32).toInt ∧ (0 : Int32).toInt ≤ 40 from by decide) (zr_r (by decide) (by decide)) (zr_r (by decide) (by decide)) (zr_r (by decide) (by decide)) (zr_r (by decide) (by decide)) (show 0 ≤ (0 : Int32).toInt ∧ (0 : Int32).toInt ≤ 8 from by decide) (by first | exact b_p1 | with_reducible assumption | exact ⟨by omega, by omega⟩ | assumption) (by first | exact b_p2 | with_reducible assumption | exact ⟨by omega, by omega⟩ | assumption) (tVal.z0) (tRm.z0) (by omega) H.size) (cwV 2 hts gwsMX11_greatest_0_2 rfl rfl rfl hd_yX2_fill_RX2 (by decide +kernel)) (fz_pre (va_recv hK hP (ci := 2) (q0 := 3) rfl rfl) hPc hKc hDc) rfl rfl hl.1 rfl (lv_room (Nat.le_of_ble_eq_true rfl)) dX11_greatest_11 (by decide +kernel)) hS (fun q _ h => hFc q h) hFc (fun r3 u t9_ H locs ht hvm hw9 hB9 hz1 hk1 hS => ?_)
  revert u hw9 hB9
  refine fz_p3 ?_
  intro iN_reached_3 fN_free_3 fN_before_3 hw9 hB9
  try dsimp only at hw9 hB9
  revert hw9
  refine fz_a3 ?_
  intro b_fN_before_3 f3_0 f3_1
  have p8 := cj_2_1 (WX hX aX kX hT hM fX_ready fX_sheet dX_sheet nX_sheet iX_sheetLength xX_reader xX_solver xX_prover xX_values xX_clauses (.ref (hN 0))) (WN hN aN kN 0 (fun _ => 0) (fun _ => 0) (fun _ => 0) (fun _ => 0) iN_reached_3 fN_free_3 fN_before_3 (fun _ => 0) (fun _ => 0) (fun _ => 0) 0 (fun _ => 0) (fun _ => 0))
  obtain ⟨hP, hD⟩ := frameG p9 p8 hP hD hk1 hFc (fz_P ht hB9.1) hB9.2
  have hpa := f3_0
  refine vx_ret ?_
  refine W.widen (k := 12) (n := 1478) (by decide +kernel) (by decide +kernel) ?_
  exact W.iret (v := r3) hx hb hr (fun t9_ ht hW => ⟨⟨r3, ((.ref (hN 0)), (WN hN aN kN 0 (fun _ => 0) (fun _ => 0) (fun _ => 0) (fun _ => 0) iN_reached_3 fN_free_3 fN_before_3 (fun _ => 0) (fun _ => 0) (fun _ => 0) 0 (fun _ => 0) (fun _ => 0))), rfl, ⟨(by (try dsimp only); omega), (by (try dsimp only); rw [ntZ_x (x := (0 : Int32).toInt) (by decide)]; exact hpa), (by (try dsimp only); exact Or.inr ⟨hN, aN, 0, (fun _ => 0), (fun _ => 0), (fun _ => 0), (fun _ => 0), iN_reached_3, fN_free_3, fN_before_3, (fun _ => 0), (fun _ => 0), (fun _ => 0), 0, (fun _ => 0), (fun _ => 0), (show 0 ≤ (0 : Int32).toInt ∧ (0 : Int32).toInt ≤ 40 from by decide), (zr_r (by decide) (by decide)), (zr_r (by decide) (by decide)), b_fN_before_3, (zr_r (by decide) (by decide)), (show 0 ≤ (0 : Int32).toInt ∧ (0 : Int32).toInt ≤ 8 from by decide), rfl, rfl, (ntZ_x (by have h7 : (0 : Int32).toInt = 0 := (by decide); omega))⟩)⟩, by rw [ht]; exact hP, hD⟩, hS.F ht⟩) hS.2.2 dX11_greatest_14
def wsMX11_cut_0 : List Cond := .code yX11_cut cX11_cut 3 (some .int) :: ([.fieldLink RX11 415 "OptimaWorks" "nets" "LOptimaWorks$NetDesk;", .fieldLink RX11 443 "OptimaWorks$NetDesk" "reached" "I"] ++ wsX20 ++ wsX110 ++ (va_wsS RX11 438 yX11_needNodes wsMX11_needNodes) ++ (wsV RX11 425 RX11 yX11_theNets wsMX11_theNets_0) ++ (wsV RX11 441 RX2 yX2_fill wsMX2_fill))
theorem iwsMX11_cut_0_in2 : ∀ w ∈ wsX20, w ∈ wsMX11_cut_0 := fun _ h => List.mem_cons_of_mem _ (List.mem_append_left _ (List.mem_append_left _ (List.mem_append_left _ (List.mem_append_left _ (List.mem_append_right _ h)))))
theorem iwsMX11_cut_0_in11 : ∀ w ∈ wsX110, w ∈ wsMX11_cut_0 := fun _ h => List.mem_cons_of_mem _ (List.mem_append_left _ (List.mem_append_left _ (List.mem_append_left _ (List.mem_append_right _ h))))
theorem gwsMX11_cut_0_0 : GoodIn wsMX11_cut_0 (va_wsS RX11 438 yX11_needNodes wsMX11_needNodes) := goodIn_sub (fun _ h => List.mem_cons_of_mem _ (List.mem_append_left _ (List.mem_append_left _ (List.mem_append_right _ h)))) (gdS (by decide +kernel) gdwsMX11_needNodes)
theorem gwsMX11_cut_0_1 : GoodIn wsMX11_cut_0 (wsV RX11 425 RX11 yX11_theNets wsMX11_theNets_0) := goodIn_sub (fun _ h => List.mem_cons_of_mem _ (List.mem_append_left _ (List.mem_append_right _ h))) (gdV (by decide +kernel) gdwsMX11_theNets_0)
theorem gwsMX11_cut_0_2 : GoodIn wsMX11_cut_0 (wsV RX11 441 RX2 yX2_fill wsMX2_fill) := goodIn_sub (fun _ h => List.mem_cons_of_mem _ (List.mem_append_right _ h)) (gdV (by decide +kernel) gdwsMX2_fill)
theorem gdwsMX11_cut_0 : wsMX11_cut_0.all goodWord = true := gdC rfl (gdA (gdA (gdA (gdA (gdA (by decide +kernel : ([.fieldLink RX11 415 "OptimaWorks" "nets" "LOptimaWorks$NetDesk;", .fieldLink RX11 443 "OptimaWorks$NetDesk" "reached" "I"] : List Cond).all goodWord = true) gdwsX20) gdwsX110) (gdS (by decide +kernel) gdwsMX11_needNodes)) (gdV (by decide +kernel) gdwsMX11_theNets_0)) (gdV (by decide +kernel) gdwsMX2_fill))
set_option maxHeartbeats 4000000 in
set_option maxRecDepth 100000 in
/-- a cut -/
theorem m_X11_cut_0 (l : Launch) (hst : l.stackTraces = false) (dC : Nat → ClassId) (dI : Nat → Nat → Nat) (hX : Nat → Nat) (aX : Nat → Nat) (kX : Nat → ClassId) (hT : Nat → Nat) (hM : Nat → Nat) (fX_ready : Nat → Int32) (fX_sheet : Nat → Int32) (dX_sheet : Nat) (nX_sheet : Nat) (iX_sheetLength : Int32) (xX_reader : Value) (xX_solver : Value) (xX_prover : Value) (xX_values : Value) (xX_clauses : Value) (kN : Nat → ClassId) (p1 : Int32) (p2 : Int32) (b_fX_sheet : ∀ q : Nat, (-128) ≤ (fX_sheet q).toInt ∧ (fX_sheet q).toInt ≤ 127) (b_nX_sheet : 64 ≤ nX_sheet ∧ nX_sheet ≤ 60000) (b_iX_sheetLength : 0 ≤ iX_sheetLength.toInt ∧ iX_sheetLength.toInt ≤ 30000) (b_shl : iX_sheetLength.toInt ≤ ((nX_sheet : Nat) : Int)) (sz : Nat) : vx_Met l yX11_cut wsMX11_cut_0 ({ frames := 7, cells := 12, slots := 1478, locals := 102 }) (va_Pc [.ref (hX 0), .int p1, .int p2] (fun U => U.heap.size = sz ∧ va_P (dC, dI) vwCl (WX hX aX kX hT hM fX_ready fX_sheet dX_sheet nX_sheet iX_sheetLength xX_reader xX_solver xX_prover xX_values xX_clauses .null) U.heap ∧ va_K (dC, dI) vwCl (tX kX ++ (tN kN)) U ∧ va_D (fun _ => True) (WX hX aX kX hT hM fX_ready fX_sheet dX_sheet nX_sheet iX_sheetLength xX_reader xX_solver xX_prover xX_values xX_clauses .null) ∧ CE (va_A (WX hX aX kX hT hM fX_ready fX_sheet dX_sheet nX_sheet iX_sheetLength xX_reader xX_solver xX_prover xX_values xX_clauses .null) sz) U U.heap)) (va_Qi (fun (r : Int32) (u : (Value) × (va_W)) => (((0 ≤ p1.toInt ∧ p1.toInt ≤ 11) ∧ 0 ≤ p2.toInt ∧ p2.toInt ≤ 11) ∧ p1.toInt ≠ p2.toInt) ∧ (mxC ntZ p1.toInt.toNat p2.toInt.toNat r) ∧ (NetO kN ntZ (u.1) (u.2))) (fun (u : (Value) × (va_W)) t => va_P (dC, dI) vwCl (WX hX aX kX hT hM fX_ready fX_sheet dX_sheet nX_sheet iX_sheetLength xX_reader xX_solver xX_prover xX_values xX_clauses (u.1) ++ ((u.2))) t.heap ∧ va_D (va_A (WX hX aX kX hT hM fX_ready fX_sheet dX_sheet nX_sheet iX_sheetLength xX_reader xX_solver xX_prover xX_values xX_clauses .null) sz) (WX hX aX kX hT hM fX_ready fX_sheet dX_sheet nX_sheet iX_sheetLength xX_reader xX_solver xX_prover xX_values xX_clauses (u.1) ++ ((u.2)))) (va_A (WX hX aX kX hT hM fX_ready fX_sheet dX_sheet nX_sheet iX_sheetLength xX_reader xX_solver xX_prover xX_values xX_clauses .null) sz)) (vx_X (fun (u : (Value) × (va_W)) => (NetO kN ntZ (u.1) (u.2))) (fun E (u : (Value) × (va_W)) t => ((E = "java/lang/IndexOutOfBoundsException" ∧ (¬ ((0 ≤ p1.toInt ∧ p1.toInt ≤ 11) ∧ 0 ≤ p2.toInt ∧ p2.toInt ≤ 11))) ∨ (E = "java/lang/IllegalArgumentException" ∧ (((0 ≤ p1.toInt ∧ p1.toInt ≤ 11) ∧ 0 ≤ p2.toInt ∧ p2.toInt ≤ 11) ∧ p1.toInt = p2.toInt))) ∧ va_P (dC, dI) vwCl (WX hX aX kX hT hM fX_ready fX_sheet dX_sheet nX_sheet iX_sheetLength xX_reader xX_solver xX_prover xX_values xX_clauses (u.1) ++ ((u.2))) t.heap ∧ va_D (va_A (WX hX aX kX hT hM fX_ready fX_sheet dX_sheet nX_sheet iX_sheetLength xX_reader xX_solver xX_prover xX_values xX_clauses .null) sz) (WX hX aX kX hT hM fX_ready fX_sheet dX_sheet nX_sheet iX_sheetLength xX_reader xX_solver xX_prover xX_values xX_clauses (u.1) ++ ((u.2)))) (va_A (WX hX aX kX hT hM fX_ready fX_sheet dX_sheet nX_sheet iX_sheetLength xX_reader xX_solver xX_prover xX_values xX_clauses .null) sz)) 12 1478 (va_A (WX hX aX kX hT hM fX_ready fX_sheet dX_sheet nX_sheet iX_sheetLength xX_reader xX_solver xX_prover xX_values xX_clauses .null) sz) := by
  refine vx_ofW (cc := cX11_cut) (maxL := 3) (ret := (some .int)) (by decide) rfl ?_
  intro p e s m args below meth c s₁ B hml htab hv
  obtain ⟨rfl, hsz, hP, hK, hD0, hE⟩ := hv
  have hx := B.exec
  have hb := B.bytes
  have hr := B.returns
  have hts := atoms_spec (ws := wsMX11_cut_0) B.pre
  have hown : s.vm.findClass RX11 = some m.cls := findClass_of_methodNamed B.named
  have hlocks := B.notSynchronized
  subst hsz
  have hD := hD0.self (sz := s.heap.size)
  generalize hAe : va_A (WX hX aX kX hT hM fX_ready fX_sheet dX_sheet nX_sheet iX_sheetLength xX_reader xX_solver xX_prover xX_values xX_clauses .null) s.heap.size = A at hD hE ⊢
  have hA : ∀ q : Nat, s.heap.size ≤ q → A q := fun q h => by rw [← hAe]; exact Or.inr h
  have hS : va_S A s.heap s.heap [] := va_S.rf
  have hl := lv_entry ([.ref (hX 0), .int p1, .int p2]) (n := 3) (Nat.le_of_ble_eq_true rfl)
  rw [lg_entry_eq]
  generalize (lg_sl ([.ref (hX 0), .int p1, .int p2]) ++ List.replicate (3 - (lg_sl ([.ref (hX 0), .int p1, .int p2])).length) Slot.unset).toArray = ls at hl ⊢
  have hl : lv_has ls 3 [(0, .ref (hX 0)), (1, .int p1), (2, .int p2)] := hl
  refine lv_iload_n hx hb dX11_cut_0 rfl (lv_at hl 1 rfl) ?_
  refine lv_iload_n hx hb dX11_cut_1 rfl (lv_at hl 2 rfl) ?_
  refine W.known (fun hz0 _ => ?_)
  have hFc := noneFree hS hA
  refine vx_callv (vx_runS (As := [.int p1, .int p2]) (rest := []) ⟨hx, hb, hml, hown, hts⟩ (m_X11_needNodes l hst dC dI p1 p2 s.heap.size) (va_cwS 2 hts gwsMX11_cut_0_0 rfl rfl rfl (by decide +kernel) ⟨by decide +kernel, by decide +kernel⟩) ⟨fun a U g mk q => by obtain ⟨q0, q1, qP, qK, qD, qE⟩ := q; exact ⟨q0, q1, qP, va_K.moved (u := U) (U := U.calling g mk a) (Vm.Alike.refl U.vm) qK, qD, qE.call⟩, fun U hU9 hW => ⟨rfl, by rw [hU9], by rw [hU9]; exact nilP, va_K.moved hW.alike (hK.sub (tys' := []) [] rfl), nilD, by rw [hU9]; exact (((hE : CE A s s.heap).kept hS.2.1).narrow (fun q h => hFc q h)).warm hW⟩⟩ rfl rfl hl.1 rfl (lv_room (Nat.le_of_ble_eq_true rfl)) dX11_cut_2 (by decide +kernel)) hS (fun q _ h => hFc q h) hFc (fun q _ h => hFc q h) (fun E ce q9 u t9_ H1 locs ht hvm hw9 hB9 hz1 hk1 hS hc1 hc2 hc3 => ?_) (fun u t9_ H1 locs ht hvm hw9 hB9 hz1 hk1 hS => ?_)
  · revert hB9
    refine fz_a2 ?_
    intro hEx hB9
    clear hw9
    clear hB9
    have hP := keepAll hP hk1
    generalize H1 = H at hP hS hc1 ⊢
    have hP : va_P (dC, dI) vwCl (WX hX aX kX hT hM fX_ready fX_sheet dX_sheet nX_sheet iX_sheetLength xX_reader xX_solver xX_prover xX_values xX_clauses .null) H := hP
    have hD := fz_sd hP (hD) rfl
    exact vx_out (fun x hx9 => (htab x hx9).elim) hlocks hc1 hc2 hc3 (fun t9_ ht hvm => ⟨(.null, ([])), (by (try dsimp only); exact Or.inl ⟨rfl, rfl, rfl⟩), ⟨(by rcases hEx with h9 | h9; exact Or.inl ⟨h9.1, (by have h8 := h9.2; omega)⟩; exact Or.inr (⟨h9.1, (by have h8 := h9.2; omega)⟩)), by rw [ht]; first | exact hP | (simp only [List.append_nil]; exact hP), by first | exact hD | (simp only [List.append_nil]; exact hD)⟩, hS.F ht⟩) hS.2.2 (by decide +kernel) (by decide +kernel)
  have f1_0 := hw9
  try dsimp only at f1_0
  obtain ⟨_, hz8⟩ := hB9
  rw [ht] at hz8
  have hz9 : H1.size ≤ s.heap.size + 0 := by rw [hz8]; exact hz0
  refine W.tight (cells2 := 0) (slots2 := 0) hz9 (nS_0 hz9) ?_
  clear hz8 hz9
  have hP := keepAll hP hk1
  generalize H1 = H at hP hS ⊢
  have hP : va_P (dC, dI) vwCl (WX hX aX kX hT hM fX_ready fX_sheet dX_sheet nX_sheet iX_sheetLength xX_reader xX_solver xX_prover xX_values xX_clauses .null) H := hP
  have hD := fz_sd hP (hD) rfl
  have hnn := f1_0
  refine lv_aload_n hx hb dX11_cut_5 rfl (lv_at hl 0 rfl) ?_
  have hFc := allFree hD hS hA
  refine va_callr (va_runV (As := []) (rest := []) ⟨hx, hb, hml, hown, hts⟩ (m_X11_theNets_0 l hst dC dI hX aX kX hT hM fX_ready fX_sheet dX_sheet nX_sheet iX_sheetLength xX_reader xX_solver xX_prover xX_values xX_clauses kN b_fX_sheet (by first | exact b_nX_sheet | with_reducible assumption | exact ⟨by omega, by omega⟩ | assumption) (b_iX_sheetLength) (by first | with_reducible assumption | omega | assumption) H.size) (cwV 0 hts gwsMX11_cut_0_1 rfl rfl rfl hd_yX11_theNets_RX11 (by decide +kernel)) (fz_preE (va_recv hK hP (ci := 11) (q0 := 0) rfl rfl) hP hK hD (fun a U g mk qE => qE.call) (fun U hU9 hW => by rw [hU9]; exact (((hE : CE A s s.heap).kept hS.2.1).narrow (fun q h => hFc q h)).warm hW)) rfl rfl hl.1 rfl (lv_room (Nat.le_of_ble_eq_true rfl)) dX11_cut_6 (by decide +kernel)) hS (fun q _ h => hFc q h) hFc (fun u ra2 t9_ H locs ht hvm hw9 hB9 hz1 hk1 hS => ?_)
  revert u hw9 hB9
  refine fz_p2 ?_
  intro hN aN hw9 hB9
  try dsimp only at hw9 hB9
  revert hB9
  refine fz_a2 ?_
  intro hra hB9
  subst hra
  clear hw9
  have hP : va_P (dC, dI) vwCl (WX hX aX kX hT hM fX_ready fX_sheet dX_sheet nX_sheet iX_sheetLength xX_reader xX_solver xX_prover xX_values xX_clauses (.ref (hN 0)) ++ (WN hN aN kN 0 (fun _ => 0) (fun _ => 0) (fun _ => 0) (fun _ => 0) 0 (fun _ => 0) (fun _ => 0) (fun _ => 0) (fun _ => 0) (fun _ => 0) 0 (fun _ => 0) (fun _ => 0))) H := fz_P ht hB9.1
  have hD := fz_sd hP (hB9.2.weaken (fun _ q _ h => hFc q.1 h)) rfl
  refine W.widen (k := 12) (n := 1478) (by decide +kernel) (by decide +kernel) ?_
  refine lv_iload_n hx hb dX11_cut_9 rfl (lv_at hl 1 rfl) ?_
  refine lv_iload_n hx hb dX11_cut_10 rfl (lv_at hl 2 rfl) ?_
  have p9 := cj_2_1 (WX hX aX kX hT hM fX_ready fX_sheet dX_sheet nX_sheet iX_sheetLength xX_reader xX_solver xX_prover xX_values xX_clauses (.ref (hN 0))) (WN hN aN kN 0 (fun _ => 0) (fun _ => 0) (fun _ => 0) (fun _ => 0) 0 (fun _ => 0) (fun _ => 0) (fun _ => 0) (fun _ => 0) (fun _ => 0) 0 (fun _ => 0) (fun _ => 0))
  have hPc := hP.mem (fun q h => p9.mem_iff.mpr (List.mem_append_left _ h))
  have hDc := (hD.perm p9).left
  have hKc : va_K (dC, dI) vwCl (tN kN) _ := hK.sub [2, 3, 4, 5, 6, 7, 8, 9, 10, 11, 12] rfl
  have hFc := freeG p9 hD hS hA
  refine va_calli (va_runV (As := [.int p1, .int p2]) (rest := []) ⟨hx, hb, hml, hown, hts⟩ (m_X2_fill l dC dI hN aN kN 0 (fun _ => 0) (fun _ => 0) (fun _ => 0) (fun _ => 0) 0 (fun _ => 0) (fun _ => 0) (fun _ => 0) (fun _ => 0) (fun _ => 0) 0 (fun _ => 0) (fun _ => 0) p1 p2 (show 0 ≤ (0 : Int32).toInt ∧ (0 : Int32).toInt ≤ 40 from by decide) (zr_r (by decide) (by decide)) (zr_r (by decide) (by decide)) (zr_r (by decide) (by decide)) (zr_r (by decide) (by decide)) (show 0 ≤ (0 : Int32).toInt ∧ (0 : Int32).toInt ≤ 8 from by decide) (by first | exact b_p1 | with_reducible assumption | exact ⟨by omega, by omega⟩ | assumption) (by first | exact b_p2 | with_reducible assumption | exact ⟨by omega, by omega⟩ | assumption) (tVal.z0) (tRm.z0) (by omega) H.size) (cwV 2 hts gwsMX11_cut_0_2 rfl rfl rfl hd_yX2_fill_RX2 (by decide +kernel)) (fz_pre (va_recv hK hP (ci := 2) (q0 := 3) rfl rfl) hPc hKc hDc) rfl rfl hl.1 rfl (lv_room (Nat.le_of_ble_eq_true rfl)) dX11_cut_11 (by decide +kernel)) hS (fun q _ h => hFc q h) hFc (fun r3 u t9_ H locs ht hvm hw9 hB9 hz1 hk1 hS => ?_)
  revert u hw9 hB9
  refine fz_p3 ?_
  intro iN_reached_3 fN_free_3 fN_before_3 hw9 hB9
  try dsimp only at hw9 hB9
  revert hw9
  refine fz_a3 ?_
  intro b_fN_before_3 f3_0 f3_1
  have p8 := cj_2_1 (WX hX aX kX hT hM fX_ready fX_sheet dX_sheet nX_sheet iX_sheetLength xX_reader xX_solver xX_prover xX_values xX_clauses (.ref (hN 0))) (WN hN aN kN 0 (fun _ => 0) (fun _ => 0) (fun _ => 0) (fun _ => 0) iN_reached_3 fN_free_3 fN_before_3 (fun _ => 0) (fun _ => 0) (fun _ => 0) 0 (fun _ => 0) (fun _ => 0))
  obtain ⟨hP, hD⟩ := frameG p9 p8 hP hD hk1 hFc (fz_P ht hB9.1) hB9.2
  have hpa := f3_1
  refine lv_pop hx hb dX11_cut_14 rfl ?_
  refine lv_aload_n hx hb dX11_cut_15 rfl (lv_at hl 0 rfl) ?_
  refine va_get (D := (dC, dI)) (ci := 11) (v := .ref (hN 0)) (C := RX11) (T := TX11) (N := 11) hx hb hts iwsMX11_cut_0_in11 hown hK hP 0 rfl rfl 10 (by decide) (hts (.fieldLink RX11 415 "OptimaWorks" "nets" "LOptimaWorks$NetDesk;") (by decide +kernel)) (fun _ h9 => h9) rfl dX11_cut_16 ?_
  refine va_get (D := (dC, dI)) (ci := 2) (v := .int iN_reached_3) (C := RX2) (T := TX2) (N := 14) hx hb hts iwsMX11_cut_0_in2 hown hK hP 3 rfl rfl 5 (by decide) (hts (.fieldLink RX11 443 "OptimaWorks$NetDesk" "reached" "I") (by decide +kernel)) (fun _ h9 => h9) rfl dX11_cut_19 ?_
  refine vx_ret ?_
  refine W.widen (k := 12) (n := 1478) (by decide +kernel) (by decide +kernel) ?_
  exact W.iret (v := iN_reached_3) hx hb hr (fun t9_ ht hW => ⟨⟨iN_reached_3, ((.ref (hN 0)), (WN hN aN kN 0 (fun _ => 0) (fun _ => 0) (fun _ => 0) (fun _ => 0) iN_reached_3 fN_free_3 fN_before_3 (fun _ => 0) (fun _ => 0) (fun _ => 0) 0 (fun _ => 0) (fun _ => 0))), rfl, ⟨(by (try dsimp only); omega), (by (try dsimp only); rw [ntZ_x (x := (0 : Int32).toInt) (by decide)]; exact hpa), (by (try dsimp only); exact Or.inr ⟨hN, aN, 0, (fun _ => 0), (fun _ => 0), (fun _ => 0), (fun _ => 0), iN_reached_3, fN_free_3, fN_before_3, (fun _ => 0), (fun _ => 0), (fun _ => 0), 0, (fun _ => 0), (fun _ => 0), (show 0 ≤ (0 : Int32).toInt ∧ (0 : Int32).toInt ≤ 40 from by decide), (zr_r (by decide) (by decide)), (zr_r (by decide) (by decide)), b_fN_before_3, (zr_r (by decide) (by decide)), (show 0 ≤ (0 : Int32).toInt ∧ (0 : Int32).toInt ≤ 8 from by decide), rfl, rfl, (ntZ_x (by have h7 : (0 : Int32).toInt = 0 := (by decide); omega))⟩)⟩, by rw [ht]; exact hP, hD⟩, hS.F ht⟩) hS.2.2 dX11_cut_22
def wsMX11_cheapest_0 : List Cond := .code yX11_cheapest cX11_cheapest 4 (some .int) :: ([] ++ (va_wsS RX11 438 yX11_needNodes wsMX11_needNodes) ++ (wsV RX11 425 RX11 yX11_theNets wsMX11_theNets_0) ++ (wsV RX11 446 RX2 yX2_leastCost wsMX2_leastCost))
theorem gwsMX11_cheapest_0_0 : GoodIn wsMX11_cheapest_0 (va_wsS RX11 438 yX11_needNodes wsMX11_needNodes) := goodIn_sub (fun _ h => List.mem_cons_of_mem _ (List.mem_append_left _ (List.mem_append_left _ (List.mem_append_right _ h)))) (gdS (by decide +kernel) gdwsMX11_needNodes)
theorem gwsMX11_cheapest_0_1 : GoodIn wsMX11_cheapest_0 (wsV RX11 425 RX11 yX11_theNets wsMX11_theNets_0) := goodIn_sub (fun _ h => List.mem_cons_of_mem _ (List.mem_append_left _ (List.mem_append_right _ h))) (gdV (by decide +kernel) gdwsMX11_theNets_0)
theorem gwsMX11_cheapest_0_2 : GoodIn wsMX11_cheapest_0 (wsV RX11 446 RX2 yX2_leastCost wsMX2_leastCost) := goodIn_sub (fun _ h => List.mem_cons_of_mem _ (List.mem_append_right _ h)) (gdV (by decide +kernel) gdwsMX2_leastCost)
theorem gdwsMX11_cheapest_0 : wsMX11_cheapest_0.all goodWord = true := gdC rfl (gdA (gdA (gdA (by decide +kernel : ([] : List Cond).all goodWord = true) (gdS (by decide +kernel) gdwsMX11_needNodes)) (gdV (by decide +kernel) gdwsMX11_theNets_0)) (gdV (by decide +kernel) gdwsMX2_leastCost))
set_option maxHeartbeats 4000000 in
set_option maxRecDepth 100000 in
/-- the cheapest -/
theorem m_X11_cheapest_0 (l : Launch) (hst : l.stackTraces = false) (dC : Nat → ClassId) (dI : Nat → Nat → Nat) (hX : Nat → Nat) (aX : Nat → Nat) (kX : Nat → ClassId) (hT : Nat → Nat) (hM : Nat → Nat) (fX_ready : Nat → Int32) (fX_sheet : Nat → Int32) (dX_sheet : Nat) (nX_sheet : Nat) (iX_sheetLength : Int32) (xX_reader : Value) (xX_solver : Value) (xX_prover : Value) (xX_values : Value) (xX_clauses : Value) (kN : Nat → ClassId) (p1 : Int32) (p2 : Int32) (p3 : Int32) (b_fX_sheet : ∀ q : Nat, (-128) ≤ (fX_sheet q).toInt ∧ (fX_sheet q).toInt ≤ 127) (b_nX_sheet : 64 ≤ nX_sheet ∧ nX_sheet ≤ 60000) (b_iX_sheetLength : 0 ≤ iX_sheetLength.toInt ∧ iX_sheetLength.toInt ≤ 30000) (b_shl : iX_sheetLength.toInt ≤ ((nX_sheet : Nat) : Int)) (sz : Nat) : vx_Met l yX11_cheapest wsMX11_cheapest_0 ({ frames := 7, cells := 12, slots := 1478, locals := 102 }) (va_Pc [.ref (hX 0), .int p1, .int p2, .int p3] (fun U => U.heap.size = sz ∧ va_P (dC, dI) vwCl (WX hX aX kX hT hM fX_ready fX_sheet dX_sheet nX_sheet iX_sheetLength xX_reader xX_solver xX_prover xX_values xX_clauses .null) U.heap ∧ va_K (dC, dI) vwCl (tX kX ++ (tN kN)) U ∧ va_D (fun _ => True) (WX hX aX kX hT hM fX_ready fX_sheet dX_sheet nX_sheet iX_sheetLength xX_reader xX_solver xX_prover xX_values xX_clauses .null) ∧ CE (va_A (WX hX aX kX hT hM fX_ready fX_sheet dX_sheet nX_sheet iX_sheetLength xX_reader xX_solver xX_prover xX_values xX_clauses .null) sz) U U.heap)) (va_Qi (fun (r : Int32) (u : (Value) × (va_W)) => (((0 ≤ p1.toInt ∧ p1.toInt ≤ 11) ∧ 0 ≤ p2.toInt ∧ p2.toInt ≤ 11) ∧ p1.toInt ≠ p2.toInt) ∧ (mnC ntZ p1.toInt.toNat p2.toInt.toNat p3.toInt r.toInt) ∧ (NetO kN ntZ (u.1) (u.2))) (fun (u : (Value) × (va_W)) t => va_P (dC, dI) vwCl (WX hX aX kX hT hM fX_ready fX_sheet dX_sheet nX_sheet iX_sheetLength xX_reader xX_solver xX_prover xX_values xX_clauses (u.1) ++ ((u.2))) t.heap ∧ va_D (va_A (WX hX aX kX hT hM fX_ready fX_sheet dX_sheet nX_sheet iX_sheetLength xX_reader xX_solver xX_prover xX_values xX_clauses .null) sz) (WX hX aX kX hT hM fX_ready fX_sheet dX_sheet nX_sheet iX_sheetLength xX_reader xX_solver xX_prover xX_values xX_clauses (u.1) ++ ((u.2)))) (va_A (WX hX aX kX hT hM fX_ready fX_sheet dX_sheet nX_sheet iX_sheetLength xX_reader xX_solver xX_prover xX_values xX_clauses .null) sz)) (vx_X (fun (u : (Value) × (va_W)) => (NetO kN ntZ (u.1) (u.2))) (fun E (u : (Value) × (va_W)) t => ((E = "java/lang/IndexOutOfBoundsException" ∧ (¬ ((0 ≤ p1.toInt ∧ p1.toInt ≤ 11) ∧ 0 ≤ p2.toInt ∧ p2.toInt ≤ 11))) ∨ (E = "java/lang/IllegalArgumentException" ∧ (((0 ≤ p1.toInt ∧ p1.toInt ≤ 11) ∧ 0 ≤ p2.toInt ∧ p2.toInt ≤ 11) ∧ p1.toInt = p2.toInt))) ∧ va_P (dC, dI) vwCl (WX hX aX kX hT hM fX_ready fX_sheet dX_sheet nX_sheet iX_sheetLength xX_reader xX_solver xX_prover xX_values xX_clauses (u.1) ++ ((u.2))) t.heap ∧ va_D (va_A (WX hX aX kX hT hM fX_ready fX_sheet dX_sheet nX_sheet iX_sheetLength xX_reader xX_solver xX_prover xX_values xX_clauses .null) sz) (WX hX aX kX hT hM fX_ready fX_sheet dX_sheet nX_sheet iX_sheetLength xX_reader xX_solver xX_prover xX_values xX_clauses (u.1) ++ ((u.2)))) (va_A (WX hX aX kX hT hM fX_ready fX_sheet dX_sheet nX_sheet iX_sheetLength xX_reader xX_solver xX_prover xX_values xX_clauses .null) sz)) 12 1478 (va_A (WX hX aX kX hT hM fX_ready fX_sheet dX_sheet nX_sheet iX_sheetLength xX_reader xX_solver xX_prover xX_values xX_clauses .null) sz) := by
  refine vx_ofW (cc := cX11_cheapest) (maxL := 4) (ret := (some .int)) (by decide) rfl ?_
  intro p e s m args below meth c s₁ B hml htab hv
  obtain ⟨rfl, hsz, hP, hK, hD0, hE⟩ := hv
  have hx := B.exec
  have hb := B.bytes
  have hr := B.returns
  have hts := atoms_spec (ws := wsMX11_cheapest_0) B.pre
  have hown : s.vm.findClass RX11 = some m.cls := findClass_of_methodNamed B.named
  have hlocks := B.notSynchronized
  subst hsz
  have hD := hD0.self (sz := s.heap.size)
  generalize hAe : va_A (WX hX aX kX hT hM fX_ready fX_sheet dX_sheet nX_sheet iX_sheetLength xX_reader xX_solver xX_prover xX_values xX_clauses .null) s.heap.size = A at hD hE ⊢
  have hA : ∀ q : Nat, s.heap.size ≤ q → A q := fun q h => by rw [← hAe]; exact Or.inr h
  have hS : va_S A s.heap s.heap [] := va_S.rf
  have hl := lv_entry ([.ref (hX 0), .int p1, .int p2, .int p3]) (n := 4) (Nat.le_of_ble_eq_true rfl)
  rw [lg_entry_eq]
  generalize (lg_sl ([.ref (hX 0), .int p1, .int p2, .int p3]) ++ List.replicate (4 - (lg_sl ([.ref (hX 0), .int p1, .int p2, .int p3])).length) Slot.unset).toArray = ls at hl ⊢
  have hl : lv_has ls 4 [(0, .ref (hX 0)), (1, .int p1), (2, .int p2), (3, .int p3)] := hl
  refine lv_iload_n hx hb dX11_cheapest_0 rfl (lv_at hl 1 rfl) ?_
  refine lv_iload_n hx hb dX11_cheapest_1 rfl (lv_at hl 2 rfl) ?_
  refine W.known (fun hz0 _ => ?_)
  have hFc := noneFree hS hA
  refine vx_callv (vx_runS (As := [.int p1, .int p2]) (rest := []) ⟨hx, hb, hml, hown, hts⟩ (m_X11_needNodes l hst dC dI p1 p2 s.heap.size) (va_cwS 2 hts gwsMX11_cheapest_0_0 rfl rfl rfl (by decide +kernel) ⟨by decide +kernel, by decide +kernel⟩) ⟨fun a U g mk q => by obtain ⟨q0, q1, qP, qK, qD, qE⟩ := q; exact ⟨q0, q1, qP, va_K.moved (u := U) (U := U.calling g mk a) (Vm.Alike.refl U.vm) qK, qD, qE.call⟩, fun U hU9 hW => ⟨rfl, by rw [hU9], by rw [hU9]; exact nilP, va_K.moved hW.alike (hK.sub (tys' := []) [] rfl), nilD, by rw [hU9]; exact (((hE : CE A s s.heap).kept hS.2.1).narrow (fun q h => hFc q h)).warm hW⟩⟩ rfl rfl hl.1 rfl (lv_room (Nat.le_of_ble_eq_true rfl)) dX11_cheapest_2 (by decide +kernel)) hS (fun q _ h => hFc q h) hFc (fun q _ h => hFc q h) (fun E ce q9 u t9_ H1 locs ht hvm hw9 hB9 hz1 hk1 hS hc1 hc2 hc3 => ?_) (fun u t9_ H1 locs ht hvm hw9 hB9 hz1 hk1 hS => ?_)
  · revert hB9
    refine fz_a2 ?_
    intro hEx hB9
    clear hw9
    clear hB9
    have hP := keepAll hP hk1
    generalize H1 = H at hP hS hc1 ⊢
    have hP : va_P (dC, dI) vwCl (WX hX aX kX hT hM fX_ready fX_sheet dX_sheet nX_sheet iX_sheetLength xX_reader xX_solver xX_prover xX_values xX_clauses .null) H := hP
    have hD := fz_sd hP (hD) rfl
    exact vx_out (fun x hx9 => (htab x hx9).elim) hlocks hc1 hc2 hc3 (fun t9_ ht hvm => ⟨(.null, ([])), (by (try dsimp only); exact Or.inl ⟨rfl, rfl, rfl⟩), ⟨(by rcases hEx with h9 | h9; exact Or.inl ⟨h9.1, (by have h8 := h9.2; omega)⟩; exact Or.inr (⟨h9.1, (by have h8 := h9.2; omega)⟩)), by rw [ht]; first | exact hP | (simp only [List.append_nil]; exact hP), by first | exact hD | (simp only [List.append_nil]; exact hD)⟩, hS.F ht⟩) hS.2.2 (by decide +kernel) (by decide +kernel)
  have f1_0 := hw9
  try dsimp only at f1_0
  obtain ⟨_, hz8⟩ := hB9
  rw [ht] at hz8
  have hz9 : H1.size ≤ s.heap.size + 0 := by rw [hz8]; exact hz0
  refine W.tight (cells2 := 0) (slots2 := 0) hz9 (nS_0 hz9) ?_
  clear hz8 hz9
  have hP := keepAll hP hk1
  generalize H1 = H at hP hS ⊢
  have hP : va_P (dC, dI) vwCl (WX hX aX kX hT hM fX_ready fX_sheet dX_sheet nX_sheet iX_sheetLength xX_reader xX_solver xX_prover xX_values xX_clauses .null) H := hP
  have hD := fz_sd hP (hD) rfl
  have hnn := f1_0
  refine lv_aload_n hx hb dX11_cheapest_5 rfl (lv_at hl 0 rfl) ?_
  have hFc := allFree hD hS hA
  refine va_callr (va_runV (As := []) (rest := []) ⟨hx, hb, hml, hown, hts⟩ (m_X11_theNets_0 l hst dC dI hX aX kX hT hM fX_ready fX_sheet dX_sheet nX_sheet iX_sheetLength xX_reader xX_solver xX_prover xX_values xX_clauses kN b_fX_sheet (by first | exact b_nX_sheet | with_reducible assumption | exact ⟨by omega, by omega⟩ | assumption) (b_iX_sheetLength) (by first | with_reducible assumption | omega | assumption) H.size) (cwV 0 hts gwsMX11_cheapest_0_1 rfl rfl rfl hd_yX11_theNets_RX11 (by decide +kernel)) (fz_preE (va_recv hK hP (ci := 11) (q0 := 0) rfl rfl) hP hK hD (fun a U g mk qE => qE.call) (fun U hU9 hW => by rw [hU9]; exact (((hE : CE A s s.heap).kept hS.2.1).narrow (fun q h => hFc q h)).warm hW)) rfl rfl hl.1 rfl (lv_room (Nat.le_of_ble_eq_true rfl)) dX11_cheapest_6 (by decide +kernel)) hS (fun q _ h => hFc q h) hFc (fun u ra2 t9_ H locs ht hvm hw9 hB9 hz1 hk1 hS => ?_)
  revert u hw9 hB9
  refine fz_p2 ?_
  intro hN aN hw9 hB9
  try dsimp only at hw9 hB9
  revert hB9
  refine fz_a2 ?_
  intro hra hB9
  subst hra
  clear hw9
  have hP : va_P (dC, dI) vwCl (WX hX aX kX hT hM fX_ready fX_sheet dX_sheet nX_sheet iX_sheetLength xX_reader xX_solver xX_prover xX_values xX_clauses (.ref (hN 0)) ++ (WN hN aN kN 0 (fun _ => 0) (fun _ => 0) (fun _ => 0) (fun _ => 0) 0 (fun _ => 0) (fun _ => 0) (fun _ => 0) (fun _ => 0) (fun _ => 0) 0 (fun _ => 0) (fun _ => 0))) H := fz_P ht hB9.1
  have hD := fz_sd hP (hB9.2.weaken (fun _ q _ h => hFc q.1 h)) rfl
  refine W.widen (k := 12) (n := 1478) (by decide +kernel) (by decide +kernel) ?_
  refine lv_iload_n hx hb dX11_cheapest_9 rfl (lv_at hl 1 rfl) ?_
  refine lv_iload_n hx hb dX11_cheapest_10 rfl (lv_at hl 2 rfl) ?_
  refine lv_iload_n hx hb dX11_cheapest_11 rfl (lv_at hl 3 rfl) ?_
  have p9 := cj_2_1 (WX hX aX kX hT hM fX_ready fX_sheet dX_sheet nX_sheet iX_sheetLength xX_reader xX_solver xX_prover xX_values xX_clauses (.ref (hN 0))) (WN hN aN kN 0 (fun _ => 0) (fun _ => 0) (fun _ => 0) (fun _ => 0) 0 (fun _ => 0) (fun _ => 0) (fun _ => 0) (fun _ => 0) (fun _ => 0) 0 (fun _ => 0) (fun _ => 0))
  have hPc := hP.mem (fun q h => p9.mem_iff.mpr (List.mem_append_left _ h))
  have hDc := (hD.perm p9).left
  have hKc : va_K (dC, dI) vwCl (tN kN) _ := hK.sub [2, 3, 4, 5, 6, 7, 8, 9, 10, 11, 12] rfl
  have hFc := freeG p9 hD hS hA
  refine va_calli (va_runV (As := [.int p1, .int p2, .int p3]) (rest := []) ⟨hx, hb, hml, hown, hts⟩ (m_X2_leastCost l dC dI hN aN kN 0 (fun _ => 0) (fun _ => 0) (fun _ => 0) (fun _ => 0) 0 (fun _ => 0) (fun _ => 0) (fun _ => 0) (fun _ => 0) (fun _ => 0) 0 (fun _ => 0) (fun _ => 0) p1 p2 p3 (show 0 ≤ (0 : Int32).toInt ∧ (0 : Int32).toInt ≤ 40 from by decide) (zr_r (by decide) (by decide)) (zr_r (by decide) (by decide)) (zr_r (by decide) (by decide)) (zr_r (by decide) (by decide)) (show 0 ≤ (0 : Int32).toInt ∧ (0 : Int32).toInt ≤ 8 from by decide) (by first | exact b_p1 | with_reducible assumption | exact ⟨by omega, by omega⟩ | assumption) (by first | exact b_p2 | with_reducible assumption | exact ⟨by omega, by omega⟩ | assumption) (ArO.z0) (by omega) H.size) (cwV 3 hts gwsMX11_cheapest_0_2 rfl rfl rfl hd_yX2_leastCost_RX2 (by decide +kernel)) (fz_pre (va_recv hK hP (ci := 2) (q0 := 3) rfl rfl) hPc hKc hDc) rfl rfl hl.1 rfl (lv_room (Nat.le_of_ble_eq_true rfl)) dX11_cheapest_12 (by decide +kernel)) hS (fun q _ h => hFc q h) hFc (fun r3 u t9_ H locs ht hvm hw9 hB9 hz1 hk1 hS => ?_)
  revert u hw9 hB9
  refine fz_p3 ?_
  intro fN_before_3 fN_flow_3 fN_length_3 hw9 hB9
  try dsimp only at hw9 hB9
  revert hw9
  refine fz_a2 ?_
  intro b_fN_before_3 f3_0
  have p8 := cj_2_1 (WX hX aX kX hT hM fX_ready fX_sheet dX_sheet nX_sheet iX_sheetLength xX_reader xX_solver xX_prover xX_values xX_clauses (.ref (hN 0))) (WN hN aN kN 0 (fun _ => 0) (fun _ => 0) (fun _ => 0) (fun _ => 0) 0 (fun _ => 0) fN_before_3 fN_flow_3 fN_length_3 (fun _ => 0) 0 (fun _ => 0) (fun _ => 0))
  obtain ⟨hP, hD⟩ := frameG p9 p8 hP hD hk1 hFc (fz_P ht hB9.1) hB9.2
  have hpa := f3_0
  refine vx_ret ?_
  refine W.widen (k := 12) (n := 1478) (by decide +kernel) (by decide +kernel) ?_
  exact W.iret (v := r3) hx hb hr (fun t9_ ht hW => ⟨⟨r3, ((.ref (hN 0)), (WN hN aN kN 0 (fun _ => 0) (fun _ => 0) (fun _ => 0) (fun _ => 0) 0 (fun _ => 0) fN_before_3 fN_flow_3 fN_length_3 (fun _ => 0) 0 (fun _ => 0) (fun _ => 0))), rfl, ⟨(by (try dsimp only); omega), (by (try dsimp only); rw [ntZ_x (x := (0 : Int32).toInt) (by decide)]; exact hpa), (by (try dsimp only); exact Or.inr ⟨hN, aN, 0, (fun _ => 0), (fun _ => 0), (fun _ => 0), (fun _ => 0), 0, (fun _ => 0), fN_before_3, fN_flow_3, fN_length_3, (fun _ => 0), 0, (fun _ => 0), (fun _ => 0), (show 0 ≤ (0 : Int32).toInt ∧ (0 : Int32).toInt ≤ 40 from by decide), (zr_r (by decide) (by decide)), (zr_r (by decide) (by decide)), b_fN_before_3, (zr_r (by decide) (by decide)), (show 0 ≤ (0 : Int32).toInt ∧ (0 : Int32).toInt ≤ 8 from by decide), rfl, rfl, (ntZ_x (by have h7 : (0 : Int32).toInt = 0 := (by decide); omega))⟩)⟩, by rw [ht]; exact hP, hD⟩, hS.F ht⟩) hS.2.2 dX11_cheapest_15
def wsMX11_path_0 : List Cond := .code yX11_path cX11_path 4 (some .int) :: ([] ++ (va_wsS RX11 438 yX11_needNodes wsMX11_needNodes) ++ (wsV RX11 425 RX11 yX11_theNets wsMX11_theNets_0) ++ (wsV RX11 449 RX2 yX2_shortest wsMX2_shortest))
theorem gwsMX11_path_0_0 : GoodIn wsMX11_path_0 (va_wsS RX11 438 yX11_needNodes wsMX11_needNodes) := goodIn_sub (fun _ h => List.mem_cons_of_mem _ (List.mem_append_left _ (List.mem_append_left _ (List.mem_append_right _ h)))) (gdS (by decide +kernel) gdwsMX11_needNodes)
theorem gwsMX11_path_0_1 : GoodIn wsMX11_path_0 (wsV RX11 425 RX11 yX11_theNets wsMX11_theNets_0) := goodIn_sub (fun _ h => List.mem_cons_of_mem _ (List.mem_append_left _ (List.mem_append_right _ h))) (gdV (by decide +kernel) gdwsMX11_theNets_0)
theorem gwsMX11_path_0_2 : GoodIn wsMX11_path_0 (wsV RX11 449 RX2 yX2_shortest wsMX2_shortest) := goodIn_sub (fun _ h => List.mem_cons_of_mem _ (List.mem_append_right _ h)) (gdV (by decide +kernel) gdwsMX2_shortest)
theorem gdwsMX11_path_0 : wsMX11_path_0.all goodWord = true := gdC rfl (gdA (gdA (gdA (by decide +kernel : ([] : List Cond).all goodWord = true) (gdS (by decide +kernel) gdwsMX11_needNodes)) (gdV (by decide +kernel) gdwsMX11_theNets_0)) (gdV (by decide +kernel) gdwsMX2_shortest))
set_option maxHeartbeats 4000000 in
set_option maxRecDepth 100000 in
/-- a path -/
theorem m_X11_path_0 (l : Launch) (hst : l.stackTraces = false) (dC : Nat → ClassId) (dI : Nat → Nat → Nat) (hX : Nat → Nat) (aX : Nat → Nat) (kX : Nat → ClassId) (hT : Nat → Nat) (hM : Nat → Nat) (fX_ready : Nat → Int32) (fX_sheet : Nat → Int32) (dX_sheet : Nat) (nX_sheet : Nat) (iX_sheetLength : Int32) (xX_reader : Value) (xX_solver : Value) (xX_prover : Value) (xX_values : Value) (xX_clauses : Value) (kN : Nat → ClassId) (p1 : Int32) (p2 : Int32) (p3 : Int32) (b_fX_sheet : ∀ q : Nat, (-128) ≤ (fX_sheet q).toInt ∧ (fX_sheet q).toInt ≤ 127) (b_nX_sheet : 64 ≤ nX_sheet ∧ nX_sheet ≤ 60000) (b_iX_sheetLength : 0 ≤ iX_sheetLength.toInt ∧ iX_sheetLength.toInt ≤ 30000) (b_shl : iX_sheetLength.toInt ≤ ((nX_sheet : Nat) : Int)) (sz : Nat) : vx_Met l yX11_path wsMX11_path_0 ({ frames := 7, cells := 12, slots := 1478, locals := 102 }) (va_Pc [.ref (hX 0), .int p1, .int p2, .int p3] (fun U => U.heap.size = sz ∧ va_P (dC, dI) vwCl (WX hX aX kX hT hM fX_ready fX_sheet dX_sheet nX_sheet iX_sheetLength xX_reader xX_solver xX_prover xX_values xX_clauses .null) U.heap ∧ va_K (dC, dI) vwCl (tX kX ++ (tN kN)) U ∧ va_D (fun _ => True) (WX hX aX kX hT hM fX_ready fX_sheet dX_sheet nX_sheet iX_sheetLength xX_reader xX_solver xX_prover xX_values xX_clauses .null) ∧ CE (va_A (WX hX aX kX hT hM fX_ready fX_sheet dX_sheet nX_sheet iX_sheetLength xX_reader xX_solver xX_prover xX_values xX_clauses .null) sz) U U.heap)) (va_Qi (fun (r : Int32) (u : (Value) × (va_W)) => (((0 ≤ p1.toInt ∧ p1.toInt ≤ 11) ∧ 0 ≤ p2.toInt ∧ p2.toInt ≤ 11) ∧ p1.toInt ≠ p2.toInt) ∧ (pAns ntZ p1.toInt.toNat p2.toInt.toNat p3.toInt r.toInt) ∧ (NetO kN ntZ (u.1) (u.2))) (fun (u : (Value) × (va_W)) t => va_P (dC, dI) vwCl (WX hX aX kX hT hM fX_ready fX_sheet dX_sheet nX_sheet iX_sheetLength xX_reader xX_solver xX_prover xX_values xX_clauses (u.1) ++ ((u.2))) t.heap ∧ va_D (va_A (WX hX aX kX hT hM fX_ready fX_sheet dX_sheet nX_sheet iX_sheetLength xX_reader xX_solver xX_prover xX_values xX_clauses .null) sz) (WX hX aX kX hT hM fX_ready fX_sheet dX_sheet nX_sheet iX_sheetLength xX_reader xX_solver xX_prover xX_values xX_clauses (u.1) ++ ((u.2)))) (va_A (WX hX aX kX hT hM fX_ready fX_sheet dX_sheet nX_sheet iX_sheetLength xX_reader xX_solver xX_prover xX_values xX_clauses .null) sz)) (vx_X (fun (u : (Value) × (va_W)) => (NetO kN ntZ (u.1) (u.2))) (fun E (u : (Value) × (va_W)) t => ((E = "java/lang/IndexOutOfBoundsException" ∧ (¬ ((0 ≤ p1.toInt ∧ p1.toInt ≤ 11) ∧ 0 ≤ p2.toInt ∧ p2.toInt ≤ 11))) ∨ (E = "java/lang/IllegalArgumentException" ∧ (((0 ≤ p1.toInt ∧ p1.toInt ≤ 11) ∧ 0 ≤ p2.toInt ∧ p2.toInt ≤ 11) ∧ p1.toInt = p2.toInt))) ∧ va_P (dC, dI) vwCl (WX hX aX kX hT hM fX_ready fX_sheet dX_sheet nX_sheet iX_sheetLength xX_reader xX_solver xX_prover xX_values xX_clauses (u.1) ++ ((u.2))) t.heap ∧ va_D (va_A (WX hX aX kX hT hM fX_ready fX_sheet dX_sheet nX_sheet iX_sheetLength xX_reader xX_solver xX_prover xX_values xX_clauses .null) sz) (WX hX aX kX hT hM fX_ready fX_sheet dX_sheet nX_sheet iX_sheetLength xX_reader xX_solver xX_prover xX_values xX_clauses (u.1) ++ ((u.2)))) (va_A (WX hX aX kX hT hM fX_ready fX_sheet dX_sheet nX_sheet iX_sheetLength xX_reader xX_solver xX_prover xX_values xX_clauses .null) sz)) 12 1478 (va_A (WX hX aX kX hT hM fX_ready fX_sheet dX_sheet nX_sheet iX_sheetLength xX_reader xX_solver xX_prover xX_values xX_clauses .null) sz) := by
  refine vx_ofW (cc := cX11_path) (maxL := 4) (ret := (some .int)) (by decide) rfl ?_
  intro p e s m args below meth c s₁ B hml htab hv
  obtain ⟨rfl, hsz, hP, hK, hD0, hE⟩ := hv
  have hx := B.exec
  have hb := B.bytes
  have hr := B.returns
  have hts := atoms_spec (ws := wsMX11_path_0) B.pre
  have hown : s.vm.findClass RX11 = some m.cls := findClass_of_methodNamed B.named
  have hlocks := B.notSynchronized
  subst hsz
  have hD := hD0.self (sz := s.heap.size)
  generalize hAe : va_A (WX hX aX kX hT hM fX_ready fX_sheet dX_sheet nX_sheet iX_sheetLength xX_reader xX_solver xX_prover xX_values xX_clauses .null) s.heap.size = A at hD hE ⊢
  have hA : ∀ q : Nat, s.heap.size ≤ q → A q := fun q h => by rw [← hAe]; exact Or.inr h
  have hS : va_S A s.heap s.heap [] := va_S.rf
  have hl := lv_entry ([.ref (hX 0), .int p1, .int p2, .int p3]) (n := 4) (Nat.le_of_ble_eq_true rfl)
  rw [lg_entry_eq]
  generalize (lg_sl ([.ref (hX 0), .int p1, .int p2, .int p3]) ++ List.replicate (4 - (lg_sl ([.ref (hX 0), .int p1, .int p2, .int p3])).length) Slot.unset).toArray = ls at hl ⊢
  have hl : lv_has ls 4 [(0, .ref (hX 0)), (1, .int p1), (2, .int p2), (3, .int p3)] := hl
  refine lv_iload_n hx hb dX11_path_0 rfl (lv_at hl 1 rfl) ?_
  refine lv_iload_n hx hb dX11_path_1 rfl (lv_at hl 2 rfl) ?_
  refine W.known (fun hz0 _ => ?_)
  have hFc := noneFree hS hA
  refine vx_callv (vx_runS (As := [.int p1, .int p2]) (rest := []) ⟨hx, hb, hml, hown, hts⟩ (m_X11_needNodes l hst dC dI p1 p2 s.heap.size) (va_cwS 2 hts gwsMX11_path_0_0 rfl rfl rfl (by decide +kernel) ⟨by decide +kernel, by decide +kernel⟩) ⟨fun a U g mk q => by obtain ⟨q0, q1, qP, qK, qD, qE⟩ := q; exact ⟨q0, q1, qP, va_K.moved (u := U) (U := U.calling g mk a) (Vm.Alike.refl U.vm) qK, qD, qE.call⟩, fun U hU9 hW => ⟨rfl, by rw [hU9], by rw [hU9]; exact nilP, va_K.moved hW.alike (hK.sub (tys' := []) [] rfl), nilD, by rw [hU9]; exact (((hE : CE A s s.heap).kept hS.2.1).narrow (fun q h => hFc q h)).warm hW⟩⟩ rfl rfl hl.1 rfl (lv_room (Nat.le_of_ble_eq_true rfl)) dX11_path_2 (by decide +kernel)) hS (fun q _ h => hFc q h) hFc (fun q _ h => hFc q h) (fun E ce q9 u t9_ H1 locs ht hvm hw9 hB9 hz1 hk1 hS hc1 hc2 hc3 => ?_) (fun u t9_ H1 locs ht hvm hw9 hB9 hz1 hk1 hS => ?_)
  · revert hB9
    refine fz_a2 ?_
    intro hEx hB9
    clear hw9
    clear hB9
    have hP := keepAll hP hk1
    generalize H1 = H at hP hS hc1 ⊢
    have hP : va_P (dC, dI) vwCl (WX hX aX kX hT hM fX_ready fX_sheet dX_sheet nX_sheet iX_sheetLength xX_reader xX_solver xX_prover xX_values xX_clauses .null) H := hP
    have hD := fz_sd hP (hD) rfl
    exact vx_out (fun x hx9 => (htab x hx9).elim) hlocks hc1 hc2 hc3 (fun t9_ ht hvm => ⟨(.null, ([])), (by (try dsimp only); exact Or.inl ⟨rfl, rfl, rfl⟩), ⟨(by rcases hEx with h9 | h9; exact Or.inl ⟨h9.1, (by have h8 := h9.2; omega)⟩; exact Or.inr (⟨h9.1, (by have h8 := h9.2; omega)⟩)), by rw [ht]; first | exact hP | (simp only [List.append_nil]; exact hP), by first | exact hD | (simp only [List.append_nil]; exact hD)⟩, hS.F ht⟩) hS.2.2 (by decide +kernel) (by decide +kernel)
  have f1_0 := hw9
  try dsimp only at f1_0
  obtain ⟨_, hz8⟩ := hB9
  rw [ht] at hz8
  have hz9 : H1.size ≤ s.heap.size + 0 := by rw [hz8]; exact hz0
  refine W.tight (cells2 := 0) (slots2 := 0) hz9 (nS_0 hz9) ?_
  clear hz8 hz9
  have hP := keepAll hP hk1
  generalize H1 = H at hP hS ⊢
  have hP : va_P (dC, dI) vwCl (WX hX aX kX hT hM fX_ready fX_sheet dX_sheet nX_sheet iX_sheetLength xX_reader xX_solver xX_prover xX_values xX_clauses .null) H := hP
  have hD := fz_sd hP (hD) rfl
  have hnn := f1_0
  refine lv_aload_n hx hb dX11_path_5 rfl (lv_at hl 0 rfl) ?_
  have hFc := allFree hD hS hA
  refine va_callr (va_runV (As := []) (rest := []) ⟨hx, hb, hml, hown, hts⟩ (m_X11_theNets_0 l hst dC dI hX aX kX hT hM fX_ready fX_sheet dX_sheet nX_sheet iX_sheetLength xX_reader xX_solver xX_prover xX_values xX_clauses kN b_fX_sheet (by first | exact b_nX_sheet | with_reducible assumption | exact ⟨by omega, by omega⟩ | assumption) (b_iX_sheetLength) (by first | with_reducible assumption | omega | assumption) H.size) (cwV 0 hts gwsMX11_path_0_1 rfl rfl rfl hd_yX11_theNets_RX11 (by decide +kernel)) (fz_preE (va_recv hK hP (ci := 11) (q0 := 0) rfl rfl) hP hK hD (fun a U g mk qE => qE.call) (fun U hU9 hW => by rw [hU9]; exact (((hE : CE A s s.heap).kept hS.2.1).narrow (fun q h => hFc q h)).warm hW)) rfl rfl hl.1 rfl (lv_room (Nat.le_of_ble_eq_true rfl)) dX11_path_6 (by decide +kernel)) hS (fun q _ h => hFc q h) hFc (fun u ra2 t9_ H locs ht hvm hw9 hB9 hz1 hk1 hS => ?_)
  revert u hw9 hB9
  refine fz_p2 ?_
  intro hN aN hw9 hB9
  try dsimp only at hw9 hB9
  revert hB9
  refine fz_a2 ?_
  intro hra hB9
  subst hra
  clear hw9
  have hP : va_P (dC, dI) vwCl (WX hX aX kX hT hM fX_ready fX_sheet dX_sheet nX_sheet iX_sheetLength xX_reader xX_solver xX_prover xX_values xX_clauses (.ref (hN 0)) ++ (WN hN aN kN 0 (fun _ => 0) (fun _ => 0) (fun _ => 0) (fun _ => 0) 0 (fun _ => 0) (fun _ => 0) (fun _ => 0) (fun _ => 0) (fun _ => 0) 0 (fun _ => 0) (fun _ => 0))) H := fz_P ht hB9.1
  have hD := fz_sd hP (hB9.2.weaken (fun _ q _ h => hFc q.1 h)) rfl
  refine W.widen (k := 12) (n := 1478) (by decide +kernel) (by decide +kernel) ?_
  refine lv_iload_n hx hb dX11_path_9 rfl (lv_at hl 1 rfl) ?_
  refine lv_iload_n hx hb dX11_path_10 rfl (lv_at hl 2 rfl) ?_
  refine lv_iload_n hx hb dX11_path_11 rfl (lv_at hl 3 rfl) ?_
  have p9 := cj_2_1 (WX hX aX kX hT hM fX_ready fX_sheet dX_sheet nX_sheet iX_sheetLength xX_reader xX_solver xX_prover xX_values xX_clauses (.ref (hN 0))) (WN hN aN kN 0 (fun _ => 0) (fun _ => 0) (fun _ => 0) (fun _ => 0) 0 (fun _ => 0) (fun _ => 0) (fun _ => 0) (fun _ => 0) (fun _ => 0) 0 (fun _ => 0) (fun _ => 0))
  have hPc := hP.mem (fun q h => p9.mem_iff.mpr (List.mem_append_left _ h))
  have hDc := (hD.perm p9).left
  have hKc : va_K (dC, dI) vwCl (tN kN) _ := hK.sub [2, 3, 4, 5, 6, 7, 8, 9, 10, 11, 12] rfl
  have hFc := freeG p9 hD hS hA
  refine va_calli (va_runV (As := [.int p1, .int p2, .int p3]) (rest := []) ⟨hx, hb, hml, hown, hts⟩ (m_X2_shortest l dC dI hN aN kN 0 (fun _ => 0) (fun _ => 0) (fun _ => 0) (fun _ => 0) 0 (fun _ => 0) (fun _ => 0) (fun _ => 0) (fun _ => 0) (fun _ => 0) 0 (fun _ => 0) (fun _ => 0) p1 p2 p3 (show 0 ≤ (0 : Int32).toInt ∧ (0 : Int32).toInt ≤ 40 from by decide) (zr_r (by decide) (by decide)) (zr_r (by decide) (by decide)) (zr_r (by decide) (by decide)) (zr_r (by decide) (by decide)) (show 0 ≤ (0 : Int32).toInt ∧ (0 : Int32).toInt ≤ 8 from by decide) (by first | exact b_p1 | with_reducible assumption | exact ⟨by omega, by omega⟩ | assumption) (by first | exact b_p2 | with_reducible assumption | exact ⟨by omega, by omega⟩ | assumption) (tVal.z0) H.size) (cwV 3 hts gwsMX11_path_0_2 rfl rfl rfl hd_yX2_shortest_RX2 (by decide +kernel)) (fz_pre (va_recv hK hP (ci := 2) (q0 := 3) rfl rfl) hPc hKc hDc) rfl rfl hl.1 rfl (lv_room (Nat.le_of_ble_eq_true rfl)) dX11_path_12 (by decide +kernel)) hS (fun q _ h => hFc q h) hFc (fun r3 fN_length_3 t9_ H locs ht hvm hw9 hB9 hz1 hk1 hS => ?_)
  have f3_0 := hw9
  try dsimp only at f3_0
  have p8 := cj_2_1 (WX hX aX kX hT hM fX_ready fX_sheet dX_sheet nX_sheet iX_sheetLength xX_reader xX_solver xX_prover xX_values xX_clauses (.ref (hN 0))) (WN hN aN kN 0 (fun _ => 0) (fun _ => 0) (fun _ => 0) (fun _ => 0) 0 (fun _ => 0) (fun _ => 0) (fun _ => 0) fN_length_3 (fun _ => 0) 0 (fun _ => 0) (fun _ => 0))
  obtain ⟨hP, hD⟩ := frameG p9 p8 hP hD hk1 hFc (fz_P ht hB9.1) hB9.2
  have hpa := f3_0
  refine vx_ret ?_
  refine W.widen (k := 12) (n := 1478) (by decide +kernel) (by decide +kernel) ?_
  exact W.iret (v := r3) hx hb hr (fun t9_ ht hW => ⟨⟨r3, ((.ref (hN 0)), (WN hN aN kN 0 (fun _ => 0) (fun _ => 0) (fun _ => 0) (fun _ => 0) 0 (fun _ => 0) (fun _ => 0) (fun _ => 0) fN_length_3 (fun _ => 0) 0 (fun _ => 0) (fun _ => 0))), rfl, ⟨(by (try dsimp only); omega), (by (try dsimp only); rw [ntZ_x (x := (0 : Int32).toInt) (by decide)]; exact hpa), (by (try dsimp only); exact Or.inr ⟨hN, aN, 0, (fun _ => 0), (fun _ => 0), (fun _ => 0), (fun _ => 0), 0, (fun _ => 0), (fun _ => 0), (fun _ => 0), fN_length_3, (fun _ => 0), 0, (fun _ => 0), (fun _ => 0), (show 0 ≤ (0 : Int32).toInt ∧ (0 : Int32).toInt ≤ 40 from by decide), (zr_r (by decide) (by decide)), (zr_r (by decide) (by decide)), (zr_r (by decide) (by decide)), (zr_r (by decide) (by decide)), (show 0 ≤ (0 : Int32).toInt ∧ (0 : Int32).toInt ≤ 8 from by decide), rfl, rfl, (ntZ_x (by have h7 : (0 : Int32).toInt = 0 := (by decide); omega))⟩)⟩, by rw [ht]; exact hP, hD⟩, hS.F ht⟩) hS.2.2 dX11_path_15
def wsMX11_tree_0 : List Cond := .code yX11_tree cX11_tree 1 (some .long) :: ([] ++ (wsV RX11 425 RX11 yX11_theNets wsMX11_theNets_0) ++ (wsV RX11 452 RX2 yX2_treeArcs wsMX2_treeArcs))
theorem gwsMX11_tree_0_0 : GoodIn wsMX11_tree_0 (wsV RX11 425 RX11 yX11_theNets wsMX11_theNets_0) := goodIn_sub (fun _ h => List.mem_cons_of_mem _ (List.mem_append_left _ (List.mem_append_right _ h))) (gdV (by decide +kernel) gdwsMX11_theNets_0)
theorem gwsMX11_tree_0_1 : GoodIn wsMX11_tree_0 (wsV RX11 452 RX2 yX2_treeArcs wsMX2_treeArcs) := goodIn_sub (fun _ h => List.mem_cons_of_mem _ (List.mem_append_right _ h)) (gdV (by decide +kernel) gdwsMX2_treeArcs)
theorem gdwsMX11_tree_0 : wsMX11_tree_0.all goodWord = true := gdC rfl (gdA (gdA (by decide +kernel : ([] : List Cond).all goodWord = true) (gdV (by decide +kernel) gdwsMX11_theNets_0)) (gdV (by decide +kernel) gdwsMX2_treeArcs))
set_option maxHeartbeats 4000000 in
set_option maxRecDepth 100000 in
/-- a tree -/
theorem m_X11_tree_0 (l : Launch) (hst : l.stackTraces = false) (dC : Nat → ClassId) (dI : Nat → Nat → Nat) (hX : Nat → Nat) (aX : Nat → Nat) (kX : Nat → ClassId) (hT : Nat → Nat) (hM : Nat → Nat) (fX_ready : Nat → Int32) (fX_sheet : Nat → Int32) (dX_sheet : Nat) (nX_sheet : Nat) (iX_sheetLength : Int32) (xX_reader : Value) (xX_solver : Value) (xX_prover : Value) (xX_values : Value) (xX_clauses : Value) (kN : Nat → ClassId) (b_fX_sheet : ∀ q : Nat, (-128) ≤ (fX_sheet q).toInt ∧ (fX_sheet q).toInt ≤ 127) (b_nX_sheet : 64 ≤ nX_sheet ∧ nX_sheet ≤ 60000) (b_iX_sheetLength : 0 ≤ iX_sheetLength.toInt ∧ iX_sheetLength.toInt ≤ 30000) (b_shl : iX_sheetLength.toInt ≤ ((nX_sheet : Nat) : Int)) (sz : Nat) : Met l yX11_tree wsMX11_tree_0 ({ frames := 3, cells := 12, slots := 1478, locals := 67 }) (va_Pc [.ref (hX 0)] (fun U => U.heap.size = sz ∧ va_P (dC, dI) vwCl (WX hX aX kX hT hM fX_ready fX_sheet dX_sheet nX_sheet iX_sheetLength xX_reader xX_solver xX_prover xX_values xX_clauses .null) U.heap ∧ va_K (dC, dI) vwCl (tX kX ++ (tN kN)) U ∧ va_D (fun _ => True) (WX hX aX kX hT hM fX_ready fX_sheet dX_sheet nX_sheet iX_sheetLength xX_reader xX_solver xX_prover xX_values xX_clauses .null) ∧ CE (va_A (WX hX aX kX hT hM fX_ready fX_sheet dX_sheet nX_sheet iX_sheetLength xX_reader xX_solver xX_prover xX_values xX_clauses .null) sz) U U.heap)) (va_Ql (fun (r : Int64) (u : (Value) × (va_W)) => (tAll ntZ r) ∧ (NetO kN ntZ (u.1) (u.2))) (fun (u : (Value) × (va_W)) t => va_P (dC, dI) vwCl (WX hX aX kX hT hM fX_ready fX_sheet dX_sheet nX_sheet iX_sheetLength xX_reader xX_solver xX_prover xX_values xX_clauses (u.1) ++ ((u.2))) t.heap ∧ va_D (va_A (WX hX aX kX hT hM fX_ready fX_sheet dX_sheet nX_sheet iX_sheetLength xX_reader xX_solver xX_prover xX_values xX_clauses .null) sz) (WX hX aX kX hT hM fX_ready fX_sheet dX_sheet nX_sheet iX_sheetLength xX_reader xX_solver xX_prover xX_values xX_clauses (u.1) ++ ((u.2)))) (va_A (WX hX aX kX hT hM fX_ready fX_sheet dX_sheet nX_sheet iX_sheetLength xX_reader xX_solver xX_prover xX_values xX_clauses .null) sz)) 12 1478 (va_A (WX hX aX kX hT hM fX_ready fX_sheet dX_sheet nX_sheet iX_sheetLength xX_reader xX_solver xX_prover xX_values xX_clauses .null) sz) := by
  refine Met.ofW (cc := cX11_tree) (maxL := 1) (ret := (some .long)) (by decide) rfl ?_
  intro p e s m args below meth c s₁ B hml hv
  obtain ⟨rfl, hsz, hP, hK, hD0, hE⟩ := hv
  have hx := B.exec
  have hb := B.bytes
  have hr := B.returns
  have hts := atoms_spec (ws := wsMX11_tree_0) B.pre
  have hown : s.vm.findClass RX11 = some m.cls := findClass_of_methodNamed B.named
  have hlocks := B.notSynchronized
  subst hsz
  have hD := hD0.self (sz := s.heap.size)
  generalize hAe : va_A (WX hX aX kX hT hM fX_ready fX_sheet dX_sheet nX_sheet iX_sheetLength xX_reader xX_solver xX_prover xX_values xX_clauses .null) s.heap.size = A at hD hE ⊢
  have hA : ∀ q : Nat, s.heap.size ≤ q → A q := fun q h => by rw [← hAe]; exact Or.inr h
  have hS : va_S A s.heap s.heap [] := va_S.rf
  have hl := lv_entry ([.ref (hX 0)]) (n := 1) (Nat.le_of_ble_eq_true rfl)
  rw [lg_entry_eq]
  generalize (lg_sl ([.ref (hX 0)]) ++ List.replicate (1 - (lg_sl ([.ref (hX 0)])).length) Slot.unset).toArray = ls at hl ⊢
  have hl : lv_has ls 1 [(0, .ref (hX 0))] := hl
  refine lv_aload_n hx hb dX11_tree_0 rfl (lv_at hl 0 rfl) ?_
  have hFc := allFree hD hS hA
  refine va_callr (va_runV (As := []) (rest := []) ⟨hx, hb, hml, hown, hts⟩ (m_X11_theNets_0 l hst dC dI hX aX kX hT hM fX_ready fX_sheet dX_sheet nX_sheet iX_sheetLength xX_reader xX_solver xX_prover xX_values xX_clauses kN b_fX_sheet (by first | exact b_nX_sheet | with_reducible assumption | exact ⟨by omega, by omega⟩ | assumption) (b_iX_sheetLength) (by first | with_reducible assumption | omega | assumption) s.heap.size) (cwV 0 hts gwsMX11_tree_0_0 rfl rfl rfl hd_yX11_theNets_RX11 (by decide +kernel)) (fz_preE (va_recv hK hP (ci := 11) (q0 := 0) rfl rfl) hP hK hD (fun a U g mk qE => qE.call) (fun U hU9 hW => by rw [hU9]; exact (((hE : CE A s s.heap).kept hS.2.1).narrow (fun q h => hFc q h)).warm hW)) rfl rfl hl.1 rfl (lv_room (Nat.le_of_ble_eq_true rfl)) dX11_tree_1 (by decide +kernel)) hS (fun q _ h => hFc q h) hFc (fun u ra1 t9_ H locs ht hvm hw9 hB9 hz1 hk1 hS => ?_)
  revert u hw9 hB9
  refine fz_p2 ?_
  intro hN aN hw9 hB9
  try dsimp only at hw9 hB9
  revert hB9
  refine fz_a2 ?_
  intro hra hB9
  subst hra
  clear hw9
  have hP : va_P (dC, dI) vwCl (WX hX aX kX hT hM fX_ready fX_sheet dX_sheet nX_sheet iX_sheetLength xX_reader xX_solver xX_prover xX_values xX_clauses (.ref (hN 0)) ++ (WN hN aN kN 0 (fun _ => 0) (fun _ => 0) (fun _ => 0) (fun _ => 0) 0 (fun _ => 0) (fun _ => 0) (fun _ => 0) (fun _ => 0) (fun _ => 0) 0 (fun _ => 0) (fun _ => 0))) H := fz_P ht hB9.1
  have hD := fz_sd hP (hB9.2.weaken (fun _ q _ h => hFc q.1 h)) rfl
  refine W.widen (k := 12) (n := 1478) (by decide +kernel) (by decide +kernel) ?_
  have p9 := cj_2_1 (WX hX aX kX hT hM fX_ready fX_sheet dX_sheet nX_sheet iX_sheetLength xX_reader xX_solver xX_prover xX_values xX_clauses (.ref (hN 0))) (WN hN aN kN 0 (fun _ => 0) (fun _ => 0) (fun _ => 0) (fun _ => 0) 0 (fun _ => 0) (fun _ => 0) (fun _ => 0) (fun _ => 0) (fun _ => 0) 0 (fun _ => 0) (fun _ => 0))
  have hPc := hP.mem (fun q h => p9.mem_iff.mpr (List.mem_append_left _ h))
  have hDc := (hD.perm p9).left
  have hKc : va_K (dC, dI) vwCl (tN kN) _ := hK.sub [2, 3, 4, 5, 6, 7, 8, 9, 10, 11, 12] rfl
  have hFc := freeG p9 hD hS hA
  refine va_calll (va_runV (As := []) (rest := []) ⟨hx, hb, hml, hown, hts⟩ (m_X2_treeArcs l dC dI hN aN kN 0 (fun _ => 0) (fun _ => 0) (fun _ => 0) (fun _ => 0) 0 (fun _ => 0) (fun _ => 0) (fun _ => 0) (fun _ => 0) (fun _ => 0) 0 (fun _ => 0) (fun _ => 0) (show 0 ≤ (0 : Int32).toInt ∧ (0 : Int32).toInt ≤ 40 from by decide) (zr_r (by decide) (by decide)) (zr_r (by decide) (by decide)) (zr_r (by decide) (by decide)) (zr_r (by decide) (by decide)) (show 0 ≤ (0 : Int32).toInt ∧ (0 : Int32).toInt ≤ 8 from by decide) (tVal.z0) H.size) (cwV 0 hts gwsMX11_tree_0_1 rfl rfl rfl hd_yX2_treeArcs_RX2 (by decide +kernel)) (fz_pre (va_recv hK hP (ci := 2) (q0 := 3) rfl rfl) hPc hKc hDc) rfl rfl hl.1 rfl (lv_room (Nat.le_of_ble_eq_true rfl)) dX11_tree_4 (by decide +kernel)) hS (fun q _ h => hFc q h) hFc (fun r2 fN_before_2 t9_ H locs ht hvm hw9 hB9 hz1 hk1 hS => ?_)
  revert hw9
  refine fz_a2 ?_
  intro b_fN_before_2 f2_0
  have p8 := cj_2_1 (WX hX aX kX hT hM fX_ready fX_sheet dX_sheet nX_sheet iX_sheetLength xX_reader xX_solver xX_prover xX_values xX_clauses (.ref (hN 0))) (WN hN aN kN 0 (fun _ => 0) (fun _ => 0) (fun _ => 0) (fun _ => 0) 0 (fun _ => 0) fN_before_2 (fun _ => 0) (fun _ => 0) (fun _ => 0) 0 (fun _ => 0) (fun _ => 0))
  obtain ⟨hP, hD⟩ := frameG p9 p8 hP hD hk1 hFc (fz_P ht hB9.1) hB9.2
  have hta := f2_0
  refine W.widen (k := 12) (n := 1478) (by decide +kernel) (by decide +kernel) ?_
  exact W.lret (v := r2) hx hb hr (fun t9_ ht hW => ⟨⟨r2, ((.ref (hN 0)), (WN hN aN kN 0 (fun _ => 0) (fun _ => 0) (fun _ => 0) (fun _ => 0) 0 (fun _ => 0) fN_before_2 (fun _ => 0) (fun _ => 0) (fun _ => 0) 0 (fun _ => 0) (fun _ => 0))), rfl, ⟨(by (try dsimp only); rw [ntZ_x (x := (0 : Int32).toInt) (by decide)]; exact hta), (by (try dsimp only); exact Or.inr ⟨hN, aN, 0, (fun _ => 0), (fun _ => 0), (fun _ => 0), (fun _ => 0), 0, (fun _ => 0), fN_before_2, (fun _ => 0), (fun _ => 0), (fun _ => 0), 0, (fun _ => 0), (fun _ => 0), (show 0 ≤ (0 : Int32).toInt ∧ (0 : Int32).toInt ≤ 40 from by decide), (zr_r (by decide) (by decide)), (zr_r (by decide) (by decide)), b_fN_before_2, (zr_r (by decide) (by decide)), (show 0 ≤ (0 : Int32).toInt ∧ (0 : Int32).toInt ≤ 8 from by decide), rfl, rfl, (ntZ_x (by have h7 : (0 : Int32).toInt = 0 := (by decide); omega))⟩)⟩, by rw [ht]; exact hP, hD⟩, hS.F ht⟩) hS.2.2 dX11_tree_7
def wsMX11_tour_0 : List Cond := .code yX11_tour cX11_tour 4 (some .int) :: ([.classLink RX11 77 "java/lang/IllegalArgumentException", .initialized "java/lang/IllegalArgumentException"] ++ (va_wsS RX11 456 yJ6_bitCount_0f7a4 wsMJ6_bitCount_0f7a4) ++ ((vx_at0 RX11 79 "java/lang/IllegalArgumentException" ["java/lang/RuntimeException", "java/lang/Exception"]).filter goodWord) ++ (wsV RX11 425 RX11 yX11_theNets wsMX11_theNets_0) ++ (wsV RX11 461 RX2 yX2_round wsMX2_round))
theorem gwsMX11_tour_0_0 : GoodIn wsMX11_tour_0 (va_wsS RX11 456 yJ6_bitCount_0f7a4 wsMJ6_bitCount_0f7a4) := goodIn_sub (fun _ h => List.mem_cons_of_mem _ (List.mem_append_left _ (List.mem_append_left _ (List.mem_append_left _ (List.mem_append_right _ h))))) (gdS (by decide +kernel) gdwsMJ6_bitCount_0f7a4)
theorem gwsMX11_tour_0_2 : GoodIn wsMX11_tour_0 (wsV RX11 425 RX11 yX11_theNets wsMX11_theNets_0) := goodIn_sub (fun _ h => List.mem_cons_of_mem _ (List.mem_append_left _ (List.mem_append_right _ h))) (gdV (by decide +kernel) gdwsMX11_theNets_0)
theorem gwsMX11_tour_0_3 : GoodIn wsMX11_tour_0 (wsV RX11 461 RX2 yX2_round wsMX2_round) := goodIn_sub (fun _ h => List.mem_cons_of_mem _ (List.mem_append_right _ h)) (gdV (by decide +kernel) gdwsMX2_round)
theorem gdwsMX11_tour_0 : wsMX11_tour_0.all goodWord = true := gdC rfl (gdA (gdA (gdA (gdA (by decide +kernel : ([.classLink RX11 77 "java/lang/IllegalArgumentException", .initialized "java/lang/IllegalArgumentException"] : List Cond).all goodWord = true) (gdS (by decide +kernel) gdwsMJ6_bitCount_0f7a4)) (gdF _)) (gdV (by decide +kernel) gdwsMX11_theNets_0)) (gdV (by decide +kernel) gdwsMX2_round))
theorem hm_m_X11_tour_0_0 : (.classLink RX11 77 "java/lang/IllegalArgumentException" : Cond) ∈ wsMX11_tour_0 := by decide +kernel
theorem hm_m_X11_tour_0_1 : (.initialized "java/lang/IllegalArgumentException" : Cond) ∈ wsMX11_tour_0 := by decide +kernel
set_option maxHeartbeats 4000000 in
set_option maxRecDepth 100000 in
/-- a tour -/
theorem m_X11_tour_0 (l : Launch) (hst : l.stackTraces = false) (dC : Nat → ClassId) (dI : Nat → Nat → Nat) (hX : Nat → Nat) (aX : Nat → Nat) (kX : Nat → ClassId) (hT : Nat → Nat) (hM : Nat → Nat) (fX_ready : Nat → Int32) (fX_sheet : Nat → Int32) (dX_sheet : Nat) (nX_sheet : Nat) (iX_sheetLength : Int32) (xX_reader : Value) (xX_solver : Value) (xX_prover : Value) (xX_values : Value) (xX_clauses : Value) (kN : Nat → ClassId) (p1 : Int32) (p2 : Int32) (b_fX_sheet : ∀ q : Nat, (-128) ≤ (fX_sheet q).toInt ∧ (fX_sheet q).toInt ≤ 127) (b_nX_sheet : 64 ≤ nX_sheet ∧ nX_sheet ≤ 60000) (b_iX_sheetLength : 0 ≤ iX_sheetLength.toInt ∧ iX_sheetLength.toInt ≤ 30000) (b_shl : iX_sheetLength.toInt ≤ ((nX_sheet : Nat) : Int)) (sz : Nat) : vx_Met l yX11_tour wsMX11_tour_0 ({ frames := 6, cells := 13, slots := 1484, locals := 87 }) (va_Pc [.ref (hX 0), .int p1, .int p2] (fun U => U.heap.size = sz ∧ va_P (dC, dI) vwCl (WX hX aX kX hT hM fX_ready fX_sheet dX_sheet nX_sheet iX_sheetLength xX_reader xX_solver xX_prover xX_values xX_clauses .null) U.heap ∧ va_K (dC, dI) vwCl (tX kX ++ (tN kN)) U ∧ va_D (fun _ => True) (WX hX aX kX hT hM fX_ready fX_sheet dX_sheet nX_sheet iX_sheetLength xX_reader xX_solver xX_prover xX_values xX_clauses .null) ∧ CE (va_A (WX hX aX kX hT hM fX_ready fX_sheet dX_sheet nX_sheet iX_sheetLength xX_reader xX_solver xX_prover xX_values xX_clauses .null) sz) U U.heap)) (va_Qi (fun (r : Int32) (u : (Value) × (va_W)) => ((0 ≤ p1.toInt ∧ p1.toInt ≤ 4095 ∧ 2 ≤ cntB (bI p1) 12 ∧ cntB (bI p1) 12 ≤ 8)) ∧ (tuA ntZ (bI p1) p2.toInt r.toInt) ∧ (NetO kN ntZ (u.1) (u.2))) (fun (u : (Value) × (va_W)) t => va_P (dC, dI) vwCl (WX hX aX kX hT hM fX_ready fX_sheet dX_sheet nX_sheet iX_sheetLength xX_reader xX_solver xX_prover xX_values xX_clauses (u.1) ++ ((u.2))) t.heap ∧ va_D (va_A (WX hX aX kX hT hM fX_ready fX_sheet dX_sheet nX_sheet iX_sheetLength xX_reader xX_solver xX_prover xX_values xX_clauses .null) sz) (WX hX aX kX hT hM fX_ready fX_sheet dX_sheet nX_sheet iX_sheetLength xX_reader xX_solver xX_prover xX_values xX_clauses (u.1) ++ ((u.2)))) (va_A (WX hX aX kX hT hM fX_ready fX_sheet dX_sheet nX_sheet iX_sheetLength xX_reader xX_solver xX_prover xX_values xX_clauses .null) sz)) (vx_X (fun (u : (Value) × (va_W)) => (NetO kN ntZ (u.1) (u.2))) (fun E (u : (Value) × (va_W)) t => ((E = "java/lang/IllegalArgumentException" ∧ (¬ (0 ≤ p1.toInt ∧ p1.toInt ≤ 4095 ∧ 2 ≤ cntB (bI p1) 12 ∧ cntB (bI p1) 12 ≤ 8)))) ∧ va_P (dC, dI) vwCl (WX hX aX kX hT hM fX_ready fX_sheet dX_sheet nX_sheet iX_sheetLength xX_reader xX_solver xX_prover xX_values xX_clauses (u.1) ++ ((u.2))) t.heap ∧ va_D (va_A (WX hX aX kX hT hM fX_ready fX_sheet dX_sheet nX_sheet iX_sheetLength xX_reader xX_solver xX_prover xX_values xX_clauses .null) sz) (WX hX aX kX hT hM fX_ready fX_sheet dX_sheet nX_sheet iX_sheetLength xX_reader xX_solver xX_prover xX_values xX_clauses (u.1) ++ ((u.2)))) (va_A (WX hX aX kX hT hM fX_ready fX_sheet dX_sheet nX_sheet iX_sheetLength xX_reader xX_solver xX_prover xX_values xX_clauses .null) sz)) 13 1484 (va_A (WX hX aX kX hT hM fX_ready fX_sheet dX_sheet nX_sheet iX_sheetLength xX_reader xX_solver xX_prover xX_values xX_clauses .null) sz) := by
  refine vx_ofW (cc := cX11_tour) (maxL := 4) (ret := (some .int)) (by decide) rfl ?_
  intro p e s m args below meth c s₁ B hml htab hv
  obtain ⟨rfl, hsz, hP, hK, hD0, hE⟩ := hv
  have hx := B.exec
  have hb := B.bytes
  have hr := B.returns
  have hts := atoms_spec (ws := wsMX11_tour_0) B.pre
  have hown : s.vm.findClass RX11 = some m.cls := findClass_of_methodNamed B.named
  have hlocks := B.notSynchronized
  subst hsz
  have hD := hD0.self (sz := s.heap.size)
  generalize hAe : va_A (WX hX aX kX hT hM fX_ready fX_sheet dX_sheet nX_sheet iX_sheetLength xX_reader xX_solver xX_prover xX_values xX_clauses .null) s.heap.size = A at hD hE ⊢
  have hA : ∀ q : Nat, s.heap.size ≤ q → A q := fun q h => by rw [← hAe]; exact Or.inr h
  have hS : va_S A s.heap s.heap [] := va_S.rf
  have hl := lv_entry ([.ref (hX 0), .int p1, .int p2]) (n := 4) (Nat.le_of_ble_eq_true rfl)
  rw [lg_entry_eq]
  generalize (lg_sl ([.ref (hX 0), .int p1, .int p2]) ++ List.replicate (4 - (lg_sl ([.ref (hX 0), .int p1, .int p2])).length) Slot.unset).toArray = ls at hl ⊢
  have hl : lv_has ls 4 [(0, .ref (hX 0)), (1, .int p1), (2, .int p2)] := hl
  refine lv_iload_n hx hb dX11_tour_0 rfl (lv_at hl 1 rfl) ?_
  have hFc := noneFree hS hA
  refine va_calli (va_runS (As := [.int p1]) (rest := []) ⟨hx, hb, hml, hown, hts⟩ (m_J6_bitCount_0f7a4 l dC dI p1 s.heap.size) (va_cwS 1 hts gwsMX11_tour_0_0 rfl rfl rfl (by decide +kernel) ⟨by decide +kernel, by decide +kernel⟩) ⟨fun a U g mk q => by obtain ⟨q0, q1, qP, qK, qD⟩ := q; exact ⟨q0, q1, qP, va_K.moved (u := U) (U := U.calling g mk a) (Vm.Alike.refl U.vm) qK, qD⟩, fun U hU9 hW => ⟨rfl, by rw [hU9], by rw [hU9]; exact nilP, va_K.moved hW.alike (hK.sub (tys' := []) [] rfl), nilD⟩⟩ rfl rfl hl.1 rfl (lv_room (Nat.le_of_ble_eq_true rfl)) dX11_tour_1 (by decide +kernel)) hS (fun q _ h => hFc q h) hFc (fun r1 u t9_ H1 locs ht hvm hw9 hB9 hz1 hk1 hS => ?_)
  revert hw9
  refine fz_a2 ?_
  intro b_r1 f1_0
  clear hB9
  have hP := keepAll hP hk1
  generalize H1 = H at hP hS ⊢
  have hP : va_P (dC, dI) vwCl (WX hX aX kX hT hM fX_ready fX_sheet dX_sheet nX_sheet iX_sheetLength xX_reader xX_solver xX_prover xX_values xX_clauses .null) H := hP
  have hD := fz_sd hP (hD) rfl
  have hbc := f1_0
  refine lv_istore_n hx hb dX11_tour_4 rfl hl (by decide) rfl (fun ls (hl : lv_has ls _ ([(3, .int r1), (0, .ref (hX 0)), (1, .int p1), (2, .int p2)])) => ?_)
  refine lv_iload_n hx hb dX11_tour_5 rfl (lv_at hl 2 rfl) ?_
  refine lv_if_lt (tgt := 27) hx hb dX11_tour_6 (by decide) (fun c_6 => ?_) (fun c_6 => ?_)
  · have t_6 : p1.toInt < 0 := toI_lt c_6 rfl (by decide : (0 : Int32).toInt = 0)
    exact vx_throw0 (own := RX11) (cls := "java/lang/IllegalArgumentException") (names := ["java/lang/RuntimeException", "java/lang/Exception"]) (ik := 77) (ic := 79) (A := A) hx hb hst hown (by decide +kernel) (by decide +kernel) (hts _ hm_m_X11_tour_0_0) (hts _ hm_m_X11_tour_0_1) (vx_hat (B := ngX11_79) (fun w h => hts w (List.mem_cons_of_mem _ (List.mem_append_left _ (List.mem_append_left _ (List.mem_append_right _ h))))) (fun _ h => h) (fun w h => va_Nw.use (ngX11_79_ot w h) (hE.2.2.1.2.2.1 w h))) (by decide +kernel) hE.2.1.1 hE.2.1.2 hS (by rw [hml]; exact hl.1) dX11_tour_27 dX11_tour_30 dX11_tour_31 dX11_tour_34 (fun x hx9 => (htab x hx9).elim) (by decide +kernel) (Nat.le_of_ble_eq_true rfl) (by decide +kernel) (by decide +kernel) hlocks (fun t hvm hz hk => ⟨(.null, ([])), (by (try dsimp only); exact Or.inl ⟨rfl, rfl, rfl⟩), ⟨⟨rfl, by first | omega | (have h8 := hbc (by omega) (by omega); omega)⟩, by first | exact hP.kept (fun k q h => hk q.1 ((hP k q h).lt)) | (simp only [List.append_nil]; exact hP.kept (fun k q h => hk q.1 ((hP k q h).lt))), by first | exact hD | (simp only [List.append_nil]; exact hD)⟩, ⟨Nat.le_trans hS.1 hz, fun q h1 h2 => (hk q (Nat.lt_of_lt_of_le h1 hS.1)).trans (hS.2.1 q h1 h2)⟩⟩) hS.2.2 (by decide +kernel) (by decide +kernel)
  · have t_6 : ¬ p1.toInt < 0 := toI_nlt c_6 rfl (by decide : (0 : Int32).toInt = 0)
    refine lv_iload_n hx hb dX11_tour_9 rfl (lv_at hl 2 rfl) ?_
    refine lv_sipush (v := 4096) hx hb dX11_tour_10 (by decide) ?_
    refine lv_icmp_ge (tgt := 27) hx hb dX11_tour_13 (by decide) (fun c_13 => ?_) (fun c_13 => ?_)
    · have t_13 : p1.toInt ≥ 4096 := toI_ge c_13 rfl (by decide : (4096 : Int32).toInt = 4096)
      exact vx_throw0 (own := RX11) (cls := "java/lang/IllegalArgumentException") (names := ["java/lang/RuntimeException", "java/lang/Exception"]) (ik := 77) (ic := 79) (A := A) hx hb hst hown (by decide +kernel) (by decide +kernel) (hts _ hm_m_X11_tour_0_0) (hts _ hm_m_X11_tour_0_1) (vx_hat (B := ngX11_79) (fun w h => hts w (List.mem_cons_of_mem _ (List.mem_append_left _ (List.mem_append_left _ (List.mem_append_right _ h))))) (fun _ h => h) (fun w h => va_Nw.use (ngX11_79_ot w h) (hE.2.2.1.2.2.1 w h))) (by decide +kernel) hE.2.1.1 hE.2.1.2 hS (by rw [hml]; exact hl.1) dX11_tour_27 dX11_tour_30 dX11_tour_31 dX11_tour_34 (fun x hx9 => (htab x hx9).elim) (by decide +kernel) (Nat.le_of_ble_eq_true rfl) (by decide +kernel) (by decide +kernel) hlocks (fun t hvm hz hk => ⟨(.null, ([])), (by (try dsimp only); exact Or.inl ⟨rfl, rfl, rfl⟩), ⟨⟨rfl, by first | omega | (have h8 := hbc (by omega) (by omega); omega)⟩, by first | exact hP.kept (fun k q h => hk q.1 ((hP k q h).lt)) | (simp only [List.append_nil]; exact hP.kept (fun k q h => hk q.1 ((hP k q h).lt))), by first | exact hD | (simp only [List.append_nil]; exact hD)⟩, ⟨Nat.le_trans hS.1 hz, fun q h1 h2 => (hk q (Nat.lt_of_lt_of_le h1 hS.1)).trans (hS.2.1 q h1 h2)⟩⟩) hS.2.2 (by decide +kernel) (by decide +kernel)
    · have t_13 : ¬ p1.toInt ≥ 4096 := toI_nge c_13 rfl (by decide : (4096 : Int32).toInt = 4096)
      refine lv_iload_n hx hb dX11_tour_16 rfl (lv_at hl 0 rfl) ?_
      refine lv_iconst (v := 2) hx hb dX11_tour_17 (by decide) ?_
      refine lv_icmp_lt (tgt := 27) hx hb dX11_tour_18 (by decide) (fun c_18 => ?_) (fun c_18 => ?_)
      · have t_18 : r1.toInt < 2 := toI_lt c_18 rfl (by decide : (2 : Int32).toInt = 2)
        exact vx_throw0 (own := RX11) (cls := "java/lang/IllegalArgumentException") (names := ["java/lang/RuntimeException", "java/lang/Exception"]) (ik := 77) (ic := 79) (A := A) hx hb hst hown (by decide +kernel) (by decide +kernel) (hts _ hm_m_X11_tour_0_0) (hts _ hm_m_X11_tour_0_1) (vx_hat (B := ngX11_79) (fun w h => hts w (List.mem_cons_of_mem _ (List.mem_append_left _ (List.mem_append_left _ (List.mem_append_right _ h))))) (fun _ h => h) (fun w h => va_Nw.use (ngX11_79_ot w h) (hE.2.2.1.2.2.1 w h))) (by decide +kernel) hE.2.1.1 hE.2.1.2 hS (by rw [hml]; exact hl.1) dX11_tour_27 dX11_tour_30 dX11_tour_31 dX11_tour_34 (fun x hx9 => (htab x hx9).elim) (by decide +kernel) (Nat.le_of_ble_eq_true rfl) (by decide +kernel) (by decide +kernel) hlocks (fun t hvm hz hk => ⟨(.null, ([])), (by (try dsimp only); exact Or.inl ⟨rfl, rfl, rfl⟩), ⟨⟨rfl, by first | omega | (have h8 := hbc (by omega) (by omega); omega)⟩, by first | exact hP.kept (fun k q h => hk q.1 ((hP k q h).lt)) | (simp only [List.append_nil]; exact hP.kept (fun k q h => hk q.1 ((hP k q h).lt))), by first | exact hD | (simp only [List.append_nil]; exact hD)⟩, ⟨Nat.le_trans hS.1 hz, fun q h1 h2 => (hk q (Nat.lt_of_lt_of_le h1 hS.1)).trans (hS.2.1 q h1 h2)⟩⟩) hS.2.2 (by decide +kernel) (by decide +kernel)
      · have t_18 : ¬ r1.toInt < 2 := toI_nlt c_18 rfl (by decide : (2 : Int32).toInt = 2)
        refine lv_iload_n hx hb dX11_tour_21 rfl (lv_at hl 0 rfl) ?_
        refine lv_bipush (v := 8) hx hb dX11_tour_22 (by decide) ?_
        refine lv_icmp_le (tgt := 35) hx hb dX11_tour_24 (by decide) (fun c_24 => ?_) (fun c_24 => ?_)
        · have t_24 : r1.toInt ≤ 8 := toI_le c_24 rfl (by decide : (8 : Int32).toInt = 8)
          refine lv_aload_n hx hb dX11_tour_35 rfl (lv_at hl 1 rfl) ?_
          have hp1 : 1 ≤ p1.toInt := tuNz (by omega) (by have h8 := hbc (by omega) (by omega); omega)
          have hFc := allFree hD hS hA
          refine va_callr (va_runV (As := []) (rest := []) ⟨hx, hb, hml, hown, hts⟩ (m_X11_theNets_0 l hst dC dI hX aX kX hT hM fX_ready fX_sheet dX_sheet nX_sheet iX_sheetLength xX_reader xX_solver xX_prover xX_values xX_clauses kN b_fX_sheet (by first | exact b_nX_sheet | with_reducible assumption | exact ⟨by omega, by omega⟩ | assumption) (b_iX_sheetLength) (by first | with_reducible assumption | omega | assumption) H.size) (cwV 0 hts gwsMX11_tour_0_2 rfl rfl rfl hd_yX11_theNets_RX11 (by decide +kernel)) (fz_preE (va_recv hK hP (ci := 11) (q0 := 0) rfl rfl) hP hK hD (fun a U g mk qE => qE.call) (fun U hU9 hW => by rw [hU9]; exact (((hE : CE A s s.heap).kept hS.2.1).narrow (fun q h => hFc q h)).warm hW)) rfl rfl hl.1 rfl (lv_room (Nat.le_of_ble_eq_true rfl)) dX11_tour_36 (by decide +kernel)) hS (fun q _ h => hFc q h) hFc (fun u ra2 t9_ H locs ht hvm hw9 hB9 hz1 hk1 hS => ?_)
          revert u hw9 hB9
          refine fz_p2 ?_
          intro hN aN hw9 hB9
          try dsimp only at hw9 hB9
          revert hB9
          refine fz_a2 ?_
          intro hra hB9
          subst hra
          clear hw9
          have hP : va_P (dC, dI) vwCl (WX hX aX kX hT hM fX_ready fX_sheet dX_sheet nX_sheet iX_sheetLength xX_reader xX_solver xX_prover xX_values xX_clauses (.ref (hN 0)) ++ (WN hN aN kN 0 (fun _ => 0) (fun _ => 0) (fun _ => 0) (fun _ => 0) 0 (fun _ => 0) (fun _ => 0) (fun _ => 0) (fun _ => 0) (fun _ => 0) 0 (fun _ => 0) (fun _ => 0))) H := fz_P ht hB9.1
          have hD := fz_sd hP (hB9.2.weaken (fun _ q _ h => hFc q.1 h)) rfl
          refine W.widen (k := 12) (n := 1478) (by decide +kernel) (by decide +kernel) ?_
          refine lv_iload_n hx hb dX11_tour_39 rfl (lv_at hl 2 rfl) ?_
          refine lv_iload_n hx hb dX11_tour_40 rfl (lv_at hl 3 rfl) ?_
          have p9 := cj_2_1 (WX hX aX kX hT hM fX_ready fX_sheet dX_sheet nX_sheet iX_sheetLength xX_reader xX_solver xX_prover xX_values xX_clauses (.ref (hN 0))) (WN hN aN kN 0 (fun _ => 0) (fun _ => 0) (fun _ => 0) (fun _ => 0) 0 (fun _ => 0) (fun _ => 0) (fun _ => 0) (fun _ => 0) (fun _ => 0) 0 (fun _ => 0) (fun _ => 0))
          have hPc := hP.mem (fun q h => p9.mem_iff.mpr (List.mem_append_left _ h))
          have hDc := (hD.perm p9).left
          have hKc : va_K (dC, dI) vwCl (tN kN) _ := hK.sub [2, 3, 4, 5, 6, 7, 8, 9, 10, 11, 12] rfl
          have hFc := freeG p9 hD hS hA
          refine va_calli (va_runV (As := [.int p1, .int p2]) (rest := []) ⟨hx, hb, hml, hown, hts⟩ (m_X2_round l dC dI hN aN kN 0 (fun _ => 0) (fun _ => 0) (fun _ => 0) (fun _ => 0) 0 (fun _ => 0) (fun _ => 0) (fun _ => 0) (fun _ => 0) (fun _ => 0) 0 (fun _ => 0) (fun _ => 0) p1 p2 (show 0 ≤ (0 : Int32).toInt ∧ (0 : Int32).toInt ≤ 40 from by decide) (zr_r (by decide) (by decide)) (zr_r (by decide) (by decide)) (zr_r (by decide) (by decide)) (zr_r (by decide) (by decide)) (show 0 ≤ (0 : Int32).toInt ∧ (0 : Int32).toInt ≤ 8 from by decide) (by first | exact b_p1 | with_reducible assumption | exact ⟨by omega, by omega⟩ | assumption) (tVal.z0) ((by have h8 := hbc (by omega) (by omega); omega)) H.size) (cwV 2 hts gwsMX11_tour_0_3 rfl rfl rfl hd_yX2_round_RX2 (by decide +kernel)) (fz_pre (va_recv hK hP (ci := 2) (q0 := 3) rfl rfl) hPc hKc hDc) rfl rfl hl.1 rfl (lv_room (Nat.le_of_ble_eq_true rfl)) dX11_tour_41 (by decide +kernel)) hS (fun q _ h => hFc q h) hFc (fun r3 u t9_ H locs ht hvm hw9 hB9 hz1 hk1 hS => ?_)
          revert u hw9 hB9
          refine fz_p4 ?_
          intro fN_stop_3 iN_stops_3 fN_price_3 fN_rest_3 hw9 hB9
          try dsimp only at hw9 hB9
          revert hw9
          refine fz_a3 ?_
          intro b_fN_stop_3 b_iN_stops_3 f3_0
          have p8 := cj_2_1 (WX hX aX kX hT hM fX_ready fX_sheet dX_sheet nX_sheet iX_sheetLength xX_reader xX_solver xX_prover xX_values xX_clauses (.ref (hN 0))) (WN hN aN kN 0 (fun _ => 0) (fun _ => 0) (fun _ => 0) (fun _ => 0) 0 (fun _ => 0) (fun _ => 0) (fun _ => 0) (fun _ => 0) fN_stop_3 iN_stops_3 fN_price_3 fN_rest_3)
          obtain ⟨hP, hD⟩ := frameG p9 p8 hP hD hk1 hFc (fz_P ht hB9.1) hB9.2
          have hpa := f3_0
          refine vx_ret ?_
          refine W.widen (k := 13) (n := 1484) (by decide +kernel) (by decide +kernel) ?_
          exact W.iret (v := r3) hx hb hr (fun t9_ ht hW => ⟨⟨r3, ((.ref (hN 0)), (WN hN aN kN 0 (fun _ => 0) (fun _ => 0) (fun _ => 0) (fun _ => 0) 0 (fun _ => 0) (fun _ => 0) (fun _ => 0) (fun _ => 0) fN_stop_3 iN_stops_3 fN_price_3 fN_rest_3)), rfl, ⟨(by (try dsimp only); have h8 := hbc (by omega) (by omega); omega), (by (try dsimp only); rw [ntZ_x (x := (0 : Int32).toInt) (by decide)]; exact hpa), (by (try dsimp only); exact Or.inr ⟨hN, aN, 0, (fun _ => 0), (fun _ => 0), (fun _ => 0), (fun _ => 0), 0, (fun _ => 0), (fun _ => 0), (fun _ => 0), (fun _ => 0), fN_stop_3, iN_stops_3, fN_price_3, fN_rest_3, (show 0 ≤ (0 : Int32).toInt ∧ (0 : Int32).toInt ≤ 40 from by decide), (zr_r (by decide) (by decide)), (zr_r (by decide) (by decide)), (zr_r (by decide) (by decide)), b_fN_stop_3, (b_iN_stops_3), rfl, rfl, (ntZ_x (by have h7 : (0 : Int32).toInt = 0 := (by decide); omega))⟩)⟩, by rw [ht]; exact hP, hD⟩, hS.F ht⟩) hS.2.2 dX11_tour_44
        · have t_24 : ¬ r1.toInt ≤ 8 := toI_nle c_24 rfl (by decide : (8 : Int32).toInt = 8)
          exact vx_throw0 (own := RX11) (cls := "java/lang/IllegalArgumentException") (names := ["java/lang/RuntimeException", "java/lang/Exception"]) (ik := 77) (ic := 79) (A := A) hx hb hst hown (by decide +kernel) (by decide +kernel) (hts _ hm_m_X11_tour_0_0) (hts _ hm_m_X11_tour_0_1) (vx_hat (B := ngX11_79) (fun w h => hts w (List.mem_cons_of_mem _ (List.mem_append_left _ (List.mem_append_left _ (List.mem_append_right _ h))))) (fun _ h => h) (fun w h => va_Nw.use (ngX11_79_ot w h) (hE.2.2.1.2.2.1 w h))) (by decide +kernel) hE.2.1.1 hE.2.1.2 hS (by rw [hml]; exact hl.1) dX11_tour_27 dX11_tour_30 dX11_tour_31 dX11_tour_34 (fun x hx9 => (htab x hx9).elim) (by decide +kernel) (Nat.le_of_ble_eq_true rfl) (by decide +kernel) (by decide +kernel) hlocks (fun t hvm hz hk => ⟨(.null, ([])), (by (try dsimp only); exact Or.inl ⟨rfl, rfl, rfl⟩), ⟨⟨rfl, by first | omega | (have h8 := hbc (by omega) (by omega); omega)⟩, by first | exact hP.kept (fun k q h => hk q.1 ((hP k q h).lt)) | (simp only [List.append_nil]; exact hP.kept (fun k q h => hk q.1 ((hP k q h).lt))), by first | exact hD | (simp only [List.append_nil]; exact hD)⟩, ⟨Nat.le_trans hS.1 hz, fun q h1 h2 => (hk q (Nat.lt_of_lt_of_le h1 hS.1)).trans (hS.2.1 q h1 h2)⟩⟩) hS.2.2 (by decide +kernel) (by decide +kernel)
def wsMX11_clause_0 : List Cond := .code yX11_clause cX11_clause 5 (some .int) :: ([.classLink RX11 77 "java/lang/IllegalArgumentException", .initialized "java/lang/IllegalArgumentException", .fieldLink RX11 397 "OptimaWorks$ClauseDesk" "clauses" "I", .fieldLink RX11 386 "OptimaWorks" "clauses" "LOptimaWorks$ClauseDesk;"] ++ wsX00 ++ wsX110 ++ ((vx_at0 RX11 79 "java/lang/IllegalArgumentException" ["java/lang/RuntimeException", "java/lang/Exception"]).filter goodWord) ++ (wsV RX11 393 RX11 yX11_theClauses wsMX11_theClauses_0) ++ (wsV RX11 399 RX0 yX0_addClause wsMX0_addClause))
theorem iwsMX11_clause_0_in0 : ∀ w ∈ wsX00, w ∈ wsMX11_clause_0 := fun _ h => List.mem_cons_of_mem _ (List.mem_append_left _ (List.mem_append_left _ (List.mem_append_left _ (List.mem_append_left _ (List.mem_append_right _ h)))))
theorem iwsMX11_clause_0_in11 : ∀ w ∈ wsX110, w ∈ wsMX11_clause_0 := fun _ h => List.mem_cons_of_mem _ (List.mem_append_left _ (List.mem_append_left _ (List.mem_append_left _ (List.mem_append_right _ h))))
theorem gwsMX11_clause_0_1 : GoodIn wsMX11_clause_0 (wsV RX11 393 RX11 yX11_theClauses wsMX11_theClauses_0) := goodIn_sub (fun _ h => List.mem_cons_of_mem _ (List.mem_append_left _ (List.mem_append_right _ h))) (gdV (by decide +kernel) gdwsMX11_theClauses_0)
theorem gwsMX11_clause_0_2 : GoodIn wsMX11_clause_0 (wsV RX11 399 RX0 yX0_addClause wsMX0_addClause) := goodIn_sub (fun _ h => List.mem_cons_of_mem _ (List.mem_append_right _ h)) (gdV (by decide +kernel) gdwsMX0_addClause)
theorem gdwsMX11_clause_0 : wsMX11_clause_0.all goodWord = true := gdC rfl (gdA (gdA (gdA (gdA (gdA (by decide +kernel : ([.classLink RX11 77 "java/lang/IllegalArgumentException", .initialized "java/lang/IllegalArgumentException", .fieldLink RX11 397 "OptimaWorks$ClauseDesk" "clauses" "I", .fieldLink RX11 386 "OptimaWorks" "clauses" "LOptimaWorks$ClauseDesk;"] : List Cond).all goodWord = true) gdwsX00) gdwsX110) (gdF _)) (gdV (by decide +kernel) gdwsMX11_theClauses_0)) (gdV (by decide +kernel) gdwsMX0_addClause))
theorem hm_m_X11_clause_0_0 : (.classLink RX11 77 "java/lang/IllegalArgumentException" : Cond) ∈ wsMX11_clause_0 := by decide +kernel
theorem hm_m_X11_clause_0_1 : (.initialized "java/lang/IllegalArgumentException" : Cond) ∈ wsMX11_clause_0 := by decide +kernel
set_option maxHeartbeats 4000000 in
set_option maxRecDepth 100000 in
/-- a clause -/
theorem m_X11_clause_0 (l : Launch) (hst : l.stackTraces = false) (dC : Nat → ClassId) (dI : Nat → Nat → Nat) (hX : Nat → Nat) (aX : Nat → Nat) (kX : Nat → ClassId) (hT : Nat → Nat) (hM : Nat → Nat) (fX_ready : Nat → Int32) (fX_sheet : Nat → Int32) (dX_sheet : Nat) (nX_sheet : Nat) (iX_sheetLength : Int32) (xX_reader : Value) (xX_solver : Value) (xX_prover : Value) (xX_values : Value) (xX_nets : Value) (kC : Nat → ClassId) (p1 : Int32) (p2 : Int32) (p3 : Int32) (b_fX_sheet : ∀ q : Nat, (-128) ≤ (fX_sheet q).toInt ∧ (fX_sheet q).toInt ≤ 127) (b_nX_sheet : 64 ≤ nX_sheet ∧ nX_sheet ≤ 60000) (b_iX_sheetLength : 0 ≤ iX_sheetLength.toInt ∧ iX_sheetLength.toInt ≤ 30000) (b_shl : iX_sheetLength.toInt ≤ ((nX_sheet : Nat) : Int)) (sz : Nat) : vx_Met l yX11_clause wsMX11_clause_0 ({ frames := 6, cells := 7, slots := 8277, locals := 81 }) (va_Pc [.ref (hX 0), .int p1, .int p2, .int p3] (fun U => U.heap.size = sz ∧ va_P (dC, dI) vwCl (WX hX aX kX hT hM fX_ready fX_sheet dX_sheet nX_sheet iX_sheetLength xX_reader xX_solver xX_prover xX_values .null xX_nets) U.heap ∧ va_K (dC, dI) vwCl (tX kX ++ (tC kC)) U ∧ va_D (fun _ => True) (WX hX aX kX hT hM fX_ready fX_sheet dX_sheet nX_sheet iX_sheetLength xX_reader xX_solver xX_prover xX_values .null xX_nets) ∧ CE (va_A (WX hX aX kX hT hM fX_ready fX_sheet dX_sheet nX_sheet iX_sheetLength xX_reader xX_solver xX_prover xX_values .null xX_nets) sz) U U.heap)) (va_Qi (fun (r : Int32) (u : (Value) × (va_W)) => (r.toInt = 0) ∧ ((0 ≤ p1.toInt ∧ p1.toInt ≤ 4095 ∧ 0 ≤ p2.toInt ∧ p2.toInt ≤ 4095 ∧ (p1 ||| p2).toInt ≠ 0 ∧ (p1 &&& p2).toInt = 0 ∧ 0 ≤ p3.toInt ∧ p3.toInt ≤ 1000)) ∧ (ClaO kC (clAdd clZ p1 p2 p3) (u.1) (u.2))) (fun (u : (Value) × (va_W)) t => va_P (dC, dI) vwCl (WX hX aX kX hT hM fX_ready fX_sheet dX_sheet nX_sheet iX_sheetLength xX_reader xX_solver xX_prover xX_values (u.1) xX_nets ++ ((u.2))) t.heap ∧ va_D (va_A (WX hX aX kX hT hM fX_ready fX_sheet dX_sheet nX_sheet iX_sheetLength xX_reader xX_solver xX_prover xX_values .null xX_nets) sz) (WX hX aX kX hT hM fX_ready fX_sheet dX_sheet nX_sheet iX_sheetLength xX_reader xX_solver xX_prover xX_values (u.1) xX_nets ++ ((u.2)))) (va_A (WX hX aX kX hT hM fX_ready fX_sheet dX_sheet nX_sheet iX_sheetLength xX_reader xX_solver xX_prover xX_values .null xX_nets) sz)) (vx_X (fun (u : (Value) × (va_W)) => (ClaO kC clZ (u.1) (u.2))) (fun E (u : (Value) × (va_W)) t => ((E = "java/lang/IllegalArgumentException" ∧ (¬ (0 ≤ p1.toInt ∧ p1.toInt ≤ 4095 ∧ 0 ≤ p2.toInt ∧ p2.toInt ≤ 4095 ∧ (p1 ||| p2).toInt ≠ 0 ∧ (p1 &&& p2).toInt = 0 ∧ 0 ≤ p3.toInt ∧ p3.toInt ≤ 1000)))) ∧ va_P (dC, dI) vwCl (WX hX aX kX hT hM fX_ready fX_sheet dX_sheet nX_sheet iX_sheetLength xX_reader xX_solver xX_prover xX_values (u.1) xX_nets ++ ((u.2))) t.heap ∧ va_D (va_A (WX hX aX kX hT hM fX_ready fX_sheet dX_sheet nX_sheet iX_sheetLength xX_reader xX_solver xX_prover xX_values .null xX_nets) sz) (WX hX aX kX hT hM fX_ready fX_sheet dX_sheet nX_sheet iX_sheetLength xX_reader xX_solver xX_prover xX_values (u.1) xX_nets ++ ((u.2)))) (va_A (WX hX aX kX hT hM fX_ready fX_sheet dX_sheet nX_sheet iX_sheetLength xX_reader xX_solver xX_prover xX_values .null xX_nets) sz)) 7 8277 (va_A (WX hX aX kX hT hM fX_ready fX_sheet dX_sheet nX_sheet iX_sheetLength xX_reader xX_solver xX_prover xX_values .null xX_nets) sz) := by
  refine vx_ofW (cc := cX11_clause) (maxL := 5) (ret := (some .int)) (by decide) rfl ?_
  intro p e s m args below meth c s₁ B hml htab hv
  obtain ⟨rfl, hsz, hP, hK, hD0, hE⟩ := hv
  have hx := B.exec
  have hb := B.bytes
  have hr := B.returns
  have hts := atoms_spec (ws := wsMX11_clause_0) B.pre
  have hown : s.vm.findClass RX11 = some m.cls := findClass_of_methodNamed B.named
  have hlocks := B.notSynchronized
  subst hsz
  have hD := hD0.self (sz := s.heap.size)
  generalize hAe : va_A (WX hX aX kX hT hM fX_ready fX_sheet dX_sheet nX_sheet iX_sheetLength xX_reader xX_solver xX_prover xX_values .null xX_nets) s.heap.size = A at hD hE ⊢
  have hA : ∀ q : Nat, s.heap.size ≤ q → A q := fun q h => by rw [← hAe]; exact Or.inr h
  have hS : va_S A s.heap s.heap [] := va_S.rf
  have hl := lv_entry ([.ref (hX 0), .int p1, .int p2, .int p3]) (n := 5) (Nat.le_of_ble_eq_true rfl)
  rw [lg_entry_eq]
  generalize (lg_sl ([.ref (hX 0), .int p1, .int p2, .int p3]) ++ List.replicate (5 - (lg_sl ([.ref (hX 0), .int p1, .int p2, .int p3])).length) Slot.unset).toArray = ls at hl ⊢
  have hl : lv_has ls 5 [(0, .ref (hX 0)), (1, .int p1), (2, .int p2), (3, .int p3)] := hl
  refine lv_iload_n hx hb dX11_clause_0 rfl (lv_at hl 1 rfl) ?_
  refine W.cut (pc := 27) (fun H locs ls stk => ∃ (k0_j2 : Int32), (0 ≤ k0_j2.toInt ∧ k0_j2.toInt ≤ 1) ∧ ((k0_j2.toInt = 1 ∧ (0 ≤ p1.toInt ∧ p1.toInt ≤ 4095 ∧ 0 ≤ p2.toInt ∧ p2.toInt ≤ 4095)) ∨ (k0_j2.toInt = 0 ∧ ¬ (0 ≤ p1.toInt ∧ p1.toInt ≤ 4095 ∧ 0 ≤ p2.toInt ∧ p2.toInt ≤ 4095))) ∧  stk = [.int k0_j2] ∧ va_P (dC, dI) vwCl (WX hX aX kX hT hM fX_ready fX_sheet dX_sheet nX_sheet iX_sheetLength xX_reader xX_solver xX_prover xX_values .null xX_nets) H ∧ va_D A (WX hX aX kX hT hM fX_ready fX_sheet dX_sheet nX_sheet iX_sheetLength xX_reader xX_solver xX_prover xX_values .null xX_nets) ∧ va_S A s.heap H locs ∧ lv_has ls 5 [(0, .ref (hX 0)), (1, .int p1), (2, .int p2), (3, .int p3)]) (fun join2 => ?_) ?_
  · refine lv_if_lt (tgt := 26) hx hb dX11_clause_1 (by decide) (fun c_1 => ?_) (fun c_1 => ?_)
    · have t_1 : p1.toInt < 0 := toI_lt c_1 rfl (by decide : (0 : Int32).toInt = 0)
      refine lv_iconst (v := 0) hx hb dX11_clause_26 (by decide) ?_
      have hl : lv_has _ _ ([(0, .ref (hX 0)), (1, .int p1), (2, .int p2), (3, .int p3)]) := lv_sub hl [0, 1, 2, 3] rfl
      exact join2 _ _ _ _ ⟨0, (show 0 ≤ (0 : Int32).toInt ∧ (0 : Int32).toInt ≤ 1 from by decide), (show ((0 : Int32).toInt = 1 ∧ (0 ≤ p1.toInt ∧ p1.toInt ≤ 4095 ∧ 0 ≤ p2.toInt ∧ p2.toInt ≤ 4095)) ∨ ((0 : Int32).toInt = 0 ∧ ¬ (0 ≤ p1.toInt ∧ p1.toInt ≤ 4095 ∧ 0 ≤ p2.toInt ∧ p2.toInt ≤ 4095)) from by first | exact Or.inl ⟨by decide, by omega⟩ | exact Or.inr ⟨by decide, by omega⟩), rfl, hP, hD, hS, hl⟩
    · have t_1 : ¬ p1.toInt < 0 := toI_nlt c_1 rfl (by decide : (0 : Int32).toInt = 0)
      refine lv_iload_n hx hb dX11_clause_4 rfl (lv_at hl 1 rfl) ?_
      refine lv_sipush (v := 4096) hx hb dX11_clause_5 (by decide) ?_
      refine lv_icmp_ge (tgt := 26) hx hb dX11_clause_8 (by decide) (fun c_8 => ?_) (fun c_8 => ?_)
      · have t_8 : p1.toInt ≥ 4096 := toI_ge c_8 rfl (by decide : (4096 : Int32).toInt = 4096)
        refine lv_iconst (v := 0) hx hb dX11_clause_26 (by decide) ?_
        have hl : lv_has _ _ ([(0, .ref (hX 0)), (1, .int p1), (2, .int p2), (3, .int p3)]) := lv_sub hl [0, 1, 2, 3] rfl
        exact join2 _ _ _ _ ⟨0, (show 0 ≤ (0 : Int32).toInt ∧ (0 : Int32).toInt ≤ 1 from by decide), (show ((0 : Int32).toInt = 1 ∧ (0 ≤ p1.toInt ∧ p1.toInt ≤ 4095 ∧ 0 ≤ p2.toInt ∧ p2.toInt ≤ 4095)) ∨ ((0 : Int32).toInt = 0 ∧ ¬ (0 ≤ p1.toInt ∧ p1.toInt ≤ 4095 ∧ 0 ≤ p2.toInt ∧ p2.toInt ≤ 4095)) from by first | exact Or.inl ⟨by decide, by omega⟩ | exact Or.inr ⟨by decide, by omega⟩), rfl, hP, hD, hS, hl⟩
      · have t_8 : ¬ p1.toInt ≥ 4096 := toI_nge c_8 rfl (by decide : (4096 : Int32).toInt = 4096)
        refine lv_iload_n hx hb dX11_clause_11 rfl (lv_at hl 2 rfl) ?_
        refine lv_if_lt (tgt := 26) hx hb dX11_clause_12 (by decide) (fun c_12 => ?_) (fun c_12 => ?_)
        · have t_12 : p2.toInt < 0 := toI_lt c_12 rfl (by decide : (0 : Int32).toInt = 0)
          refine lv_iconst (v := 0) hx hb dX11_clause_26 (by decide) ?_
          have hl : lv_has _ _ ([(0, .ref (hX 0)), (1, .int p1), (2, .int p2), (3, .int p3)]) := lv_sub hl [0, 1, 2, 3] rfl
          exact join2 _ _ _ _ ⟨0, (show 0 ≤ (0 : Int32).toInt ∧ (0 : Int32).toInt ≤ 1 from by decide), (show ((0 : Int32).toInt = 1 ∧ (0 ≤ p1.toInt ∧ p1.toInt ≤ 4095 ∧ 0 ≤ p2.toInt ∧ p2.toInt ≤ 4095)) ∨ ((0 : Int32).toInt = 0 ∧ ¬ (0 ≤ p1.toInt ∧ p1.toInt ≤ 4095 ∧ 0 ≤ p2.toInt ∧ p2.toInt ≤ 4095)) from by first | exact Or.inl ⟨by decide, by omega⟩ | exact Or.inr ⟨by decide, by omega⟩), rfl, hP, hD, hS, hl⟩
        · have t_12 : ¬ p2.toInt < 0 := toI_nlt c_12 rfl (by decide : (0 : Int32).toInt = 0)
          refine lv_iload_n hx hb dX11_clause_15 rfl (lv_at hl 2 rfl) ?_
          refine lv_sipush (v := 4096) hx hb dX11_clause_16 (by decide) ?_
          refine lv_icmp_ge (tgt := 26) hx hb dX11_clause_19 (by decide) (fun c_19 => ?_) (fun c_19 => ?_)
          · have t_19 : p2.toInt ≥ 4096 := toI_ge c_19 rfl (by decide : (4096 : Int32).toInt = 4096)
            refine lv_iconst (v := 0) hx hb dX11_clause_26 (by decide) ?_
            have hl : lv_has _ _ ([(0, .ref (hX 0)), (1, .int p1), (2, .int p2), (3, .int p3)]) := lv_sub hl [0, 1, 2, 3] rfl
            exact join2 _ _ _ _ ⟨0, (show 0 ≤ (0 : Int32).toInt ∧ (0 : Int32).toInt ≤ 1 from by decide), (show ((0 : Int32).toInt = 1 ∧ (0 ≤ p1.toInt ∧ p1.toInt ≤ 4095 ∧ 0 ≤ p2.toInt ∧ p2.toInt ≤ 4095)) ∨ ((0 : Int32).toInt = 0 ∧ ¬ (0 ≤ p1.toInt ∧ p1.toInt ≤ 4095 ∧ 0 ≤ p2.toInt ∧ p2.toInt ≤ 4095)) from by first | exact Or.inl ⟨by decide, by omega⟩ | exact Or.inr ⟨by decide, by omega⟩), rfl, hP, hD, hS, hl⟩
          · have t_19 : ¬ p2.toInt ≥ 4096 := toI_nge c_19 rfl (by decide : (4096 : Int32).toInt = 4096)
            refine lv_iconst (v := 1) hx hb dX11_clause_22 (by decide) ?_
            refine lv_goto (tgt := 27) hx hb dX11_clause_23 (by decide) ?_
            have hl : lv_has _ _ ([(0, .ref (hX 0)), (1, .int p1), (2, .int p2), (3, .int p3)]) := lv_sub hl [0, 1, 2, 3] rfl
            exact join2 _ _ _ _ ⟨1, (show 0 ≤ (1 : Int32).toInt ∧ (1 : Int32).toInt ≤ 1 from by decide), (show ((1 : Int32).toInt = 1 ∧ (0 ≤ p1.toInt ∧ p1.toInt ≤ 4095 ∧ 0 ≤ p2.toInt ∧ p2.toInt ≤ 4095)) ∨ ((1 : Int32).toInt = 0 ∧ ¬ (0 ≤ p1.toInt ∧ p1.toInt ≤ 4095 ∧ 0 ≤ p2.toInt ∧ p2.toInt ≤ 4095)) from by first | exact Or.inl ⟨by decide, by omega⟩ | exact Or.inr ⟨by decide, by omega⟩), rfl, hP, hD, hS, hl⟩
  · rintro H locs ls stk ⟨k0_j2, b_k0_j2, hsg, rfl, hP, hD, hS, hl⟩
    refine lv_istore hx hb dX11_clause_27 hl (by decide) rfl (fun ls (hl : lv_has ls _ ([(4, .int k0_j2), (0, .ref (hX 0)), (1, .int p1), (2, .int p2), (3, .int p3)])) => ?_)
    refine lv_iload hx hb dX11_clause_29 (lv_at hl 0 rfl) ?_
    refine lv_if_eq (tgt := 57) hx hb dX11_clause_31 (by decide) (fun c_31 => ?_) (fun c_31 => ?_)
    · have t_31 : k0_j2.toInt = 0 := toI_eq c_31 rfl (by decide : (0 : Int32).toInt = 0)
      exact vx_throw0 (own := RX11) (cls := "java/lang/IllegalArgumentException") (names := ["java/lang/RuntimeException", "java/lang/Exception"]) (ik := 77) (ic := 79) (A := A) hx hb hst hown (by decide +kernel) (by decide +kernel) (hts _ hm_m_X11_clause_0_0) (hts _ hm_m_X11_clause_0_1) (vx_hat (B := ngX11_79) (fun w h => hts w (List.mem_cons_of_mem _ (List.mem_append_left _ (List.mem_append_left _ (List.mem_append_right _ h))))) (fun _ h => h) (fun w h => va_Nw.use (ngX11_79_ot w h) (hE.2.2.1.2.2.1 w h))) (by decide +kernel) hE.2.1.1 hE.2.1.2 hS (by rw [hml]; exact hl.1) dX11_clause_57 dX11_clause_60 dX11_clause_61 dX11_clause_64 (fun x hx9 => (htab x hx9).elim) (by decide +kernel) (Nat.le_of_ble_eq_true rfl) (by decide +kernel) (by decide +kernel) hlocks (fun t hvm hz hk => ⟨(.null, ([])), (by (try dsimp only); exact Or.inl ⟨rfl, rfl, rfl⟩), ⟨⟨rfl, by omega⟩, by first | exact hP.kept (fun k q h => hk q.1 ((hP k q h).lt)) | (simp only [List.append_nil]; exact hP.kept (fun k q h => hk q.1 ((hP k q h).lt))), by first | exact hD | (simp only [List.append_nil]; exact hD)⟩, ⟨Nat.le_trans hS.1 hz, fun q h1 h2 => (hk q (Nat.lt_of_lt_of_le h1 hS.1)).trans (hS.2.1 q h1 h2)⟩⟩) hS.2.2 (by decide +kernel) (by decide +kernel)
    · have t_31 : ¬ k0_j2.toInt = 0 := toI_neq c_31 rfl (by decide : (0 : Int32).toInt = 0)
      refine lv_iload_n hx hb dX11_clause_34 rfl (lv_at hl 2 rfl) ?_
      refine lv_iload_n hx hb dX11_clause_35 rfl (lv_at hl 3 rfl) ?_
      refine lv_ior hx hb dX11_clause_36 ?_
      refine lv_topi (fun v1 hv1 => ?_)
      have b_v1 : v1.toInt ≤ (p1 ||| p2).toInt ∧ (p1 ||| p2).toInt ≤ v1.toInt := by rw [hv1]; exact ⟨Int.le_refl _, Int.le_refl _⟩
      clear hv1
      refine lv_if_eq (tgt := 57) hx hb dX11_clause_37 (by decide) (fun c_37 => ?_) (fun c_37 => ?_)
      · have t_37 : v1.toInt = 0 := toI_eq c_37 rfl (by decide : (0 : Int32).toInt = 0)
        exact vx_throw0 (own := RX11) (cls := "java/lang/IllegalArgumentException") (names := ["java/lang/RuntimeException", "java/lang/Exception"]) (ik := 77) (ic := 79) (A := A) hx hb hst hown (by decide +kernel) (by decide +kernel) (hts _ hm_m_X11_clause_0_0) (hts _ hm_m_X11_clause_0_1) (vx_hat (B := ngX11_79) (fun w h => hts w (List.mem_cons_of_mem _ (List.mem_append_left _ (List.mem_append_left _ (List.mem_append_right _ h))))) (fun _ h => h) (fun w h => va_Nw.use (ngX11_79_ot w h) (hE.2.2.1.2.2.1 w h))) (by decide +kernel) hE.2.1.1 hE.2.1.2 hS (by rw [hml]; exact hl.1) dX11_clause_57 dX11_clause_60 dX11_clause_61 dX11_clause_64 (fun x hx9 => (htab x hx9).elim) (by decide +kernel) (Nat.le_of_ble_eq_true rfl) (by decide +kernel) (by decide +kernel) hlocks (fun t hvm hz hk => ⟨(.null, ([])), (by (try dsimp only); exact Or.inl ⟨rfl, rfl, rfl⟩), ⟨⟨rfl, by omega⟩, by first | exact hP.kept (fun k q h => hk q.1 ((hP k q h).lt)) | (simp only [List.append_nil]; exact hP.kept (fun k q h => hk q.1 ((hP k q h).lt))), by first | exact hD | (simp only [List.append_nil]; exact hD)⟩, ⟨Nat.le_trans hS.1 hz, fun q h1 h2 => (hk q (Nat.lt_of_lt_of_le h1 hS.1)).trans (hS.2.1 q h1 h2)⟩⟩) hS.2.2 (by decide +kernel) (by decide +kernel)
      · have t_37 : ¬ v1.toInt = 0 := toI_neq c_37 rfl (by decide : (0 : Int32).toInt = 0)
        refine lv_iload_n hx hb dX11_clause_40 rfl (lv_at hl 2 rfl) ?_
        refine lv_iload_n hx hb dX11_clause_41 rfl (lv_at hl 3 rfl) ?_
        refine lv_iand hx hb dX11_clause_42 ?_
        refine lv_topi (fun v2 hv2 => ?_)
        have b_v2 : v2.toInt ≤ (p1 &&& p2).toInt ∧ (p1 &&& p2).toInt ≤ v2.toInt := by rw [hv2]; exact ⟨Int.le_refl _, Int.le_refl _⟩
        clear hv2
        refine lv_if_ne (tgt := 57) hx hb dX11_clause_43 (by decide) (fun c_43 => ?_) (fun c_43 => ?_)
        · have t_43 : v2.toInt ≠ 0 := toI_ne c_43 rfl (by decide : (0 : Int32).toInt = 0)
          exact vx_throw0 (own := RX11) (cls := "java/lang/IllegalArgumentException") (names := ["java/lang/RuntimeException", "java/lang/Exception"]) (ik := 77) (ic := 79) (A := A) hx hb hst hown (by decide +kernel) (by decide +kernel) (hts _ hm_m_X11_clause_0_0) (hts _ hm_m_X11_clause_0_1) (vx_hat (B := ngX11_79) (fun w h => hts w (List.mem_cons_of_mem _ (List.mem_append_left _ (List.mem_append_left _ (List.mem_append_right _ h))))) (fun _ h => h) (fun w h => va_Nw.use (ngX11_79_ot w h) (hE.2.2.1.2.2.1 w h))) (by decide +kernel) hE.2.1.1 hE.2.1.2 hS (by rw [hml]; exact hl.1) dX11_clause_57 dX11_clause_60 dX11_clause_61 dX11_clause_64 (fun x hx9 => (htab x hx9).elim) (by decide +kernel) (Nat.le_of_ble_eq_true rfl) (by decide +kernel) (by decide +kernel) hlocks (fun t hvm hz hk => ⟨(.null, ([])), (by (try dsimp only); exact Or.inl ⟨rfl, rfl, rfl⟩), ⟨⟨rfl, by omega⟩, by first | exact hP.kept (fun k q h => hk q.1 ((hP k q h).lt)) | (simp only [List.append_nil]; exact hP.kept (fun k q h => hk q.1 ((hP k q h).lt))), by first | exact hD | (simp only [List.append_nil]; exact hD)⟩, ⟨Nat.le_trans hS.1 hz, fun q h1 h2 => (hk q (Nat.lt_of_lt_of_le h1 hS.1)).trans (hS.2.1 q h1 h2)⟩⟩) hS.2.2 (by decide +kernel) (by decide +kernel)
        · have t_43 : v2.toInt = 0 := toI_nne c_43 rfl (by decide : (0 : Int32).toInt = 0)
          refine lv_iload_n hx hb dX11_clause_46 rfl (lv_at hl 4 rfl) ?_
          refine lv_if_lt (tgt := 57) hx hb dX11_clause_47 (by decide) (fun c_47 => ?_) (fun c_47 => ?_)
          · have t_47 : p3.toInt < 0 := toI_lt c_47 rfl (by decide : (0 : Int32).toInt = 0)
            exact vx_throw0 (own := RX11) (cls := "java/lang/IllegalArgumentException") (names := ["java/lang/RuntimeException", "java/lang/Exception"]) (ik := 77) (ic := 79) (A := A) hx hb hst hown (by decide +kernel) (by decide +kernel) (hts _ hm_m_X11_clause_0_0) (hts _ hm_m_X11_clause_0_1) (vx_hat (B := ngX11_79) (fun w h => hts w (List.mem_cons_of_mem _ (List.mem_append_left _ (List.mem_append_left _ (List.mem_append_right _ h))))) (fun _ h => h) (fun w h => va_Nw.use (ngX11_79_ot w h) (hE.2.2.1.2.2.1 w h))) (by decide +kernel) hE.2.1.1 hE.2.1.2 hS (by rw [hml]; exact hl.1) dX11_clause_57 dX11_clause_60 dX11_clause_61 dX11_clause_64 (fun x hx9 => (htab x hx9).elim) (by decide +kernel) (Nat.le_of_ble_eq_true rfl) (by decide +kernel) (by decide +kernel) hlocks (fun t hvm hz hk => ⟨(.null, ([])), (by (try dsimp only); exact Or.inl ⟨rfl, rfl, rfl⟩), ⟨⟨rfl, by omega⟩, by first | exact hP.kept (fun k q h => hk q.1 ((hP k q h).lt)) | (simp only [List.append_nil]; exact hP.kept (fun k q h => hk q.1 ((hP k q h).lt))), by first | exact hD | (simp only [List.append_nil]; exact hD)⟩, ⟨Nat.le_trans hS.1 hz, fun q h1 h2 => (hk q (Nat.lt_of_lt_of_le h1 hS.1)).trans (hS.2.1 q h1 h2)⟩⟩) hS.2.2 (by decide +kernel) (by decide +kernel)
          · have t_47 : ¬ p3.toInt < 0 := toI_nlt c_47 rfl (by decide : (0 : Int32).toInt = 0)
            refine lv_iload_n hx hb dX11_clause_50 rfl (lv_at hl 4 rfl) ?_
            refine lv_sipush (v := 1000) hx hb dX11_clause_51 (by decide) ?_
            refine lv_icmp_le (tgt := 65) hx hb dX11_clause_54 (by decide) (fun c_54 => ?_) (fun c_54 => ?_)
            · have t_54 : p3.toInt ≤ 1000 := toI_le c_54 rfl (by decide : (1000 : Int32).toInt = 1000)
              refine lv_aload_n hx hb dX11_clause_65 rfl (lv_at hl 1 rfl) ?_
              have hFc := allFree hD hS hA
              refine va_callr (va_runV (As := []) (rest := []) ⟨hx, hb, hml, hown, hts⟩ (m_X11_theClauses_0 l hst dC dI hX aX kX hT hM fX_ready fX_sheet dX_sheet nX_sheet iX_sheetLength xX_reader xX_solver xX_prover xX_values xX_nets kC b_fX_sheet (by first | exact b_nX_sheet | with_reducible assumption | exact ⟨by omega, by omega⟩ | assumption) (b_iX_sheetLength) (by first | with_reducible assumption | omega | assumption) H.size) (cwV 0 hts gwsMX11_clause_0_1 rfl rfl rfl hd_yX11_theClauses_RX11 (by decide +kernel)) (fz_preE (va_recv hK hP (ci := 11) (q0 := 0) rfl rfl) hP hK hD (fun a U g mk qE => qE.call) (fun U hU9 hW => by rw [hU9]; exact (((hE : CE A s s.heap).kept hS.2.1).narrow (fun q h => hFc q h)).warm hW)) rfl rfl hl.1 rfl (lv_room (Nat.le_of_ble_eq_true rfl)) dX11_clause_66 (by decide +kernel)) hS (fun q _ h => hFc q h) hFc (fun u ra3 t9_ H locs ht hvm hw9 hB9 hz1 hk1 hS => ?_)
              revert u hw9 hB9
              refine fz_p2 ?_
              intro hC aC hw9 hB9
              try dsimp only at hw9 hB9
              revert hB9
              refine fz_a2 ?_
              intro hra hB9
              subst hra
              clear hw9
              have hP : va_P (dC, dI) vwCl (WX hX aX kX hT hM fX_ready fX_sheet dX_sheet nX_sheet iX_sheetLength xX_reader xX_solver xX_prover xX_values (.ref (hC 0)) xX_nets ++ (WC hC aC kC 0 (fun _ => 0) (fun _ => 0) (fun _ => 0) (fun _ => 0) (fun _ => 0) 0)) H := fz_P ht hB9.1
              have hD := fz_sd hP (hB9.2.weaken (fun _ q _ h => hFc q.1 h)) rfl
              refine W.widen (k := 6) (n := 8271) (by decide +kernel) (by decide +kernel) ?_
              refine va_get (D := (dC, dI)) (ci := 0) (v := .int 0) (C := RX0) (T := TX0) (N := 7) hx hb hts iwsMX11_clause_0_in0 hown hK hP 3 rfl rfl 0 (by decide) (hts (.fieldLink RX11 397 "OptimaWorks$ClauseDesk" "clauses" "I") (by decide +kernel)) (fun _ h9 => h9) rfl dX11_clause_69 ?_
              refine lv_bipush (v := 24) hx hb dX11_clause_72 (by decide) ?_
              refine lv_icmp_lt (tgt := 85) hx hb dX11_clause_74 (by decide) (fun _ => ?_) (fun c9 => absurd (by decide) c9)
              refine lv_aload_n hx hb dX11_clause_85 rfl (lv_at hl 1 rfl) ?_
              refine va_get (D := (dC, dI)) (ci := 11) (v := .ref (hC 0)) (C := RX11) (T := TX11) (N := 11) hx hb hts iwsMX11_clause_0_in11 hown hK hP 0 rfl rfl 9 (by decide) (hts (.fieldLink RX11 386 "OptimaWorks" "clauses" "LOptimaWorks$ClauseDesk;") (by decide +kernel)) (fun _ h9 => h9) rfl dX11_clause_86 ?_
              refine lv_iload_n hx hb dX11_clause_89 rfl (lv_at hl 2 rfl) ?_
              refine lv_iload_n hx hb dX11_clause_90 rfl (lv_at hl 3 rfl) ?_
              refine lv_iload_n hx hb dX11_clause_91 rfl (lv_at hl 4 rfl) ?_
              have p9 := cj_2_1 (WX hX aX kX hT hM fX_ready fX_sheet dX_sheet nX_sheet iX_sheetLength xX_reader xX_solver xX_prover xX_values (.ref (hC 0)) xX_nets) (WC hC aC kC 0 (fun _ => 0) (fun _ => 0) (fun _ => 0) (fun _ => 0) (fun _ => 0) 0)
              have hPc := hP.mem (fun q h => p9.mem_iff.mpr (List.mem_append_left _ h))
              have hDc := (hD.perm p9).left
              have hKc : va_K (dC, dI) vwCl (tC kC) _ := hK.sub [2, 3, 4, 5, 6] rfl
              have hFc := freeG p9 hD hS hA
              refine va_calli (va_runV (As := [.int p1, .int p2, .int p3]) (rest := []) ⟨hx, hb, hml, hown, hts⟩ (m_X0_addClause l dC dI hC aC kC 0 (fun _ => 0) (fun _ => 0) (fun _ => 0) (fun _ => 0) (fun _ => 0) 0 p1 p2 p3 (show 0 ≤ (0 : Int32).toInt ∧ (0 : Int32).toInt ≤ 24 from by decide) (by first | exact b_p3 | with_reducible assumption | exact ⟨by omega, by omega⟩ | assumption) (by first | with_reducible assumption | omega | (rw [iI_t (by omega) (by omega)]; omega) | decide | assumption) (cVal.z0) (ClI.z0) H.size) (cwV 3 hts gwsMX11_clause_0_2 rfl rfl rfl hd_yX0_addClause_RX0 (by decide +kernel)) (fz_pre (va_recv hK hP (ci := 0) (q0 := 3) rfl rfl) hPc hKc hDc) rfl rfl hl.1 rfl (lv_room (Nat.le_of_ble_eq_true rfl)) dX11_clause_92 (by decide +kernel)) hS (fun q _ h => hFc q h) hFc (fun r4 u t9_ H locs ht hvm hw9 hB9 hz1 hk1 hS => ?_)
              revert u hw9 hB9
              refine fz_p7 ?_
              intro iC_clauses_4 fC_wants_4 fC_wantsNot_4 fC_weight_4 fC_broken_4 fC_loss_4 iC_musts_4 hw9 hB9
              try dsimp only at hw9 hB9
              revert hw9
              refine fz_a8 ?_
              intro b_iC_clauses_4 f4_0 f4_1 f4_2 f4_3 f4_4 f4_5 f4_6
              have p8 := cj_2_1 (WX hX aX kX hT hM fX_ready fX_sheet dX_sheet nX_sheet iX_sheetLength xX_reader xX_solver xX_prover xX_values (.ref (hC 0)) xX_nets) (WC hC aC kC iC_clauses_4 fC_wants_4 fC_wantsNot_4 fC_weight_4 fC_broken_4 fC_loss_4 iC_musts_4)
              obtain ⟨hP, hD⟩ := frameG p9 p8 hP hD hk1 hFc (fz_P ht hB9.1) hB9.2
              have hq0 := f4_0
              have hq1 := f4_1
              have hq2 := f4_2
              have hq3 := f4_3
              have hq4 := f4_4
              refine vx_ret ?_
              refine W.widen (k := 7) (n := 8277) (by decide +kernel) (by decide +kernel) ?_
              exact W.iret (v := r4) hx hb hr (fun t9_ ht hW => ⟨⟨r4, ((.ref (hC 0)), (WC hC aC kC iC_clauses_4 fC_wants_4 fC_wantsNot_4 fC_weight_4 fC_broken_4 fC_loss_4 iC_musts_4)), rfl, ⟨(by (try dsimp only); have h7 : (0 : Int32).toInt = 0 := (by decide); omega), (by (try dsimp only); omega), (by (try dsimp only); exact Or.inr ⟨hC, aC, iC_clauses_4, fC_wants_4, fC_wantsNot_4, fC_weight_4, fC_broken_4, fC_loss_4, iC_musts_4, (b_iC_clauses_4), (by first | assumption | exact cVal.z0), (by first | assumption | exact ClI.z0), rfl, rfl, (clAdd_0 hq0 hq2 hq3 hq4)⟩)⟩, by rw [ht]; exact hP, hD⟩, hS.F ht⟩) hS.2.2 dX11_clause_95
            · have t_54 : ¬ p3.toInt ≤ 1000 := toI_nle c_54 rfl (by decide : (1000 : Int32).toInt = 1000)
              exact vx_throw0 (own := RX11) (cls := "java/lang/IllegalArgumentException") (names := ["java/lang/RuntimeException", "java/lang/Exception"]) (ik := 77) (ic := 79) (A := A) hx hb hst hown (by decide +kernel) (by decide +kernel) (hts _ hm_m_X11_clause_0_0) (hts _ hm_m_X11_clause_0_1) (vx_hat (B := ngX11_79) (fun w h => hts w (List.mem_cons_of_mem _ (List.mem_append_left _ (List.mem_append_left _ (List.mem_append_right _ h))))) (fun _ h => h) (fun w h => va_Nw.use (ngX11_79_ot w h) (hE.2.2.1.2.2.1 w h))) (by decide +kernel) hE.2.1.1 hE.2.1.2 hS (by rw [hml]; exact hl.1) dX11_clause_57 dX11_clause_60 dX11_clause_61 dX11_clause_64 (fun x hx9 => (htab x hx9).elim) (by decide +kernel) (Nat.le_of_ble_eq_true rfl) (by decide +kernel) (by decide +kernel) hlocks (fun t hvm hz hk => ⟨(.null, ([])), (by (try dsimp only); exact Or.inl ⟨rfl, rfl, rfl⟩), ⟨⟨rfl, by omega⟩, by first | exact hP.kept (fun k q h => hk q.1 ((hP k q h).lt)) | (simp only [List.append_nil]; exact hP.kept (fun k q h => hk q.1 ((hP k q h).lt))), by first | exact hD | (simp only [List.append_nil]; exact hD)⟩, ⟨Nat.le_trans hS.1 hz, fun q h1 h2 => (hk q (Nat.lt_of_lt_of_le h1 hS.1)).trans (hS.2.1 q h1 h2)⟩⟩) hS.2.2 (by decide +kernel) (by decide +kernel)
def wsMX11_unsay_0 : List Cond := .code yX11_unsay cX11_unsay 1 (some .boolean) :: ([] ++ (wsV RX11 393 RX11 yX11_theClauses wsMX11_theClauses_0) ++ (wsV RX11 402 RX0 yX0_dropClause wsMX0_dropClause))
theorem gwsMX11_unsay_0_0 : GoodIn wsMX11_unsay_0 (wsV RX11 393 RX11 yX11_theClauses wsMX11_theClauses_0) := goodIn_sub (fun _ h => List.mem_cons_of_mem _ (List.mem_append_left _ (List.mem_append_right _ h))) (gdV (by decide +kernel) gdwsMX11_theClauses_0)
theorem gwsMX11_unsay_0_1 : GoodIn wsMX11_unsay_0 (wsV RX11 402 RX0 yX0_dropClause wsMX0_dropClause) := goodIn_sub (fun _ h => List.mem_cons_of_mem _ (List.mem_append_right _ h)) (gdV (by decide +kernel) gdwsMX0_dropClause)
theorem gdwsMX11_unsay_0 : wsMX11_unsay_0.all goodWord = true := gdC rfl (gdA (gdA (by decide +kernel : ([] : List Cond).all goodWord = true) (gdV (by decide +kernel) gdwsMX11_theClauses_0)) (gdV (by decide +kernel) gdwsMX0_dropClause))
set_option maxHeartbeats 4000000 in
set_option maxRecDepth 100000 in
/-- a clause less -/
theorem m_X11_unsay_0 (l : Launch) (hst : l.stackTraces = false) (dC : Nat → ClassId) (dI : Nat → Nat → Nat) (hX : Nat → Nat) (aX : Nat → Nat) (kX : Nat → ClassId) (hT : Nat → Nat) (hM : Nat → Nat) (fX_ready : Nat → Int32) (fX_sheet : Nat → Int32) (dX_sheet : Nat) (nX_sheet : Nat) (iX_sheetLength : Int32) (xX_reader : Value) (xX_solver : Value) (xX_prover : Value) (xX_values : Value) (xX_nets : Value) (kC : Nat → ClassId) (b_fX_sheet : ∀ q : Nat, (-128) ≤ (fX_sheet q).toInt ∧ (fX_sheet q).toInt ≤ 127) (b_nX_sheet : 64 ≤ nX_sheet ∧ nX_sheet ≤ 60000) (b_iX_sheetLength : 0 ≤ iX_sheetLength.toInt ∧ iX_sheetLength.toInt ≤ 30000) (b_shl : iX_sheetLength.toInt ≤ ((nX_sheet : Nat) : Int)) (sz : Nat) : Met l yX11_unsay wsMX11_unsay_0 ({ frames := 3, cells := 6, slots := 8271, locals := 52 }) (va_Pc [.ref (hX 0)] (fun U => U.heap.size = sz ∧ va_P (dC, dI) vwCl (WX hX aX kX hT hM fX_ready fX_sheet dX_sheet nX_sheet iX_sheetLength xX_reader xX_solver xX_prover xX_values .null xX_nets) U.heap ∧ va_K (dC, dI) vwCl (tX kX ++ (tC kC)) U ∧ va_D (fun _ => True) (WX hX aX kX hT hM fX_ready fX_sheet dX_sheet nX_sheet iX_sheetLength xX_reader xX_solver xX_prover xX_values .null xX_nets) ∧ CE (va_A (WX hX aX kX hT hM fX_ready fX_sheet dX_sheet nX_sheet iX_sheetLength xX_reader xX_solver xX_prover xX_values .null xX_nets) sz) U U.heap)) (va_Qi (fun (r : Int32) (u : (Value) × (va_W)) => (0 ≤ r.toInt ∧ r.toInt ≤ 1) ∧ (r.toInt = 0) ∧ (ClaO kC clZ (u.1) (u.2))) (fun (u : (Value) × (va_W)) t => va_P (dC, dI) vwCl (WX hX aX kX hT hM fX_ready fX_sheet dX_sheet nX_sheet iX_sheetLength xX_reader xX_solver xX_prover xX_values (u.1) xX_nets ++ ((u.2))) t.heap ∧ va_D (va_A (WX hX aX kX hT hM fX_ready fX_sheet dX_sheet nX_sheet iX_sheetLength xX_reader xX_solver xX_prover xX_values .null xX_nets) sz) (WX hX aX kX hT hM fX_ready fX_sheet dX_sheet nX_sheet iX_sheetLength xX_reader xX_solver xX_prover xX_values (u.1) xX_nets ++ ((u.2)))) (va_A (WX hX aX kX hT hM fX_ready fX_sheet dX_sheet nX_sheet iX_sheetLength xX_reader xX_solver xX_prover xX_values .null xX_nets) sz)) 6 8271 (va_A (WX hX aX kX hT hM fX_ready fX_sheet dX_sheet nX_sheet iX_sheetLength xX_reader xX_solver xX_prover xX_values .null xX_nets) sz) := by
  refine Met.ofW (cc := cX11_unsay) (maxL := 1) (ret := (some .boolean)) (by decide) rfl ?_
  intro p e s m args below meth c s₁ B hml hv
  obtain ⟨rfl, hsz, hP, hK, hD0, hE⟩ := hv
  have hx := B.exec
  have hb := B.bytes
  have hr := B.returns
  have hts := atoms_spec (ws := wsMX11_unsay_0) B.pre
  have hown : s.vm.findClass RX11 = some m.cls := findClass_of_methodNamed B.named
  have hlocks := B.notSynchronized
  subst hsz
  have hD := hD0.self (sz := s.heap.size)
  generalize hAe : va_A (WX hX aX kX hT hM fX_ready fX_sheet dX_sheet nX_sheet iX_sheetLength xX_reader xX_solver xX_prover xX_values .null xX_nets) s.heap.size = A at hD hE ⊢
  have hA : ∀ q : Nat, s.heap.size ≤ q → A q := fun q h => by rw [← hAe]; exact Or.inr h
  have hS : va_S A s.heap s.heap [] := va_S.rf
  have hl := lv_entry ([.ref (hX 0)]) (n := 1) (Nat.le_of_ble_eq_true rfl)
  rw [lg_entry_eq]
  generalize (lg_sl ([.ref (hX 0)]) ++ List.replicate (1 - (lg_sl ([.ref (hX 0)])).length) Slot.unset).toArray = ls at hl ⊢
  have hl : lv_has ls 1 [(0, .ref (hX 0))] := hl
  refine lv_aload_n hx hb dX11_unsay_0 rfl (lv_at hl 0 rfl) ?_
  have hFc := allFree hD hS hA
  refine va_callr (va_runV (As := []) (rest := []) ⟨hx, hb, hml, hown, hts⟩ (m_X11_theClauses_0 l hst dC dI hX aX kX hT hM fX_ready fX_sheet dX_sheet nX_sheet iX_sheetLength xX_reader xX_solver xX_prover xX_values xX_nets kC b_fX_sheet (by first | exact b_nX_sheet | with_reducible assumption | exact ⟨by omega, by omega⟩ | assumption) (b_iX_sheetLength) (by first | with_reducible assumption | omega | assumption) s.heap.size) (cwV 0 hts gwsMX11_unsay_0_0 rfl rfl rfl hd_yX11_theClauses_RX11 (by decide +kernel)) (fz_preE (va_recv hK hP (ci := 11) (q0 := 0) rfl rfl) hP hK hD (fun a U g mk qE => qE.call) (fun U hU9 hW => by rw [hU9]; exact (((hE : CE A s s.heap).kept hS.2.1).narrow (fun q h => hFc q h)).warm hW)) rfl rfl hl.1 rfl (lv_room (Nat.le_of_ble_eq_true rfl)) dX11_unsay_1 (by decide +kernel)) hS (fun q _ h => hFc q h) hFc (fun u ra1 t9_ H locs ht hvm hw9 hB9 hz1 hk1 hS => ?_)
  revert u hw9 hB9
  refine fz_p2 ?_
  intro hC aC hw9 hB9
  try dsimp only at hw9 hB9
  revert hB9
  refine fz_a2 ?_
  intro hra hB9
  subst hra
  clear hw9
  have hP : va_P (dC, dI) vwCl (WX hX aX kX hT hM fX_ready fX_sheet dX_sheet nX_sheet iX_sheetLength xX_reader xX_solver xX_prover xX_values (.ref (hC 0)) xX_nets ++ (WC hC aC kC 0 (fun _ => 0) (fun _ => 0) (fun _ => 0) (fun _ => 0) (fun _ => 0) 0)) H := fz_P ht hB9.1
  have hD := fz_sd hP (hB9.2.weaken (fun _ q _ h => hFc q.1 h)) rfl
  refine W.widen (k := 6) (n := 8271) (by decide +kernel) (by decide +kernel) ?_
  have p9 := cj_2_1 (WX hX aX kX hT hM fX_ready fX_sheet dX_sheet nX_sheet iX_sheetLength xX_reader xX_solver xX_prover xX_values (.ref (hC 0)) xX_nets) (WC hC aC kC 0 (fun _ => 0) (fun _ => 0) (fun _ => 0) (fun _ => 0) (fun _ => 0) 0)
  have hPc := hP.mem (fun q h => p9.mem_iff.mpr (List.mem_append_left _ h))
  have hDc := (hD.perm p9).left
  have hKc : va_K (dC, dI) vwCl (tC kC) _ := hK.sub [2, 3, 4, 5, 6] rfl
  have hFc := freeG p9 hD hS hA
  refine va_calli (va_runV (As := []) (rest := []) ⟨hx, hb, hml, hown, hts⟩ (m_X0_dropClause l dC dI hC aC kC 0 (fun _ => 0) (fun _ => 0) (fun _ => 0) (fun _ => 0) (fun _ => 0) 0 (show 0 ≤ (0 : Int32).toInt ∧ (0 : Int32).toInt ≤ 24 from by decide) (cVal.z0) (ClI.z0) H.size) (cwV 0 hts gwsMX11_unsay_0_1 rfl rfl rfl hd_yX0_dropClause_RX0 (by decide +kernel)) (fz_pre (va_recv hK hP (ci := 0) (q0 := 3) rfl rfl) hPc hKc hDc) rfl rfl hl.1 rfl (lv_room (Nat.le_of_ble_eq_true rfl)) dX11_unsay_4 (by decide +kernel)) hS (fun q _ h => hFc q h) hFc (fun r2 u t9_ H locs ht hvm hw9 hB9 hz1 hk1 hS => ?_)
  revert u hw9 hB9
  refine fz_p4 ?_
  intro iC_clauses_2 fC_broken_2 fC_loss_2 iC_musts_2 hw9 hB9
  try dsimp only at hw9 hB9
  revert hw9
  refine fz_a5 ?_
  intro b_iC_clauses_2 b_r2 f2_0 f2_1 f2_2
  have p8 := cj_2_1 (WX hX aX kX hT hM fX_ready fX_sheet dX_sheet nX_sheet iX_sheetLength xX_reader xX_solver xX_prover xX_values (.ref (hC 0)) xX_nets) (WC hC aC kC iC_clauses_2 (fun _ => 0) (fun _ => 0) (fun _ => 0) fC_broken_2 fC_loss_2 iC_musts_2)
  obtain ⟨hP, hD⟩ := frameG p9 p8 hP hD hk1 hFc (fz_P ht hB9.1) hB9.2
  refine W.widen (k := 6) (n := 8271) (by decide +kernel) (by decide +kernel) ?_
  exact W.zret (v := r2) hx hb hr (by rcases z01 (x := r2) (by first | exact b_r2 | with_reducible assumption | exact ⟨by omega, by omega⟩ | assumption) with h9 | h9 <;> rw [h9] <;> rfl) (fun t9_ ht hW => ⟨⟨r2, ((.ref (hC 0)), (WC hC aC kC iC_clauses_2 (fun _ => 0) (fun _ => 0) (fun _ => 0) fC_broken_2 fC_loss_2 iC_musts_2)), rfl, ⟨(by first | exact b_r2 | with_reducible assumption | exact ⟨by omega, by omega⟩ | assumption), (by (try dsimp only); have h7 : (0 : Int32).toInt = 0 := (by decide); omega), (by (try dsimp only); exact Or.inr ⟨hC, aC, iC_clauses_2, (fun _ => 0), (fun _ => 0), (fun _ => 0), fC_broken_2, fC_loss_2, iC_musts_2, (b_iC_clauses_2), (by first | assumption | exact cVal.z0), (by first | assumption | exact ClI.z0), rfl, rfl, (clZ_x (by have h7 : (0 : Int32).toInt = 0 := (by decide); omega))⟩)⟩, by rw [ht]; exact hP, hD⟩, hS.F ht⟩) hS.2.2 dX11_unsay_7
end
section
theorem hd_yX7_listingSize_RX7 : yX7_listingSize.cls = RX7 ∧ yX7_listingSize.cls ≠ "java/lang/invoke/MethodHandle" ∧ yX7_listingSize.cls ≠ "java/lang/invoke/VarHandle" ∧ (parseMethodDescriptor yX7_listingSize.desc).map (fun d => d.parameters.length) = some 0 := by decide +kernel
theorem hd_yX7_listedValue_RX7 : yX7_listedValue.cls = RX7 ∧ yX7_listedValue.cls ≠ "java/lang/invoke/MethodHandle" ∧ yX7_listedValue.cls ≠ "java/lang/invoke/VarHandle" ∧ (parseMethodDescriptor yX7_listedValue.desc).map (fun d => d.parameters.length) = some 2 := by decide +kernel
def wsMX11_holder_0 : List Cond := .code yX11_holder cX11_holder 2 (some .int) :: ([.classLink RX11 77 "java/lang/IllegalArgumentException", .initialized "java/lang/IllegalArgumentException", .constant RX11 344 65535, .fieldLink RX11 349 "OptimaWorks$ValueDesk" "holders" "I", .fieldLink RX11 337 "OptimaWorks" "values" "LOptimaWorks$ValueDesk;"] ++ wsX70 ++ wsX110 ++ ((vx_at0 RX11 79 "java/lang/IllegalArgumentException" ["java/lang/RuntimeException", "java/lang/Exception"]).filter goodWord) ++ (wsV RX11 345 RX11 yX11_theValues wsMX11_theValues_0) ++ (wsV RX11 352 RX7 yX7_addHolder wsMX7_addHolder))
theorem iwsMX11_holder_0_in7 : ∀ w ∈ wsX70, w ∈ wsMX11_holder_0 := fun _ h => List.mem_cons_of_mem _ (List.mem_append_left _ (List.mem_append_left _ (List.mem_append_left _ (List.mem_append_left _ (List.mem_append_right _ h)))))
theorem iwsMX11_holder_0_in11 : ∀ w ∈ wsX110, w ∈ wsMX11_holder_0 := fun _ h => List.mem_cons_of_mem _ (List.mem_append_left _ (List.mem_append_left _ (List.mem_append_left _ (List.mem_append_right _ h))))
theorem gwsMX11_holder_0_1 : GoodIn wsMX11_holder_0 (wsV RX11 345 RX11 yX11_theValues wsMX11_theValues_0) := goodIn_sub (fun _ h => List.mem_cons_of_mem _ (List.mem_append_left _ (List.mem_append_right _ h))) (gdV (by decide +kernel) gdwsMX11_theValues_0)
theorem gwsMX11_holder_0_2 : GoodIn wsMX11_holder_0 (wsV RX11 352 RX7 yX7_addHolder wsMX7_addHolder) := goodIn_sub (fun _ h => List.mem_cons_of_mem _ (List.mem_append_right _ h)) (gdV (by decide +kernel) gdwsMX7_addHolder)
theorem gdwsMX11_holder_0 : wsMX11_holder_0.all goodWord = true := gdC rfl (gdA (gdA (gdA (gdA (gdA (by decide +kernel : ([.classLink RX11 77 "java/lang/IllegalArgumentException", .initialized "java/lang/IllegalArgumentException", .constant RX11 344 65535, .fieldLink RX11 349 "OptimaWorks$ValueDesk" "holders" "I", .fieldLink RX11 337 "OptimaWorks" "values" "LOptimaWorks$ValueDesk;"] : List Cond).all goodWord = true) gdwsX70) gdwsX110) (gdF _)) (gdV (by decide +kernel) gdwsMX11_theValues_0)) (gdV (by decide +kernel) gdwsMX7_addHolder))
theorem hm_m_X11_holder_0_0 : (.classLink RX11 77 "java/lang/IllegalArgumentException" : Cond) ∈ wsMX11_holder_0 := by decide +kernel
theorem hm_m_X11_holder_0_1 : (.initialized "java/lang/IllegalArgumentException" : Cond) ∈ wsMX11_holder_0 := by decide +kernel
set_option maxHeartbeats 4000000 in
set_option maxRecDepth 100000 in
/-- a holder -/
theorem m_X11_holder_0 (l : Launch) (hst : l.stackTraces = false) (dC : Nat → ClassId) (dI : Nat → Nat → Nat) (hX : Nat → Nat) (aX : Nat → Nat) (kX : Nat → ClassId) (hT : Nat → Nat) (hM : Nat → Nat) (fX_ready : Nat → Int32) (fX_sheet : Nat → Int32) (dX_sheet : Nat) (nX_sheet : Nat) (iX_sheetLength : Int32) (xX_reader : Value) (xX_solver : Value) (xX_prover : Value) (xX_clauses : Value) (xX_nets : Value) (kV : Nat → ClassId) (p1 : Int32) (b_fX_sheet : ∀ q : Nat, (-128) ≤ (fX_sheet q).toInt ∧ (fX_sheet q).toInt ≤ 127) (b_nX_sheet : 64 ≤ nX_sheet ∧ nX_sheet ≤ 60000) (b_iX_sheetLength : 0 ≤ iX_sheetLength.toInt ∧ iX_sheetLength.toInt ≤ 30000) (b_shl : iX_sheetLength.toInt ≤ ((nX_sheet : Nat) : Int)) (sz : Nat) : vx_Met l yX11_holder wsMX11_holder_0 ({ frames := 6, cells := 16, slots := 1414, locals := 81 }) (va_Pc [.ref (hX 0), .int p1] (fun U => U.heap.size = sz ∧ va_P (dC, dI) vwCl (WX hX aX kX hT hM fX_ready fX_sheet dX_sheet nX_sheet iX_sheetLength xX_reader xX_solver xX_prover .null xX_clauses xX_nets) U.heap ∧ va_K (dC, dI) vwCl (tX kX ++ (tV kV)) U ∧ va_D (fun _ => True) (WX hX aX kX hT hM fX_ready fX_sheet dX_sheet nX_sheet iX_sheetLength xX_reader xX_solver xX_prover .null xX_clauses xX_nets) ∧ CE (va_A (WX hX aX kX hT hM fX_ready fX_sheet dX_sheet nX_sheet iX_sheetLength xX_reader xX_solver xX_prover .null xX_clauses xX_nets) sz) U U.heap)) (va_Qi (fun (r : Int32) (u : (Value) × (va_W)) => (r.toInt = 0) ∧ ((1 ≤ p1.toInt ∧ p1.toInt ≤ 65535)) ∧ (∃ n9, ValO kV n9 (1, 0) (u.1) (u.2))) (fun (u : (Value) × (va_W)) t => va_P (dC, dI) vwCl (WX hX aX kX hT hM fX_ready fX_sheet dX_sheet nX_sheet iX_sheetLength xX_reader xX_solver xX_prover (u.1) xX_clauses xX_nets ++ ((u.2))) t.heap ∧ va_D (va_A (WX hX aX kX hT hM fX_ready fX_sheet dX_sheet nX_sheet iX_sheetLength xX_reader xX_solver xX_prover .null xX_clauses xX_nets) sz) (WX hX aX kX hT hM fX_ready fX_sheet dX_sheet nX_sheet iX_sheetLength xX_reader xX_solver xX_prover (u.1) xX_clauses xX_nets ++ ((u.2)))) (va_A (WX hX aX kX hT hM fX_ready fX_sheet dX_sheet nX_sheet iX_sheetLength xX_reader xX_solver xX_prover .null xX_clauses xX_nets) sz)) (vx_X (fun (u : (Value) × (va_W)) => (∃ n9, ValO kV n9 vlZ (u.1) (u.2))) (fun E (u : (Value) × (va_W)) t => ((E = "java/lang/IllegalArgumentException" ∧ (¬ (1 ≤ p1.toInt ∧ p1.toInt ≤ 65535)))) ∧ va_P (dC, dI) vwCl (WX hX aX kX hT hM fX_ready fX_sheet dX_sheet nX_sheet iX_sheetLength xX_reader xX_solver xX_prover (u.1) xX_clauses xX_nets ++ ((u.2))) t.heap ∧ va_D (va_A (WX hX aX kX hT hM fX_ready fX_sheet dX_sheet nX_sheet iX_sheetLength xX_reader xX_solver xX_prover .null xX_clauses xX_nets) sz) (WX hX aX kX hT hM fX_ready fX_sheet dX_sheet nX_sheet iX_sheetLength xX_reader xX_solver xX_prover (u.1) xX_clauses xX_nets ++ ((u.2)))) (va_A (WX hX aX kX hT hM fX_ready fX_sheet dX_sheet nX_sheet iX_sheetLength xX_reader xX_solver xX_prover .null xX_clauses xX_nets) sz)) 16 1414 (va_A (WX hX aX kX hT hM fX_ready fX_sheet dX_sheet nX_sheet iX_sheetLength xX_reader xX_solver xX_prover .null xX_clauses xX_nets) sz) := by
  refine vx_ofW (cc := cX11_holder) (maxL := 2) (ret := (some .int)) (by decide) rfl ?_
  intro p e s m args below meth c s₁ B hml htab hv
  obtain ⟨rfl, hsz, hP, hK, hD0, hE⟩ := hv
  have hx := B.exec
  have hb := B.bytes
  have hr := B.returns
  have hts := atoms_spec (ws := wsMX11_holder_0) B.pre
  have hown : s.vm.findClass RX11 = some m.cls := findClass_of_methodNamed B.named
  have hlocks := B.notSynchronized
  subst hsz
  have hD := hD0.self (sz := s.heap.size)
  generalize hAe : va_A (WX hX aX kX hT hM fX_ready fX_sheet dX_sheet nX_sheet iX_sheetLength xX_reader xX_solver xX_prover .null xX_clauses xX_nets) s.heap.size = A at hD hE ⊢
  have hA : ∀ q : Nat, s.heap.size ≤ q → A q := fun q h => by rw [← hAe]; exact Or.inr h
  have hS : va_S A s.heap s.heap [] := va_S.rf
  have hl := lv_entry ([.ref (hX 0), .int p1]) (n := 2) (Nat.le_of_ble_eq_true rfl)
  rw [lg_entry_eq]
  generalize (lg_sl ([.ref (hX 0), .int p1]) ++ List.replicate (2 - (lg_sl ([.ref (hX 0), .int p1])).length) Slot.unset).toArray = ls at hl ⊢
  have hl : lv_has ls 2 [(0, .ref (hX 0)), (1, .int p1)] := hl
  refine lv_iload_n hx hb dX11_holder_0 rfl (lv_at hl 1 rfl) ?_
  refine lv_iconst (v := 1) hx hb dX11_holder_1 (by decide) ?_
  refine lv_icmp_lt (tgt := 12) hx hb dX11_holder_2 (by decide) (fun c_2 => ?_) (fun c_2 => ?_)
  · have t_2 : p1.toInt < 1 := toI_lt c_2 rfl (by decide : (1 : Int32).toInt = 1)
    exact vx_throw0 (own := RX11) (cls := "java/lang/IllegalArgumentException") (names := ["java/lang/RuntimeException", "java/lang/Exception"]) (ik := 77) (ic := 79) (A := A) hx hb hst hown (by decide +kernel) (by decide +kernel) (hts _ hm_m_X11_holder_0_0) (hts _ hm_m_X11_holder_0_1) (vx_hat (B := ngX11_79) (fun w h => hts w (List.mem_cons_of_mem _ (List.mem_append_left _ (List.mem_append_left _ (List.mem_append_right _ h))))) (fun _ h => h) (fun w h => va_Nw.use (ngX11_79_ot w h) (hE.2.2.1.2.2.1 w h))) (by decide +kernel) hE.2.1.1 hE.2.1.2 hS (by rw [hml]; exact hl.1) dX11_holder_12 dX11_holder_15 dX11_holder_16 dX11_holder_19 (fun x hx9 => (htab x hx9).elim) (by decide +kernel) (Nat.le_of_ble_eq_true rfl) (by decide +kernel) (by decide +kernel) hlocks (fun t hvm hz hk => ⟨(.null, ([])), (by (try dsimp only); exact ⟨0, Or.inl ⟨rfl, rfl, rfl, rfl⟩⟩), ⟨⟨rfl, by omega⟩, by first | exact hP.kept (fun k q h => hk q.1 ((hP k q h).lt)) | (simp only [List.append_nil]; exact hP.kept (fun k q h => hk q.1 ((hP k q h).lt))), by first | exact hD | (simp only [List.append_nil]; exact hD)⟩, ⟨Nat.le_trans hS.1 hz, fun q h1 h2 => (hk q (Nat.lt_of_lt_of_le h1 hS.1)).trans (hS.2.1 q h1 h2)⟩⟩) hS.2.2 (by decide +kernel) (by decide +kernel)
  · have t_2 : ¬ p1.toInt < 1 := toI_nlt c_2 rfl (by decide : (1 : Int32).toInt = 1)
    refine lv_iload_n hx hb dX11_holder_5 rfl (lv_at hl 1 rfl) ?_
    refine lv_ldcw (v := 65535) hx hb hown (hts (.constant RX11 344 65535) (by decide +kernel)) dX11_holder_6 ?_
    refine lv_icmp_le (tgt := 20) hx hb dX11_holder_9 (by decide) (fun c_9 => ?_) (fun c_9 => ?_)
    · have t_9 : p1.toInt ≤ 65535 := toI_le c_9 rfl (by decide : (65535 : Int32).toInt = 65535)
      refine lv_aload_n hx hb dX11_holder_20 rfl (lv_at hl 0 rfl) ?_
      have hFc := allFree hD hS hA
      refine va_callr (va_runV (As := []) (rest := []) ⟨hx, hb, hml, hown, hts⟩ (m_X11_theValues_0 l hst dC dI hX aX kX hT hM fX_ready fX_sheet dX_sheet nX_sheet iX_sheetLength xX_reader xX_solver xX_prover xX_clauses xX_nets kV b_fX_sheet (by first | exact b_nX_sheet | with_reducible assumption | exact ⟨by omega, by omega⟩ | assumption) (b_iX_sheetLength) (by first | with_reducible assumption | omega | assumption) s.heap.size) (cwV 0 hts gwsMX11_holder_0_1 rfl rfl rfl hd_yX11_theValues_RX11 (by decide +kernel)) (fz_preE (va_recv hK hP (ci := 11) (q0 := 0) rfl rfl) hP hK hD (fun a U g mk qE => qE.call) (fun U hU9 hW => by rw [hU9]; exact (((hE : CE A s s.heap).kept hS.2.1).narrow (fun q h => hFc q h)).warm hW)) rfl rfl hl.1 rfl (lv_room (Nat.le_of_ble_eq_true rfl)) dX11_holder_21 (by decide +kernel)) hS (fun q _ h => hFc q h) hFc (fun u ra1 t9_ H locs ht hvm hw9 hB9 hz1 hk1 hS => ?_)
      revert u hw9 hB9
      refine fz_p2 ?_
      intro hV aV hw9 hB9
      try dsimp only at hw9 hB9
      revert hB9
      refine fz_a2 ?_
      intro hra hB9
      subst hra
      clear hw9
      have hP : va_P (dC, dI) vwCl (WX hX aX kX hT hM fX_ready fX_sheet dX_sheet nX_sheet iX_sheetLength xX_reader xX_solver xX_prover (.ref (hV 0)) xX_clauses xX_nets ++ (WV hV aV kV 0 0 (fun _ => 0) (fun _ => 0) (fun _ => 0) (fun _ => 0) (fun _ => 0) (fun _ => 0) (fun _ => 0) (fun _ => 0) (fun _ => 0) (-1) 0 (fun _ => 0) (fun _ => 0) (fun _ => 0) (fun _ => 0) (fun _ => 0) (aV 13) 0 0 0)) H := fz_P ht hB9.1
      have hD := fz_sd hP (hB9.2.weaken (fun _ q _ h => hFc q.1 h)) rfl
      refine W.widen (k := 15) (n := 1408) (by decide +kernel) (by decide +kernel) ?_
      have hru0 : RuV (fun _ => 0) (fun _ => 0) (fun _ => 0) (fun _ => 0) (fun _ => 0) := RuV.zero
      have hls0 : (0 : Int32).toInt ≤ ((0 : Nat) : Int) := by decide
      refine va_get (D := (dC, dI)) (ci := 7) (v := .int 0) (C := RX7) (T := TX7) (N := 20) hx hb hts iwsMX11_holder_0_in7 hown hK hP 3 rfl rfl 0 (by decide) (hts (.fieldLink RX11 349 "OptimaWorks$ValueDesk" "holders" "I") (by decide +kernel)) (fun _ h9 => h9) rfl dX11_holder_24 ?_
      refine lv_bipush (v := 10) hx hb dX11_holder_27 (by decide) ?_
      refine lv_icmp_lt (tgt := 40) hx hb dX11_holder_29 (by decide) (fun _ => ?_) (fun c9 => absurd (by decide) c9)
      refine lv_aload_n hx hb dX11_holder_40 rfl (lv_at hl 0 rfl) ?_
      refine va_get (D := (dC, dI)) (ci := 11) (v := .ref (hV 0)) (C := RX11) (T := TX11) (N := 11) hx hb hts iwsMX11_holder_0_in11 hown hK hP 0 rfl rfl 8 (by decide) (hts (.fieldLink RX11 337 "OptimaWorks" "values" "LOptimaWorks$ValueDesk;") (by decide +kernel)) (fun _ h9 => h9) rfl dX11_holder_41 ?_
      refine lv_iload_n hx hb dX11_holder_44 rfl (lv_at hl 1 rfl) ?_
      have p9 := cj_2_1 (WX hX aX kX hT hM fX_ready fX_sheet dX_sheet nX_sheet iX_sheetLength xX_reader xX_solver xX_prover (.ref (hV 0)) xX_clauses xX_nets) (WV hV aV kV 0 0 (fun _ => 0) (fun _ => 0) (fun _ => 0) (fun _ => 0) (fun _ => 0) (fun _ => 0) (fun _ => 0) (fun _ => 0) (fun _ => 0) (-1) 0 (fun _ => 0) (fun _ => 0) (fun _ => 0) (fun _ => 0) (fun _ => 0) (aV 13) 0 0 0)
      have hPc := hP.mem (fun q h => p9.mem_iff.mpr (List.mem_append_left _ h))
      have hDc := (hD.perm p9).left
      have hKc : va_K (dC, dI) vwCl (tV kV) _ := hK.sub [2, 3, 4, 5, 6, 7, 8, 9, 10, 11, 12, 13, 14, 15] rfl
      have hFc := freeG p9 hD hS hA
      refine va_calli (va_runV (As := [.int p1]) (rest := []) ⟨hx, hb, hml, hown, hts⟩ (m_X7_addHolder l dC dI hV aV kV 0 0 (fun _ => 0) (fun _ => 0) (fun _ => 0) (fun _ => 0) (fun _ => 0) (fun _ => 0) (fun _ => 0) (fun _ => 0) (fun _ => 0) (-1) 0 (fun _ => 0) (fun _ => 0) (fun _ => 0) (fun _ => 0) (fun _ => 0) (aV 13) 0 0 0 p1 (show 0 ≤ (0 : Int32).toInt ∧ (0 : Int32).toInt ≤ 10 from by decide) (show 0 ≤ (0 : Int32).toInt ∧ (0 : Int32).toInt ≤ 12 from by decide) (zr_r (by decide) (by decide)) (show 0 ≤ (0 : Int32).toInt ∧ (0 : Int32).toInt ≤ 1 from by decide) (zr_r (by decide) (by decide)) (by first | assumption | exact ⟨by omega, by omega⟩) (show (-1) ≤ (0 : Int32).toInt ∧ (0 : Int32).toInt ≤ 5000 from by decide) (show 0 ≤ (0 : Int32).toInt ∧ (0 : Int32).toInt ≤ 1 from by decide) (by first | with_reducible assumption | omega | assumption) (by first | with_reducible assumption | omega | assumption) (by first | with_reducible assumption | omega | (rw [iI_t (by omega) (by omega)]; omega) | decide | assumption) H.size) (cwV 1 hts gwsMX11_holder_0_2 rfl rfl rfl hd_yX7_addHolder_RX7 (by decide +kernel)) (fz_pre (va_recv hK hP (ci := 7) (q0 := 3) rfl rfl) hPc hKc hDc) rfl rfl hl.1 rfl (lv_room (Nat.le_of_ble_eq_true rfl)) dX11_holder_45 (by decide +kernel)) hS (fun q _ h => hFc q h) hFc (fun r2 u t9_ H locs ht hvm hw9 hB9 hz1 hk1 hS => ?_)
      revert u hw9 hB9
      refine fz_p4 ?_
      intro iV_holders_2 fV_domain_2 iV_doneFor_2 iV_listDone_2 hw9 hB9
      try dsimp only at hw9 hB9
      revert hw9
      refine fz_a5 ?_
      intro b_iV_holders_2 b_iV_listDone_2 f2_0 f2_1 f2_2
      have p8 := cj_2_1 (WX hX aX kX hT hM fX_ready fX_sheet dX_sheet nX_sheet iX_sheetLength xX_reader xX_solver xX_prover (.ref (hV 0)) xX_clauses xX_nets) (WV hV aV kV iV_holders_2 0 (fun _ => 0) fV_domain_2 (fun _ => 0) (fun _ => 0) (fun _ => 0) (fun _ => 0) (fun _ => 0) (fun _ => 0) (fun _ => 0) iV_doneFor_2 0 (fun _ => 0) (fun _ => 0) (fun _ => 0) (fun _ => 0) (fun _ => 0) (aV 13) 0 0 iV_listDone_2)
      obtain ⟨hP, hD⟩ := frameG p9 p8 hP hD hk1 hFc (fz_P ht hB9.1) hB9.2
      refine vx_ret ?_
      refine W.widen (k := 16) (n := 1414) (by decide +kernel) (by decide +kernel) ?_
      exact W.iret (v := r2) hx hb hr (fun t9_ ht hW => ⟨⟨r2, ((.ref (hV 0)), (WV hV aV kV iV_holders_2 0 (fun _ => 0) fV_domain_2 (fun _ => 0) (fun _ => 0) (fun _ => 0) (fun _ => 0) (fun _ => 0) (fun _ => 0) (fun _ => 0) iV_doneFor_2 0 (fun _ => 0) (fun _ => 0) (fun _ => 0) (fun _ => 0) (fun _ => 0) (aV 13) 0 0 iV_listDone_2)), rfl, ⟨(by (try dsimp only); have h7 : (0 : Int32).toInt = 0 := (by decide); omega), (by (try dsimp only); omega), (by (try dsimp only); exact ⟨0, Or.inr ⟨hV, aV, iV_holders_2, 0, (fun _ => 0), fV_domain_2, (fun _ => 0), (fun _ => 0), (fun _ => 0), (fun _ => 0), (fun _ => 0), (fun _ => 0), (fun _ => 0), iV_doneFor_2, 0, (fun _ => 0), (fun _ => 0), (fun _ => 0), (fun _ => 0), (fun _ => 0), (aV 13), 0, iV_listDone_2, (b_iV_holders_2), (show 0 ≤ (0 : Int32).toInt ∧ (0 : Int32).toInt ≤ 12 from by decide), (zr_r (by decide) (by decide)), (show 0 ≤ (0 : Int32).toInt ∧ (0 : Int32).toInt ≤ 1 from by decide), (zr_r (by decide) (by decide)), (by first | assumption | exact ⟨by omega, by omega⟩), (show (-1) ≤ (0 : Int32).toInt ∧ (0 : Int32).toInt ≤ 5000 from by decide), (b_iV_listDone_2), (by first | with_reducible assumption | omega | assumption), (by first | with_reducible assumption | omega | assumption), rfl, rfl, (vl_x (by have h7 : (0 : Int32).toInt = 0 := (by decide); omega) (by have h7 : (0 : Int32).toInt = 0 := (by decide); omega))⟩⟩)⟩, by rw [ht]; exact hP, hD⟩, hS.F ht⟩) hS.2.2 dX11_holder_48
    · have t_9 : ¬ p1.toInt ≤ 65535 := toI_nle c_9 rfl (by decide : (65535 : Int32).toInt = 65535)
      exact vx_throw0 (own := RX11) (cls := "java/lang/IllegalArgumentException") (names := ["java/lang/RuntimeException", "java/lang/Exception"]) (ik := 77) (ic := 79) (A := A) hx hb hst hown (by decide +kernel) (by decide +kernel) (hts _ hm_m_X11_holder_0_0) (hts _ hm_m_X11_holder_0_1) (vx_hat (B := ngX11_79) (fun w h => hts w (List.mem_cons_of_mem _ (List.mem_append_left _ (List.mem_append_left _ (List.mem_append_right _ h))))) (fun _ h => h) (fun w h => va_Nw.use (ngX11_79_ot w h) (hE.2.2.1.2.2.1 w h))) (by decide +kernel) hE.2.1.1 hE.2.1.2 hS (by rw [hml]; exact hl.1) dX11_holder_12 dX11_holder_15 dX11_holder_16 dX11_holder_19 (fun x hx9 => (htab x hx9).elim) (by decide +kernel) (Nat.le_of_ble_eq_true rfl) (by decide +kernel) (by decide +kernel) hlocks (fun t hvm hz hk => ⟨(.null, ([])), (by (try dsimp only); exact ⟨0, Or.inl ⟨rfl, rfl, rfl, rfl⟩⟩), ⟨⟨rfl, by omega⟩, by first | exact hP.kept (fun k q h => hk q.1 ((hP k q h).lt)) | (simp only [List.append_nil]; exact hP.kept (fun k q h => hk q.1 ((hP k q h).lt))), by first | exact hD | (simp only [List.append_nil]; exact hD)⟩, ⟨Nat.le_trans hS.1 hz, fun q h1 h2 => (hk q (Nat.lt_of_lt_of_le h1 hS.1)).trans (hS.2.1 q h1 h2)⟩⟩) hS.2.2 (by decide +kernel) (by decide +kernel)
def wsMX11_rule_0 : List Cond := .code yX11_rule cX11_rule 5 (some .int) :: ([.fieldLink RX11 337 "OptimaWorks" "values" "LOptimaWorks$ValueDesk;", .fieldLink RX11 359 "OptimaWorks$ValueDesk" "rules" "I", .classLink RX11 77 "java/lang/IllegalArgumentException", .initialized "java/lang/IllegalArgumentException"] ++ wsX70 ++ wsX110 ++ (wsV RX11 345 RX11 yX11_theValues wsMX11_theValues_0) ++ (wsV RX11 355 RX7 yX7_isRule wsMX7_isRule) ++ (wsV RX11 362 RX7 yX7_addRule wsMX7_addRule) ++ ((vx_at0 RX11 79 "java/lang/IllegalArgumentException" ["java/lang/RuntimeException", "java/lang/Exception"]).filter goodWord))
theorem iwsMX11_rule_0_in7 : ∀ w ∈ wsX70, w ∈ wsMX11_rule_0 := fun _ h => List.mem_cons_of_mem _ (List.mem_append_left _ (List.mem_append_left _ (List.mem_append_left _ (List.mem_append_left _ (List.mem_append_left _ (List.mem_append_right _ h))))))
theorem iwsMX11_rule_0_in11 : ∀ w ∈ wsX110, w ∈ wsMX11_rule_0 := fun _ h => List.mem_cons_of_mem _ (List.mem_append_left _ (List.mem_append_left _ (List.mem_append_left _ (List.mem_append_left _ (List.mem_append_right _ h)))))
theorem gwsMX11_rule_0_0 : GoodIn wsMX11_rule_0 (wsV RX11 345 RX11 yX11_theValues wsMX11_theValues_0) := goodIn_sub (fun _ h => List.mem_cons_of_mem _ (List.mem_append_left _ (List.mem_append_left _ (List.mem_append_left _ (List.mem_append_right _ h))))) (gdV (by decide +kernel) gdwsMX11_theValues_0)
theorem gwsMX11_rule_0_1 : GoodIn wsMX11_rule_0 (wsV RX11 355 RX7 yX7_isRule wsMX7_isRule) := goodIn_sub (fun _ h => List.mem_cons_of_mem _ (List.mem_append_left _ (List.mem_append_left _ (List.mem_append_right _ h)))) (gdV (by decide +kernel) gdwsMX7_isRule)
theorem gwsMX11_rule_0_2 : GoodIn wsMX11_rule_0 (wsV RX11 362 RX7 yX7_addRule wsMX7_addRule) := goodIn_sub (fun _ h => List.mem_cons_of_mem _ (List.mem_append_left _ (List.mem_append_right _ h))) (gdV (by decide +kernel) gdwsMX7_addRule)
theorem gdwsMX11_rule_0 : wsMX11_rule_0.all goodWord = true := gdC rfl (gdA (gdA (gdA (gdA (gdA (gdA (by decide +kernel : ([.fieldLink RX11 337 "OptimaWorks" "values" "LOptimaWorks$ValueDesk;", .fieldLink RX11 359 "OptimaWorks$ValueDesk" "rules" "I", .classLink RX11 77 "java/lang/IllegalArgumentException", .initialized "java/lang/IllegalArgumentException"] : List Cond).all goodWord = true) gdwsX70) gdwsX110) (gdV (by decide +kernel) gdwsMX11_theValues_0)) (gdV (by decide +kernel) gdwsMX7_isRule)) (gdV (by decide +kernel) gdwsMX7_addRule)) (gdF _))
theorem hm_m_X11_rule_0_0 : (.fieldLink RX11 337 "OptimaWorks" "values" "LOptimaWorks$ValueDesk;" : Cond) ∈ wsMX11_rule_0 := by decide +kernel
set_option maxHeartbeats 4000000 in
set_option maxRecDepth 100000 in
/-- a rule -/
theorem m_X11_rule_0 (l : Launch) (hst : l.stackTraces = false) (dC : Nat → ClassId) (dI : Nat → Nat → Nat) (hX : Nat → Nat) (aX : Nat → Nat) (kX : Nat → ClassId) (hT : Nat → Nat) (hM : Nat → Nat) (fX_ready : Nat → Int32) (fX_sheet : Nat → Int32) (dX_sheet : Nat) (nX_sheet : Nat) (iX_sheetLength : Int32) (xX_reader : Value) (xX_solver : Value) (xX_prover : Value) (xX_clauses : Value) (xX_nets : Value) (kV : Nat → ClassId) (p1 : Int32) (p2 : Int32) (p3 : Int32) (p4 : Int32) (b_fX_sheet : ∀ q : Nat, (-128) ≤ (fX_sheet q).toInt ∧ (fX_sheet q).toInt ≤ 127) (b_nX_sheet : 64 ≤ nX_sheet ∧ nX_sheet ≤ 60000) (b_iX_sheetLength : 0 ≤ iX_sheetLength.toInt ∧ iX_sheetLength.toInt ≤ 30000) (b_shl : iX_sheetLength.toInt ≤ ((nX_sheet : Nat) : Int)) (sz : Nat) : vx_Met l yX11_rule wsMX11_rule_0 ({ frames := 6, cells := 16, slots := 1414, locals := 81 }) (va_Pc [.ref (hX 0), .int p1, .int p2, .int p3, .int p4] (fun U => U.heap.size = sz ∧ va_P (dC, dI) vwCl (WX hX aX kX hT hM fX_ready fX_sheet dX_sheet nX_sheet iX_sheetLength xX_reader xX_solver xX_prover .null xX_clauses xX_nets) U.heap ∧ va_K (dC, dI) vwCl (tX kX ++ (tV kV)) U ∧ va_D (fun _ => True) (WX hX aX kX hT hM fX_ready fX_sheet dX_sheet nX_sheet iX_sheetLength xX_reader xX_solver xX_prover .null xX_clauses xX_nets) ∧ CE (va_A (WX hX aX kX hT hM fX_ready fX_sheet dX_sheet nX_sheet iX_sheetLength xX_reader xX_solver xX_prover .null xX_clauses xX_nets) sz) U U.heap)) (va_Qi (fun (r : Int32) (u : (Value) × (va_W)) => (r.toInt = 0) ∧ (RulX p1 p2 p3 p4 0) ∧ (∃ n9, ValO kV n9 (0, 1) (u.1) (u.2))) (fun (u : (Value) × (va_W)) t => va_P (dC, dI) vwCl (WX hX aX kX hT hM fX_ready fX_sheet dX_sheet nX_sheet iX_sheetLength xX_reader xX_solver xX_prover (u.1) xX_clauses xX_nets ++ ((u.2))) t.heap ∧ va_D (va_A (WX hX aX kX hT hM fX_ready fX_sheet dX_sheet nX_sheet iX_sheetLength xX_reader xX_solver xX_prover .null xX_clauses xX_nets) sz) (WX hX aX kX hT hM fX_ready fX_sheet dX_sheet nX_sheet iX_sheetLength xX_reader xX_solver xX_prover (u.1) xX_clauses xX_nets ++ ((u.2)))) (va_A (WX hX aX kX hT hM fX_ready fX_sheet dX_sheet nX_sheet iX_sheetLength xX_reader xX_solver xX_prover .null xX_clauses xX_nets) sz)) (vx_X (fun (u : (Value) × (va_W)) => (∃ n9, ValO kV n9 vlZ (u.1) (u.2))) (fun E (u : (Value) × (va_W)) t => ((E = "java/lang/IllegalArgumentException" ∧ (¬ RulX p1 p2 p3 p4 0))) ∧ va_P (dC, dI) vwCl (WX hX aX kX hT hM fX_ready fX_sheet dX_sheet nX_sheet iX_sheetLength xX_reader xX_solver xX_prover (u.1) xX_clauses xX_nets ++ ((u.2))) t.heap ∧ va_D (va_A (WX hX aX kX hT hM fX_ready fX_sheet dX_sheet nX_sheet iX_sheetLength xX_reader xX_solver xX_prover .null xX_clauses xX_nets) sz) (WX hX aX kX hT hM fX_ready fX_sheet dX_sheet nX_sheet iX_sheetLength xX_reader xX_solver xX_prover (u.1) xX_clauses xX_nets ++ ((u.2)))) (va_A (WX hX aX kX hT hM fX_ready fX_sheet dX_sheet nX_sheet iX_sheetLength xX_reader xX_solver xX_prover .null xX_clauses xX_nets) sz)) 16 1414 (va_A (WX hX aX kX hT hM fX_ready fX_sheet dX_sheet nX_sheet iX_sheetLength xX_reader xX_solver xX_prover .null xX_clauses xX_nets) sz) := by
  refine vx_ofW (cc := cX11_rule) (maxL := 5) (ret := (some .int)) (by decide) rfl ?_
  intro p e s m args below meth c s₁ B hml htab hv
  obtain ⟨rfl, hsz, hP, hK, hD0, hE⟩ := hv
  have hx := B.exec
  have hb := B.bytes
  have hr := B.returns
  have hts := atoms_spec (ws := wsMX11_rule_0) B.pre
  have hown : s.vm.findClass RX11 = some m.cls := findClass_of_methodNamed B.named
  have hlocks := B.notSynchronized
  subst hsz
  have hD := hD0.self (sz := s.heap.size)
  generalize hAe : va_A (WX hX aX kX hT hM fX_ready fX_sheet dX_sheet nX_sheet iX_sheetLength xX_reader xX_solver xX_prover .null xX_clauses xX_nets) s.heap.size = A at hD hE ⊢
  have hA : ∀ q : Nat, s.heap.size ≤ q → A q := fun q h => by rw [← hAe]; exact Or.inr h
  have hS : va_S A s.heap s.heap [] := va_S.rf
  have hl := lv_entry ([.ref (hX 0), .int p1, .int p2, .int p3, .int p4]) (n := 5) (Nat.le_of_ble_eq_true rfl)
  rw [lg_entry_eq]
  generalize (lg_sl ([.ref (hX 0), .int p1, .int p2, .int p3, .int p4]) ++ List.replicate (5 - (lg_sl ([.ref (hX 0), .int p1, .int p2, .int p3, .int p4])).length) Slot.unset).toArray = ls at hl ⊢
  have hl : lv_has ls 5 [(0, .ref (hX 0)), (1, .int p1), (2, .int p2), (3, .int p3), (4, .int p4)] := hl
  refine lv_aload_n hx hb dX11_rule_0 rfl (lv_at hl 0 rfl) ?_
  have hFc := allFree hD hS hA
  refine va_callr (va_runV (As := []) (rest := []) ⟨hx, hb, hml, hown, hts⟩ (m_X11_theValues_0 l hst dC dI hX aX kX hT hM fX_ready fX_sheet dX_sheet nX_sheet iX_sheetLength xX_reader xX_solver xX_prover xX_clauses xX_nets kV b_fX_sheet (by first | exact b_nX_sheet | with_reducible assumption | exact ⟨by omega, by omega⟩ | assumption) (b_iX_sheetLength) (by first | with_reducible assumption | omega | assumption) s.heap.size) (cwV 0 hts gwsMX11_rule_0_0 rfl rfl rfl hd_yX11_theValues_RX11 (by decide +kernel)) (fz_preE (va_recv hK hP (ci := 11) (q0 := 0) rfl rfl) hP hK hD (fun a U g mk qE => qE.call) (fun U hU9 hW => by rw [hU9]; exact (((hE : CE A s s.heap).kept hS.2.1).narrow (fun q h => hFc q h)).warm hW)) rfl rfl hl.1 rfl (lv_room (Nat.le_of_ble_eq_true rfl)) dX11_rule_1 (by decide +kernel)) hS (fun q _ h => hFc q h) hFc (fun u ra1 t9_ H locs ht hvm hw9 hB9 hz1 hk1 hS => ?_)
  revert u hw9 hB9
  refine fz_p2 ?_
  intro hV aV hw9 hB9
  try dsimp only at hw9 hB9
  revert hB9
  refine fz_a2 ?_
  intro hra hB9
  subst hra
  clear hw9
  have hP : va_P (dC, dI) vwCl (WX hX aX kX hT hM fX_ready fX_sheet dX_sheet nX_sheet iX_sheetLength xX_reader xX_solver xX_prover (.ref (hV 0)) xX_clauses xX_nets ++ (WV hV aV kV 0 0 (fun _ => 0) (fun _ => 0) (fun _ => 0) (fun _ => 0) (fun _ => 0) (fun _ => 0) (fun _ => 0) (fun _ => 0) (fun _ => 0) (-1) 0 (fun _ => 0) (fun _ => 0) (fun _ => 0) (fun _ => 0) (fun _ => 0) (aV 13) 0 0 0)) H := fz_P ht hB9.1
  have hD := fz_sd hP (hB9.2.weaken (fun _ q _ h => hFc q.1 h)) rfl
  refine W.widen (k := 15) (n := 1408) (by decide +kernel) (by decide +kernel) ?_
  have hru0 : RuV (fun _ => 0) (fun _ => 0) (fun _ => 0) (fun _ => 0) (fun _ => 0) := RuV.zero
  have hls0 : (0 : Int32).toInt ≤ ((0 : Nat) : Int) := by decide
  refine lv_iload_n hx hb dX11_rule_4 rfl (lv_at hl 1 rfl) ?_
  refine lv_iload_n hx hb dX11_rule_5 rfl (lv_at hl 2 rfl) ?_
  refine lv_iload_n hx hb dX11_rule_6 rfl (lv_at hl 3 rfl) ?_
  refine lv_iload hx hb dX11_rule_7 (lv_at hl 4 rfl) ?_
  have p9 := cj_2_1 (WX hX aX kX hT hM fX_ready fX_sheet dX_sheet nX_sheet iX_sheetLength xX_reader xX_solver xX_prover (.ref (hV 0)) xX_clauses xX_nets) (WV hV aV kV 0 0 (fun _ => 0) (fun _ => 0) (fun _ => 0) (fun _ => 0) (fun _ => 0) (fun _ => 0) (fun _ => 0) (fun _ => 0) (fun _ => 0) (-1) 0 (fun _ => 0) (fun _ => 0) (fun _ => 0) (fun _ => 0) (fun _ => 0) (aV 13) 0 0 0)
  have hPc := hP.mem (fun q h => p9.mem_iff.mpr (List.mem_append_left _ h))
  have hDc := (hD.perm p9).left
  have hKc : va_K (dC, dI) vwCl (tV kV) _ := hK.sub [2, 3, 4, 5, 6, 7, 8, 9, 10, 11, 12, 13, 14, 15] rfl
  have hFc := freeG p9 hD hS hA
  refine va_calli (va_runV (As := [.int p1, .int p2, .int p3, .int p4]) (rest := []) ⟨hx, hb, hml, hown, hts⟩ (m_X7_isRule l dC dI hV aV kV 0 0 (fun _ => 0) (fun _ => 0) (fun _ => 0) (fun _ => 0) (fun _ => 0) (fun _ => 0) (fun _ => 0) (fun _ => 0) (fun _ => 0) (-1) 0 (fun _ => 0) (fun _ => 0) (fun _ => 0) (fun _ => 0) (fun _ => 0) (aV 13) 0 0 0 p1 p2 p3 p4 (show 0 ≤ (0 : Int32).toInt ∧ (0 : Int32).toInt ≤ 10 from by decide) (show 0 ≤ (0 : Int32).toInt ∧ (0 : Int32).toInt ≤ 12 from by decide) (zr_r (by decide) (by decide)) (show 0 ≤ (0 : Int32).toInt ∧ (0 : Int32).toInt ≤ 1 from by decide) (zr_r (by decide) (by decide)) (by first | assumption | exact ⟨by omega, by omega⟩) (show (-1) ≤ (0 : Int32).toInt ∧ (0 : Int32).toInt ≤ 5000 from by decide) (show 0 ≤ (0 : Int32).toInt ∧ (0 : Int32).toInt ≤ 1 from by decide) (by first | with_reducible assumption | omega | assumption) (by first | with_reducible assumption | omega | assumption) H.size) (cwV 4 hts gwsMX11_rule_0_1 rfl rfl rfl hd_yX7_isRule_RX7 (by decide +kernel)) (fz_pre (va_recv hK hP (ci := 7) (q0 := 3) rfl rfl) hPc hKc hDc) rfl rfl hl.1 rfl (lv_room (Nat.le_of_ble_eq_true rfl)) dX11_rule_9 (by decide +kernel)) hS (fun q _ h => hFc q h) hFc (fun r2 u t9_ H locs ht hvm hw9 hB9 hz1 hk1 hS => ?_)
  revert hw9
  refine fz_a3 ?_
  intro b_r2 f2_0 f2_1
  have p8 := p9
  obtain ⟨hP, hD⟩ := frameG p9 p8 hP hD hk1 hFc (fz_P ht hB9.1) hB9.2
  have hir := f2_0
  have hix := f2_1
  refine lv_if_ne (tgt := 23) hx hb dX11_rule_12 (by decide) (fun c_12 => ?_) (fun c_12 => ?_)
  · have t_12 : r2.toInt ≠ 0 := toI_ne c_12 rfl (by decide : (0 : Int32).toInt = 0)
    refine lv_aload_n hx hb dX11_rule_23 rfl (lv_at hl 0 rfl) ?_
    refine va_get (D := (dC, dI)) (ci := 11) (v := .ref (hV 0)) (C := RX11) (T := TX11) (N := 11) hx hb hts iwsMX11_rule_0_in11 hown hK hP 0 rfl rfl 8 (by decide) (hts _ hm_m_X11_rule_0_0) (fun _ h9 => h9) rfl dX11_rule_24 ?_
    refine va_get (D := (dC, dI)) (ci := 7) (v := .int 0) (C := RX7) (T := TX7) (N := 20) hx hb hts iwsMX11_rule_0_in7 hown hK hP 3 rfl rfl 1 (by decide) (hts (.fieldLink RX11 359 "OptimaWorks$ValueDesk" "rules" "I") (by decide +kernel)) (fun _ h9 => h9) rfl dX11_rule_27 ?_
    refine lv_bipush (v := 12) hx hb dX11_rule_30 (by decide) ?_
    refine lv_icmp_lt (tgt := 43) hx hb dX11_rule_32 (by decide) (fun _ => ?_) (fun c9 => absurd (by decide) c9)
    refine lv_aload_n hx hb dX11_rule_43 rfl (lv_at hl 0 rfl) ?_
    refine va_get (D := (dC, dI)) (ci := 11) (v := .ref (hV 0)) (C := RX11) (T := TX11) (N := 11) hx hb hts iwsMX11_rule_0_in11 hown hK hP 0 rfl rfl 8 (by decide) (hts _ hm_m_X11_rule_0_0) (fun _ h9 => h9) rfl dX11_rule_44 ?_
    refine lv_iload_n hx hb dX11_rule_47 rfl (lv_at hl 1 rfl) ?_
    refine lv_iload_n hx hb dX11_rule_48 rfl (lv_at hl 2 rfl) ?_
    refine lv_iload_n hx hb dX11_rule_49 rfl (lv_at hl 3 rfl) ?_
    refine lv_iload hx hb dX11_rule_50 (lv_at hl 4 rfl) ?_
    have p9 := cj_2_1 (WX hX aX kX hT hM fX_ready fX_sheet dX_sheet nX_sheet iX_sheetLength xX_reader xX_solver xX_prover (.ref (hV 0)) xX_clauses xX_nets) (WV hV aV kV 0 0 (fun _ => 0) (fun _ => 0) (fun _ => 0) (fun _ => 0) (fun _ => 0) (fun _ => 0) (fun _ => 0) (fun _ => 0) (fun _ => 0) (-1) 0 (fun _ => 0) (fun _ => 0) (fun _ => 0) (fun _ => 0) (fun _ => 0) (aV 13) 0 0 0)
    have hPc := hP.mem (fun q h => p9.mem_iff.mpr (List.mem_append_left _ h))
    have hDc := (hD.perm p9).left
    have hKc : va_K (dC, dI) vwCl (tV kV) _ := hK.sub [2, 3, 4, 5, 6, 7, 8, 9, 10, 11, 12, 13, 14, 15] rfl
    have hFc := freeG p9 hD hS hA
    refine va_calli (va_runV (As := [.int p1, .int p2, .int p3, .int p4]) (rest := []) ⟨hx, hb, hml, hown, hts⟩ (m_X7_addRule l dC dI hV aV kV 0 0 (fun _ => 0) (fun _ => 0) (fun _ => 0) (fun _ => 0) (fun _ => 0) (fun _ => 0) (fun _ => 0) (fun _ => 0) (fun _ => 0) (-1) 0 (fun _ => 0) (fun _ => 0) (fun _ => 0) (fun _ => 0) (fun _ => 0) (aV 13) 0 0 0 p1 p2 p3 p4 (show 0 ≤ (0 : Int32).toInt ∧ (0 : Int32).toInt ≤ 10 from by decide) (show 0 ≤ (0 : Int32).toInt ∧ (0 : Int32).toInt ≤ 12 from by decide) (zr_r (by decide) (by decide)) (show 0 ≤ (0 : Int32).toInt ∧ (0 : Int32).toInt ≤ 1 from by decide) (zr_r (by decide) (by decide)) (by first | assumption | exact ⟨by omega, by omega⟩) (show (-1) ≤ (0 : Int32).toInt ∧ (0 : Int32).toInt ≤ 5000 from by decide) (show 0 ≤ (0 : Int32).toInt ∧ (0 : Int32).toInt ≤ 1 from by decide) (by first | with_reducible assumption | omega | assumption) (by first | with_reducible assumption | omega | assumption) (by have h9 := (hir (by omega)).1; omega) (by first | with_reducible assumption | omega | (rw [iI_t (by omega) (by omega)]; omega) | decide | assumption) ((hir (by omega)).2) H.size) (cwV 4 hts gwsMX11_rule_0_2 rfl rfl rfl hd_yX7_addRule_RX7 (by decide +kernel)) (fz_pre (va_recv hK hP (ci := 7) (q0 := 3) rfl rfl) hPc hKc hDc) rfl rfl hl.1 rfl (lv_room (Nat.le_of_ble_eq_true rfl)) dX11_rule_52 (by decide +kernel)) hS (fun q _ h => hFc q h) hFc (fun r3 u t9_ H locs ht hvm hw9 hB9 hz1 hk1 hS => ?_)
    revert u hw9 hB9
    refine fz_p9 ?_
    intro iV_rules_3 fV_kind_3 fV_a_3 fV_b_3 fV_c_3 fV_rulePairs_3 fV_lastHolder_3 iV_doneFor_3 iV_listDone_3 hw9 hB9
    try dsimp only at hw9 hB9
    revert hw9
    refine fz_a6 ?_
    intro b_iV_rules_3 b_fV_kind_3 b_iV_listDone_3 b_RuV_3 f3_0 f3_1
    have p8 := cj_2_1 (WX hX aX kX hT hM fX_ready fX_sheet dX_sheet nX_sheet iX_sheetLength xX_reader xX_solver xX_prover (.ref (hV 0)) xX_clauses xX_nets) (WV hV aV kV 0 iV_rules_3 (fun _ => 0) (fun _ => 0) fV_kind_3 fV_a_3 fV_b_3 fV_c_3 fV_rulePairs_3 fV_lastHolder_3 (fun _ => 0) iV_doneFor_3 0 (fun _ => 0) (fun _ => 0) (fun _ => 0) (fun _ => 0) (fun _ => 0) (aV 13) 0 0 iV_listDone_3)
    obtain ⟨hP, hD⟩ := frameG p9 p8 hP hD hk1 hFc (fz_P ht hB9.1) hB9.2
    refine vx_ret ?_
    refine W.widen (k := 16) (n := 1414) (by decide +kernel) (by decide +kernel) ?_
    exact W.iret (v := r3) hx hb hr (fun t9_ ht hW => ⟨⟨r3, ((.ref (hV 0)), (WV hV aV kV 0 iV_rules_3 (fun _ => 0) (fun _ => 0) fV_kind_3 fV_a_3 fV_b_3 fV_c_3 fV_rulePairs_3 fV_lastHolder_3 (fun _ => 0) iV_doneFor_3 0 (fun _ => 0) (fun _ => 0) (fun _ => 0) (fun _ => 0) (fun _ => 0) (aV 13) 0 0 iV_listDone_3)), rfl, ⟨(by (try dsimp only); have h7 : (0 : Int32).toInt = 0 := (by decide); omega), (by (try dsimp only); exact ((hix.elim (fun h9 => h9.2) (fun h9 => absurd h9.1 (by omega))))), (by (try dsimp only); exact ⟨0, Or.inr ⟨hV, aV, 0, iV_rules_3, (fun _ => 0), (fun _ => 0), fV_kind_3, fV_a_3, fV_b_3, fV_c_3, fV_rulePairs_3, fV_lastHolder_3, (fun _ => 0), iV_doneFor_3, 0, (fun _ => 0), (fun _ => 0), (fun _ => 0), (fun _ => 0), (fun _ => 0), (aV 13), 0, iV_listDone_3, (show 0 ≤ (0 : Int32).toInt ∧ (0 : Int32).toInt ≤ 10 from by decide), (b_iV_rules_3), b_fV_kind_3, (show 0 ≤ (0 : Int32).toInt ∧ (0 : Int32).toInt ≤ 1 from by decide), (zr_r (by decide) (by decide)), (by first | assumption | exact ⟨by omega, by omega⟩), (show (-1) ≤ (0 : Int32).toInt ∧ (0 : Int32).toInt ≤ 5000 from by decide), (b_iV_listDone_3), (by first | with_reducible assumption | omega | assumption), (by first | with_reducible assumption | omega | assumption), rfl, rfl, (vl_x (by have h7 : (0 : Int32).toInt = 0 := (by decide); omega) (by have h7 : (0 : Int32).toInt = 0 := (by decide); omega))⟩⟩)⟩, by rw [ht]; exact hP, hD⟩, hS.F ht⟩) hS.2.2 dX11_rule_55
  · have t_12 : r2.toInt = 0 := toI_nne c_12 rfl (by decide : (0 : Int32).toInt = 0)
    exact vx_throw0 (own := RX11) (cls := "java/lang/IllegalArgumentException") (names := ["java/lang/RuntimeException", "java/lang/Exception"]) (ik := 77) (ic := 79) (A := A) hx hb hst hown (by decide +kernel) (by decide +kernel) (hts (.classLink RX11 77 "java/lang/IllegalArgumentException") (by decide +kernel)) (hts (.initialized "java/lang/IllegalArgumentException") (by decide +kernel)) (vx_hat (B := ngX11_79) (fun w h => hts w (List.mem_cons_of_mem _ (List.mem_append_right _ h))) (fun _ h => h) (fun w h => va_Nw.use (ngX11_79_ot w h) (hE.2.2.1.2.2.1 w h))) (by decide +kernel) hE.2.1.1 hE.2.1.2 hS (by rw [hml]; exact hl.1) dX11_rule_15 dX11_rule_18 dX11_rule_19 dX11_rule_22 (fun x hx9 => (htab x hx9).elim) (by decide +kernel) (Nat.le_of_ble_eq_true rfl) (by decide +kernel) (by decide +kernel) hlocks (fun t hvm hz hk => ⟨((.ref (hV 0)), (WV hV aV kV 0 0 (fun _ => 0) (fun _ => 0) (fun _ => 0) (fun _ => 0) (fun _ => 0) (fun _ => 0) (fun _ => 0) (fun _ => 0) (fun _ => 0) (-1) 0 (fun _ => 0) (fun _ => 0) (fun _ => 0) (fun _ => 0) (fun _ => 0) (aV 13) 0 0 0)), (by (try dsimp only); exact ⟨0, Or.inr ⟨hV, aV, 0, 0, (fun _ => 0), (fun _ => 0), (fun _ => 0), (fun _ => 0), (fun _ => 0), (fun _ => 0), (fun _ => 0), (fun _ => 0), (fun _ => 0), (-1), 0, (fun _ => 0), (fun _ => 0), (fun _ => 0), (fun _ => 0), (fun _ => 0), (aV 13), 0, 0, (show 0 ≤ (0 : Int32).toInt ∧ (0 : Int32).toInt ≤ 10 from by decide), (show 0 ≤ (0 : Int32).toInt ∧ (0 : Int32).toInt ≤ 12 from by decide), (zr_r (by decide) (by decide)), (show 0 ≤ (0 : Int32).toInt ∧ (0 : Int32).toInt ≤ 1 from by decide), (zr_r (by decide) (by decide)), (by first | assumption | exact ⟨by omega, by omega⟩), (show (-1) ≤ (0 : Int32).toInt ∧ (0 : Int32).toInt ≤ 5000 from by decide), (show 0 ≤ (0 : Int32).toInt ∧ (0 : Int32).toInt ≤ 1 from by decide), (by first | with_reducible assumption | omega | assumption), (by first | with_reducible assumption | omega | assumption), rfl, rfl, (vlZ_x (by have h7 : (0 : Int32).toInt = 0 := (by decide); omega) (by have h7 : (0 : Int32).toInt = 0 := (by decide); omega))⟩⟩), ⟨⟨rfl, (hix.elim (fun h9 => absurd h9.1 (by omega)) (fun h9 => h9.2))⟩, hP.kept (fun k q h => hk q.1 ((hP k q h).lt)), hD⟩, ⟨Nat.le_trans hS.1 hz, fun q h1 h2 => (hk q (Nat.lt_of_lt_of_le h1 hS.1)).trans (hS.2.1 q h1 h2)⟩⟩) hS.2.2 (by decide +kernel) (by decide +kernel)
def wsMX11_pair_0 : List Cond := .code yX11_pair cX11_pair 3 (some .boolean) :: ([.constant RX11 344 65535, .fieldLink RX11 366 "OptimaWorks$ValueDesk" "pairs" "[I"] ++ wsX70 ++ (wsV RX11 345 RX11 yX11_theValues wsMX11_theValues_0))
theorem iwsMX11_pair_0_in7 : ∀ w ∈ wsX70, w ∈ wsMX11_pair_0 := fun _ h => List.mem_cons_of_mem _ (List.mem_append_left _ (List.mem_append_right _ h))
theorem gwsMX11_pair_0_0 : GoodIn wsMX11_pair_0 (wsV RX11 345 RX11 yX11_theValues wsMX11_theValues_0) := goodIn_sub (fun _ h => List.mem_cons_of_mem _ (List.mem_append_right _ h)) (gdV (by decide +kernel) gdwsMX11_theValues_0)
theorem gdwsMX11_pair_0 : wsMX11_pair_0.all goodWord = true := gdC rfl (gdA (gdA (by decide +kernel : ([.constant RX11 344 65535, .fieldLink RX11 366 "OptimaWorks$ValueDesk" "pairs" "[I"] : List Cond).all goodWord = true) gdwsX70) (gdV (by decide +kernel) gdwsMX11_theValues_0))
set_option maxHeartbeats 4000000 in
set_option maxRecDepth 100000 in
/-- a pair -/
theorem m_X11_pair_0 (l : Launch) (hst : l.stackTraces = false) (dC : Nat → ClassId) (dI : Nat → Nat → Nat) (hX : Nat → Nat) (aX : Nat → Nat) (kX : Nat → ClassId) (hT : Nat → Nat) (hM : Nat → Nat) (fX_ready : Nat → Int32) (fX_sheet : Nat → Int32) (dX_sheet : Nat) (nX_sheet : Nat) (iX_sheetLength : Int32) (xX_reader : Value) (xX_solver : Value) (xX_prover : Value) (xX_clauses : Value) (xX_nets : Value) (kV : Nat → ClassId) (p1 : Int32) (p2 : Int32) (b_fX_sheet : ∀ q : Nat, (-128) ≤ (fX_sheet q).toInt ∧ (fX_sheet q).toInt ≤ 127) (b_nX_sheet : 64 ≤ nX_sheet ∧ nX_sheet ≤ 60000) (b_iX_sheetLength : 0 ≤ iX_sheetLength.toInt ∧ iX_sheetLength.toInt ≤ 30000) (b_shl : iX_sheetLength.toInt ≤ ((nX_sheet : Nat) : Int)) (sz : Nat) : Met l yX11_pair wsMX11_pair_0 ({ frames := 3, cells := 15, slots := 1408, locals := 52 }) (va_Pc [.ref (hX 0), .int p1, .int p2] (fun U => U.heap.size = sz ∧ va_P (dC, dI) vwCl (WX hX aX kX hT hM fX_ready fX_sheet dX_sheet nX_sheet iX_sheetLength xX_reader xX_solver xX_prover .null xX_clauses xX_nets) U.heap ∧ va_K (dC, dI) vwCl (tX kX ++ (tV kV)) U ∧ va_D (fun _ => True) (WX hX aX kX hT hM fX_ready fX_sheet dX_sheet nX_sheet iX_sheetLength xX_reader xX_solver xX_prover .null xX_clauses xX_nets) ∧ CE (va_A (WX hX aX kX hT hM fX_ready fX_sheet dX_sheet nX_sheet iX_sheetLength xX_reader xX_solver xX_prover .null xX_clauses xX_nets) sz) U U.heap)) (va_Qi (fun (r : Int32) (u : (Value) × (va_W)) => (0 ≤ r.toInt ∧ r.toInt ≤ 1) ∧ ((0 ≤ p1.toInt ∧ p1.toInt ≤ 15 ∧ 0 ≤ p2.toInt ∧ p2.toInt ≤ 65535) → r.toInt = 1) ∧ (¬ (0 ≤ p1.toInt ∧ p1.toInt ≤ 15 ∧ 0 ≤ p2.toInt ∧ p2.toInt ≤ 65535) → r.toInt = 0) ∧ (∃ n9, ValO kV n9 vlZ (u.1) (u.2))) (fun (u : (Value) × (va_W)) t => va_P (dC, dI) vwCl (WX hX aX kX hT hM fX_ready fX_sheet dX_sheet nX_sheet iX_sheetLength xX_reader xX_solver xX_prover (u.1) xX_clauses xX_nets ++ ((u.2))) t.heap ∧ va_D (va_A (WX hX aX kX hT hM fX_ready fX_sheet dX_sheet nX_sheet iX_sheetLength xX_reader xX_solver xX_prover .null xX_clauses xX_nets) sz) (WX hX aX kX hT hM fX_ready fX_sheet dX_sheet nX_sheet iX_sheetLength xX_reader xX_solver xX_prover (u.1) xX_clauses xX_nets ++ ((u.2)))) (va_A (WX hX aX kX hT hM fX_ready fX_sheet dX_sheet nX_sheet iX_sheetLength xX_reader xX_solver xX_prover .null xX_clauses xX_nets) sz)) 15 1408 (va_A (WX hX aX kX hT hM fX_ready fX_sheet dX_sheet nX_sheet iX_sheetLength xX_reader xX_solver xX_prover .null xX_clauses xX_nets) sz) := by
  refine Met.ofW (cc := cX11_pair) (maxL := 3) (ret := (some .boolean)) (by decide) rfl ?_
  intro p e s m args below meth c s₁ B hml hv
  obtain ⟨rfl, hsz, hP, hK, hD0, hE⟩ := hv
  have hx := B.exec
  have hb := B.bytes
  have hr := B.returns
  have hts := atoms_spec (ws := wsMX11_pair_0) B.pre
  have hown : s.vm.findClass RX11 = some m.cls := findClass_of_methodNamed B.named
  have hlocks := B.notSynchronized
  subst hsz
  have hD := hD0.self (sz := s.heap.size)
  generalize hAe : va_A (WX hX aX kX hT hM fX_ready fX_sheet dX_sheet nX_sheet iX_sheetLength xX_reader xX_solver xX_prover .null xX_clauses xX_nets) s.heap.size = A at hD hE ⊢
  have hA : ∀ q : Nat, s.heap.size ≤ q → A q := fun q h => by rw [← hAe]; exact Or.inr h
  have hS : va_S A s.heap s.heap [] := va_S.rf
  have hl := lv_entry ([.ref (hX 0), .int p1, .int p2]) (n := 3) (Nat.le_of_ble_eq_true rfl)
  rw [lg_entry_eq]
  generalize (lg_sl ([.ref (hX 0), .int p1, .int p2]) ++ List.replicate (3 - (lg_sl ([.ref (hX 0), .int p1, .int p2])).length) Slot.unset).toArray = ls at hl ⊢
  have hl : lv_has ls 3 [(0, .ref (hX 0)), (1, .int p1), (2, .int p2)] := hl
  refine lv_iload_n hx hb dX11_pair_0 rfl (lv_at hl 1 rfl) ?_
  refine lv_if_lt (tgt := 21) hx hb dX11_pair_1 (by decide) (fun c_1 => ?_) (fun c_1 => ?_)
  · have t_1 : p1.toInt < 0 := toI_lt c_1 rfl (by decide : (0 : Int32).toInt = 0)
    refine lv_iconst (v := 0) hx hb dX11_pair_21 (by decide) ?_
    refine W.widen (k := 15) (n := 1408) (by decide +kernel) (by decide +kernel) ?_
    exact W.zret (v := 0) hx hb hr rfl (fun t9_ ht hW => ⟨⟨(0 : Int32), (.null, ([])), rfl, ⟨(show 0 ≤ (0 : Int32).toInt ∧ (0 : Int32).toInt ≤ 1 from by decide), (by (try dsimp only); first | (intro h9; exfalso; omega) | (intro h9; decide)), (by (try dsimp only); first | (intro h9; exfalso; omega) | (intro h9; decide)), (by (try dsimp only); exact ⟨0, Or.inl ⟨rfl, rfl, rfl, rfl⟩⟩)⟩, by rw [ht]; first | exact hP | (simp only [List.append_nil]; exact hP), by first | exact hD | (simp only [List.append_nil]; exact hD)⟩, hS.F ht⟩) hS.2.2 dX11_pair_22
  · have t_1 : ¬ p1.toInt < 0 := toI_nlt c_1 rfl (by decide : (0 : Int32).toInt = 0)
    refine lv_iload_n hx hb dX11_pair_4 rfl (lv_at hl 1 rfl) ?_
    refine lv_bipush (v := 16) hx hb dX11_pair_5 (by decide) ?_
    refine lv_icmp_ge (tgt := 21) hx hb dX11_pair_7 (by decide) (fun c_7 => ?_) (fun c_7 => ?_)
    · have t_7 : p1.toInt ≥ 16 := toI_ge c_7 rfl (by decide : (16 : Int32).toInt = 16)
      refine lv_iconst (v := 0) hx hb dX11_pair_21 (by decide) ?_
      refine W.widen (k := 15) (n := 1408) (by decide +kernel) (by decide +kernel) ?_
      exact W.zret (v := 0) hx hb hr rfl (fun t9_ ht hW => ⟨⟨(0 : Int32), (.null, ([])), rfl, ⟨(show 0 ≤ (0 : Int32).toInt ∧ (0 : Int32).toInt ≤ 1 from by decide), (by (try dsimp only); first | (intro h9; exfalso; omega) | (intro h9; decide)), (by (try dsimp only); first | (intro h9; exfalso; omega) | (intro h9; decide)), (by (try dsimp only); exact ⟨0, Or.inl ⟨rfl, rfl, rfl, rfl⟩⟩)⟩, by rw [ht]; first | exact hP | (simp only [List.append_nil]; exact hP), by first | exact hD | (simp only [List.append_nil]; exact hD)⟩, hS.F ht⟩) hS.2.2 dX11_pair_22
    · have t_7 : ¬ p1.toInt ≥ 16 := toI_nge c_7 rfl (by decide : (16 : Int32).toInt = 16)
      refine lv_iload_n hx hb dX11_pair_10 rfl (lv_at hl 2 rfl) ?_
      refine lv_if_lt (tgt := 21) hx hb dX11_pair_11 (by decide) (fun c_11 => ?_) (fun c_11 => ?_)
      · have t_11 : p2.toInt < 0 := toI_lt c_11 rfl (by decide : (0 : Int32).toInt = 0)
        refine lv_iconst (v := 0) hx hb dX11_pair_21 (by decide) ?_
        refine W.widen (k := 15) (n := 1408) (by decide +kernel) (by decide +kernel) ?_
        exact W.zret (v := 0) hx hb hr rfl (fun t9_ ht hW => ⟨⟨(0 : Int32), (.null, ([])), rfl, ⟨(show 0 ≤ (0 : Int32).toInt ∧ (0 : Int32).toInt ≤ 1 from by decide), (by (try dsimp only); first | (intro h9; exfalso; omega) | (intro h9; decide)), (by (try dsimp only); first | (intro h9; exfalso; omega) | (intro h9; decide)), (by (try dsimp only); exact ⟨0, Or.inl ⟨rfl, rfl, rfl, rfl⟩⟩)⟩, by rw [ht]; first | exact hP | (simp only [List.append_nil]; exact hP), by first | exact hD | (simp only [List.append_nil]; exact hD)⟩, hS.F ht⟩) hS.2.2 dX11_pair_22
      · have t_11 : ¬ p2.toInt < 0 := toI_nlt c_11 rfl (by decide : (0 : Int32).toInt = 0)
        refine lv_iload_n hx hb dX11_pair_14 rfl (lv_at hl 2 rfl) ?_
        refine lv_ldcw (v := 65535) hx hb hown (hts (.constant RX11 344 65535) (by decide +kernel)) dX11_pair_15 ?_
        refine lv_icmp_le (tgt := 23) hx hb dX11_pair_18 (by decide) (fun c_18 => ?_) (fun c_18 => ?_)
        · have t_18 : p2.toInt ≤ 65535 := toI_le c_18 rfl (by decide : (65535 : Int32).toInt = 65535)
          refine lv_aload_n hx hb dX11_pair_23 rfl (lv_at hl 0 rfl) ?_
          have hFc := allFree hD hS hA
          refine va_callr (va_runV (As := []) (rest := []) ⟨hx, hb, hml, hown, hts⟩ (m_X11_theValues_0 l hst dC dI hX aX kX hT hM fX_ready fX_sheet dX_sheet nX_sheet iX_sheetLength xX_reader xX_solver xX_prover xX_clauses xX_nets kV b_fX_sheet (by first | exact b_nX_sheet | with_reducible assumption | exact ⟨by omega, by omega⟩ | assumption) (b_iX_sheetLength) (by first | with_reducible assumption | omega | assumption) s.heap.size) (cwV 0 hts gwsMX11_pair_0_0 rfl rfl rfl hd_yX11_theValues_RX11 (by decide +kernel)) (fz_preE (va_recv hK hP (ci := 11) (q0 := 0) rfl rfl) hP hK hD (fun a U g mk qE => qE.call) (fun U hU9 hW => by rw [hU9]; exact (((hE : CE A s s.heap).kept hS.2.1).narrow (fun q h => hFc q h)).warm hW)) rfl rfl hl.1 rfl (lv_room (Nat.le_of_ble_eq_true rfl)) dX11_pair_24 (by decide +kernel)) hS (fun q _ h => hFc q h) hFc (fun u ra1 t9_ H locs ht hvm hw9 hB9 hz1 hk1 hS => ?_)
          revert u hw9 hB9
          refine fz_p2 ?_
          intro hV aV hw9 hB9
          try dsimp only at hw9 hB9
          revert hB9
          refine fz_a2 ?_
          intro hra hB9
          subst hra
          clear hw9
          have hP : va_P (dC, dI) vwCl (WX hX aX kX hT hM fX_ready fX_sheet dX_sheet nX_sheet iX_sheetLength xX_reader xX_solver xX_prover (.ref (hV 0)) xX_clauses xX_nets ++ (WV hV aV kV 0 0 (fun _ => 0) (fun _ => 0) (fun _ => 0) (fun _ => 0) (fun _ => 0) (fun _ => 0) (fun _ => 0) (fun _ => 0) (fun _ => 0) (-1) 0 (fun _ => 0) (fun _ => 0) (fun _ => 0) (fun _ => 0) (fun _ => 0) (aV 13) 0 0 0)) H := fz_P ht hB9.1
          have hD := fz_sd hP (hB9.2.weaken (fun _ q _ h => hFc q.1 h)) rfl
          refine W.widen (k := 15) (n := 1408) (by decide +kernel) (by decide +kernel) ?_
          have hru0 : RuV (fun _ => 0) (fun _ => 0) (fun _ => 0) (fun _ => 0) (fun _ => 0) := RuV.zero
          have hls0 : (0 : Int32).toInt ≤ ((0 : Nat) : Int) := by decide
          refine va_get (D := (dC, dI)) (ci := 7) (v := .ref (aV 0)) (C := RX7) (T := TX7) (N := 20) hx hb hts iwsMX11_pair_0_in7 hown hK hP 3 rfl rfl 2 (by decide) (hts (.fieldLink RX11 366 "OptimaWorks$ValueDesk" "pairs" "[I") (by decide +kernel)) (fun _ h9 => h9) rfl dX11_pair_27 ?_
          refine lv_iload_n hx hb dX11_pair_30 rfl (lv_at hl 1 rfl) ?_
          refine lv_iload_n hx hb dX11_pair_31 rfl (lv_at hl 2 rfl) ?_
          refine va_iast (cA := kV 0) (n := 16) (f := (fun _ => 0)) hx hb hK hP hD hS 4 2 rfl rfl (vp_in_iff.mpr ⟨(by omega), (Int.lt_of_lt_of_le (Int.not_le.mp t_7) (by decide))⟩) dX11_pair_32 (fun H locs hP hD hS => ?_)
          obtain ⟨u2, hu2⟩ : ∃ f9, f9 = upd (fun _ => 0) (p1).toNatClampNeg p2 := ⟨_, rfl⟩
          have hP : va_P (dC, dI) vwCl (WX hX aX kX hT hM fX_ready fX_sheet dX_sheet nX_sheet iX_sheetLength xX_reader xX_solver xX_prover (.ref (hV 0)) xX_clauses xX_nets ++ (WV hV aV kV 0 0 u2 (fun _ => 0) (fun _ => 0) (fun _ => 0) (fun _ => 0) (fun _ => 0) (fun _ => 0) (fun _ => 0) (fun _ => 0) (-1) 0 (fun _ => 0) (fun _ => 0) (fun _ => 0) (fun _ => 0) (fun _ => 0) (aV 13) 0 0 0)) H := by rw [hu2]; exact hP
          have hD : va_D A (WX hX aX kX hT hM fX_ready fX_sheet dX_sheet nX_sheet iX_sheetLength xX_reader xX_solver xX_prover (.ref (hV 0)) xX_clauses xX_nets ++ (WV hV aV kV 0 0 u2 (fun _ => 0) (fun _ => 0) (fun _ => 0) (fun _ => 0) (fun _ => 0) (fun _ => 0) (fun _ => 0) (fun _ => 0) (-1) 0 (fun _ => 0) (fun _ => 0) (fun _ => 0) (fun _ => 0) (fun _ => 0) (aV 13) 0 0 0)) := by rw [hu2]; exact hD
          clear hu2
          refine lv_iconst (v := 1) hx hb dX11_pair_33 (by decide) ?_
          refine W.widen (k := 15) (n := 1408) (by decide +kernel) (by decide +kernel) ?_
          exact W.zret (v := 1) hx hb hr rfl (fun t9_ ht hW => ⟨⟨(1 : Int32), ((.ref (hV 0)), (WV hV aV kV 0 0 u2 (fun _ => 0) (fun _ => 0) (fun _ => 0) (fun _ => 0) (fun _ => 0) (fun _ => 0) (fun _ => 0) (fun _ => 0) (-1) 0 (fun _ => 0) (fun _ => 0) (fun _ => 0) (fun _ => 0) (fun _ => 0) (aV 13) 0 0 0)), rfl, ⟨(show 0 ≤ (1 : Int32).toInt ∧ (1 : Int32).toInt ≤ 1 from by decide), (by (try dsimp only); first | (intro h9; exfalso; omega) | (intro h9; decide)), (by (try dsimp only); first | (intro h9; exfalso; omega) | (intro h9; decide)), (by (try dsimp only); exact ⟨0, Or.inr ⟨hV, aV, 0, 0, u2, (fun _ => 0), (fun _ => 0), (fun _ => 0), (fun _ => 0), (fun _ => 0), (fun _ => 0), (fun _ => 0), (fun _ => 0), (-1), 0, (fun _ => 0), (fun _ => 0), (fun _ => 0), (fun _ => 0), (fun _ => 0), (aV 13), 0, 0, (show 0 ≤ (0 : Int32).toInt ∧ (0 : Int32).toInt ≤ 10 from by decide), (show 0 ≤ (0 : Int32).toInt ∧ (0 : Int32).toInt ≤ 12 from by decide), (zr_r (by decide) (by decide)), (show 0 ≤ (0 : Int32).toInt ∧ (0 : Int32).toInt ≤ 1 from by decide), (zr_r (by decide) (by decide)), (by first | assumption | exact ⟨by omega, by omega⟩), (show (-1) ≤ (0 : Int32).toInt ∧ (0 : Int32).toInt ≤ 5000 from by decide), (show 0 ≤ (0 : Int32).toInt ∧ (0 : Int32).toInt ≤ 1 from by decide), (by first | with_reducible assumption | omega | assumption), (by first | with_reducible assumption | omega | assumption), rfl, rfl, (vlZ_x (by have h7 : (0 : Int32).toInt = 0 := (by decide); omega) (by have h7 : (0 : Int32).toInt = 0 := (by decide); omega))⟩⟩)⟩, by rw [ht]; exact hP, hD⟩, hS.F ht⟩) hS.2.2 dX11_pair_34
        · have t_18 : ¬ p2.toInt ≤ 65535 := toI_nle c_18 rfl (by decide : (65535 : Int32).toInt = 65535)
          refine lv_iconst (v := 0) hx hb dX11_pair_21 (by decide) ?_
          refine W.widen (k := 15) (n := 1408) (by decide +kernel) (by decide +kernel) ?_
          exact W.zret (v := 0) hx hb hr rfl (fun t9_ ht hW => ⟨⟨(0 : Int32), (.null, ([])), rfl, ⟨(show 0 ≤ (0 : Int32).toInt ∧ (0 : Int32).toInt ≤ 1 from by decide), (by (try dsimp only); first | (intro h9; exfalso; omega) | (intro h9; decide)), (by (try dsimp only); first | (intro h9; exfalso; omega) | (intro h9; decide)), (by (try dsimp only); exact ⟨0, Or.inl ⟨rfl, rfl, rfl, rfl⟩⟩)⟩, by rw [ht]; first | exact hP | (simp only [List.append_nil]; exact hP), by first | exact hD | (simp only [List.append_nil]; exact hD)⟩, hS.F ht⟩) hS.2.2 dX11_pair_22
def wsMX11_clear_0 : List Cond := .code yX11_clear cX11_clear 1 none :: ([] ++ (wsV RX11 345 RX11 yX11_theValues wsMX11_theValues_0) ++ (wsV RX11 385 RX7 yX7_forget wsMX7_forget))
theorem gwsMX11_clear_0_0 : GoodIn wsMX11_clear_0 (wsV RX11 345 RX11 yX11_theValues wsMX11_theValues_0) := goodIn_sub (fun _ h => List.mem_cons_of_mem _ (List.mem_append_left _ (List.mem_append_right _ h))) (gdV (by decide +kernel) gdwsMX11_theValues_0)
theorem gwsMX11_clear_0_1 : GoodIn wsMX11_clear_0 (wsV RX11 385 RX7 yX7_forget wsMX7_forget) := goodIn_sub (fun _ h => List.mem_cons_of_mem _ (List.mem_append_right _ h)) (gdV (by decide +kernel) gdwsMX7_forget)
theorem gdwsMX11_clear_0 : wsMX11_clear_0.all goodWord = true := gdC rfl (gdA (gdA (by decide +kernel : ([] : List Cond).all goodWord = true) (gdV (by decide +kernel) gdwsMX11_theValues_0)) (gdV (by decide +kernel) gdwsMX7_forget))
set_option maxHeartbeats 4000000 in
set_option maxRecDepth 100000 in
/-- all forgotten -/
theorem m_X11_clear_0 (l : Launch) (hst : l.stackTraces = false) (dC : Nat → ClassId) (dI : Nat → Nat → Nat) (hX : Nat → Nat) (aX : Nat → Nat) (kX : Nat → ClassId) (hT : Nat → Nat) (hM : Nat → Nat) (fX_ready : Nat → Int32) (fX_sheet : Nat → Int32) (dX_sheet : Nat) (nX_sheet : Nat) (iX_sheetLength : Int32) (xX_reader : Value) (xX_solver : Value) (xX_prover : Value) (xX_clauses : Value) (xX_nets : Value) (kV : Nat → ClassId) (b_fX_sheet : ∀ q : Nat, (-128) ≤ (fX_sheet q).toInt ∧ (fX_sheet q).toInt ≤ 127) (b_nX_sheet : 64 ≤ nX_sheet ∧ nX_sheet ≤ 60000) (b_iX_sheetLength : 0 ≤ iX_sheetLength.toInt ∧ iX_sheetLength.toInt ≤ 30000) (b_shl : iX_sheetLength.toInt ≤ ((nX_sheet : Nat) : Int)) (sz : Nat) : Met l yX11_clear wsMX11_clear_0 ({ frames := 3, cells := 15, slots := 1408, locals := 52 }) (va_Pc [.ref (hX 0)] (fun U => U.heap.size = sz ∧ va_P (dC, dI) vwCl (WX hX aX kX hT hM fX_ready fX_sheet dX_sheet nX_sheet iX_sheetLength xX_reader xX_solver xX_prover .null xX_clauses xX_nets) U.heap ∧ va_K (dC, dI) vwCl (tX kX ++ (tV kV)) U ∧ va_D (fun _ => True) (WX hX aX kX hT hM fX_ready fX_sheet dX_sheet nX_sheet iX_sheetLength xX_reader xX_solver xX_prover .null xX_clauses xX_nets) ∧ CE (va_A (WX hX aX kX hT hM fX_ready fX_sheet dX_sheet nX_sheet iX_sheetLength xX_reader xX_solver xX_prover .null xX_clauses xX_nets) sz) U U.heap)) (va_Qv (fun (u : (Value) × (va_W)) => (∃ n9, ValO kV n9 vlZ (u.1) (u.2))) (fun (u : (Value) × (va_W)) t => va_P (dC, dI) vwCl (WX hX aX kX hT hM fX_ready fX_sheet dX_sheet nX_sheet iX_sheetLength xX_reader xX_solver xX_prover (u.1) xX_clauses xX_nets ++ ((u.2))) t.heap ∧ va_D (va_A (WX hX aX kX hT hM fX_ready fX_sheet dX_sheet nX_sheet iX_sheetLength xX_reader xX_solver xX_prover .null xX_clauses xX_nets) sz) (WX hX aX kX hT hM fX_ready fX_sheet dX_sheet nX_sheet iX_sheetLength xX_reader xX_solver xX_prover (u.1) xX_clauses xX_nets ++ ((u.2)))) (va_A (WX hX aX kX hT hM fX_ready fX_sheet dX_sheet nX_sheet iX_sheetLength xX_reader xX_solver xX_prover .null xX_clauses xX_nets) sz)) 15 1408 (va_A (WX hX aX kX hT hM fX_ready fX_sheet dX_sheet nX_sheet iX_sheetLength xX_reader xX_solver xX_prover .null xX_clauses xX_nets) sz) := by
  refine Met.ofW (cc := cX11_clear) (maxL := 1) (ret := none) (by decide) rfl ?_
  intro p e s m args below meth c s₁ B hml hv
  obtain ⟨rfl, hsz, hP, hK, hD0, hE⟩ := hv
  have hx := B.exec
  have hb := B.bytes
  have hr := B.returns
  have hts := atoms_spec (ws := wsMX11_clear_0) B.pre
  have hown : s.vm.findClass RX11 = some m.cls := findClass_of_methodNamed B.named
  have hlocks := B.notSynchronized
  subst hsz
  have hD := hD0.self (sz := s.heap.size)
  generalize hAe : va_A (WX hX aX kX hT hM fX_ready fX_sheet dX_sheet nX_sheet iX_sheetLength xX_reader xX_solver xX_prover .null xX_clauses xX_nets) s.heap.size = A at hD hE ⊢
  have hA : ∀ q : Nat, s.heap.size ≤ q → A q := fun q h => by rw [← hAe]; exact Or.inr h
  have hS : va_S A s.heap s.heap [] := va_S.rf
  have hl := lv_entry ([.ref (hX 0)]) (n := 1) (Nat.le_of_ble_eq_true rfl)
  rw [lg_entry_eq]
  generalize (lg_sl ([.ref (hX 0)]) ++ List.replicate (1 - (lg_sl ([.ref (hX 0)])).length) Slot.unset).toArray = ls at hl ⊢
  have hl : lv_has ls 1 [(0, .ref (hX 0))] := hl
  refine lv_aload_n hx hb dX11_clear_0 rfl (lv_at hl 0 rfl) ?_
  have hFc := allFree hD hS hA
  refine va_callr (va_runV (As := []) (rest := []) ⟨hx, hb, hml, hown, hts⟩ (m_X11_theValues_0 l hst dC dI hX aX kX hT hM fX_ready fX_sheet dX_sheet nX_sheet iX_sheetLength xX_reader xX_solver xX_prover xX_clauses xX_nets kV b_fX_sheet (by first | exact b_nX_sheet | with_reducible assumption | exact ⟨by omega, by omega⟩ | assumption) (b_iX_sheetLength) (by first | with_reducible assumption | omega | assumption) s.heap.size) (cwV 0 hts gwsMX11_clear_0_0 rfl rfl rfl hd_yX11_theValues_RX11 (by decide +kernel)) (fz_preE (va_recv hK hP (ci := 11) (q0 := 0) rfl rfl) hP hK hD (fun a U g mk qE => qE.call) (fun U hU9 hW => by rw [hU9]; exact (((hE : CE A s s.heap).kept hS.2.1).narrow (fun q h => hFc q h)).warm hW)) rfl rfl hl.1 rfl (lv_room (Nat.le_of_ble_eq_true rfl)) dX11_clear_1 (by decide +kernel)) hS (fun q _ h => hFc q h) hFc (fun u ra1 t9_ H locs ht hvm hw9 hB9 hz1 hk1 hS => ?_)
  revert u hw9 hB9
  refine fz_p2 ?_
  intro hV aV hw9 hB9
  try dsimp only at hw9 hB9
  revert hB9
  refine fz_a2 ?_
  intro hra hB9
  subst hra
  clear hw9
  have hP : va_P (dC, dI) vwCl (WX hX aX kX hT hM fX_ready fX_sheet dX_sheet nX_sheet iX_sheetLength xX_reader xX_solver xX_prover (.ref (hV 0)) xX_clauses xX_nets ++ (WV hV aV kV 0 0 (fun _ => 0) (fun _ => 0) (fun _ => 0) (fun _ => 0) (fun _ => 0) (fun _ => 0) (fun _ => 0) (fun _ => 0) (fun _ => 0) (-1) 0 (fun _ => 0) (fun _ => 0) (fun _ => 0) (fun _ => 0) (fun _ => 0) (aV 13) 0 0 0)) H := fz_P ht hB9.1
  have hD := fz_sd hP (hB9.2.weaken (fun _ q _ h => hFc q.1 h)) rfl
  refine W.widen (k := 15) (n := 1408) (by decide +kernel) (by decide +kernel) ?_
  have hru0 : RuV (fun _ => 0) (fun _ => 0) (fun _ => 0) (fun _ => 0) (fun _ => 0) := RuV.zero
  have hls0 : (0 : Int32).toInt ≤ ((0 : Nat) : Int) := by decide
  have p9 := cj_2_1 (WX hX aX kX hT hM fX_ready fX_sheet dX_sheet nX_sheet iX_sheetLength xX_reader xX_solver xX_prover (.ref (hV 0)) xX_clauses xX_nets) (WV hV aV kV 0 0 (fun _ => 0) (fun _ => 0) (fun _ => 0) (fun _ => 0) (fun _ => 0) (fun _ => 0) (fun _ => 0) (fun _ => 0) (fun _ => 0) (-1) 0 (fun _ => 0) (fun _ => 0) (fun _ => 0) (fun _ => 0) (fun _ => 0) (aV 13) 0 0 0)
  have hPc := hP.mem (fun q h => p9.mem_iff.mpr (List.mem_append_left _ h))
  have hDc := (hD.perm p9).left
  have hKc : va_K (dC, dI) vwCl (tV kV) _ := hK.sub [2, 3, 4, 5, 6, 7, 8, 9, 10, 11, 12, 13, 14, 15] rfl
  have hFc := freeG p9 hD hS hA
  refine va_callv (va_runV (As := []) (rest := []) ⟨hx, hb, hml, hown, hts⟩ (m_X7_forget l dC dI hV aV kV 0 0 (fun _ => 0) (fun _ => 0) (fun _ => 0) (fun _ => 0) (fun _ => 0) (fun _ => 0) (fun _ => 0) (fun _ => 0) (fun _ => 0) (-1) 0 (fun _ => 0) (fun _ => 0) (fun _ => 0) (fun _ => 0) (fun _ => 0) (aV 13) 0 0 0 (show 0 ≤ (0 : Int32).toInt ∧ (0 : Int32).toInt ≤ 10 from by decide) (show 0 ≤ (0 : Int32).toInt ∧ (0 : Int32).toInt ≤ 12 from by decide) (zr_r (by decide) (by decide)) (show 0 ≤ (0 : Int32).toInt ∧ (0 : Int32).toInt ≤ 1 from by decide) (zr_r (by decide) (by decide)) (by first | assumption | exact ⟨by omega, by omega⟩) (show (-1) ≤ (0 : Int32).toInt ∧ (0 : Int32).toInt ≤ 5000 from by decide) (show 0 ≤ (0 : Int32).toInt ∧ (0 : Int32).toInt ≤ 1 from by decide) (by first | with_reducible assumption | omega | assumption) (by first | with_reducible assumption | omega | assumption) H.size) (cwV 0 hts gwsMX11_clear_0_1 rfl rfl rfl hd_yX7_forget_RX7 (by decide +kernel)) (fz_pre (va_recv hK hP (ci := 7) (q0 := 3) rfl rfl) hPc hKc hDc) rfl rfl hl.1 rfl (lv_room (Nat.le_of_ble_eq_true rfl)) dX11_clear_4 (by decide +kernel)) hS (fun q _ h => hFc q h) hFc (fun u t9_ H locs ht hvm hw9 hB9 hz1 hk1 hS => ?_)
  revert u hw9 hB9
  refine fz_p4 ?_
  intro iV_holders_2 iV_rules_2 iV_doneFor_2 iV_listDone_2 hw9 hB9
  try dsimp only at hw9 hB9
  revert hw9
  refine fz_a5 ?_
  intro b_iV_holders_2 b_iV_rules_2 b_iV_listDone_2 f2_0 f2_1
  have p8 := cj_2_1 (WX hX aX kX hT hM fX_ready fX_sheet dX_sheet nX_sheet iX_sheetLength xX_reader xX_solver xX_prover (.ref (hV 0)) xX_clauses xX_nets) (WV hV aV kV iV_holders_2 iV_rules_2 (fun _ => 0) (fun _ => 0) (fun _ => 0) (fun _ => 0) (fun _ => 0) (fun _ => 0) (fun _ => 0) (fun _ => 0) (fun _ => 0) iV_doneFor_2 0 (fun _ => 0) (fun _ => 0) (fun _ => 0) (fun _ => 0) (fun _ => 0) (aV 13) 0 0 iV_listDone_2)
  obtain ⟨hP, hD⟩ := frameG p9 p8 hP hD hk1 hFc (fz_P ht hB9.1) hB9.2
  refine W.widen (k := 15) (n := 1408) (by decide +kernel) (by decide +kernel) ?_
  exact W.vret hx hb hr (fun t9_ ht hW => ⟨⟨((.ref (hV 0)), (WV hV aV kV iV_holders_2 iV_rules_2 (fun _ => 0) (fun _ => 0) (fun _ => 0) (fun _ => 0) (fun _ => 0) (fun _ => 0) (fun _ => 0) (fun _ => 0) (fun _ => 0) iV_doneFor_2 0 (fun _ => 0) (fun _ => 0) (fun _ => 0) (fun _ => 0) (fun _ => 0) (aV 13) 0 0 iV_listDone_2)), rfl, (by (try dsimp only); exact ⟨0, Or.inr ⟨hV, aV, iV_holders_2, iV_rules_2, (fun _ => 0), (fun _ => 0), (fun _ => 0), (fun _ => 0), (fun _ => 0), (fun _ => 0), (fun _ => 0), (fun _ => 0), (fun _ => 0), iV_doneFor_2, 0, (fun _ => 0), (fun _ => 0), (fun _ => 0), (fun _ => 0), (fun _ => 0), (aV 13), 0, iV_listDone_2, (b_iV_holders_2), (b_iV_rules_2), (zr_r (by decide) (by decide)), (show 0 ≤ (0 : Int32).toInt ∧ (0 : Int32).toInt ≤ 1 from by decide), (zr_r (by decide) (by decide)), (by first | assumption | exact ⟨by omega, by omega⟩), (show (-1) ≤ (0 : Int32).toInt ∧ (0 : Int32).toInt ≤ 5000 from by decide), (b_iV_listDone_2), (by first | with_reducible assumption | omega | assumption), (by first | with_reducible assumption | omega | assumption), rfl, rfl, (vlZ_x (by have h7 : (0 : Int32).toInt = 0 := (by decide); omega) (by have h7 : (0 : Int32).toInt = 0 := (by decide); omega))⟩⟩), by rw [ht]; exact hP, hD⟩, hS.F ht⟩) hS.2.2 dX11_clear_7
def wsMX11_listing_0 : List Cond := .code yX11_listing cX11_listing 1 (some .int) :: ([] ++ (wsV RX11 345 RX11 yX11_theValues wsMX11_theValues_0) ++ (wsV RX11 376 RX7 yX7_listingSize wsMX7_listingSize))
theorem gwsMX11_listing_0_0 : GoodIn wsMX11_listing_0 (wsV RX11 345 RX11 yX11_theValues wsMX11_theValues_0) := goodIn_sub (fun _ h => List.mem_cons_of_mem _ (List.mem_append_left _ (List.mem_append_right _ h))) (gdV (by decide +kernel) gdwsMX11_theValues_0)
theorem gwsMX11_listing_0_1 : GoodIn wsMX11_listing_0 (wsV RX11 376 RX7 yX7_listingSize wsMX7_listingSize) := goodIn_sub (fun _ h => List.mem_cons_of_mem _ (List.mem_append_right _ h)) (gdV (by decide +kernel) gdwsMX7_listingSize)
theorem gdwsMX11_listing_0 : wsMX11_listing_0.all goodWord = true := gdC rfl (gdA (gdA (by decide +kernel : ([] : List Cond).all goodWord = true) (gdV (by decide +kernel) gdwsMX11_theValues_0)) (gdV (by decide +kernel) gdwsMX7_listingSize))
set_option maxHeartbeats 4000000 in
set_option maxRecDepth 100000 in
/-- the listing -/
theorem m_X11_listing_0 (l : Launch) (hst : l.stackTraces = false) (dC : Nat → ClassId) (dI : Nat → Nat → Nat) (hX : Nat → Nat) (aX : Nat → Nat) (kX : Nat → ClassId) (hT : Nat → Nat) (hM : Nat → Nat) (fX_ready : Nat → Int32) (fX_sheet : Nat → Int32) (dX_sheet : Nat) (nX_sheet : Nat) (iX_sheetLength : Int32) (xX_reader : Value) (xX_solver : Value) (xX_prover : Value) (xX_clauses : Value) (xX_nets : Value) (kV : Nat → ClassId) (b_fX_sheet : ∀ q : Nat, (-128) ≤ (fX_sheet q).toInt ∧ (fX_sheet q).toInt ≤ 127) (b_nX_sheet : 64 ≤ nX_sheet ∧ nX_sheet ≤ 60000) (b_iX_sheetLength : 0 ≤ iX_sheetLength.toInt ∧ iX_sheetLength.toInt ≤ 30000) (b_shl : iX_sheetLength.toInt ≤ ((nX_sheet : Nat) : Int)) (sz : Nat) : Met l yX11_listing wsMX11_listing_0 ({ frames := 6, cells := 15016, slots := 141408, locals := 141 }) (va_Pc [.ref (hX 0)] (fun U => U.heap.size = sz ∧ va_P (dC, dI) vwCl (WX hX aX kX hT hM fX_ready fX_sheet dX_sheet nX_sheet iX_sheetLength xX_reader xX_solver xX_prover .null xX_clauses xX_nets) U.heap ∧ va_K (dC, dI) vwCl (tX kX ++ (tV kV)) U ∧ va_D (fun _ => True) (WX hX aX kX hT hM fX_ready fX_sheet dX_sheet nX_sheet iX_sheetLength xX_reader xX_solver xX_prover .null xX_clauses xX_nets) ∧ CE (va_A (WX hX aX kX hT hM fX_ready fX_sheet dX_sheet nX_sheet iX_sheetLength xX_reader xX_solver xX_prover .null xX_clauses xX_nets) sz) U U.heap)) (va_Qi (fun (r : Int32) (u : (Value) × (va_W)) => ((∃ n9, ValO kV n9 vlZ (u.1) (u.2)) ∧ (u.1) ≠ .null)) (fun (u : (Value) × (va_W)) t => va_P (dC, dI) vwCl (WX hX aX kX hT hM fX_ready fX_sheet dX_sheet nX_sheet iX_sheetLength xX_reader xX_solver xX_prover (u.1) xX_clauses xX_nets ++ ((u.2))) t.heap ∧ va_D (va_A (WX hX aX kX hT hM fX_ready fX_sheet dX_sheet nX_sheet iX_sheetLength xX_reader xX_solver xX_prover .null xX_clauses xX_nets) sz) (WX hX aX kX hT hM fX_ready fX_sheet dX_sheet nX_sheet iX_sheetLength xX_reader xX_solver xX_prover (u.1) xX_clauses xX_nets ++ ((u.2)))) (va_A (WX hX aX kX hT hM fX_ready fX_sheet dX_sheet nX_sheet iX_sheetLength xX_reader xX_solver xX_prover .null xX_clauses xX_nets) sz)) 15016 141408 (va_A (WX hX aX kX hT hM fX_ready fX_sheet dX_sheet nX_sheet iX_sheetLength xX_reader xX_solver xX_prover .null xX_clauses xX_nets) sz) := by
  refine Met.ofW (cc := cX11_listing) (maxL := 1) (ret := (some .int)) (by decide) rfl ?_
  intro p e s m args below meth c s₁ B hml hv
  obtain ⟨rfl, hsz, hP, hK, hD0, hE⟩ := hv
  have hx := B.exec
  have hb := B.bytes
  have hr := B.returns
  have hts := atoms_spec (ws := wsMX11_listing_0) B.pre
  have hown : s.vm.findClass RX11 = some m.cls := findClass_of_methodNamed B.named
  have hlocks := B.notSynchronized
  subst hsz
  have hD := hD0.self (sz := s.heap.size)
  generalize hAe : va_A (WX hX aX kX hT hM fX_ready fX_sheet dX_sheet nX_sheet iX_sheetLength xX_reader xX_solver xX_prover .null xX_clauses xX_nets) s.heap.size = A at hD hE ⊢
  have hA : ∀ q : Nat, s.heap.size ≤ q → A q := fun q h => by rw [← hAe]; exact Or.inr h
  have hS : va_S A s.heap s.heap [] := va_S.rf
  have hl := lv_entry ([.ref (hX 0)]) (n := 1) (Nat.le_of_ble_eq_true rfl)
  rw [lg_entry_eq]
  generalize (lg_sl ([.ref (hX 0)]) ++ List.replicate (1 - (lg_sl ([.ref (hX 0)])).length) Slot.unset).toArray = ls at hl ⊢
  have hl : lv_has ls 1 [(0, .ref (hX 0))] := hl
  refine lv_aload_n hx hb dX11_listing_0 rfl (lv_at hl 0 rfl) ?_
  have hFc := allFree hD hS hA
  refine va_callr (va_runV (As := []) (rest := []) ⟨hx, hb, hml, hown, hts⟩ (m_X11_theValues_0 l hst dC dI hX aX kX hT hM fX_ready fX_sheet dX_sheet nX_sheet iX_sheetLength xX_reader xX_solver xX_prover xX_clauses xX_nets kV b_fX_sheet (by first | exact b_nX_sheet | with_reducible assumption | exact ⟨by omega, by omega⟩ | assumption) (b_iX_sheetLength) (by first | with_reducible assumption | omega | assumption) s.heap.size) (cwV 0 hts gwsMX11_listing_0_0 rfl rfl rfl hd_yX11_theValues_RX11 (by decide +kernel)) (fz_preE (va_recv hK hP (ci := 11) (q0 := 0) rfl rfl) hP hK hD (fun a U g mk qE => qE.call) (fun U hU9 hW => by rw [hU9]; exact (((hE : CE A s s.heap).kept hS.2.1).narrow (fun q h => hFc q h)).warm hW)) rfl rfl hl.1 rfl (lv_room (Nat.le_of_ble_eq_true rfl)) dX11_listing_1 (by decide +kernel)) hS (fun q _ h => hFc q h) hFc (fun u ra1 t9_ H locs ht hvm hw9 hB9 hz1 hk1 hS => ?_)
  revert u hw9 hB9
  refine fz_p2 ?_
  intro hV aV hw9 hB9
  try dsimp only at hw9 hB9
  revert hB9
  refine fz_a2 ?_
  intro hra hB9
  subst hra
  clear hw9
  have hP : va_P (dC, dI) vwCl (WX hX aX kX hT hM fX_ready fX_sheet dX_sheet nX_sheet iX_sheetLength xX_reader xX_solver xX_prover (.ref (hV 0)) xX_clauses xX_nets ++ (WV hV aV kV 0 0 (fun _ => 0) (fun _ => 0) (fun _ => 0) (fun _ => 0) (fun _ => 0) (fun _ => 0) (fun _ => 0) (fun _ => 0) (fun _ => 0) (-1) 0 (fun _ => 0) (fun _ => 0) (fun _ => 0) (fun _ => 0) (fun _ => 0) (aV 13) 0 0 0)) H := fz_P ht hB9.1
  have hD := fz_sd hP (hB9.2.weaken (fun _ q _ h => hFc q.1 h)) rfl
  refine W.widen (k := 15) (n := 1408) (by decide +kernel) (by decide +kernel) ?_
  have hru0 : RuV (fun _ => 0) (fun _ => 0) (fun _ => 0) (fun _ => 0) (fun _ => 0) := RuV.zero
  have hls0 : (0 : Int32).toInt ≤ ((0 : Nat) : Int) := by decide
  have p9 := cj_2_1 (WX hX aX kX hT hM fX_ready fX_sheet dX_sheet nX_sheet iX_sheetLength xX_reader xX_solver xX_prover (.ref (hV 0)) xX_clauses xX_nets) (WV hV aV kV 0 0 (fun _ => 0) (fun _ => 0) (fun _ => 0) (fun _ => 0) (fun _ => 0) (fun _ => 0) (fun _ => 0) (fun _ => 0) (fun _ => 0) (-1) 0 (fun _ => 0) (fun _ => 0) (fun _ => 0) (fun _ => 0) (fun _ => 0) (aV 13) 0 0 0)
  have hPc := hP.mem (fun q h => p9.mem_iff.mpr (List.mem_append_left _ h))
  have hDc := (hD.perm p9).left
  have hKc : va_K (dC, dI) vwCl (tV kV) _ := hK.sub [2, 3, 4, 5, 6, 7, 8, 9, 10, 11, 12, 13, 14, 15] rfl
  have hFc := freeG p9 hD hS hA
  refine va_calli (va_runV (As := []) (rest := []) ⟨hx, hb, hml, hown, hts⟩ (m_X7_listingSize l dC dI hV aV kV 0 0 (fun _ => 0) (fun _ => 0) (fun _ => 0) (fun _ => 0) (fun _ => 0) (fun _ => 0) (fun _ => 0) (fun _ => 0) (fun _ => 0) (-1) 0 (fun _ => 0) (fun _ => 0) (fun _ => 0) (fun _ => 0) (fun _ => 0) (aV 13) 0 0 0 (show 0 ≤ (0 : Int32).toInt ∧ (0 : Int32).toInt ≤ 10 from by decide) (show 0 ≤ (0 : Int32).toInt ∧ (0 : Int32).toInt ≤ 12 from by decide) (zr_r (by decide) (by decide)) (show 0 ≤ (0 : Int32).toInt ∧ (0 : Int32).toInt ≤ 1 from by decide) (zr_r (by decide) (by decide)) (by first | assumption | exact ⟨by omega, by omega⟩) (show (-1) ≤ (0 : Int32).toInt ∧ (0 : Int32).toInt ≤ 5000 from by decide) (show 0 ≤ (0 : Int32).toInt ∧ (0 : Int32).toInt ≤ 1 from by decide) (by first | with_reducible assumption | omega | assumption) (by first | with_reducible assumption | omega | assumption) H.size) (cwV 0 hts gwsMX11_listing_0_1 rfl rfl rfl hd_yX7_listingSize_RX7 (by decide +kernel)) (fz_pre (va_recv hK hP (ci := 7) (q0 := 3) rfl rfl) hPc hKc hDc) rfl rfl hl.1 rfl (lv_room (Nat.le_of_ble_eq_true rfl)) dX11_listing_4 (by decide +kernel)) hS (fun q _ h => hFc q h) hFc (fun r2 u t9_ H1 locs ht hvm hw9 hB9 hz1 hk1 hS => ?_)
  revert u hw9 hB9
  refine fz_p12 ?_
  intro fV_now_2 iV_doneFor_2 iV_changed_2 gV_fore_2 gV_back_2 fV_together_2 fV_member_2 gV_list_2 dV_list_2 nV_list_2 iV_listed_2 iV_listDone_2 hw9 hB9
  try dsimp only at hw9 hB9
  revert hw9
  refine fz_a9 ?_
  intro b_iV_changed_2 b_fV_member_2 b_nV_list_2 b_iV_listed_2 b_iV_listDone_2 b_lst_2 b_r2 f2_0 f2_1
  obtain ⟨hP1, hD1, _⟩ := hB9
  rw [ht] at hP1
  have p8 := cj_2_1 (WX hX aX kX hT hM fX_ready fX_sheet dX_sheet nX_sheet iX_sheetLength xX_reader xX_solver xX_prover (.ref (hV 0)) xX_clauses xX_nets) (WV hV aV kV 0 0 (fun _ => 0) (fun _ => 0) (fun _ => 0) (fun _ => 0) (fun _ => 0) (fun _ => 0) (fun _ => 0) (fun _ => 0) fV_now_2 iV_doneFor_2 iV_changed_2 gV_fore_2 gV_back_2 fV_together_2 fV_member_2 gV_list_2 dV_list_2 nV_list_2 iV_listed_2 iV_listDone_2)
  obtain ⟨hP, hD⟩ := frameG p9 p8 hP hD hk1 hFc hP1 hD1
  generalize H1 = H at hP hS ⊢
  have hP : va_P (dC, dI) vwCl (WX hX aX kX hT hM fX_ready fX_sheet dX_sheet nX_sheet iX_sheetLength xX_reader xX_solver xX_prover (.ref (hV 0)) xX_clauses xX_nets ++ (WV hV aV kV 0 0 (fun _ => 0) (fun _ => 0) (fun _ => 0) (fun _ => 0) (fun _ => 0) (fun _ => 0) (fun _ => 0) (fun _ => 0) fV_now_2 iV_doneFor_2 iV_changed_2 gV_fore_2 gV_back_2 fV_together_2 fV_member_2 gV_list_2 dV_list_2 nV_list_2 iV_listed_2 iV_listDone_2)) H := hP
  have hD := fz_sd hP (hD) rfl
  refine W.widen (k := 15016) (n := 141408) (by decide +kernel) (by decide +kernel) ?_
  refine W.widen (k := 15016) (n := 141408) (by decide +kernel) (by decide +kernel) ?_
  exact W.iret (v := r2) hx hb hr (fun t9_ ht hW => ⟨⟨r2, ((.ref (hV 0)), (WV hV aV kV 0 0 (fun _ => 0) (fun _ => 0) (fun _ => 0) (fun _ => 0) (fun _ => 0) (fun _ => 0) (fun _ => 0) (fun _ => 0) fV_now_2 iV_doneFor_2 iV_changed_2 gV_fore_2 gV_back_2 fV_together_2 fV_member_2 gV_list_2 dV_list_2 nV_list_2 iV_listed_2 iV_listDone_2)), rfl, (by (try dsimp only); exact ⟨⟨nV_list_2, Or.inr ⟨hV, aV, 0, 0, (fun _ => 0), (fun _ => 0), (fun _ => 0), (fun _ => 0), (fun _ => 0), (fun _ => 0), (fun _ => 0), (fun _ => 0), fV_now_2, iV_doneFor_2, iV_changed_2, gV_fore_2, gV_back_2, fV_together_2, fV_member_2, gV_list_2, dV_list_2, iV_listed_2, iV_listDone_2, (show 0 ≤ (0 : Int32).toInt ∧ (0 : Int32).toInt ≤ 10 from by decide), (show 0 ≤ (0 : Int32).toInt ∧ (0 : Int32).toInt ≤ 12 from by decide), (zr_r (by decide) (by decide)), (b_iV_changed_2), b_fV_member_2, (by first | exact b_nV_list_2 | with_reducible assumption | exact ⟨by omega, by omega⟩ | assumption), (b_iV_listed_2), (b_iV_listDone_2), (by first | with_reducible assumption | omega | assumption), (by first | with_reducible assumption | omega | assumption), rfl, rfl, (vlZ_x (by have h7 : (0 : Int32).toInt = 0 := (by decide); omega) (by have h7 : (0 : Int32).toInt = 0 := (by decide); omega))⟩⟩, fun h9 => by cases h9⟩), by rw [ht]; exact hP, hD⟩, hS.F ht⟩) hS.2.2 dX11_listing_7
def wsMX11_listed_0 : List Cond := .code yX11_listed cX11_listed 3 (some .int) :: ([] ++ (wsV RX11 345 RX11 yX11_theValues wsMX11_theValues_0) ++ (wsV RX11 379 RX7 yX7_listedValue wsMX7_listedValue))
theorem gwsMX11_listed_0_0 : GoodIn wsMX11_listed_0 (wsV RX11 345 RX11 yX11_theValues wsMX11_theValues_0) := goodIn_sub (fun _ h => List.mem_cons_of_mem _ (List.mem_append_left _ (List.mem_append_right _ h))) (gdV (by decide +kernel) gdwsMX11_theValues_0)
theorem gwsMX11_listed_0_1 : GoodIn wsMX11_listed_0 (wsV RX11 379 RX7 yX7_listedValue wsMX7_listedValue) := goodIn_sub (fun _ h => List.mem_cons_of_mem _ (List.mem_append_right _ h)) (gdV (by decide +kernel) gdwsMX7_listedValue)
theorem gdwsMX11_listed_0 : wsMX11_listed_0.all goodWord = true := gdC rfl (gdA (gdA (by decide +kernel : ([] : List Cond).all goodWord = true) (gdV (by decide +kernel) gdwsMX11_theValues_0)) (gdV (by decide +kernel) gdwsMX7_listedValue))
set_option maxHeartbeats 4000000 in
set_option maxRecDepth 100000 in
/-- one of the listing -/
theorem m_X11_listed_0 (l : Launch) (hst : l.stackTraces = false) (dC : Nat → ClassId) (dI : Nat → Nat → Nat) (hX : Nat → Nat) (aX : Nat → Nat) (kX : Nat → ClassId) (hT : Nat → Nat) (hM : Nat → Nat) (fX_ready : Nat → Int32) (fX_sheet : Nat → Int32) (dX_sheet : Nat) (nX_sheet : Nat) (iX_sheetLength : Int32) (xX_reader : Value) (xX_solver : Value) (xX_prover : Value) (xX_clauses : Value) (xX_nets : Value) (kV : Nat → ClassId) (p1 : Int32) (p2 : Int32) (b_fX_sheet : ∀ q : Nat, (-128) ≤ (fX_sheet q).toInt ∧ (fX_sheet q).toInt ≤ 127) (b_nX_sheet : 64 ≤ nX_sheet ∧ nX_sheet ≤ 60000) (b_iX_sheetLength : 0 ≤ iX_sheetLength.toInt ∧ iX_sheetLength.toInt ≤ 30000) (b_shl : iX_sheetLength.toInt ≤ ((nX_sheet : Nat) : Int)) (sz : Nat) : Met l yX11_listed wsMX11_listed_0 ({ frames := 7, cells := 20016, slots := 181408, locals := 163 }) (va_Pc [.ref (hX 0), .int p1, .int p2] (fun U => U.heap.size = sz ∧ va_P (dC, dI) vwCl (WX hX aX kX hT hM fX_ready fX_sheet dX_sheet nX_sheet iX_sheetLength xX_reader xX_solver xX_prover .null xX_clauses xX_nets) U.heap ∧ va_K (dC, dI) vwCl (tX kX ++ (tV kV)) U ∧ va_D (fun _ => True) (WX hX aX kX hT hM fX_ready fX_sheet dX_sheet nX_sheet iX_sheetLength xX_reader xX_solver xX_prover .null xX_clauses xX_nets) ∧ CE (va_A (WX hX aX kX hT hM fX_ready fX_sheet dX_sheet nX_sheet iX_sheetLength xX_reader xX_solver xX_prover .null xX_clauses xX_nets) sz) U U.heap)) (va_Qi (fun (r : Int32) (u : (Value) × (va_W)) => ((∃ n9, ValO kV n9 vlZ (u.1) (u.2)) ∧ (u.1) ≠ .null)) (fun (u : (Value) × (va_W)) t => va_P (dC, dI) vwCl (WX hX aX kX hT hM fX_ready fX_sheet dX_sheet nX_sheet iX_sheetLength xX_reader xX_solver xX_prover (u.1) xX_clauses xX_nets ++ ((u.2))) t.heap ∧ va_D (va_A (WX hX aX kX hT hM fX_ready fX_sheet dX_sheet nX_sheet iX_sheetLength xX_reader xX_solver xX_prover .null xX_clauses xX_nets) sz) (WX hX aX kX hT hM fX_ready fX_sheet dX_sheet nX_sheet iX_sheetLength xX_reader xX_solver xX_prover (u.1) xX_clauses xX_nets ++ ((u.2)))) (va_A (WX hX aX kX hT hM fX_ready fX_sheet dX_sheet nX_sheet iX_sheetLength xX_reader xX_solver xX_prover .null xX_clauses xX_nets) sz)) 20016 181408 (va_A (WX hX aX kX hT hM fX_ready fX_sheet dX_sheet nX_sheet iX_sheetLength xX_reader xX_solver xX_prover .null xX_clauses xX_nets) sz) := by
  refine Met.ofW (cc := cX11_listed) (maxL := 3) (ret := (some .int)) (by decide) rfl ?_
  intro p e s m args below meth c s₁ B hml hv
  obtain ⟨rfl, hsz, hP, hK, hD0, hE⟩ := hv
  have hx := B.exec
  have hb := B.bytes
  have hr := B.returns
  have hts := atoms_spec (ws := wsMX11_listed_0) B.pre
  have hown : s.vm.findClass RX11 = some m.cls := findClass_of_methodNamed B.named
  have hlocks := B.notSynchronized
  subst hsz
  have hD := hD0.self (sz := s.heap.size)
  generalize hAe : va_A (WX hX aX kX hT hM fX_ready fX_sheet dX_sheet nX_sheet iX_sheetLength xX_reader xX_solver xX_prover .null xX_clauses xX_nets) s.heap.size = A at hD hE ⊢
  have hA : ∀ q : Nat, s.heap.size ≤ q → A q := fun q h => by rw [← hAe]; exact Or.inr h
  have hS : va_S A s.heap s.heap [] := va_S.rf
  have hl := lv_entry ([.ref (hX 0), .int p1, .int p2]) (n := 3) (Nat.le_of_ble_eq_true rfl)
  rw [lg_entry_eq]
  generalize (lg_sl ([.ref (hX 0), .int p1, .int p2]) ++ List.replicate (3 - (lg_sl ([.ref (hX 0), .int p1, .int p2])).length) Slot.unset).toArray = ls at hl ⊢
  have hl : lv_has ls 3 [(0, .ref (hX 0)), (1, .int p1), (2, .int p2)] := hl
  refine lv_aload_n hx hb dX11_listed_0 rfl (lv_at hl 0 rfl) ?_
  have hFc := allFree hD hS hA
  refine va_callr (va_runV (As := []) (rest := []) ⟨hx, hb, hml, hown, hts⟩ (m_X11_theValues_0 l hst dC dI hX aX kX hT hM fX_ready fX_sheet dX_sheet nX_sheet iX_sheetLength xX_reader xX_solver xX_prover xX_clauses xX_nets kV b_fX_sheet (by first | exact b_nX_sheet | with_reducible assumption | exact ⟨by omega, by omega⟩ | assumption) (b_iX_sheetLength) (by first | with_reducible assumption | omega | assumption) s.heap.size) (cwV 0 hts gwsMX11_listed_0_0 rfl rfl rfl hd_yX11_theValues_RX11 (by decide +kernel)) (fz_preE (va_recv hK hP (ci := 11) (q0 := 0) rfl rfl) hP hK hD (fun a U g mk qE => qE.call) (fun U hU9 hW => by rw [hU9]; exact (((hE : CE A s s.heap).kept hS.2.1).narrow (fun q h => hFc q h)).warm hW)) rfl rfl hl.1 rfl (lv_room (Nat.le_of_ble_eq_true rfl)) dX11_listed_1 (by decide +kernel)) hS (fun q _ h => hFc q h) hFc (fun u ra1 t9_ H locs ht hvm hw9 hB9 hz1 hk1 hS => ?_)
  revert u hw9 hB9
  refine fz_p2 ?_
  intro hV aV hw9 hB9
  try dsimp only at hw9 hB9
  revert hB9
  refine fz_a2 ?_
  intro hra hB9
  subst hra
  clear hw9
  have hP : va_P (dC, dI) vwCl (WX hX aX kX hT hM fX_ready fX_sheet dX_sheet nX_sheet iX_sheetLength xX_reader xX_solver xX_prover (.ref (hV 0)) xX_clauses xX_nets ++ (WV hV aV kV 0 0 (fun _ => 0) (fun _ => 0) (fun _ => 0) (fun _ => 0) (fun _ => 0) (fun _ => 0) (fun _ => 0) (fun _ => 0) (fun _ => 0) (-1) 0 (fun _ => 0) (fun _ => 0) (fun _ => 0) (fun _ => 0) (fun _ => 0) (aV 13) 0 0 0)) H := fz_P ht hB9.1
  have hD := fz_sd hP (hB9.2.weaken (fun _ q _ h => hFc q.1 h)) rfl
  refine W.widen (k := 15) (n := 1408) (by decide +kernel) (by decide +kernel) ?_
  have hru0 : RuV (fun _ => 0) (fun _ => 0) (fun _ => 0) (fun _ => 0) (fun _ => 0) := RuV.zero
  have hls0 : (0 : Int32).toInt ≤ ((0 : Nat) : Int) := by decide
  refine lv_iload_n hx hb dX11_listed_4 rfl (lv_at hl 1 rfl) ?_
  refine lv_iload_n hx hb dX11_listed_5 rfl (lv_at hl 2 rfl) ?_
  have p9 := cj_2_1 (WX hX aX kX hT hM fX_ready fX_sheet dX_sheet nX_sheet iX_sheetLength xX_reader xX_solver xX_prover (.ref (hV 0)) xX_clauses xX_nets) (WV hV aV kV 0 0 (fun _ => 0) (fun _ => 0) (fun _ => 0) (fun _ => 0) (fun _ => 0) (fun _ => 0) (fun _ => 0) (fun _ => 0) (fun _ => 0) (-1) 0 (fun _ => 0) (fun _ => 0) (fun _ => 0) (fun _ => 0) (fun _ => 0) (aV 13) 0 0 0)
  have hPc := hP.mem (fun q h => p9.mem_iff.mpr (List.mem_append_left _ h))
  have hDc := (hD.perm p9).left
  have hKc : va_K (dC, dI) vwCl (tV kV) _ := hK.sub [2, 3, 4, 5, 6, 7, 8, 9, 10, 11, 12, 13, 14, 15] rfl
  have hFc := freeG p9 hD hS hA
  refine va_calli (va_runV (As := [.int p1, .int p2]) (rest := []) ⟨hx, hb, hml, hown, hts⟩ (m_X7_listedValue l dC dI hV aV kV 0 0 (fun _ => 0) (fun _ => 0) (fun _ => 0) (fun _ => 0) (fun _ => 0) (fun _ => 0) (fun _ => 0) (fun _ => 0) (fun _ => 0) (-1) 0 (fun _ => 0) (fun _ => 0) (fun _ => 0) (fun _ => 0) (fun _ => 0) (aV 13) 0 0 0 p1 p2 (show 0 ≤ (0 : Int32).toInt ∧ (0 : Int32).toInt ≤ 10 from by decide) (show 0 ≤ (0 : Int32).toInt ∧ (0 : Int32).toInt ≤ 12 from by decide) (zr_r (by decide) (by decide)) (show 0 ≤ (0 : Int32).toInt ∧ (0 : Int32).toInt ≤ 1 from by decide) (zr_r (by decide) (by decide)) (by first | assumption | exact ⟨by omega, by omega⟩) (show (-1) ≤ (0 : Int32).toInt ∧ (0 : Int32).toInt ≤ 5000 from by decide) (show 0 ≤ (0 : Int32).toInt ∧ (0 : Int32).toInt ≤ 1 from by decide) (by first | with_reducible assumption | omega | assumption) (by first | with_reducible assumption | omega | assumption) H.size) (cwV 2 hts gwsMX11_listed_0_1 rfl rfl rfl hd_yX7_listedValue_RX7 (by decide +kernel)) (fz_pre (va_recv hK hP (ci := 7) (q0 := 3) rfl rfl) hPc hKc hDc) rfl rfl hl.1 rfl (lv_room (Nat.le_of_ble_eq_true rfl)) dX11_listed_6 (by decide +kernel)) hS (fun q _ h => hFc q h) hFc (fun r2 u t9_ H1 locs ht hvm hw9 hB9 hz1 hk1 hS => ?_)
  revert u hw9 hB9
  refine fz_p12 ?_
  intro fV_now_2 iV_doneFor_2 iV_changed_2 gV_fore_2 gV_back_2 fV_together_2 fV_member_2 gV_list_2 dV_list_2 nV_list_2 iV_listed_2 iV_listDone_2 hw9 hB9
  try dsimp only at hw9 hB9
  revert hw9
  refine fz_a7 ?_
  intro b_iV_changed_2 b_fV_member_2 b_nV_list_2 b_iV_listed_2 b_iV_listDone_2 b_lst_2 f2_0
  obtain ⟨hP1, hD1, _⟩ := hB9
  rw [ht] at hP1
  have p8 := cj_2_1 (WX hX aX kX hT hM fX_ready fX_sheet dX_sheet nX_sheet iX_sheetLength xX_reader xX_solver xX_prover (.ref (hV 0)) xX_clauses xX_nets) (WV hV aV kV 0 0 (fun _ => 0) (fun _ => 0) (fun _ => 0) (fun _ => 0) (fun _ => 0) (fun _ => 0) (fun _ => 0) (fun _ => 0) fV_now_2 iV_doneFor_2 iV_changed_2 gV_fore_2 gV_back_2 fV_together_2 fV_member_2 gV_list_2 dV_list_2 nV_list_2 iV_listed_2 iV_listDone_2)
  obtain ⟨hP, hD⟩ := frameG p9 p8 hP hD hk1 hFc hP1 hD1
  generalize H1 = H at hP hS ⊢
  have hP : va_P (dC, dI) vwCl (WX hX aX kX hT hM fX_ready fX_sheet dX_sheet nX_sheet iX_sheetLength xX_reader xX_solver xX_prover (.ref (hV 0)) xX_clauses xX_nets ++ (WV hV aV kV 0 0 (fun _ => 0) (fun _ => 0) (fun _ => 0) (fun _ => 0) (fun _ => 0) (fun _ => 0) (fun _ => 0) (fun _ => 0) fV_now_2 iV_doneFor_2 iV_changed_2 gV_fore_2 gV_back_2 fV_together_2 fV_member_2 gV_list_2 dV_list_2 nV_list_2 iV_listed_2 iV_listDone_2)) H := hP
  have hD := fz_sd hP (hD) rfl
  refine W.widen (k := 20016) (n := 181408) (by decide +kernel) (by decide +kernel) ?_
  refine W.widen (k := 20016) (n := 181408) (by decide +kernel) (by decide +kernel) ?_
  exact W.iret (v := r2) hx hb hr (fun t9_ ht hW => ⟨⟨r2, ((.ref (hV 0)), (WV hV aV kV 0 0 (fun _ => 0) (fun _ => 0) (fun _ => 0) (fun _ => 0) (fun _ => 0) (fun _ => 0) (fun _ => 0) (fun _ => 0) fV_now_2 iV_doneFor_2 iV_changed_2 gV_fore_2 gV_back_2 fV_together_2 fV_member_2 gV_list_2 dV_list_2 nV_list_2 iV_listed_2 iV_listDone_2)), rfl, (by (try dsimp only); exact ⟨⟨nV_list_2, Or.inr ⟨hV, aV, 0, 0, (fun _ => 0), (fun _ => 0), (fun _ => 0), (fun _ => 0), (fun _ => 0), (fun _ => 0), (fun _ => 0), (fun _ => 0), fV_now_2, iV_doneFor_2, iV_changed_2, gV_fore_2, gV_back_2, fV_together_2, fV_member_2, gV_list_2, dV_list_2, iV_listed_2, iV_listDone_2, (show 0 ≤ (0 : Int32).toInt ∧ (0 : Int32).toInt ≤ 10 from by decide), (show 0 ≤ (0 : Int32).toInt ∧ (0 : Int32).toInt ≤ 12 from by decide), (zr_r (by decide) (by decide)), (b_iV_changed_2), b_fV_member_2, (by first | exact b_nV_list_2 | with_reducible assumption | exact ⟨by omega, by omega⟩ | assumption), (b_iV_listed_2), (b_iV_listDone_2), (by first | with_reducible assumption | omega | assumption), (by first | with_reducible assumption | omega | assumption), rfl, rfl, (vlZ_x (by have h7 : (0 : Int32).toInt = 0 := (by decide); omega) (by have h7 : (0 : Int32).toInt = 0 := (by decide); omega))⟩⟩, fun h9 => by cases h9⟩), by rw [ht]; exact hP, hD⟩, hS.F ht⟩) hS.2.2 dX11_listed_9
def wsMX11_truth_0 : List Cond := .code yX11_truth cX11_truth 2 (some .int) :: ([.fieldLink RX11 397 "OptimaWorks$ClauseDesk" "clauses" "I"] ++ wsX00 ++ (wsV RX11 393 RX11 yX11_theClauses wsMX11_theClauses_0) ++ (wsV RX11 405 RX0 yX0_least wsMX0_least) ++ (wsV RX11 409 RX0 yX0_models wsMX0_models) ++ (wsV RX11 412 RX0 yX0_core wsMX0_core))
theorem iwsMX11_truth_0_in0 : ∀ w ∈ wsX00, w ∈ wsMX11_truth_0 := fun _ h => List.mem_cons_of_mem _ (List.mem_append_left _ (List.mem_append_left _ (List.mem_append_left _ (List.mem_append_left _ (List.mem_append_right _ h)))))
theorem gwsMX11_truth_0_0 : GoodIn wsMX11_truth_0 (wsV RX11 393 RX11 yX11_theClauses wsMX11_theClauses_0) := goodIn_sub (fun _ h => List.mem_cons_of_mem _ (List.mem_append_left _ (List.mem_append_left _ (List.mem_append_left _ (List.mem_append_right _ h))))) (gdV (by decide +kernel) gdwsMX11_theClauses_0)
theorem gwsMX11_truth_0_1 : GoodIn wsMX11_truth_0 (wsV RX11 405 RX0 yX0_least wsMX0_least) := goodIn_sub (fun _ h => List.mem_cons_of_mem _ (List.mem_append_left _ (List.mem_append_left _ (List.mem_append_right _ h)))) (gdV (by decide +kernel) gdwsMX0_least)
theorem gwsMX11_truth_0_2 : GoodIn wsMX11_truth_0 (wsV RX11 409 RX0 yX0_models wsMX0_models) := goodIn_sub (fun _ h => List.mem_cons_of_mem _ (List.mem_append_left _ (List.mem_append_right _ h))) (gdV (by decide +kernel) gdwsMX0_models)
theorem gwsMX11_truth_0_3 : GoodIn wsMX11_truth_0 (wsV RX11 412 RX0 yX0_core wsMX0_core) := goodIn_sub (fun _ h => List.mem_cons_of_mem _ (List.mem_append_right _ h)) (gdV (by decide +kernel) gdwsMX0_core)
theorem gdwsMX11_truth_0 : wsMX11_truth_0.all goodWord = true := gdC rfl (gdA (gdA (gdA (gdA (gdA (by decide +kernel : ([.fieldLink RX11 397 "OptimaWorks$ClauseDesk" "clauses" "I"] : List Cond).all goodWord = true) gdwsX00) (gdV (by decide +kernel) gdwsMX11_theClauses_0)) (gdV (by decide +kernel) gdwsMX0_least)) (gdV (by decide +kernel) gdwsMX0_models)) (gdV (by decide +kernel) gdwsMX0_core))
set_option maxHeartbeats 4000000 in
set_option maxRecDepth 100000 in
/-- truths -/
theorem m_X11_truth_0 (l : Launch) (hst : l.stackTraces = false) (dC : Nat → ClassId) (dI : Nat → Nat → Nat) (hX : Nat → Nat) (aX : Nat → Nat) (kX : Nat → ClassId) (hT : Nat → Nat) (hM : Nat → Nat) (fX_ready : Nat → Int32) (fX_sheet : Nat → Int32) (dX_sheet : Nat) (nX_sheet : Nat) (iX_sheetLength : Int32) (xX_reader : Value) (xX_solver : Value) (xX_prover : Value) (xX_values : Value) (xX_nets : Value) (kC : Nat → ClassId) (p1 : Int32) (b_fX_sheet : ∀ q : Nat, (-128) ≤ (fX_sheet q).toInt ∧ (fX_sheet q).toInt ≤ 127) (b_nX_sheet : 64 ≤ nX_sheet ∧ nX_sheet ≤ 60000) (b_iX_sheetLength : 0 ≤ iX_sheetLength.toInt ∧ iX_sheetLength.toInt ≤ 30000) (b_shl : iX_sheetLength.toInt ≤ ((nX_sheet : Nat) : Int)) (sz : Nat) : Met l yX11_truth wsMX11_truth_0 ({ frames := 3, cells := 6, slots := 8271, locals := 52 }) (va_Pc [.ref (hX 0), .int p1] (fun U => U.heap.size = sz ∧ va_P (dC, dI) vwCl (WX hX aX kX hT hM fX_ready fX_sheet dX_sheet nX_sheet iX_sheetLength xX_reader xX_solver xX_prover xX_values .null xX_nets) U.heap ∧ va_K (dC, dI) vwCl (tX kX ++ (tC kC)) U ∧ va_D (fun _ => True) (WX hX aX kX hT hM fX_ready fX_sheet dX_sheet nX_sheet iX_sheetLength xX_reader xX_solver xX_prover xX_values .null xX_nets) ∧ CE (va_A (WX hX aX kX hT hM fX_ready fX_sheet dX_sheet nX_sheet iX_sheetLength xX_reader xX_solver xX_prover xX_values .null xX_nets) sz) U U.heap)) (va_Qi (fun (r : Int32) (u : (Value) × (va_W)) => (cTru clZ p1.toInt r) ∧ (ClaO kC clZ (u.1) (u.2))) (fun (u : (Value) × (va_W)) t => va_P (dC, dI) vwCl (WX hX aX kX hT hM fX_ready fX_sheet dX_sheet nX_sheet iX_sheetLength xX_reader xX_solver xX_prover xX_values (u.1) xX_nets ++ ((u.2))) t.heap ∧ va_D (va_A (WX hX aX kX hT hM fX_ready fX_sheet dX_sheet nX_sheet iX_sheetLength xX_reader xX_solver xX_prover xX_values .null xX_nets) sz) (WX hX aX kX hT hM fX_ready fX_sheet dX_sheet nX_sheet iX_sheetLength xX_reader xX_solver xX_prover xX_values (u.1) xX_nets ++ ((u.2)))) (va_A (WX hX aX kX hT hM fX_ready fX_sheet dX_sheet nX_sheet iX_sheetLength xX_reader xX_solver xX_prover xX_values .null xX_nets) sz)) 6 8271 (va_A (WX hX aX kX hT hM fX_ready fX_sheet dX_sheet nX_sheet iX_sheetLength xX_reader xX_solver xX_prover xX_values .null xX_nets) sz) := by
  refine Met.ofW (cc := cX11_truth) (maxL := 2) (ret := (some .int)) (by decide) rfl ?_
  intro p e s m args below meth c s₁ B hml hv
  obtain ⟨rfl, hsz, hP, hK, hD0, hE⟩ := hv
  have hx := B.exec
  have hb := B.bytes
  have hr := B.returns
  have hts := atoms_spec (ws := wsMX11_truth_0) B.pre
  have hown : s.vm.findClass RX11 = some m.cls := findClass_of_methodNamed B.named
  have hlocks := B.notSynchronized
  subst hsz
  have hD := hD0.self (sz := s.heap.size)
  generalize hAe : va_A (WX hX aX kX hT hM fX_ready fX_sheet dX_sheet nX_sheet iX_sheetLength xX_reader xX_solver xX_prover xX_values .null xX_nets) s.heap.size = A at hD hE ⊢
  have hA : ∀ q : Nat, s.heap.size ≤ q → A q := fun q h => by rw [← hAe]; exact Or.inr h
  have hS : va_S A s.heap s.heap [] := va_S.rf
  have hl := lv_entry ([.ref (hX 0), .int p1]) (n := 2) (Nat.le_of_ble_eq_true rfl)
  rw [lg_entry_eq]
  generalize (lg_sl ([.ref (hX 0), .int p1]) ++ List.replicate (2 - (lg_sl ([.ref (hX 0), .int p1])).length) Slot.unset).toArray = ls at hl ⊢
  have hl : lv_has ls 2 [(0, .ref (hX 0)), (1, .int p1)] := hl
  refine lv_iload_n hx hb dX11_truth_0 rfl (lv_at hl 1 rfl) ?_
  by_cases s_1_0 : p1 = 0
  · have ts_1_0 : p1.toInt = 0 := toI_eq s_1_0 rfl (by decide)
    refine lv_tableIn (off := 35) (tgt := 36) hx hb dX11_truth_1 (by rw [s_1_0]; decide) (by rw [s_1_0]; decide) (by rw [s_1_0]; decide) (by decide) ?_
    refine lv_aload_n hx hb dX11_truth_36 rfl (lv_at hl 0 rfl) ?_
    have hFc := allFree hD hS hA
    refine va_callr (va_runV (As := []) (rest := []) ⟨hx, hb, hml, hown, hts⟩ (m_X11_theClauses_0 l hst dC dI hX aX kX hT hM fX_ready fX_sheet dX_sheet nX_sheet iX_sheetLength xX_reader xX_solver xX_prover xX_values xX_nets kC b_fX_sheet (by first | exact b_nX_sheet | with_reducible assumption | exact ⟨by omega, by omega⟩ | assumption) (b_iX_sheetLength) (by first | with_reducible assumption | omega | assumption) s.heap.size) (cwV 0 hts gwsMX11_truth_0_0 rfl rfl rfl hd_yX11_theClauses_RX11 (by decide +kernel)) (fz_preE (va_recv hK hP (ci := 11) (q0 := 0) rfl rfl) hP hK hD (fun a U g mk qE => qE.call) (fun U hU9 hW => by rw [hU9]; exact (((hE : CE A s s.heap).kept hS.2.1).narrow (fun q h => hFc q h)).warm hW)) rfl rfl hl.1 rfl (lv_room (Nat.le_of_ble_eq_true rfl)) dX11_truth_37 (by decide +kernel)) hS (fun q _ h => hFc q h) hFc (fun u ra1 t9_ H locs ht hvm hw9 hB9 hz1 hk1 hS => ?_)
    revert u hw9 hB9
    refine fz_p2 ?_
    intro hC aC hw9 hB9
    try dsimp only at hw9 hB9
    revert hB9
    refine fz_a2 ?_
    intro hra hB9
    subst hra
    clear hw9
    have hP : va_P (dC, dI) vwCl (WX hX aX kX hT hM fX_ready fX_sheet dX_sheet nX_sheet iX_sheetLength xX_reader xX_solver xX_prover xX_values (.ref (hC 0)) xX_nets ++ (WC hC aC kC 0 (fun _ => 0) (fun _ => 0) (fun _ => 0) (fun _ => 0) (fun _ => 0) 0)) H := fz_P ht hB9.1
    have hD := fz_sd hP (hB9.2.weaken (fun _ q _ h => hFc q.1 h)) rfl
    refine W.widen (k := 6) (n := 8271) (by decide +kernel) (by decide +kernel) ?_
    refine lv_iconst (v := 1) hx hb dX11_truth_40 (by decide) ?_
    have p9 := cj_2_1 (WX hX aX kX hT hM fX_ready fX_sheet dX_sheet nX_sheet iX_sheetLength xX_reader xX_solver xX_prover xX_values (.ref (hC 0)) xX_nets) (WC hC aC kC 0 (fun _ => 0) (fun _ => 0) (fun _ => 0) (fun _ => 0) (fun _ => 0) 0)
    have hPc := hP.mem (fun q h => p9.mem_iff.mpr (List.mem_append_left _ h))
    have hDc := (hD.perm p9).left
    have hKc : va_K (dC, dI) vwCl (tC kC) _ := hK.sub [2, 3, 4, 5, 6] rfl
    have hFc := freeG p9 hD hS hA
    refine va_calli (va_runV (As := [.int 1]) (rest := []) ⟨hx, hb, hml, hown, hts⟩ (m_X0_least l dC dI hC aC kC 0 (fun _ => 0) (fun _ => 0) (fun _ => 0) (fun _ => 0) (fun _ => 0) 0 1 (show 0 ≤ (0 : Int32).toInt ∧ (0 : Int32).toInt ≤ 24 from by decide) (cVal.z0) (ClI.z0) H.size) (cwV 1 hts gwsMX11_truth_0_1 rfl rfl rfl hd_yX0_least_RX0 (by decide +kernel)) (fz_pre (va_recv hK hP (ci := 0) (q0 := 3) rfl rfl) hPc hKc hDc) rfl rfl hl.1 rfl (lv_room (Nat.le_of_ble_eq_true rfl)) dX11_truth_41 (by decide +kernel)) hS (fun q _ h => hFc q h) hFc (fun r2 u t9_ H locs ht hvm hw9 hB9 hz1 hk1 hS => ?_)
    have f2_0 := hw9
    try dsimp only at f2_0
    have p8 := p9
    obtain ⟨hP, hD⟩ := frameG p9 p8 hP hD hk1 hFc (fz_P ht hB9.1) hB9.2
    have hls := f2_0
    refine W.widen (k := 6) (n := 8271) (by decide +kernel) (by decide +kernel) ?_
    exact W.iret (v := r2) hx hb hr (fun t9_ ht hW => ⟨⟨r2, ((.ref (hC 0)), (WC hC aC kC 0 (fun _ => 0) (fun _ => 0) (fun _ => 0) (fun _ => 0) (fun _ => 0) 0)), rfl, ⟨(by (try dsimp only); rw [clZ_x (x := (0 : Int32).toInt) (by decide)]; exact Or.inl ⟨ts_1_0, hls.2 (by decide)⟩), (by (try dsimp only); exact Or.inr ⟨hC, aC, 0, (fun _ => 0), (fun _ => 0), (fun _ => 0), (fun _ => 0), (fun _ => 0), 0, (show 0 ≤ (0 : Int32).toInt ∧ (0 : Int32).toInt ≤ 24 from by decide), (by first | assumption | exact cVal.z0), (by first | assumption | exact ClI.z0), rfl, rfl, (clZ_x (by have h7 : (0 : Int32).toInt = 0 := (by decide); omega))⟩)⟩, by rw [ht]; exact hP, hD⟩, hS.F ht⟩) hS.2.2 dX11_truth_44
  · have ts_1_0 : ¬ p1.toInt = 0 := toI_neq s_1_0 rfl (by decide)
    by_cases s_1_1 : p1 = 1
    · have ts_1_1 : p1.toInt = 1 := toI_eq s_1_1 rfl (by decide)
      refine lv_tableIn (off := 44) (tgt := 45) hx hb dX11_truth_1 (by rw [s_1_1]; decide) (by rw [s_1_1]; decide) (by rw [s_1_1]; decide) (by decide) ?_
      refine lv_aload_n hx hb dX11_truth_45 rfl (lv_at hl 0 rfl) ?_
      have hFc := allFree hD hS hA
      refine va_callr (va_runV (As := []) (rest := []) ⟨hx, hb, hml, hown, hts⟩ (m_X11_theClauses_0 l hst dC dI hX aX kX hT hM fX_ready fX_sheet dX_sheet nX_sheet iX_sheetLength xX_reader xX_solver xX_prover xX_values xX_nets kC b_fX_sheet (by first | exact b_nX_sheet | with_reducible assumption | exact ⟨by omega, by omega⟩ | assumption) (b_iX_sheetLength) (by first | with_reducible assumption | omega | assumption) s.heap.size) (cwV 0 hts gwsMX11_truth_0_0 rfl rfl rfl hd_yX11_theClauses_RX11 (by decide +kernel)) (fz_preE (va_recv hK hP (ci := 11) (q0 := 0) rfl rfl) hP hK hD (fun a U g mk qE => qE.call) (fun U hU9 hW => by rw [hU9]; exact (((hE : CE A s s.heap).kept hS.2.1).narrow (fun q h => hFc q h)).warm hW)) rfl rfl hl.1 rfl (lv_room (Nat.le_of_ble_eq_true rfl)) dX11_truth_46 (by decide +kernel)) hS (fun q _ h => hFc q h) hFc (fun u ra3 t9_ H locs ht hvm hw9 hB9 hz1 hk1 hS => ?_)
      revert u hw9 hB9
      refine fz_p2 ?_
      intro hC aC hw9 hB9
      try dsimp only at hw9 hB9
      revert hB9
      refine fz_a2 ?_
      intro hra hB9
      subst hra
      clear hw9
      have hP : va_P (dC, dI) vwCl (WX hX aX kX hT hM fX_ready fX_sheet dX_sheet nX_sheet iX_sheetLength xX_reader xX_solver xX_prover xX_values (.ref (hC 0)) xX_nets ++ (WC hC aC kC 0 (fun _ => 0) (fun _ => 0) (fun _ => 0) (fun _ => 0) (fun _ => 0) 0)) H := fz_P ht hB9.1
      have hD := fz_sd hP (hB9.2.weaken (fun _ q _ h => hFc q.1 h)) rfl
      refine W.widen (k := 6) (n := 8271) (by decide +kernel) (by decide +kernel) ?_
      refine lv_iconst (v := 0) hx hb dX11_truth_49 (by decide) ?_
      have p9 := cj_2_1 (WX hX aX kX hT hM fX_ready fX_sheet dX_sheet nX_sheet iX_sheetLength xX_reader xX_solver xX_prover xX_values (.ref (hC 0)) xX_nets) (WC hC aC kC 0 (fun _ => 0) (fun _ => 0) (fun _ => 0) (fun _ => 0) (fun _ => 0) 0)
      have hPc := hP.mem (fun q h => p9.mem_iff.mpr (List.mem_append_left _ h))
      have hDc := (hD.perm p9).left
      have hKc : va_K (dC, dI) vwCl (tC kC) _ := hK.sub [2, 3, 4, 5, 6] rfl
      have hFc := freeG p9 hD hS hA
      refine va_calli (va_runV (As := [.int 0]) (rest := []) ⟨hx, hb, hml, hown, hts⟩ (m_X0_least l dC dI hC aC kC 0 (fun _ => 0) (fun _ => 0) (fun _ => 0) (fun _ => 0) (fun _ => 0) 0 0 (show 0 ≤ (0 : Int32).toInt ∧ (0 : Int32).toInt ≤ 24 from by decide) (cVal.z0) (ClI.z0) H.size) (cwV 1 hts gwsMX11_truth_0_1 rfl rfl rfl hd_yX0_least_RX0 (by decide +kernel)) (fz_pre (va_recv hK hP (ci := 0) (q0 := 3) rfl rfl) hPc hKc hDc) rfl rfl hl.1 rfl (lv_room (Nat.le_of_ble_eq_true rfl)) dX11_truth_50 (by decide +kernel)) hS (fun q _ h => hFc q h) hFc (fun r4 u t9_ H locs ht hvm hw9 hB9 hz1 hk1 hS => ?_)
      have f4_0 := hw9
      try dsimp only at f4_0
      have p8 := p9
      obtain ⟨hP, hD⟩ := frameG p9 p8 hP hD hk1 hFc (fz_P ht hB9.1) hB9.2
      have hls := f4_0
      refine W.widen (k := 6) (n := 8271) (by decide +kernel) (by decide +kernel) ?_
      exact W.iret (v := r4) hx hb hr (fun t9_ ht hW => ⟨⟨r4, ((.ref (hC 0)), (WC hC aC kC 0 (fun _ => 0) (fun _ => 0) (fun _ => 0) (fun _ => 0) (fun _ => 0) 0)), rfl, ⟨(by (try dsimp only); rw [clZ_x (x := (0 : Int32).toInt) (by decide)]; exact Or.inr (Or.inl ⟨ts_1_1, hls.1 (by decide)⟩)), (by (try dsimp only); exact Or.inr ⟨hC, aC, 0, (fun _ => 0), (fun _ => 0), (fun _ => 0), (fun _ => 0), (fun _ => 0), 0, (show 0 ≤ (0 : Int32).toInt ∧ (0 : Int32).toInt ≤ 24 from by decide), (by first | assumption | exact cVal.z0), (by first | assumption | exact ClI.z0), rfl, rfl, (clZ_x (by have h7 : (0 : Int32).toInt = 0 := (by decide); omega))⟩)⟩, by rw [ht]; exact hP, hD⟩, hS.F ht⟩) hS.2.2 dX11_truth_53
    · have ts_1_1 : ¬ p1.toInt = 1 := toI_neq s_1_1 rfl (by decide)
      by_cases s_1_2 : p1 = 2
      · have ts_1_2 : p1.toInt = 2 := toI_eq s_1_2 rfl (by decide)
        refine lv_tableIn (off := 53) (tgt := 54) hx hb dX11_truth_1 (by rw [s_1_2]; decide) (by rw [s_1_2]; decide) (by rw [s_1_2]; decide) (by decide) ?_
        refine lv_aload_n hx hb dX11_truth_54 rfl (lv_at hl 0 rfl) ?_
        have hFc := allFree hD hS hA
        refine va_callr (va_runV (As := []) (rest := []) ⟨hx, hb, hml, hown, hts⟩ (m_X11_theClauses_0 l hst dC dI hX aX kX hT hM fX_ready fX_sheet dX_sheet nX_sheet iX_sheetLength xX_reader xX_solver xX_prover xX_values xX_nets kC b_fX_sheet (by first | exact b_nX_sheet | with_reducible assumption | exact ⟨by omega, by omega⟩ | assumption) (b_iX_sheetLength) (by first | with_reducible assumption | omega | assumption) s.heap.size) (cwV 0 hts gwsMX11_truth_0_0 rfl rfl rfl hd_yX11_theClauses_RX11 (by decide +kernel)) (fz_preE (va_recv hK hP (ci := 11) (q0 := 0) rfl rfl) hP hK hD (fun a U g mk qE => qE.call) (fun U hU9 hW => by rw [hU9]; exact (((hE : CE A s s.heap).kept hS.2.1).narrow (fun q h => hFc q h)).warm hW)) rfl rfl hl.1 rfl (lv_room (Nat.le_of_ble_eq_true rfl)) dX11_truth_55 (by decide +kernel)) hS (fun q _ h => hFc q h) hFc (fun u ra5 t9_ H locs ht hvm hw9 hB9 hz1 hk1 hS => ?_)
        revert u hw9 hB9
        refine fz_p2 ?_
        intro hC aC hw9 hB9
        try dsimp only at hw9 hB9
        revert hB9
        refine fz_a2 ?_
        intro hra hB9
        subst hra
        clear hw9
        have hP : va_P (dC, dI) vwCl (WX hX aX kX hT hM fX_ready fX_sheet dX_sheet nX_sheet iX_sheetLength xX_reader xX_solver xX_prover xX_values (.ref (hC 0)) xX_nets ++ (WC hC aC kC 0 (fun _ => 0) (fun _ => 0) (fun _ => 0) (fun _ => 0) (fun _ => 0) 0)) H := fz_P ht hB9.1
        have hD := fz_sd hP (hB9.2.weaken (fun _ q _ h => hFc q.1 h)) rfl
        refine W.widen (k := 6) (n := 8271) (by decide +kernel) (by decide +kernel) ?_
        have p9 := cj_2_1 (WX hX aX kX hT hM fX_ready fX_sheet dX_sheet nX_sheet iX_sheetLength xX_reader xX_solver xX_prover xX_values (.ref (hC 0)) xX_nets) (WC hC aC kC 0 (fun _ => 0) (fun _ => 0) (fun _ => 0) (fun _ => 0) (fun _ => 0) 0)
        have hPc := hP.mem (fun q h => p9.mem_iff.mpr (List.mem_append_left _ h))
        have hDc := (hD.perm p9).left
        have hKc : va_K (dC, dI) vwCl (tC kC) _ := hK.sub [2, 3, 4, 5, 6] rfl
        have hFc := freeG p9 hD hS hA
        refine va_calli (va_runV (As := []) (rest := []) ⟨hx, hb, hml, hown, hts⟩ (m_X0_models l dC dI hC aC kC 0 (fun _ => 0) (fun _ => 0) (fun _ => 0) (fun _ => 0) (fun _ => 0) 0 (show 0 ≤ (0 : Int32).toInt ∧ (0 : Int32).toInt ≤ 24 from by decide) (cVal.z0) (ClI.z0) H.size) (cwV 0 hts gwsMX11_truth_0_2 rfl rfl rfl hd_yX0_models_RX0 (by decide +kernel)) (fz_pre (va_recv hK hP (ci := 0) (q0 := 3) rfl rfl) hPc hKc hDc) rfl rfl hl.1 rfl (lv_room (Nat.le_of_ble_eq_true rfl)) dX11_truth_58 (by decide +kernel)) hS (fun q _ h => hFc q h) hFc (fun r6 u t9_ H locs ht hvm hw9 hB9 hz1 hk1 hS => ?_)
        have f6_0 := hw9
        try dsimp only at f6_0
        have p8 := p9
        obtain ⟨hP, hD⟩ := frameG p9 p8 hP hD hk1 hFc (fz_P ht hB9.1) hB9.2
        have hls := f6_0
        refine W.widen (k := 6) (n := 8271) (by decide +kernel) (by decide +kernel) ?_
        exact W.iret (v := r6) hx hb hr (fun t9_ ht hW => ⟨⟨r6, ((.ref (hC 0)), (WC hC aC kC 0 (fun _ => 0) (fun _ => 0) (fun _ => 0) (fun _ => 0) (fun _ => 0) 0)), rfl, ⟨(by (try dsimp only); rw [clZ_x (x := (0 : Int32).toInt) (by decide)]; exact Or.inr (Or.inr (Or.inl ⟨ts_1_2, hls⟩))), (by (try dsimp only); exact Or.inr ⟨hC, aC, 0, (fun _ => 0), (fun _ => 0), (fun _ => 0), (fun _ => 0), (fun _ => 0), 0, (show 0 ≤ (0 : Int32).toInt ∧ (0 : Int32).toInt ≤ 24 from by decide), (by first | assumption | exact cVal.z0), (by first | assumption | exact ClI.z0), rfl, rfl, (clZ_x (by have h7 : (0 : Int32).toInt = 0 := (by decide); omega))⟩)⟩, by rw [ht]; exact hP, hD⟩, hS.F ht⟩) hS.2.2 dX11_truth_61
      · have ts_1_2 : ¬ p1.toInt = 2 := toI_neq s_1_2 rfl (by decide)
        by_cases s_1_3 : p1 = 3
        · have ts_1_3 : p1.toInt = 3 := toI_eq s_1_3 rfl (by decide)
          refine lv_tableIn (off := 61) (tgt := 62) hx hb dX11_truth_1 (by rw [s_1_3]; decide) (by rw [s_1_3]; decide) (by rw [s_1_3]; decide) (by decide) ?_
          refine lv_aload_n hx hb dX11_truth_62 rfl (lv_at hl 0 rfl) ?_
          have hFc := allFree hD hS hA
          refine va_callr (va_runV (As := []) (rest := []) ⟨hx, hb, hml, hown, hts⟩ (m_X11_theClauses_0 l hst dC dI hX aX kX hT hM fX_ready fX_sheet dX_sheet nX_sheet iX_sheetLength xX_reader xX_solver xX_prover xX_values xX_nets kC b_fX_sheet (by first | exact b_nX_sheet | with_reducible assumption | exact ⟨by omega, by omega⟩ | assumption) (b_iX_sheetLength) (by first | with_reducible assumption | omega | assumption) s.heap.size) (cwV 0 hts gwsMX11_truth_0_0 rfl rfl rfl hd_yX11_theClauses_RX11 (by decide +kernel)) (fz_preE (va_recv hK hP (ci := 11) (q0 := 0) rfl rfl) hP hK hD (fun a U g mk qE => qE.call) (fun U hU9 hW => by rw [hU9]; exact (((hE : CE A s s.heap).kept hS.2.1).narrow (fun q h => hFc q h)).warm hW)) rfl rfl hl.1 rfl (lv_room (Nat.le_of_ble_eq_true rfl)) dX11_truth_63 (by decide +kernel)) hS (fun q _ h => hFc q h) hFc (fun u ra7 t9_ H locs ht hvm hw9 hB9 hz1 hk1 hS => ?_)
          revert u hw9 hB9
          refine fz_p2 ?_
          intro hC aC hw9 hB9
          try dsimp only at hw9 hB9
          revert hB9
          refine fz_a2 ?_
          intro hra hB9
          subst hra
          clear hw9
          have hP : va_P (dC, dI) vwCl (WX hX aX kX hT hM fX_ready fX_sheet dX_sheet nX_sheet iX_sheetLength xX_reader xX_solver xX_prover xX_values (.ref (hC 0)) xX_nets ++ (WC hC aC kC 0 (fun _ => 0) (fun _ => 0) (fun _ => 0) (fun _ => 0) (fun _ => 0) 0)) H := fz_P ht hB9.1
          have hD := fz_sd hP (hB9.2.weaken (fun _ q _ h => hFc q.1 h)) rfl
          refine W.widen (k := 6) (n := 8271) (by decide +kernel) (by decide +kernel) ?_
          have p9 := cj_2_1 (WX hX aX kX hT hM fX_ready fX_sheet dX_sheet nX_sheet iX_sheetLength xX_reader xX_solver xX_prover xX_values (.ref (hC 0)) xX_nets) (WC hC aC kC 0 (fun _ => 0) (fun _ => 0) (fun _ => 0) (fun _ => 0) (fun _ => 0) 0)
          have hPc := hP.mem (fun q h => p9.mem_iff.mpr (List.mem_append_left _ h))
          have hDc := (hD.perm p9).left
          have hKc : va_K (dC, dI) vwCl (tC kC) _ := hK.sub [2, 3, 4, 5, 6] rfl
          have hFc := freeG p9 hD hS hA
          refine va_calli (va_runV (As := []) (rest := []) ⟨hx, hb, hml, hown, hts⟩ (m_X0_core l dC dI hC aC kC 0 (fun _ => 0) (fun _ => 0) (fun _ => 0) (fun _ => 0) (fun _ => 0) 0 (show 0 ≤ (0 : Int32).toInt ∧ (0 : Int32).toInt ≤ 24 from by decide) (cVal.z0) (ClI.z0) H.size) (cwV 0 hts gwsMX11_truth_0_3 rfl rfl rfl hd_yX0_core_RX0 (by decide +kernel)) (fz_pre (va_recv hK hP (ci := 0) (q0 := 3) rfl rfl) hPc hKc hDc) rfl rfl hl.1 rfl (lv_room (Nat.le_of_ble_eq_true rfl)) dX11_truth_66 (by decide +kernel)) hS (fun q _ h => hFc q h) hFc (fun r8 u t9_ H locs ht hvm hw9 hB9 hz1 hk1 hS => ?_)
          have f8_0 := hw9
          try dsimp only at f8_0
          have p8 := p9
          obtain ⟨hP, hD⟩ := frameG p9 p8 hP hD hk1 hFc (fz_P ht hB9.1) hB9.2
          have hls := f8_0
          refine W.widen (k := 6) (n := 8271) (by decide +kernel) (by decide +kernel) ?_
          exact W.iret (v := r8) hx hb hr (fun t9_ ht hW => ⟨⟨r8, ((.ref (hC 0)), (WC hC aC kC 0 (fun _ => 0) (fun _ => 0) (fun _ => 0) (fun _ => 0) (fun _ => 0) 0)), rfl, ⟨(by (try dsimp only); rw [clZ_x (x := (0 : Int32).toInt) (by decide)]; exact Or.inr (Or.inr (Or.inr (Or.inl ⟨ts_1_3, hls⟩)))), (by (try dsimp only); exact Or.inr ⟨hC, aC, 0, (fun _ => 0), (fun _ => 0), (fun _ => 0), (fun _ => 0), (fun _ => 0), 0, (show 0 ≤ (0 : Int32).toInt ∧ (0 : Int32).toInt ≤ 24 from by decide), (by first | assumption | exact cVal.z0), (by first | assumption | exact ClI.z0), rfl, rfl, (clZ_x (by have h7 : (0 : Int32).toInt = 0 := (by decide); omega))⟩)⟩, by rw [ht]; exact hP, hD⟩, hS.F ht⟩) hS.2.2 dX11_truth_69
        · have ts_1_3 : ¬ p1.toInt = 3 := toI_neq s_1_3 rfl (by decide)
          by_cases s_1_4 : p1 = 4
          · have ts_1_4 : p1.toInt = 4 := toI_eq s_1_4 rfl (by decide)
            refine lv_tableIn (off := 69) (tgt := 70) hx hb dX11_truth_1 (by rw [s_1_4]; decide) (by rw [s_1_4]; decide) (by rw [s_1_4]; decide) (by decide) ?_
            refine lv_aload_n hx hb dX11_truth_70 rfl (lv_at hl 0 rfl) ?_
            have hFc := allFree hD hS hA
            refine va_callr (va_runV (As := []) (rest := []) ⟨hx, hb, hml, hown, hts⟩ (m_X11_theClauses_0 l hst dC dI hX aX kX hT hM fX_ready fX_sheet dX_sheet nX_sheet iX_sheetLength xX_reader xX_solver xX_prover xX_values xX_nets kC b_fX_sheet (by first | exact b_nX_sheet | with_reducible assumption | exact ⟨by omega, by omega⟩ | assumption) (b_iX_sheetLength) (by first | with_reducible assumption | omega | assumption) s.heap.size) (cwV 0 hts gwsMX11_truth_0_0 rfl rfl rfl hd_yX11_theClauses_RX11 (by decide +kernel)) (fz_preE (va_recv hK hP (ci := 11) (q0 := 0) rfl rfl) hP hK hD (fun a U g mk qE => qE.call) (fun U hU9 hW => by rw [hU9]; exact (((hE : CE A s s.heap).kept hS.2.1).narrow (fun q h => hFc q h)).warm hW)) rfl rfl hl.1 rfl (lv_room (Nat.le_of_ble_eq_true rfl)) dX11_truth_71 (by decide +kernel)) hS (fun q _ h => hFc q h) hFc (fun u ra9 t9_ H locs ht hvm hw9 hB9 hz1 hk1 hS => ?_)
            revert u hw9 hB9
            refine fz_p2 ?_
            intro hC aC hw9 hB9
            try dsimp only at hw9 hB9
            revert hB9
            refine fz_a2 ?_
            intro hra hB9
            subst hra
            clear hw9
            have hP : va_P (dC, dI) vwCl (WX hX aX kX hT hM fX_ready fX_sheet dX_sheet nX_sheet iX_sheetLength xX_reader xX_solver xX_prover xX_values (.ref (hC 0)) xX_nets ++ (WC hC aC kC 0 (fun _ => 0) (fun _ => 0) (fun _ => 0) (fun _ => 0) (fun _ => 0) 0)) H := fz_P ht hB9.1
            have hD := fz_sd hP (hB9.2.weaken (fun _ q _ h => hFc q.1 h)) rfl
            refine W.widen (k := 6) (n := 8271) (by decide +kernel) (by decide +kernel) ?_
            refine va_get (D := (dC, dI)) (ci := 0) (v := .int 0) (C := RX0) (T := TX0) (N := 7) hx hb hts iwsMX11_truth_0_in0 hown hK hP 3 rfl rfl 0 (by decide) (hts (.fieldLink RX11 397 "OptimaWorks$ClauseDesk" "clauses" "I") (by decide +kernel)) (fun _ h9 => h9) rfl dX11_truth_74 ?_
            refine W.widen (k := 6) (n := 8271) (by decide +kernel) (by decide +kernel) ?_
            exact W.iret (v := 0) hx hb hr (fun t9_ ht hW => ⟨⟨(0 : Int32), ((.ref (hC 0)), (WC hC aC kC 0 (fun _ => 0) (fun _ => 0) (fun _ => 0) (fun _ => 0) (fun _ => 0) 0)), rfl, ⟨(by (try dsimp only); rw [clZ_x (x := (0 : Int32).toInt) (by decide)]; exact Or.inr (Or.inr (Or.inr (Or.inr (Or.inl ⟨ts_1_4, rfl⟩))))), (by (try dsimp only); exact Or.inr ⟨hC, aC, 0, (fun _ => 0), (fun _ => 0), (fun _ => 0), (fun _ => 0), (fun _ => 0), 0, (show 0 ≤ (0 : Int32).toInt ∧ (0 : Int32).toInt ≤ 24 from by decide), (by first | assumption | exact cVal.z0), (by first | assumption | exact ClI.z0), rfl, rfl, (clZ_x (by have h7 : (0 : Int32).toInt = 0 := (by decide); omega))⟩)⟩, by rw [ht]; exact hP, hD⟩, hS.F ht⟩) hS.2.2 dX11_truth_77
          · have ts_1_4 : ¬ p1.toInt = 4 := toI_neq s_1_4 rfl (by decide)
            refine lv_tableOut (tgt := 78) hx hb dX11_truth_1 (by have := lv_neT s_1_0 (show Int32.toInt 0 = 0 by decide); have := lv_neT s_1_1 (show Int32.toInt 1 = 1 by decide); have := lv_neT s_1_2 (show Int32.toInt 2 = 2 by decide); have := lv_neT s_1_3 (show Int32.toInt 3 = 3 by decide); have := lv_neT s_1_4 (show Int32.toInt 4 = 4 by decide); omega) (by decide) ?_
            refine lv_iconst (v := (-1)) hx hb dX11_truth_78 (by decide) ?_
            refine W.widen (k := 6) (n := 8271) (by decide +kernel) (by decide +kernel) ?_
            exact W.iret (v := (-1)) hx hb hr (fun t9_ ht hW => ⟨⟨((-1) : Int32), (.null, ([])), rfl, ⟨(by (try dsimp only); rw [clZ_x (x := (0 : Int32).toInt) (by decide)]; exact Or.inr (Or.inr (Or.inr (Or.inr (Or.inr ⟨by omega, rfl⟩))))), (by (try dsimp only); exact Or.inl ⟨rfl, rfl, rfl⟩)⟩, by rw [ht]; first | exact hP | (simp only [List.append_nil]; exact hP), by first | exact hD | (simp only [List.append_nil]; exact hD)⟩, hS.F ht⟩) hS.2.2 dX11_truth_79
end
section
theorem dX11_theSolver_7 : decode cX11_theSolver 7 = .ok (.aload_n 0, 1) := dk_42 (by decide +kernel)
theorem dX11_theSolver_8 : decode cX11_theSolver 8 = .ok (.new 53, 3) := dk_187 (by decide +kernel)
theorem dX11_theSolver_11 : decode cX11_theSolver 11 = .ok (.dup, 1) := dk_89 (by decide +kernel)
theorem dX11_theSolver_12 : decode cX11_theSolver 12 = .ok (.aload_n 0, 1) := dk_42 (by decide +kernel)
theorem dX11_theSolver_13 : decode cX11_theSolver 13 = .ok (.getfield 23, 3) := dk_180 (by decide +kernel)
theorem dX11_theSolver_16 : decode cX11_theSolver 16 = .ok (.invokespecial 197, 3) := dk_183 (by decide +kernel)
theorem dX11_theSolver_19 : decode cX11_theSolver 19 = .ok (.putfield 48, 3) := dk_181 (by decide +kernel)
def wsMX11_theSolver_0 : List Cond := .code yX11_theSolver cX11_theSolver 1 (some (.object "OptimaWorks$Solver")) :: ([.fieldLink RX11 48 "OptimaWorks" "solver" "LOptimaWorks$Solver;", .classLink RX11 53 RX5, .instantiable RX5 19, .initialized RX5, .fieldLink RX11 23 "OptimaWorks" "model" "LOptimaWorks$Model;", .instanceMethod yX5_init, .methodLink RX11 197 yX5_init] ++ wsX50 ++ wsX110 ++ (wsKX5_init))
theorem iwsMX11_theSolver_0_in5 : ∀ w ∈ wsX50, w ∈ wsMX11_theSolver_0 := fun _ h => List.mem_cons_of_mem _ (List.mem_append_left _ (List.mem_append_left _ (List.mem_append_right _ h)))
theorem iwsMX11_theSolver_0_in11 : ∀ w ∈ wsX110, w ∈ wsMX11_theSolver_0 := fun _ h => List.mem_cons_of_mem _ (List.mem_append_left _ (List.mem_append_right _ h))
theorem gwsMX11_theSolver_0_0 : GoodIn wsMX11_theSolver_0 (wsKX5_init) := goodIn_sub (fun _ h => List.mem_cons_of_mem _ (List.mem_append_right _ h)) (by decide +kernel)
theorem gdwsMX11_theSolver_0 : wsMX11_theSolver_0.all goodWord = true := gdC rfl (gdA (gdA (gdA (by decide +kernel : ([.fieldLink RX11 48 "OptimaWorks" "solver" "LOptimaWorks$Solver;", .classLink RX11 53 RX5, .instantiable RX5 19, .initialized RX5, .fieldLink RX11 23 "OptimaWorks" "model" "LOptimaWorks$Model;", .instanceMethod yX5_init, .methodLink RX11 197 yX5_init] : List Cond).all goodWord = true) gdwsX50) gdwsX110) (by decide +kernel))
theorem hm_m_X11_theSolver_0_0 : (.fieldLink RX11 48 "OptimaWorks" "solver" "LOptimaWorks$Solver;" : Cond) ∈ wsMX11_theSolver_0 := by decide +kernel
theorem hm_m_X11_theSolver_0_1 : (.initialized RX5 : Cond) ∈ wsMX11_theSolver_0 := by decide +kernel
set_option maxHeartbeats 4000000 in
set_option maxRecDepth 100000 in
/-- the solver is made -/
theorem m_X11_theSolver_0 (l : Launch) (hst : l.stackTraces = false) (dC : Nat → ClassId) (dI : Nat → Nat → Nat) (hX : Nat → Nat) (aX : Nat → Nat) (kX : Nat → ClassId) (hT : Nat → Nat) (hM : Nat → Nat) (fX_ready : Nat → Int32) (fX_sheet : Nat → Int32) (dX_sheet : Nat) (nX_sheet : Nat) (iX_sheetLength : Int32) (xX_reader : Value) (xX_prover : Value) (xX_values : Value) (xX_clauses : Value) (xX_nets : Value) (kO : Nat → ClassId) (kQ : Nat → ClassId) (kw : ClassId) (b_fX_sheet : ∀ q : Nat, (-128) ≤ (fX_sheet q).toInt ∧ (fX_sheet q).toInt ≤ 127) (b_nX_sheet : 64 ≤ nX_sheet ∧ nX_sheet ≤ 60000) (b_iX_sheetLength : 0 ≤ iX_sheetLength.toInt ∧ iX_sheetLength.toInt ≤ 30000) (b_shl : iX_sheetLength.toInt ≤ ((nX_sheet : Nat) : Int)) (sz : Nat) : Met l yX11_theSolver wsMX11_theSolver_0 ({ frames := 5, cells := 880, slots := 8040, locals := 102 }) (va_Pc [.ref (hX 0)] (fun U => U.heap.size = sz ∧ va_P (dC, dI) vwCl (WX hX aX kX hT hM fX_ready fX_sheet dX_sheet nX_sheet iX_sheetLength xX_reader .null xX_prover xX_values xX_clauses xX_nets) U.heap ∧ va_K (dC, dI) vwCl (tX kX ++ (tO kO ++ (tQ kQ ++ (tW kw)))) U ∧ va_D (fun _ => True) (WX hX aX kX hT hM fX_ready fX_sheet dX_sheet nX_sheet iX_sheetLength xX_reader .null xX_prover xX_values xX_clauses xX_nets) ∧ CE (va_A (WX hX aX kX hT hM fX_ready fX_sheet dX_sheet nX_sheet iX_sheetLength xX_reader .null xX_prover xX_values xX_clauses xX_nets) sz) U U.heap)) (va_Qr (fun (u : (Nat → Nat) × (Nat → Nat) × (Nat → Nat) × (Nat → Nat) × (Nat → Nat) × (Nat → Nat)) => True) (fun (u : (Nat → Nat) × (Nat → Nat) × (Nat → Nat) × (Nat → Nat) × (Nat → Nat) × (Nat → Nat)) ra t => ra = ((u.1) 0) ∧ va_P (dC, dI) vwCl (WX hX aX kX hT hM fX_ready fX_sheet dX_sheet nX_sheet iX_sheetLength xX_reader (.ref ((u.1) 0)) xX_prover xX_values xX_clauses xX_nets ++ (WO (u.1) (u.2.1) kO hM (u.2.2.1) (u.2.2.2.2.1) 0 0 0 (-1) (fun _ => 0) (fun _ => 0) (fun _ => 0) (fun _ => 0) (fun _ => 0) (fun _ => 0) ++ (WQ (u.2.2.1) (u.2.2.2.1) kQ (u.2.2.2.2.1) (fun _ => 0) (fun _ => 0) (fun _ => 0) 0 0 0 ++ (WW 432 (u.2.2.2.2.1) (u.2.2.2.2.2) kw (fun _ => 0) (fun _ => 0) (fun _ _ => 0))))) t.heap ∧ va_D (va_A (WX hX aX kX hT hM fX_ready fX_sheet dX_sheet nX_sheet iX_sheetLength xX_reader .null xX_prover xX_values xX_clauses xX_nets) sz) (WX hX aX kX hT hM fX_ready fX_sheet dX_sheet nX_sheet iX_sheetLength xX_reader (.ref ((u.1) 0)) xX_prover xX_values xX_clauses xX_nets ++ (WO (u.1) (u.2.1) kO hM (u.2.2.1) (u.2.2.2.2.1) 0 0 0 (-1) (fun _ => 0) (fun _ => 0) (fun _ => 0) (fun _ => 0) (fun _ => 0) (fun _ => 0) ++ (WQ (u.2.2.1) (u.2.2.2.1) kQ (u.2.2.2.2.1) (fun _ => 0) (fun _ => 0) (fun _ => 0) 0 0 0 ++ (WW 432 (u.2.2.2.2.1) (u.2.2.2.2.2) kw (fun _ => 0) (fun _ => 0) (fun _ _ => 0)))))) (va_A (WX hX aX kX hT hM fX_ready fX_sheet dX_sheet nX_sheet iX_sheetLength xX_reader .null xX_prover xX_values xX_clauses xX_nets) sz)) 880 8040 (va_A (WX hX aX kX hT hM fX_ready fX_sheet dX_sheet nX_sheet iX_sheetLength xX_reader .null xX_prover xX_values xX_clauses xX_nets) sz) := by
  refine Met.ofW (cc := cX11_theSolver) (maxL := 1) (ret := (some (.object "OptimaWorks$Solver"))) (by decide) rfl ?_
  intro p e s m args below meth c s₁ B hml hv
  obtain ⟨rfl, hsz, hP, hK, hD0, hE⟩ := hv
  have hx := B.exec
  have hb := B.bytes
  have hr := B.returns
  have hts := atoms_spec (ws := wsMX11_theSolver_0) B.pre
  have hown : s.vm.findClass RX11 = some m.cls := findClass_of_methodNamed B.named
  have hlocks := B.notSynchronized
  subst hsz
  have hD := hD0.self (sz := s.heap.size)
  generalize hAe : va_A (WX hX aX kX hT hM fX_ready fX_sheet dX_sheet nX_sheet iX_sheetLength xX_reader .null xX_prover xX_values xX_clauses xX_nets) s.heap.size = A at hD hE ⊢
  have hA : ∀ q : Nat, s.heap.size ≤ q → A q := fun q h => by rw [← hAe]; exact Or.inr h
  have hS : va_S A s.heap s.heap [] := va_S.rf
  have hl := lv_entry ([.ref (hX 0)]) (n := 1) (Nat.le_of_ble_eq_true rfl)
  rw [lg_entry_eq]
  generalize (lg_sl ([.ref (hX 0)]) ++ List.replicate (1 - (lg_sl ([.ref (hX 0)])).length) Slot.unset).toArray = ls at hl ⊢
  have hl : lv_has ls 1 [(0, .ref (hX 0))] := hl
  refine lv_aload_n hx hb dX11_theSolver_0 rfl (lv_at hl 0 rfl) ?_
  refine va_get (D := (dC, dI)) (ci := 11) (v := .null) (C := RX11) (T := TX11) (N := 11) hx hb hts iwsMX11_theSolver_0_in11 hown hK hP 0 rfl rfl 6 (by decide) (hts _ hm_m_X11_theSolver_0_0) (fun _ h9 => h9) rfl dX11_theSolver_1 ?_
  refine lv_ifnonnullN hx hb dX11_theSolver_4 ?_
  refine lv_aload_n hx hb dX11_theSolver_7 rfl (lv_at hl 0 rfl) ?_
  refine va_new (ci := 5) (fs := [.null, .null, .int 0, .int 0, .int 0, .int 0, .null, .null, .null, .null, .null, .null, .null, .null, .null, .null, .null, .null, .null]) (C := RX5) (T := TX5) (N := 19) hx hb hts iwsMX11_theSolver_0_in5 tyX5 tyX5_ok hown (hts (.classLink RX11 53 RX5) (by decide +kernel)) (hts (.instantiable RX5 19) (by decide +kernel)) (hts _ hm_m_X11_theSolver_0_1) hK hP hD hS hA rfl (by decide +kernel) (by decide +kernel) (by decide +kernel) dX11_theSolver_8 (fun qo1 H hP hD hS => ?_)
  obtain ⟨hO, rfl⟩ : ∃ h9 : Nat → Nat, qo1 = h9 0 := ⟨fun _ => qo1, rfl⟩
  have hP : va_P (dC, dI) vwCl (WX hX aX kX hT hM fX_ready fX_sheet dX_sheet nX_sheet iX_sheetLength xX_reader .null xX_prover xX_values xX_clauses xX_nets ++ ([(hO 0, .inr (5, [.null, .null, .int 0, .int 0, .int 0, .int 0, .null, .null, .null, .null, .null, .null, .null, .null, .null, .null, .null, .null, .null]))])) H := by first | exact hP | (simp only [List.append_assoc] at hP ⊢; exact hP)
  have hD : va_D A (WX hX aX kX hT hM fX_ready fX_sheet dX_sheet nX_sheet iX_sheetLength xX_reader .null xX_prover xX_values xX_clauses xX_nets ++ ([(hO 0, .inr (5, [.null, .null, .int 0, .int 0, .int 0, .int 0, .null, .null, .null, .null, .null, .null, .null, .null, .null, .null, .null, .null, .null]))])) := by first | exact hD | (simp only [List.append_assoc] at hD ⊢; exact hD)
  refine W.widen (k := 1) (n := 19) (by decide +kernel) (by decide +kernel) ?_
  refine lv_dup hx hb dX11_theSolver_11 rfl ?_
  refine lv_aload_n hx hb dX11_theSolver_12 rfl (lv_at hl 0 rfl) ?_
  refine va_get (D := (dC, dI)) (ci := 11) (v := .ref (hM 0)) (C := RX11) (T := TX11) (N := 11) hx hb hts iwsMX11_theSolver_0_in11 hown hK hP 0 rfl rfl 2 (by decide) (hts (.fieldLink RX11 23 "OptimaWorks" "model" "LOptimaWorks$Model;") (by decide +kernel)) (fun _ h9 => h9) rfl dX11_theSolver_13 ?_
  have p9 : List.Perm (α := Nat × va_E) (WX hX aX kX hT hM fX_ready fX_sheet dX_sheet nX_sheet iX_sheetLength xX_reader .null xX_prover xX_values xX_clauses xX_nets ++ ([(hO 0, .inr (5, [.null, .null, .int 0, .int 0, .int 0, .int 0, .null, .null, .null, .null, .null, .null, .null, .null, .null, .null, .null, .null, .null]))])) (([(hO 0, .inr (5, [.null, .null, .int 0, .int 0, .int 0, .int 0, .null, .null, .null, .null, .null, .null, .null, .null, .null, .null, .null, .null, .null]))]) ++ (WX hX aX kX hT hM fX_ready fX_sheet dX_sheet nX_sheet iX_sheetLength xX_reader .null xX_prover xX_values xX_clauses xX_nets)) := (List.perm_append_comm)
  have hPc := hP.mem (fun q h => p9.mem_iff.mpr (List.mem_append_left _ h))
  have hDc := (hD.perm p9).left
  have hKc : va_K (dC, dI) vwCl (tO kO ++ (tQ kQ ++ (tW kw))) _ := hK.sub [2, 3, 4, 5, 6, 7, 8, 9, 10, 11, 12, 13, 14, 15, 16] rfl
  have hFc := freeG p9 hD hS hA
  refine va_callv (va_runI (As := [.ref (hM 0)]) (rest := [.ref (hO 0), .ref (hX 0)]) ⟨hx, hb, hml, hown, hts⟩ (k_X5_init l dC dI hO hM kO kQ kw H.size) (cwI 1 hts gwsMX11_theSolver_0_0 rfl rfl rfl (hts _ hm_m_X11_theSolver_0_1) (hts (.methodLink RX11 197 yX5_init) (by decide +kernel)) (hts (.instanceMethod yX5_init) (by decide +kernel)) rfl (by decide +kernel) ⟨by decide +kernel, by decide +kernel⟩) ⟨fun a U g mk q => by obtain ⟨q0, q1, qP, qK, qD, qE⟩ := q; exact ⟨q0, q1, qP, va_K.moved (u := U) (U := U.calling g mk a) (Vm.Alike.refl U.vm) qK, qD, qE.call⟩, fun U hU9 hW => ⟨rfl, by rw [hU9], by rw [hU9]; exact hPc, va_K.moved hW.alike hKc, hDc.weaken (fun _ _ _ _ => trivial), by rw [hU9]; exact (((hE : CE A s s.heap).kept hS.2.1).narrow (fun q h => hFc q h)).warm hW⟩⟩ rfl rfl hl.1 rfl (lv_room (Nat.le_of_ble_eq_true rfl)) dX11_theSolver_16 (by decide +kernel)) hS (fun q _ h => hFc q h) hFc (fun u t9_ H1 locs ht hvm hw9 hB9 hz1 hk1 hS => ?_)
  revert u hw9 hB9
  refine fz_p5 ?_
  intro aO hQ aQ hw lw hw9 hB9
  try dsimp only at hB9
  clear hw9
  revert hB9
  refine fz_a2 ?_
  intro hP1 hD1
  rw [ht] at hP1
  obtain ⟨nW, hnW9⟩ : ∃ n9 : Nat, n9 = 432 := ⟨_, rfl⟩
  rw [← hnW9] at hP1 hD1
  have p8 : List.Perm (α := Nat × va_E) (WX hX aX kX hT hM fX_ready fX_sheet dX_sheet nX_sheet iX_sheetLength xX_reader .null xX_prover xX_values xX_clauses xX_nets ++ (WO hO aO kO hM hQ hw 0 0 0 (-1) (fun _ => 0) (fun _ => 0) (fun _ => 0) (fun _ => 0) (fun _ => 0) (fun _ => 0) ++ (WQ hQ aQ kQ hw (fun _ => 0) (fun _ => 0) (fun _ => 0) 0 0 0 ++ (WW nW hw lw kw (fun _ => 0) (fun _ => 0) (fun _ _ => 0))))) ((WO hO aO kO hM hQ hw 0 0 0 (-1) (fun _ => 0) (fun _ => 0) (fun _ => 0) (fun _ => 0) (fun _ => 0) (fun _ => 0) ++ (WQ hQ aQ kQ hw (fun _ => 0) (fun _ => 0) (fun _ => 0) 0 0 0 ++ (WW nW hw lw kw (fun _ => 0) (fun _ => 0) (fun _ _ => 0)))) ++ (WX hX aX kX hT hM fX_ready fX_sheet dX_sheet nX_sheet iX_sheetLength xX_reader .null xX_prover xX_values xX_clauses xX_nets)) := (((((List.Perm.append_left _ ((List.Perm.append_left _ (List.perm_append_comm)).trans (List.perm_append_comm_assoc _ _ _))).trans (List.perm_append_comm_assoc _ _ _)).trans ((List.Perm.append_left _ ((List.Perm.append_left _ (List.perm_append_comm)).trans (List.perm_append_comm_assoc _ _ _))).trans (List.perm_append_comm_assoc _ _ _))).trans ((List.Perm.append_left _ ((List.Perm.append_left _ (List.perm_append_comm)).trans (List.perm_append_comm_assoc _ _ _))).trans (List.perm_append_comm_assoc _ _ _))).trans (List.Perm.of_eq (by simp only [List.append_assoc])))
  obtain ⟨hP, hD⟩ := frameG p9 p8 hP hD hk1 hFc hP1 hD1
  generalize H1 = H at hP hS ⊢
  clear p9 p8 hPc hDc hKc hFc
  have hP : va_P (dC, dI) vwCl (WX hX aX kX hT hM fX_ready fX_sheet dX_sheet nX_sheet iX_sheetLength xX_reader .null xX_prover xX_values xX_clauses xX_nets ++ (WO hO aO kO hM hQ hw 0 0 0 (-1) (fun _ => 0) (fun _ => 0) (fun _ => 0) (fun _ => 0) (fun _ => 0) (fun _ => 0) ++ (WQ hQ aQ kQ hw (fun _ => 0) (fun _ => 0) (fun _ => 0) 0 0 0 ++ (WW nW hw lw kw (fun _ => 0) (fun _ => 0) (fun _ _ => 0))))) H := hP
  have hD := fz_sd hP (hD) rfl
  refine W.widen (k := 880) (n := 8040) (by decide +kernel) (by decide +kernel) ?_
  refine va_put (D := (dC, dI)) (ci := 11) (v := .ref (hO 0)) (ty := .object "OptimaWorks$Solver") (C := RX11) (T := TX11) (N := 11) hx hb hts iwsMX11_theSolver_0_in11 tyX11 tyX11_ok nmX11 hown hK hP hD hS 0 rfl rfl 6 (by decide) (hts _ hm_m_X11_theSolver_0_0) (fun _ h9 => h9) rfl (by decide +kernel) rfl rfl (Nat.le_of_ble_eq_true rfl) dX11_theSolver_19 (fun H locs hP hD hS => ?_)
  have hP : va_P (dC, dI) vwCl (WX hX aX kX hT hM fX_ready fX_sheet dX_sheet nX_sheet iX_sheetLength xX_reader (.ref (hO 0)) xX_prover xX_values xX_clauses xX_nets ++ (WO hO aO kO hM hQ hw 0 0 0 (-1) (fun _ => 0) (fun _ => 0) (fun _ => 0) (fun _ => 0) (fun _ => 0) (fun _ => 0) ++ (WQ hQ aQ kQ hw (fun _ => 0) (fun _ => 0) (fun _ => 0) 0 0 0 ++ (WW nW hw lw kw (fun _ => 0) (fun _ => 0) (fun _ _ => 0))))) H := hP
  have hD := fz_sd hP (hD) rfl
  refine lv_aload_n hx hb dX11_theSolver_22 rfl (lv_at hl 0 rfl) ?_
  refine va_get (D := (dC, dI)) (ci := 11) (v := .ref (hO 0)) (C := RX11) (T := TX11) (N := 11) hx hb hts iwsMX11_theSolver_0_in11 hown hK hP 0 rfl rfl 6 (by decide) (hts _ hm_m_X11_theSolver_0_0) (fun _ h9 => h9) rfl dX11_theSolver_23 ?_
  rw [hnW9] at hP hD
  refine W.widen (k := 880) (n := 8040) (by decide +kernel) (by decide +kernel) ?_
  exact W.aret hx hb hr (Or.inl ⟨_, rfl⟩) (Or.inr ⟨_, rfl⟩) (fun t9_ ht hW => ⟨⟨(hO, aO, hQ, aQ, hw, lw), _, rfl, trivial, rfl, by rw [ht]; exact hP, hD⟩, hS.F ht⟩) hS.2.2 dX11_theSolver_26
def wsMX11_solve_0 : List Cond := .code yX11_solve cX11_solve 2 (some .boolean) :: ([] ++ (wsV RX11 135 RX11 yX11_needModel wsMX11_needModel) ++ (wsV RX11 162 RX11 yX11_theSolver wsMX11_theSolver_0) ++ (wsV RX11 166 RX5 yX5_findAnswer wsMX5_findAnswer))
theorem gwsMX11_solve_0_0 : GoodIn wsMX11_solve_0 (wsV RX11 135 RX11 yX11_needModel wsMX11_needModel) := goodIn_sub (fun _ h => List.mem_cons_of_mem _ (List.mem_append_left _ (List.mem_append_left _ (List.mem_append_right _ h)))) (gdV (by decide +kernel) gdwsMX11_needModel)
theorem gwsMX11_solve_0_1 : GoodIn wsMX11_solve_0 (wsV RX11 162 RX11 yX11_theSolver wsMX11_theSolver_0) := goodIn_sub (fun _ h => List.mem_cons_of_mem _ (List.mem_append_left _ (List.mem_append_right _ h))) (gdV (by decide +kernel) gdwsMX11_theSolver_0)
theorem gwsMX11_solve_0_2 : GoodIn wsMX11_solve_0 (wsV RX11 166 RX5 yX5_findAnswer wsMX5_findAnswer) := goodIn_sub (fun _ h => List.mem_cons_of_mem _ (List.mem_append_right _ h)) (gdV (by decide +kernel) gdwsMX5_findAnswer)
theorem gdwsMX11_solve_0 : wsMX11_solve_0.all goodWord = true := gdC rfl (gdA (gdA (gdA (by decide +kernel : ([] : List Cond).all goodWord = true) (gdV (by decide +kernel) gdwsMX11_needModel)) (gdV (by decide +kernel) gdwsMX11_theSolver_0)) (gdV (by decide +kernel) gdwsMX5_findAnswer))
set_option maxHeartbeats 4000000 in
set_option maxRecDepth 100000 in
/-- an answer -/
theorem m_X11_solve_0 (l : Launch) (hst : l.stackTraces = false) (dC : Nat → ClassId) (dI : Nat → Nat → Nat) (hX : Nat → Nat) (aX : Nat → Nat) (kX : Nat → ClassId) (hT : Nat → Nat) (hM : Nat → Nat) (fX_ready : Nat → Int32) (fX_sheet : Nat → Int32) (dX_sheet : Nat) (nX_sheet : Nat) (iX_sheetLength : Int32) (xX_reader : Value) (xX_prover : Value) (xX_values : Value) (xX_clauses : Value) (xX_nets : Value) (aM : Nat → Nat) (kM : Nat → ClassId) (iM_stands : Int32) (iM_variables : Int32) (iM_rows : Int32) (iM_goals : Int32) (iM_differents : Int32) (iM_cases : Int32) (fM_from : Nat → Int32) (fM_to : Nat → Int32) (fM_whole : Nat → Int32) (fM_ways : Nat → Int32) (iM_plainRows : Int32) (fM_plainRow : Nat → Int32) (fM_kept : Nat → Int32) (fM_goalOver : Nat → Int32) (fM_goalUnder : Nat → Int32) (fM_goalMax : Nat → Int32) (fM_different : Nat → Int32) (kO : Nat → ClassId) (kQ : Nat → ClassId) (kw : ClassId) (p1 : Int32) (b_fX_sheet : ∀ q : Nat, (-128) ≤ (fX_sheet q).toInt ∧ (fX_sheet q).toInt ≤ 127) (b_nX_sheet : 64 ≤ nX_sheet ∧ nX_sheet ≤ 60000) (b_iX_sheetLength : 0 ≤ iX_sheetLength.toInt ∧ iX_sheetLength.toInt ≤ 30000) (b_shl : iX_sheetLength.toInt ≤ ((nX_sheet : Nat) : Int)) (b_iM_stands : 0 ≤ iM_stands.toInt ∧ iM_stands.toInt ≤ 1) (b_iM_variables : 0 ≤ iM_variables.toInt ∧ iM_variables.toInt ≤ 8) (b_iM_rows : 0 ≤ iM_rows.toInt ∧ iM_rows.toInt ≤ 12) (b_iM_goals : 0 ≤ iM_goals.toInt ∧ iM_goals.toInt ≤ 3) (b_iM_differents : 0 ≤ iM_differents.toInt ∧ iM_differents.toInt ≤ 8) (b_iM_cases : 0 ≤ iM_cases.toInt ∧ iM_cases.toInt ≤ 200000) (b_fM_ways : ∀ q : Nat, 0 ≤ (fM_ways q).toInt ∧ (fM_ways q).toInt ≤ 3) (b_iM_plainRows : 0 ≤ iM_plainRows.toInt ∧ iM_plainRows.toInt ≤ 12) (b_fM_plainRow : ∀ q : Nat, 0 ≤ (fM_plainRow q).toInt ∧ (fM_plainRow q).toInt ≤ 11) (b_pr : iM_plainRows.toInt ≤ iM_rows.toInt) (b_p1 : 0 ≤ p1.toInt ∧ p1.toInt ≤ 1) (sz : Nat) : vx_Met l yX11_solve wsMX11_solve_0 ({ frames := 8, cells := 880, slots := 8040, locals := 201 }) (va_Pc [.ref (hX 0), .int p1] (fun U => U.heap.size = sz ∧ va_P (dC, dI) vwCl (WX hX aX kX hT hM fX_ready fX_sheet dX_sheet nX_sheet iX_sheetLength xX_reader .null xX_prover xX_values xX_clauses xX_nets ++ (WM hM aM kM iM_stands iM_variables iM_rows iM_goals iM_differents iM_cases fM_from fM_to fM_whole fM_ways iM_plainRows fM_plainRow fM_kept fM_goalOver fM_goalUnder fM_goalMax fM_different)) U.heap ∧ va_K (dC, dI) vwCl (tX kX ++ (tM kM ++ (tO kO ++ (tQ kQ ++ (tW kw))))) U ∧ va_D (fun _ => True) (WX hX aX kX hT hM fX_ready fX_sheet dX_sheet nX_sheet iX_sheetLength xX_reader .null xX_prover xX_values xX_clauses xX_nets ++ (WM hM aM kM iM_stands iM_variables iM_rows iM_goals iM_differents iM_cases fM_from fM_to fM_whole fM_ways iM_plainRows fM_plainRow fM_kept fM_goalOver fM_goalUnder fM_goalMax fM_different)) ∧ CE (va_A (WX hX aX kX hT hM fX_ready fX_sheet dX_sheet nX_sheet iX_sheetLength xX_reader .null xX_prover xX_values xX_clauses xX_nets ++ (WM hM aM kM iM_stands iM_variables iM_rows iM_goals iM_differents iM_cases fM_from fM_to fM_whole fM_ways iM_plainRows fM_plainRow fM_kept fM_goalOver fM_goalUnder fM_goalMax fM_different)) sz) U U.heap)) (va_Qi (fun (r : Int32) (u : (Value) × (va_W)) => (0 ≤ r.toInt ∧ r.toInt ≤ 1) ∧ (SolO kO kQ kw hM (u.1) (u.2))) (fun (u : (Value) × (va_W)) t => va_P (dC, dI) vwCl (WX hX aX kX hT hM fX_ready fX_sheet dX_sheet nX_sheet iX_sheetLength xX_reader (u.1) xX_prover xX_values xX_clauses xX_nets ++ (WM hM aM kM iM_stands iM_variables iM_rows iM_goals iM_differents iM_cases fM_from fM_to fM_whole fM_ways iM_plainRows fM_plainRow fM_kept fM_goalOver fM_goalUnder fM_goalMax fM_different ++ ((u.2)))) t.heap ∧ va_D (va_A (WX hX aX kX hT hM fX_ready fX_sheet dX_sheet nX_sheet iX_sheetLength xX_reader .null xX_prover xX_values xX_clauses xX_nets ++ (WM hM aM kM iM_stands iM_variables iM_rows iM_goals iM_differents iM_cases fM_from fM_to fM_whole fM_ways iM_plainRows fM_plainRow fM_kept fM_goalOver fM_goalUnder fM_goalMax fM_different)) sz) (WX hX aX kX hT hM fX_ready fX_sheet dX_sheet nX_sheet iX_sheetLength xX_reader (u.1) xX_prover xX_values xX_clauses xX_nets ++ (WM hM aM kM iM_stands iM_variables iM_rows iM_goals iM_differents iM_cases fM_from fM_to fM_whole fM_ways iM_plainRows fM_plainRow fM_kept fM_goalOver fM_goalUnder fM_goalMax fM_different ++ ((u.2))))) (va_A (WX hX aX kX hT hM fX_ready fX_sheet dX_sheet nX_sheet iX_sheetLength xX_reader .null xX_prover xX_values xX_clauses xX_nets ++ (WM hM aM kM iM_stands iM_variables iM_rows iM_goals iM_differents iM_cases fM_from fM_to fM_whole fM_ways iM_plainRows fM_plainRow fM_kept fM_goalOver fM_goalUnder fM_goalMax fM_different)) sz)) (vx_X (fun (u : (Value) × (va_W)) => (SolO kO kQ kw hM (u.1) (u.2))) (fun E (u : (Value) × (va_W)) t => (E = "java/lang/IllegalStateException") ∧ va_P (dC, dI) vwCl (WX hX aX kX hT hM fX_ready fX_sheet dX_sheet nX_sheet iX_sheetLength xX_reader (u.1) xX_prover xX_values xX_clauses xX_nets ++ (WM hM aM kM iM_stands iM_variables iM_rows iM_goals iM_differents iM_cases fM_from fM_to fM_whole fM_ways iM_plainRows fM_plainRow fM_kept fM_goalOver fM_goalUnder fM_goalMax fM_different ++ ((u.2)))) t.heap ∧ va_D (va_A (WX hX aX kX hT hM fX_ready fX_sheet dX_sheet nX_sheet iX_sheetLength xX_reader .null xX_prover xX_values xX_clauses xX_nets ++ (WM hM aM kM iM_stands iM_variables iM_rows iM_goals iM_differents iM_cases fM_from fM_to fM_whole fM_ways iM_plainRows fM_plainRow fM_kept fM_goalOver fM_goalUnder fM_goalMax fM_different)) sz) (WX hX aX kX hT hM fX_ready fX_sheet dX_sheet nX_sheet iX_sheetLength xX_reader (u.1) xX_prover xX_values xX_clauses xX_nets ++ (WM hM aM kM iM_stands iM_variables iM_rows iM_goals iM_differents iM_cases fM_from fM_to fM_whole fM_ways iM_plainRows fM_plainRow fM_kept fM_goalOver fM_goalUnder fM_goalMax fM_different ++ ((u.2))))) (va_A (WX hX aX kX hT hM fX_ready fX_sheet dX_sheet nX_sheet iX_sheetLength xX_reader .null xX_prover xX_values xX_clauses xX_nets ++ (WM hM aM kM iM_stands iM_variables iM_rows iM_goals iM_differents iM_cases fM_from fM_to fM_whole fM_ways iM_plainRows fM_plainRow fM_kept fM_goalOver fM_goalUnder fM_goalMax fM_different)) sz)) 880 8040 (va_A (WX hX aX kX hT hM fX_ready fX_sheet dX_sheet nX_sheet iX_sheetLength xX_reader .null xX_prover xX_values xX_clauses xX_nets ++ (WM hM aM kM iM_stands iM_variables iM_rows iM_goals iM_differents iM_cases fM_from fM_to fM_whole fM_ways iM_plainRows fM_plainRow fM_kept fM_goalOver fM_goalUnder fM_goalMax fM_different)) sz) := by
  refine vx_ofW (cc := cX11_solve) (maxL := 2) (ret := (some .boolean)) (by decide) rfl ?_
  intro p e s m args below meth c s₁ B hml htab hv
  obtain ⟨rfl, hsz, hP, hK, hD0, hE⟩ := hv
  have hx := B.exec
  have hb := B.bytes
  have hr := B.returns
  have hts := atoms_spec (ws := wsMX11_solve_0) B.pre
  have hown : s.vm.findClass RX11 = some m.cls := findClass_of_methodNamed B.named
  have hlocks := B.notSynchronized
  subst hsz
  have hD := hD0.self (sz := s.heap.size)
  generalize hAe : va_A (WX hX aX kX hT hM fX_ready fX_sheet dX_sheet nX_sheet iX_sheetLength xX_reader .null xX_prover xX_values xX_clauses xX_nets ++ (WM hM aM kM iM_stands iM_variables iM_rows iM_goals iM_differents iM_cases fM_from fM_to fM_whole fM_ways iM_plainRows fM_plainRow fM_kept fM_goalOver fM_goalUnder fM_goalMax fM_different)) s.heap.size = A at hD hE ⊢
  have hA : ∀ q : Nat, s.heap.size ≤ q → A q := fun q h => by rw [← hAe]; exact Or.inr h
  have hS : va_S A s.heap s.heap [] := va_S.rf
  have hl := lv_entry ([.ref (hX 0), .int p1]) (n := 2) (Nat.le_of_ble_eq_true rfl)
  rw [lg_entry_eq]
  generalize (lg_sl ([.ref (hX 0), .int p1]) ++ List.replicate (2 - (lg_sl ([.ref (hX 0), .int p1])).length) Slot.unset).toArray = ls at hl ⊢
  have hl : lv_has ls 2 [(0, .ref (hX 0)), (1, .int p1)] := hl
  refine lv_aload_n hx hb dX11_solve_0 rfl (lv_at hl 0 rfl) ?_
  refine W.known (fun hz0 _ => ?_)
  have hFc := allFree hD hS hA
  have hKc : va_K (dC, dI) vwCl (tX kX ++ (tM kM)) _ := hK.sub [0, 1, 2, 3, 4, 5, 6, 7, 8, 9, 10, 11] rfl
  refine vx_callv (vx_runV (As := []) (rest := []) ⟨hx, hb, hml, hown, hts⟩ (m_X11_needModel l hst dC dI hX aX kX hT hM fX_ready fX_sheet dX_sheet nX_sheet iX_sheetLength xX_reader .null xX_prover xX_values xX_clauses xX_nets aM kM iM_stands iM_variables iM_rows iM_goals iM_differents iM_cases fM_from fM_to fM_whole fM_ways iM_plainRows fM_plainRow fM_kept fM_goalOver fM_goalUnder fM_goalMax fM_different b_fX_sheet (by first | exact b_nX_sheet | with_reducible assumption | exact ⟨by omega, by omega⟩ | assumption) (b_iX_sheetLength) (by first | with_reducible assumption | omega | assumption) (b_iM_stands) (b_iM_variables) (b_iM_rows) (b_iM_goals) (b_iM_differents) (b_iM_cases) b_fM_ways (b_iM_plainRows) b_fM_plainRow (by first | with_reducible assumption | omega | assumption) s.heap.size) (cwV 0 hts gwsMX11_solve_0_0 rfl rfl rfl hd_yX11_needModel_RX11 (by decide +kernel)) (fz_preE (va_recv hK hP (ci := 11) (q0 := 0) rfl rfl) hP hKc hD (fun a U g mk qE => qE.call) (fun U hU9 hW => by rw [hU9]; exact (((hE : CE A s s.heap).kept hS.2.1).narrow (fun q h => hFc q h)).warm hW)) rfl rfl hl.1 rfl (lv_room (Nat.le_of_ble_eq_true rfl)) dX11_solve_1 (by decide +kernel)) hS (fun q _ h => hFc q h) hFc (fun q _ h => hFc q h) (fun E ce q9 u t9_ H locs ht hvm hw9 hB9 hz1 hk1 hS hc1 hc2 hc3 => ?_) (fun u t9_ H locs ht hvm hw9 hB9 hz1 hk1 hS => ?_)
  · revert hB9
    refine fz_a2 ?_
    intro hEx hB9
    clear hw9
    have hP : va_P (dC, dI) vwCl (WX hX aX kX hT hM fX_ready fX_sheet dX_sheet nX_sheet iX_sheetLength xX_reader .null xX_prover xX_values xX_clauses xX_nets ++ (WM hM aM kM iM_stands iM_variables iM_rows iM_goals iM_differents iM_cases fM_from fM_to fM_whole fM_ways iM_plainRows fM_plainRow fM_kept fM_goalOver fM_goalUnder fM_goalMax fM_different)) H := fz_P ht hB9.1
    have hD := fz_sd hP (hB9.2.weaken (fun _ q _ h => hFc q.1 h)) rfl
    exact vx_out (fun x hx9 => (htab x hx9).elim) hlocks hc1 hc2 hc3 (fun t9_ ht hvm => ⟨(.null, ([])), (by (try dsimp only); exact Or.inl ⟨rfl, rfl⟩), ⟨(by have h9 := hEx; exact h9), by rw [ht]; first | exact hP | (simp only [List.append_nil]; exact hP), by first | exact hD | (simp only [List.append_nil]; exact hD)⟩, hS.F ht⟩) hS.2.2 (by decide +kernel) (by decide +kernel)
  have f1_0 := hw9
  try dsimp only at f1_0
  have hz8 := hB9.2.2
  rw [ht] at hz8
  have hz9 : H.size ≤ s.heap.size + 0 := by rw [hz8]; exact hz0
  refine W.tight (cells2 := 0) (slots2 := 0) hz9 (nS_0 hz9) ?_
  clear hz8 hz9
  have hP : va_P (dC, dI) vwCl (WX hX aX kX hT hM fX_ready fX_sheet dX_sheet nX_sheet iX_sheetLength xX_reader .null xX_prover xX_values xX_clauses xX_nets ++ (WM hM aM kM iM_stands iM_variables iM_rows iM_goals iM_differents iM_cases fM_from fM_to fM_whole fM_ways iM_plainRows fM_plainRow fM_kept fM_goalOver fM_goalUnder fM_goalMax fM_different)) H := fz_P ht hB9.1
  have hD := fz_sd hP (hB9.2.1.weaken (fun _ q _ h => hFc q.1 h)) rfl
  refine lv_aload_n hx hb dX11_solve_4 rfl (lv_at hl 0 rfl) ?_
  have p9 : List.Perm (WX hX aX kX hT hM fX_ready fX_sheet dX_sheet nX_sheet iX_sheetLength xX_reader .null xX_prover xX_values xX_clauses xX_nets ++ (WM hM aM kM iM_stands iM_variables iM_rows iM_goals iM_differents iM_cases fM_from fM_to fM_whole fM_ways iM_plainRows fM_plainRow fM_kept fM_goalOver fM_goalUnder fM_goalMax fM_different)) ((WX hX aX kX hT hM fX_ready fX_sheet dX_sheet nX_sheet iX_sheetLength xX_reader .null xX_prover xX_values xX_clauses xX_nets) ++ (WM hM aM kM iM_stands iM_variables iM_rows iM_goals iM_differents iM_cases fM_from fM_to fM_whole fM_ways iM_plainRows fM_plainRow fM_kept fM_goalOver fM_goalUnder fM_goalMax fM_different)) := (List.Perm.refl _)
  have hPc := hP.mem (fun q h => p9.mem_iff.mpr (List.mem_append_left _ h))
  have hDc := (hD.perm p9).left
  have hKc : va_K (dC, dI) vwCl (tX kX ++ (tO kO ++ (tQ kQ ++ (tW kw)))) _ := hK.sub [0, 1, 12, 13, 14, 15, 16, 17, 18, 19, 20, 21, 22, 23, 24, 25, 26] rfl
  have hFc := freeG p9 hD hS hA
  refine va_callr (va_runV (As := []) (rest := []) ⟨hx, hb, hml, hown, hts⟩ (m_X11_theSolver_0 l hst dC dI hX aX kX hT hM fX_ready fX_sheet dX_sheet nX_sheet iX_sheetLength xX_reader xX_prover xX_values xX_clauses xX_nets kO kQ kw b_fX_sheet (by first | exact b_nX_sheet | with_reducible assumption | exact ⟨by omega, by omega⟩ | assumption) (b_iX_sheetLength) (by first | with_reducible assumption | omega | assumption) H.size) (cwV 0 hts gwsMX11_solve_0_1 rfl rfl rfl hd_yX11_theSolver_RX11 (by decide +kernel)) (fz_preE (va_recv hK hP (ci := 11) (q0 := 0) rfl rfl) hPc hKc hDc (fun a U g mk qE => qE.call) (fun U hU9 hW => by rw [hU9]; exact (((hE : CE A s s.heap).kept hS.2.1).narrow (fun q h => hFc q h)).warm hW)) rfl rfl hl.1 rfl (lv_room (Nat.le_of_ble_eq_true rfl)) dX11_solve_5 (by decide +kernel)) hS (fun q _ h => hFc q h) hFc (fun u ra2 t9_ H1 locs ht hvm hw9 hB9 hz1 hk1 hS => ?_)
  revert u hw9 hB9
  refine fz_p6 ?_
  intro hO aO hQ aQ hw lw hw9 hB9
  try dsimp only at hw9 hB9
  revert hB9
  refine fz_a2 ?_
  intro hra hB9
  subst hra
  clear hw9
  revert hB9
  refine fz_a2 ?_
  intro hP1 hD1
  rw [ht] at hP1
  obtain ⟨nW, hnW9⟩ : ∃ n9 : Nat, n9 = 432 := ⟨_, rfl⟩
  rw [← hnW9] at hP1 hD1
  have p8 : List.Perm (α := Nat × va_E) (WX hX aX kX hT hM fX_ready fX_sheet dX_sheet nX_sheet iX_sheetLength xX_reader (.ref (hO 0)) xX_prover xX_values xX_clauses xX_nets ++ (WM hM aM kM iM_stands iM_variables iM_rows iM_goals iM_differents iM_cases fM_from fM_to fM_whole fM_ways iM_plainRows fM_plainRow fM_kept fM_goalOver fM_goalUnder fM_goalMax fM_different ++ (WO hO aO kO hM hQ hw 0 0 0 (-1) (fun _ => 0) (fun _ => 0) (fun _ => 0) (fun _ => 0) (fun _ => 0) (fun _ => 0) ++ (WQ hQ aQ kQ hw (fun _ => 0) (fun _ => 0) (fun _ => 0) 0 0 0 ++ (WW nW hw lw kw (fun _ => 0) (fun _ => 0) (fun _ _ => 0)))))) ((WX hX aX kX hT hM fX_ready fX_sheet dX_sheet nX_sheet iX_sheetLength xX_reader (.ref (hO 0)) xX_prover xX_values xX_clauses xX_nets ++ (WO hO aO kO hM hQ hw 0 0 0 (-1) (fun _ => 0) (fun _ => 0) (fun _ => 0) (fun _ => 0) (fun _ => 0) (fun _ => 0) ++ (WQ hQ aQ kQ hw (fun _ => 0) (fun _ => 0) (fun _ => 0) 0 0 0 ++ (WW nW hw lw kw (fun _ => 0) (fun _ => 0) (fun _ _ => 0))))) ++ (WM hM aM kM iM_stands iM_variables iM_rows iM_goals iM_differents iM_cases fM_from fM_to fM_whole fM_ways iM_plainRows fM_plainRow fM_kept fM_goalOver fM_goalUnder fM_goalMax fM_different)) := ((((((List.Perm.append_left _ ((List.Perm.append_left _ ((List.Perm.append_left _ (List.perm_append_comm)).trans (List.perm_append_comm_assoc _ _ _))).trans (List.perm_append_comm_assoc _ _ _))).trans (List.perm_append_comm_assoc _ _ _)).trans ((List.Perm.append_left _ ((List.Perm.append_left _ ((List.Perm.append_left _ (List.perm_append_comm)).trans (List.perm_append_comm_assoc _ _ _))).trans (List.perm_append_comm_assoc _ _ _))).trans (List.perm_append_comm_assoc _ _ _))).trans ((List.Perm.append_left _ ((List.Perm.append_left _ ((List.Perm.append_left _ (List.perm_append_comm)).trans (List.perm_append_comm_assoc _ _ _))).trans (List.perm_append_comm_assoc _ _ _))).trans (List.perm_append_comm_assoc _ _ _))).trans ((List.Perm.append_left _ ((List.Perm.append_left _ (List.perm_append_comm_assoc _ _ _)).trans (List.perm_append_comm_assoc _ _ _))).trans (List.perm_append_comm_assoc _ _ _))).trans (List.Perm.of_eq (by simp only [List.append_assoc])))
  obtain ⟨hP, hD⟩ := frameG p9 p8 hP hD hk1 hFc hP1 hD1
  clear p8 p9
  generalize H1 = H at hP hS ⊢
  have hP : va_P (dC, dI) vwCl (WX hX aX kX hT hM fX_ready fX_sheet dX_sheet nX_sheet iX_sheetLength xX_reader (.ref (hO 0)) xX_prover xX_values xX_clauses xX_nets ++ (WM hM aM kM iM_stands iM_variables iM_rows iM_goals iM_differents iM_cases fM_from fM_to fM_whole fM_ways iM_plainRows fM_plainRow fM_kept fM_goalOver fM_goalUnder fM_goalMax fM_different ++ (WO hO aO kO hM hQ hw 0 0 0 (-1) (fun _ => 0) (fun _ => 0) (fun _ => 0) (fun _ => 0) (fun _ => 0) (fun _ => 0) ++ (WQ hQ aQ kQ hw (fun _ => 0) (fun _ => 0) (fun _ => 0) 0 0 0 ++ (WW nW hw lw kw (fun _ => 0) (fun _ => 0) (fun _ _ => 0)))))) H := hP
  have hD := fz_sd hP (hD) rfl
  refine W.widen (k := 880) (n := 8040) (by decide +kernel) (by decide +kernel) ?_
  have htb0 : TbO 0 0 0 := TbO.zero
  have hnW : 432 ≤ nW := by omega
  refine lv_iload_n hx hb dX11_solve_8 rfl (lv_at hl 1 rfl) ?_
  have p9 := cj_5_2_1_3_4 (WX hX aX kX hT hM fX_ready fX_sheet dX_sheet nX_sheet iX_sheetLength xX_reader (.ref (hO 0)) xX_prover xX_values xX_clauses xX_nets) (WM hM aM kM iM_stands iM_variables iM_rows iM_goals iM_differents iM_cases fM_from fM_to fM_whole fM_ways iM_plainRows fM_plainRow fM_kept fM_goalOver fM_goalUnder fM_goalMax fM_different) (WO hO aO kO hM hQ hw 0 0 0 (-1) (fun _ => 0) (fun _ => 0) (fun _ => 0) (fun _ => 0) (fun _ => 0) (fun _ => 0)) (WQ hQ aQ kQ hw (fun _ => 0) (fun _ => 0) (fun _ => 0) 0 0 0) (WW nW hw lw kw (fun _ => 0) (fun _ => 0) (fun _ _ => 0))
  have hPc := hP.mem (fun q h => p9.mem_iff.mpr (List.mem_append_left _ h))
  have hDc := (hD.perm p9).left
  have hKc : va_K (dC, dI) vwCl (tO kO ++ (tM kM ++ (tQ kQ ++ (tW kw)))) _ := hK.sub [12, 13, 14, 15, 16, 17, 18, 19, 20, 21, 2, 3, 4, 5, 6, 7, 8, 9, 10, 11, 22, 23, 24, 25, 26] rfl
  have hFc := freeG p9 hD hS hA
  refine va_calli (va_runV (As := [.int p1]) (rest := []) ⟨hx, hb, hml, hown, hts⟩ (m_X5_findAnswer l dC dI hO aO kO hM hQ hw 0 0 0 (-1) (fun _ => 0) (fun _ => 0) (fun _ => 0) (fun _ => 0) (fun _ => 0) (fun _ => 0) aM kM iM_stands iM_variables iM_rows iM_goals iM_differents iM_cases fM_from fM_to fM_whole fM_ways iM_plainRows fM_plainRow fM_kept fM_goalOver fM_goalUnder fM_goalMax fM_different aQ kQ (fun _ => 0) (fun _ => 0) (fun _ => 0) 0 0 0 nW lw kw (fun _ => 0) (fun _ => 0) (fun _ _ => 0) p1 (show 0 ≤ (0 : Int32).toInt ∧ (0 : Int32).toInt ≤ 1 from by decide) (show 0 ≤ (0 : Int32).toInt ∧ (0 : Int32).toInt ≤ 1 from by decide) (show 0 ≤ (0 : Int32).toInt ∧ (0 : Int32).toInt ≤ 1 from by decide) (show (-1) ≤ ((-1) : Int32).toInt ∧ ((-1) : Int32).toInt ≤ 64 from by decide) (zr_r (by decide) (by decide)) (zr_r (by decide) (by decide)) (zr_r (by decide) (by decide)) (b_iM_stands) (b_iM_variables) (b_iM_rows) (b_iM_goals) (b_iM_differents) (b_iM_cases) b_fM_ways (b_iM_plainRows) b_fM_plainRow (by first | with_reducible assumption | omega | assumption) (show 0 ≤ (0 : Int32).toInt ∧ (0 : Int32).toInt ≤ 40 from by decide) (show 0 ≤ (0 : Int32).toInt ∧ (0 : Int32).toInt ≤ 40 from by decide) (show 0 ≤ (0 : Int32).toInt ∧ (0 : Int32).toInt ≤ 40 from by decide) (by first | with_reducible assumption | omega | assumption) (zr_r (by decide) (by decide)) (zr_r (by decide) (by decide)) (b_p1) (by first | with_reducible assumption | omega | (rw [iI_t (by omega) (by omega)]; omega) | decide | assumption) H.size) (cwV 1 hts gwsMX11_solve_0_2 rfl rfl rfl hd_yX5_findAnswer_RX5 (by decide +kernel)) (fz_pre (va_recv hK hP (ci := 5) (q0 := 14) rfl rfl) hPc hKc hDc) rfl rfl hl.1 rfl (lv_room (Nat.le_of_ble_eq_true rfl)) dX11_solve_9 (by decide +kernel)) hS (fun q _ h => hFc q h) hFc (fun r3 u t9_ H locs ht hvm hw9 hB9 hz1 hk1 hS => ?_)
  revert u hw9 hB9
  refine fz_p17 ?_
  intro iO_answered_3 iO_searched_3 iO_searchedRelaxed_3 gO_goalNumber_3 gO_goalScale_3 fO_start_3 fO_column_3 fO_chosen_3 fQ_inside_3 fQ_outside_3 fQ_shut_3 iQ_rows_3 iQ_allRows_3 iQ_columns_3 wl_3 wb_3 wG_3 hw9 hB9
  try dsimp only at hw9 hB9
  revert hw9
  refine fz_a12 ?_
  intro b_iO_answered_3 b_iO_searched_3 b_iO_searchedRelaxed_3 b_fO_column_3 b_fO_chosen_3 b_iQ_rows_3 b_iQ_allRows_3 b_iQ_columns_3 b_wl_3 b_wb_3 b_tb_3 b_r3
  have p8 := cj_5_2_1_3_4 (WX hX aX kX hT hM fX_ready fX_sheet dX_sheet nX_sheet iX_sheetLength xX_reader (.ref (hO 0)) xX_prover xX_values xX_clauses xX_nets) (WM hM aM kM iM_stands iM_variables iM_rows iM_goals iM_differents iM_cases fM_from fM_to fM_whole fM_ways iM_plainRows fM_plainRow fM_kept fM_goalOver fM_goalUnder fM_goalMax fM_different) (WO hO aO kO hM hQ hw iO_answered_3 iO_searched_3 iO_searchedRelaxed_3 (-1) (fun _ => 0) gO_goalNumber_3 gO_goalScale_3 fO_start_3 fO_column_3 fO_chosen_3) (WQ hQ aQ kQ hw fQ_inside_3 fQ_outside_3 fQ_shut_3 iQ_rows_3 iQ_allRows_3 iQ_columns_3) (WW nW hw lw kw wl_3 wb_3 wG_3)
  obtain ⟨hP, hD⟩ := frameG p9 p8 hP hD hk1 hFc (fz_P ht hB9.1) hB9.2
  refine vx_ret ?_
  refine W.widen (k := 880) (n := 8040) (by decide +kernel) (by decide +kernel) ?_
  exact W.zret (v := r3) hx hb hr (by rcases z01 (x := r3) (by first | exact b_r3 | with_reducible assumption | exact ⟨by omega, by omega⟩ | assumption) with h9 | h9 <;> rw [h9] <;> rfl) (fun t9_ ht hW => ⟨⟨r3, ((.ref (hO 0)), (WO hO aO kO hM hQ hw iO_answered_3 iO_searched_3 iO_searchedRelaxed_3 (-1) (fun _ => 0) gO_goalNumber_3 gO_goalScale_3 fO_start_3 fO_column_3 fO_chosen_3 ++ (WQ hQ aQ kQ hw fQ_inside_3 fQ_outside_3 fQ_shut_3 iQ_rows_3 iQ_allRows_3 iQ_columns_3 ++ (WW nW hw lw kw wl_3 wb_3 wG_3)))), rfl, ⟨(by first | exact b_r3 | with_reducible assumption | exact ⟨by omega, by omega⟩ | assumption), (by (try dsimp only); exact Or.inr ⟨hO, aO, hQ, hw, iO_answered_3, iO_searched_3, iO_searchedRelaxed_3, (-1), (fun _ => 0), gO_goalNumber_3, gO_goalScale_3, fO_start_3, fO_column_3, fO_chosen_3, aQ, fQ_inside_3, fQ_outside_3, fQ_shut_3, iQ_rows_3, iQ_allRows_3, iQ_columns_3, nW, lw, wl_3, wb_3, wG_3, (b_iO_answered_3), (b_iO_searched_3), (b_iO_searchedRelaxed_3), (show (-1) ≤ ((-1) : Int32).toInt ∧ ((-1) : Int32).toInt ≤ 64 from by decide), (zr_r (by decide) (by decide)), b_fO_column_3, b_fO_chosen_3, (b_iQ_rows_3), (b_iQ_allRows_3), (b_iQ_columns_3), (by first | with_reducible assumption | omega | assumption), b_wl_3, b_wb_3, (by omega), rfl, rfl⟩)⟩, by rw [ht]; exact hP, hD⟩, hS.F ht⟩) hS.2.2 dX11_solve_12
def wsMX11_count_0 : List Cond := .code yX11_count cX11_count 1 (some .int) :: ([] ++ (wsV RX11 135 RX11 yX11_needModel wsMX11_needModel) ++ (wsV RX11 162 RX11 yX11_theSolver wsMX11_theSolver_0) ++ (wsV RX11 191 RX5 yX5_countRows wsMX5_countRows))
theorem gwsMX11_count_0_0 : GoodIn wsMX11_count_0 (wsV RX11 135 RX11 yX11_needModel wsMX11_needModel) := goodIn_sub (fun _ h => List.mem_cons_of_mem _ (List.mem_append_left _ (List.mem_append_left _ (List.mem_append_right _ h)))) (gdV (by decide +kernel) gdwsMX11_needModel)
theorem gwsMX11_count_0_1 : GoodIn wsMX11_count_0 (wsV RX11 162 RX11 yX11_theSolver wsMX11_theSolver_0) := goodIn_sub (fun _ h => List.mem_cons_of_mem _ (List.mem_append_left _ (List.mem_append_right _ h))) (gdV (by decide +kernel) gdwsMX11_theSolver_0)
theorem gwsMX11_count_0_2 : GoodIn wsMX11_count_0 (wsV RX11 191 RX5 yX5_countRows wsMX5_countRows) := goodIn_sub (fun _ h => List.mem_cons_of_mem _ (List.mem_append_right _ h)) (gdV (by decide +kernel) gdwsMX5_countRows)
theorem gdwsMX11_count_0 : wsMX11_count_0.all goodWord = true := gdC rfl (gdA (gdA (gdA (by decide +kernel : ([] : List Cond).all goodWord = true) (gdV (by decide +kernel) gdwsMX11_needModel)) (gdV (by decide +kernel) gdwsMX11_theSolver_0)) (gdV (by decide +kernel) gdwsMX5_countRows))
set_option maxHeartbeats 4000000 in
set_option maxRecDepth 100000 in
/-- rows counted -/
theorem m_X11_count_0 (l : Launch) (hst : l.stackTraces = false) (dC : Nat → ClassId) (dI : Nat → Nat → Nat) (hX : Nat → Nat) (aX : Nat → Nat) (kX : Nat → ClassId) (hT : Nat → Nat) (hM : Nat → Nat) (fX_ready : Nat → Int32) (fX_sheet : Nat → Int32) (dX_sheet : Nat) (nX_sheet : Nat) (iX_sheetLength : Int32) (xX_reader : Value) (xX_prover : Value) (xX_values : Value) (xX_clauses : Value) (xX_nets : Value) (aM : Nat → Nat) (kM : Nat → ClassId) (iM_stands : Int32) (iM_variables : Int32) (iM_rows : Int32) (iM_goals : Int32) (iM_differents : Int32) (iM_cases : Int32) (fM_from : Nat → Int32) (fM_to : Nat → Int32) (fM_whole : Nat → Int32) (fM_ways : Nat → Int32) (iM_plainRows : Int32) (fM_plainRow : Nat → Int32) (fM_kept : Nat → Int32) (fM_goalOver : Nat → Int32) (fM_goalUnder : Nat → Int32) (fM_goalMax : Nat → Int32) (fM_different : Nat → Int32) (kO : Nat → ClassId) (kQ : Nat → ClassId) (kw : ClassId) (b_fX_sheet : ∀ q : Nat, (-128) ≤ (fX_sheet q).toInt ∧ (fX_sheet q).toInt ≤ 127) (b_nX_sheet : 64 ≤ nX_sheet ∧ nX_sheet ≤ 60000) (b_iX_sheetLength : 0 ≤ iX_sheetLength.toInt ∧ iX_sheetLength.toInt ≤ 30000) (b_shl : iX_sheetLength.toInt ≤ ((nX_sheet : Nat) : Int)) (b_iM_stands : 0 ≤ iM_stands.toInt ∧ iM_stands.toInt ≤ 1) (b_iM_variables : 0 ≤ iM_variables.toInt ∧ iM_variables.toInt ≤ 8) (b_iM_rows : 0 ≤ iM_rows.toInt ∧ iM_rows.toInt ≤ 12) (b_iM_goals : 0 ≤ iM_goals.toInt ∧ iM_goals.toInt ≤ 3) (b_iM_differents : 0 ≤ iM_differents.toInt ∧ iM_differents.toInt ≤ 8) (b_iM_cases : 0 ≤ iM_cases.toInt ∧ iM_cases.toInt ≤ 200000) (b_fM_ways : ∀ q : Nat, 0 ≤ (fM_ways q).toInt ∧ (fM_ways q).toInt ≤ 3) (b_iM_plainRows : 0 ≤ iM_plainRows.toInt ∧ iM_plainRows.toInt ≤ 12) (b_fM_plainRow : ∀ q : Nat, 0 ≤ (fM_plainRow q).toInt ∧ (fM_plainRow q).toInt ≤ 11) (b_pr : iM_plainRows.toInt ≤ iM_rows.toInt) (sz : Nat) : vx_Met l yX11_count wsMX11_count_0 ({ frames := 8, cells := 880, slots := 8040, locals := 203 }) (va_Pc [.ref (hX 0)] (fun U => U.heap.size = sz ∧ va_P (dC, dI) vwCl (WX hX aX kX hT hM fX_ready fX_sheet dX_sheet nX_sheet iX_sheetLength xX_reader .null xX_prover xX_values xX_clauses xX_nets ++ (WM hM aM kM iM_stands iM_variables iM_rows iM_goals iM_differents iM_cases fM_from fM_to fM_whole fM_ways iM_plainRows fM_plainRow fM_kept fM_goalOver fM_goalUnder fM_goalMax fM_different)) U.heap ∧ va_K (dC, dI) vwCl (tX kX ++ (tM kM ++ (tO kO ++ (tQ kQ ++ (tW kw))))) U ∧ va_D (fun _ => True) (WX hX aX kX hT hM fX_ready fX_sheet dX_sheet nX_sheet iX_sheetLength xX_reader .null xX_prover xX_values xX_clauses xX_nets ++ (WM hM aM kM iM_stands iM_variables iM_rows iM_goals iM_differents iM_cases fM_from fM_to fM_whole fM_ways iM_plainRows fM_plainRow fM_kept fM_goalOver fM_goalUnder fM_goalMax fM_different)) ∧ CE (va_A (WX hX aX kX hT hM fX_ready fX_sheet dX_sheet nX_sheet iX_sheetLength xX_reader .null xX_prover xX_values xX_clauses xX_nets ++ (WM hM aM kM iM_stands iM_variables iM_rows iM_goals iM_differents iM_cases fM_from fM_to fM_whole fM_ways iM_plainRows fM_plainRow fM_kept fM_goalOver fM_goalUnder fM_goalMax fM_different)) sz) U U.heap)) (va_Qi (fun (r : Int32) (u : (Value) × (va_W)) => (SolO kO kQ kw hM (u.1) (u.2))) (fun (u : (Value) × (va_W)) t => va_P (dC, dI) vwCl (WX hX aX kX hT hM fX_ready fX_sheet dX_sheet nX_sheet iX_sheetLength xX_reader (u.1) xX_prover xX_values xX_clauses xX_nets ++ (WM hM aM kM iM_stands iM_variables iM_rows iM_goals iM_differents iM_cases fM_from fM_to fM_whole fM_ways iM_plainRows fM_plainRow fM_kept fM_goalOver fM_goalUnder fM_goalMax fM_different ++ ((u.2)))) t.heap ∧ va_D (va_A (WX hX aX kX hT hM fX_ready fX_sheet dX_sheet nX_sheet iX_sheetLength xX_reader .null xX_prover xX_values xX_clauses xX_nets ++ (WM hM aM kM iM_stands iM_variables iM_rows iM_goals iM_differents iM_cases fM_from fM_to fM_whole fM_ways iM_plainRows fM_plainRow fM_kept fM_goalOver fM_goalUnder fM_goalMax fM_different)) sz) (WX hX aX kX hT hM fX_ready fX_sheet dX_sheet nX_sheet iX_sheetLength xX_reader (u.1) xX_prover xX_values xX_clauses xX_nets ++ (WM hM aM kM iM_stands iM_variables iM_rows iM_goals iM_differents iM_cases fM_from fM_to fM_whole fM_ways iM_plainRows fM_plainRow fM_kept fM_goalOver fM_goalUnder fM_goalMax fM_different ++ ((u.2))))) (va_A (WX hX aX kX hT hM fX_ready fX_sheet dX_sheet nX_sheet iX_sheetLength xX_reader .null xX_prover xX_values xX_clauses xX_nets ++ (WM hM aM kM iM_stands iM_variables iM_rows iM_goals iM_differents iM_cases fM_from fM_to fM_whole fM_ways iM_plainRows fM_plainRow fM_kept fM_goalOver fM_goalUnder fM_goalMax fM_different)) sz)) (vx_X (fun (u : (Value) × (va_W)) => (SolO kO kQ kw hM (u.1) (u.2))) (fun E (u : (Value) × (va_W)) t => (E = "java/lang/IllegalStateException") ∧ va_P (dC, dI) vwCl (WX hX aX kX hT hM fX_ready fX_sheet dX_sheet nX_sheet iX_sheetLength xX_reader (u.1) xX_prover xX_values xX_clauses xX_nets ++ (WM hM aM kM iM_stands iM_variables iM_rows iM_goals iM_differents iM_cases fM_from fM_to fM_whole fM_ways iM_plainRows fM_plainRow fM_kept fM_goalOver fM_goalUnder fM_goalMax fM_different ++ ((u.2)))) t.heap ∧ va_D (va_A (WX hX aX kX hT hM fX_ready fX_sheet dX_sheet nX_sheet iX_sheetLength xX_reader .null xX_prover xX_values xX_clauses xX_nets ++ (WM hM aM kM iM_stands iM_variables iM_rows iM_goals iM_differents iM_cases fM_from fM_to fM_whole fM_ways iM_plainRows fM_plainRow fM_kept fM_goalOver fM_goalUnder fM_goalMax fM_different)) sz) (WX hX aX kX hT hM fX_ready fX_sheet dX_sheet nX_sheet iX_sheetLength xX_reader (u.1) xX_prover xX_values xX_clauses xX_nets ++ (WM hM aM kM iM_stands iM_variables iM_rows iM_goals iM_differents iM_cases fM_from fM_to fM_whole fM_ways iM_plainRows fM_plainRow fM_kept fM_goalOver fM_goalUnder fM_goalMax fM_different ++ ((u.2))))) (va_A (WX hX aX kX hT hM fX_ready fX_sheet dX_sheet nX_sheet iX_sheetLength xX_reader .null xX_prover xX_values xX_clauses xX_nets ++ (WM hM aM kM iM_stands iM_variables iM_rows iM_goals iM_differents iM_cases fM_from fM_to fM_whole fM_ways iM_plainRows fM_plainRow fM_kept fM_goalOver fM_goalUnder fM_goalMax fM_different)) sz)) 880 8040 (va_A (WX hX aX kX hT hM fX_ready fX_sheet dX_sheet nX_sheet iX_sheetLength xX_reader .null xX_prover xX_values xX_clauses xX_nets ++ (WM hM aM kM iM_stands iM_variables iM_rows iM_goals iM_differents iM_cases fM_from fM_to fM_whole fM_ways iM_plainRows fM_plainRow fM_kept fM_goalOver fM_goalUnder fM_goalMax fM_different)) sz) := by
  refine vx_ofW (cc := cX11_count) (maxL := 1) (ret := (some .int)) (by decide) rfl ?_
  intro p e s m args below meth c s₁ B hml htab hv
  obtain ⟨rfl, hsz, hP, hK, hD0, hE⟩ := hv
  have hx := B.exec
  have hb := B.bytes
  have hr := B.returns
  have hts := atoms_spec (ws := wsMX11_count_0) B.pre
  have hown : s.vm.findClass RX11 = some m.cls := findClass_of_methodNamed B.named
  have hlocks := B.notSynchronized
  subst hsz
  have hD := hD0.self (sz := s.heap.size)
  generalize hAe : va_A (WX hX aX kX hT hM fX_ready fX_sheet dX_sheet nX_sheet iX_sheetLength xX_reader .null xX_prover xX_values xX_clauses xX_nets ++ (WM hM aM kM iM_stands iM_variables iM_rows iM_goals iM_differents iM_cases fM_from fM_to fM_whole fM_ways iM_plainRows fM_plainRow fM_kept fM_goalOver fM_goalUnder fM_goalMax fM_different)) s.heap.size = A at hD hE ⊢
  have hA : ∀ q : Nat, s.heap.size ≤ q → A q := fun q h => by rw [← hAe]; exact Or.inr h
  have hS : va_S A s.heap s.heap [] := va_S.rf
  have hl := lv_entry ([.ref (hX 0)]) (n := 1) (Nat.le_of_ble_eq_true rfl)
  rw [lg_entry_eq]
  generalize (lg_sl ([.ref (hX 0)]) ++ List.replicate (1 - (lg_sl ([.ref (hX 0)])).length) Slot.unset).toArray = ls at hl ⊢
  have hl : lv_has ls 1 [(0, .ref (hX 0))] := hl
  refine lv_aload_n hx hb dX11_count_0 rfl (lv_at hl 0 rfl) ?_
  refine W.known (fun hz0 _ => ?_)
  have hFc := allFree hD hS hA
  have hKc : va_K (dC, dI) vwCl (tX kX ++ (tM kM)) _ := hK.sub [0, 1, 2, 3, 4, 5, 6, 7, 8, 9, 10, 11] rfl
  refine vx_callv (vx_runV (As := []) (rest := []) ⟨hx, hb, hml, hown, hts⟩ (m_X11_needModel l hst dC dI hX aX kX hT hM fX_ready fX_sheet dX_sheet nX_sheet iX_sheetLength xX_reader .null xX_prover xX_values xX_clauses xX_nets aM kM iM_stands iM_variables iM_rows iM_goals iM_differents iM_cases fM_from fM_to fM_whole fM_ways iM_plainRows fM_plainRow fM_kept fM_goalOver fM_goalUnder fM_goalMax fM_different b_fX_sheet (by first | exact b_nX_sheet | with_reducible assumption | exact ⟨by omega, by omega⟩ | assumption) (b_iX_sheetLength) (by first | with_reducible assumption | omega | assumption) (b_iM_stands) (b_iM_variables) (b_iM_rows) (b_iM_goals) (b_iM_differents) (b_iM_cases) b_fM_ways (b_iM_plainRows) b_fM_plainRow (by first | with_reducible assumption | omega | assumption) s.heap.size) (cwV 0 hts gwsMX11_count_0_0 rfl rfl rfl hd_yX11_needModel_RX11 (by decide +kernel)) (fz_preE (va_recv hK hP (ci := 11) (q0 := 0) rfl rfl) hP hKc hD (fun a U g mk qE => qE.call) (fun U hU9 hW => by rw [hU9]; exact (((hE : CE A s s.heap).kept hS.2.1).narrow (fun q h => hFc q h)).warm hW)) rfl rfl hl.1 rfl (lv_room (Nat.le_of_ble_eq_true rfl)) dX11_count_1 (by decide +kernel)) hS (fun q _ h => hFc q h) hFc (fun q _ h => hFc q h) (fun E ce q9 u t9_ H locs ht hvm hw9 hB9 hz1 hk1 hS hc1 hc2 hc3 => ?_) (fun u t9_ H locs ht hvm hw9 hB9 hz1 hk1 hS => ?_)
  · revert hB9
    refine fz_a2 ?_
    intro hEx hB9
    clear hw9
    have hP : va_P (dC, dI) vwCl (WX hX aX kX hT hM fX_ready fX_sheet dX_sheet nX_sheet iX_sheetLength xX_reader .null xX_prover xX_values xX_clauses xX_nets ++ (WM hM aM kM iM_stands iM_variables iM_rows iM_goals iM_differents iM_cases fM_from fM_to fM_whole fM_ways iM_plainRows fM_plainRow fM_kept fM_goalOver fM_goalUnder fM_goalMax fM_different)) H := fz_P ht hB9.1
    have hD := fz_sd hP (hB9.2.weaken (fun _ q _ h => hFc q.1 h)) rfl
    exact vx_out (fun x hx9 => (htab x hx9).elim) hlocks hc1 hc2 hc3 (fun t9_ ht hvm => ⟨(.null, ([])), (by (try dsimp only); exact Or.inl ⟨rfl, rfl⟩), ⟨(by have h9 := hEx; exact h9), by rw [ht]; first | exact hP | (simp only [List.append_nil]; exact hP), by first | exact hD | (simp only [List.append_nil]; exact hD)⟩, hS.F ht⟩) hS.2.2 (by decide +kernel) (by decide +kernel)
  have f1_0 := hw9
  try dsimp only at f1_0
  have hz8 := hB9.2.2
  rw [ht] at hz8
  have hz9 : H.size ≤ s.heap.size + 0 := by rw [hz8]; exact hz0
  refine W.tight (cells2 := 0) (slots2 := 0) hz9 (nS_0 hz9) ?_
  clear hz8 hz9
  have hP : va_P (dC, dI) vwCl (WX hX aX kX hT hM fX_ready fX_sheet dX_sheet nX_sheet iX_sheetLength xX_reader .null xX_prover xX_values xX_clauses xX_nets ++ (WM hM aM kM iM_stands iM_variables iM_rows iM_goals iM_differents iM_cases fM_from fM_to fM_whole fM_ways iM_plainRows fM_plainRow fM_kept fM_goalOver fM_goalUnder fM_goalMax fM_different)) H := fz_P ht hB9.1
  have hD := fz_sd hP (hB9.2.1.weaken (fun _ q _ h => hFc q.1 h)) rfl
  refine lv_aload_n hx hb dX11_count_4 rfl (lv_at hl 0 rfl) ?_
  have p9 : List.Perm (WX hX aX kX hT hM fX_ready fX_sheet dX_sheet nX_sheet iX_sheetLength xX_reader .null xX_prover xX_values xX_clauses xX_nets ++ (WM hM aM kM iM_stands iM_variables iM_rows iM_goals iM_differents iM_cases fM_from fM_to fM_whole fM_ways iM_plainRows fM_plainRow fM_kept fM_goalOver fM_goalUnder fM_goalMax fM_different)) ((WX hX aX kX hT hM fX_ready fX_sheet dX_sheet nX_sheet iX_sheetLength xX_reader .null xX_prover xX_values xX_clauses xX_nets) ++ (WM hM aM kM iM_stands iM_variables iM_rows iM_goals iM_differents iM_cases fM_from fM_to fM_whole fM_ways iM_plainRows fM_plainRow fM_kept fM_goalOver fM_goalUnder fM_goalMax fM_different)) := (List.Perm.refl _)
  have hPc := hP.mem (fun q h => p9.mem_iff.mpr (List.mem_append_left _ h))
  have hDc := (hD.perm p9).left
  have hKc : va_K (dC, dI) vwCl (tX kX ++ (tO kO ++ (tQ kQ ++ (tW kw)))) _ := hK.sub [0, 1, 12, 13, 14, 15, 16, 17, 18, 19, 20, 21, 22, 23, 24, 25, 26] rfl
  have hFc := freeG p9 hD hS hA
  refine va_callr (va_runV (As := []) (rest := []) ⟨hx, hb, hml, hown, hts⟩ (m_X11_theSolver_0 l hst dC dI hX aX kX hT hM fX_ready fX_sheet dX_sheet nX_sheet iX_sheetLength xX_reader xX_prover xX_values xX_clauses xX_nets kO kQ kw b_fX_sheet (by first | exact b_nX_sheet | with_reducible assumption | exact ⟨by omega, by omega⟩ | assumption) (b_iX_sheetLength) (by first | with_reducible assumption | omega | assumption) H.size) (cwV 0 hts gwsMX11_count_0_1 rfl rfl rfl hd_yX11_theSolver_RX11 (by decide +kernel)) (fz_preE (va_recv hK hP (ci := 11) (q0 := 0) rfl rfl) hPc hKc hDc (fun a U g mk qE => qE.call) (fun U hU9 hW => by rw [hU9]; exact (((hE : CE A s s.heap).kept hS.2.1).narrow (fun q h => hFc q h)).warm hW)) rfl rfl hl.1 rfl (lv_room (Nat.le_of_ble_eq_true rfl)) dX11_count_5 (by decide +kernel)) hS (fun q _ h => hFc q h) hFc (fun u ra2 t9_ H1 locs ht hvm hw9 hB9 hz1 hk1 hS => ?_)
  revert u hw9 hB9
  refine fz_p6 ?_
  intro hO aO hQ aQ hw lw hw9 hB9
  try dsimp only at hw9 hB9
  revert hB9
  refine fz_a2 ?_
  intro hra hB9
  subst hra
  clear hw9
  revert hB9
  refine fz_a2 ?_
  intro hP1 hD1
  rw [ht] at hP1
  obtain ⟨nW, hnW9⟩ : ∃ n9 : Nat, n9 = 432 := ⟨_, rfl⟩
  rw [← hnW9] at hP1 hD1
  have p8 : List.Perm (α := Nat × va_E) (WX hX aX kX hT hM fX_ready fX_sheet dX_sheet nX_sheet iX_sheetLength xX_reader (.ref (hO 0)) xX_prover xX_values xX_clauses xX_nets ++ (WM hM aM kM iM_stands iM_variables iM_rows iM_goals iM_differents iM_cases fM_from fM_to fM_whole fM_ways iM_plainRows fM_plainRow fM_kept fM_goalOver fM_goalUnder fM_goalMax fM_different ++ (WO hO aO kO hM hQ hw 0 0 0 (-1) (fun _ => 0) (fun _ => 0) (fun _ => 0) (fun _ => 0) (fun _ => 0) (fun _ => 0) ++ (WQ hQ aQ kQ hw (fun _ => 0) (fun _ => 0) (fun _ => 0) 0 0 0 ++ (WW nW hw lw kw (fun _ => 0) (fun _ => 0) (fun _ _ => 0)))))) ((WX hX aX kX hT hM fX_ready fX_sheet dX_sheet nX_sheet iX_sheetLength xX_reader (.ref (hO 0)) xX_prover xX_values xX_clauses xX_nets ++ (WO hO aO kO hM hQ hw 0 0 0 (-1) (fun _ => 0) (fun _ => 0) (fun _ => 0) (fun _ => 0) (fun _ => 0) (fun _ => 0) ++ (WQ hQ aQ kQ hw (fun _ => 0) (fun _ => 0) (fun _ => 0) 0 0 0 ++ (WW nW hw lw kw (fun _ => 0) (fun _ => 0) (fun _ _ => 0))))) ++ (WM hM aM kM iM_stands iM_variables iM_rows iM_goals iM_differents iM_cases fM_from fM_to fM_whole fM_ways iM_plainRows fM_plainRow fM_kept fM_goalOver fM_goalUnder fM_goalMax fM_different)) := ((((((List.Perm.append_left _ ((List.Perm.append_left _ ((List.Perm.append_left _ (List.perm_append_comm)).trans (List.perm_append_comm_assoc _ _ _))).trans (List.perm_append_comm_assoc _ _ _))).trans (List.perm_append_comm_assoc _ _ _)).trans ((List.Perm.append_left _ ((List.Perm.append_left _ ((List.Perm.append_left _ (List.perm_append_comm)).trans (List.perm_append_comm_assoc _ _ _))).trans (List.perm_append_comm_assoc _ _ _))).trans (List.perm_append_comm_assoc _ _ _))).trans ((List.Perm.append_left _ ((List.Perm.append_left _ ((List.Perm.append_left _ (List.perm_append_comm)).trans (List.perm_append_comm_assoc _ _ _))).trans (List.perm_append_comm_assoc _ _ _))).trans (List.perm_append_comm_assoc _ _ _))).trans ((List.Perm.append_left _ ((List.Perm.append_left _ (List.perm_append_comm_assoc _ _ _)).trans (List.perm_append_comm_assoc _ _ _))).trans (List.perm_append_comm_assoc _ _ _))).trans (List.Perm.of_eq (by simp only [List.append_assoc])))
  obtain ⟨hP, hD⟩ := frameG p9 p8 hP hD hk1 hFc hP1 hD1
  clear p8 p9
  generalize H1 = H at hP hS ⊢
  have hP : va_P (dC, dI) vwCl (WX hX aX kX hT hM fX_ready fX_sheet dX_sheet nX_sheet iX_sheetLength xX_reader (.ref (hO 0)) xX_prover xX_values xX_clauses xX_nets ++ (WM hM aM kM iM_stands iM_variables iM_rows iM_goals iM_differents iM_cases fM_from fM_to fM_whole fM_ways iM_plainRows fM_plainRow fM_kept fM_goalOver fM_goalUnder fM_goalMax fM_different ++ (WO hO aO kO hM hQ hw 0 0 0 (-1) (fun _ => 0) (fun _ => 0) (fun _ => 0) (fun _ => 0) (fun _ => 0) (fun _ => 0) ++ (WQ hQ aQ kQ hw (fun _ => 0) (fun _ => 0) (fun _ => 0) 0 0 0 ++ (WW nW hw lw kw (fun _ => 0) (fun _ => 0) (fun _ _ => 0)))))) H := hP
  have hD := fz_sd hP (hD) rfl
  refine W.widen (k := 880) (n := 8040) (by decide +kernel) (by decide +kernel) ?_
  have htb0 : TbO 0 0 0 := TbO.zero
  have hnW : 432 ≤ nW := by omega
  have p9 := cj_5_2_1_3_4 (WX hX aX kX hT hM fX_ready fX_sheet dX_sheet nX_sheet iX_sheetLength xX_reader (.ref (hO 0)) xX_prover xX_values xX_clauses xX_nets) (WM hM aM kM iM_stands iM_variables iM_rows iM_goals iM_differents iM_cases fM_from fM_to fM_whole fM_ways iM_plainRows fM_plainRow fM_kept fM_goalOver fM_goalUnder fM_goalMax fM_different) (WO hO aO kO hM hQ hw 0 0 0 (-1) (fun _ => 0) (fun _ => 0) (fun _ => 0) (fun _ => 0) (fun _ => 0) (fun _ => 0)) (WQ hQ aQ kQ hw (fun _ => 0) (fun _ => 0) (fun _ => 0) 0 0 0) (WW nW hw lw kw (fun _ => 0) (fun _ => 0) (fun _ _ => 0))
  have hPc := hP.mem (fun q h => p9.mem_iff.mpr (List.mem_append_left _ h))
  have hDc := (hD.perm p9).left
  have hKc : va_K (dC, dI) vwCl (tO kO ++ (tM kM ++ (tQ kQ ++ (tW kw)))) _ := hK.sub [12, 13, 14, 15, 16, 17, 18, 19, 20, 21, 2, 3, 4, 5, 6, 7, 8, 9, 10, 11, 22, 23, 24, 25, 26] rfl
  have hFc := freeG p9 hD hS hA
  refine va_calli (va_runV (As := []) (rest := []) ⟨hx, hb, hml, hown, hts⟩ (m_X5_countRows l dC dI hO aO kO hM hQ hw 0 0 0 (-1) (fun _ => 0) (fun _ => 0) (fun _ => 0) (fun _ => 0) (fun _ => 0) (fun _ => 0) aM kM iM_stands iM_variables iM_rows iM_goals iM_differents iM_cases fM_from fM_to fM_whole fM_ways iM_plainRows fM_plainRow fM_kept fM_goalOver fM_goalUnder fM_goalMax fM_different aQ kQ (fun _ => 0) (fun _ => 0) (fun _ => 0) 0 0 0 nW lw kw (fun _ => 0) (fun _ => 0) (fun _ _ => 0) (show 0 ≤ (0 : Int32).toInt ∧ (0 : Int32).toInt ≤ 1 from by decide) (show 0 ≤ (0 : Int32).toInt ∧ (0 : Int32).toInt ≤ 1 from by decide) (show 0 ≤ (0 : Int32).toInt ∧ (0 : Int32).toInt ≤ 1 from by decide) (show (-1) ≤ ((-1) : Int32).toInt ∧ ((-1) : Int32).toInt ≤ 64 from by decide) (zr_r (by decide) (by decide)) (zr_r (by decide) (by decide)) (zr_r (by decide) (by decide)) (b_iM_stands) (b_iM_variables) (b_iM_rows) (b_iM_goals) (b_iM_differents) (b_iM_cases) b_fM_ways (b_iM_plainRows) b_fM_plainRow (by first | with_reducible assumption | omega | assumption) (show 0 ≤ (0 : Int32).toInt ∧ (0 : Int32).toInt ≤ 40 from by decide) (show 0 ≤ (0 : Int32).toInt ∧ (0 : Int32).toInt ≤ 40 from by decide) (show 0 ≤ (0 : Int32).toInt ∧ (0 : Int32).toInt ≤ 40 from by decide) (by first | with_reducible assumption | omega | assumption) (zr_r (by decide) (by decide)) (zr_r (by decide) (by decide)) (by first | with_reducible assumption | omega | (rw [iI_t (by omega) (by omega)]; omega) | decide | assumption) H.size) (cwV 0 hts gwsMX11_count_0_2 rfl rfl rfl hd_yX5_countRows_RX5 (by decide +kernel)) (fz_pre (va_recv hK hP (ci := 5) (q0 := 14) rfl rfl) hPc hKc hDc) rfl rfl hl.1 rfl (lv_room (Nat.le_of_ble_eq_true rfl)) dX11_count_8 (by decide +kernel)) hS (fun q _ h => hFc q h) hFc (fun r3 u t9_ H locs ht hvm hw9 hB9 hz1 hk1 hS => ?_)
  revert u hw9 hB9
  refine fz_p14 ?_
  intro iO_counted_3 fO_countedCase_3 fO_start_3 fO_column_3 fO_chosen_3 fQ_inside_3 fQ_outside_3 fQ_shut_3 iQ_rows_3 iQ_allRows_3 iQ_columns_3 wl_3 wb_3 wG_3 hw9 hB9
  try dsimp only at hw9 hB9
  revert hw9
  refine fz_a11 ?_
  intro b_iO_counted_3 b_fO_countedCase_3 b_fO_column_3 b_fO_chosen_3 b_iQ_rows_3 b_iQ_allRows_3 b_iQ_columns_3 b_wl_3 b_wb_3 b_tb_3 b_r3
  have p8 := cj_5_2_1_3_4 (WX hX aX kX hT hM fX_ready fX_sheet dX_sheet nX_sheet iX_sheetLength xX_reader (.ref (hO 0)) xX_prover xX_values xX_clauses xX_nets) (WM hM aM kM iM_stands iM_variables iM_rows iM_goals iM_differents iM_cases fM_from fM_to fM_whole fM_ways iM_plainRows fM_plainRow fM_kept fM_goalOver fM_goalUnder fM_goalMax fM_different) (WO hO aO kO hM hQ hw 0 0 0 iO_counted_3 fO_countedCase_3 (fun _ => 0) (fun _ => 0) fO_start_3 fO_column_3 fO_chosen_3) (WQ hQ aQ kQ hw fQ_inside_3 fQ_outside_3 fQ_shut_3 iQ_rows_3 iQ_allRows_3 iQ_columns_3) (WW nW hw lw kw wl_3 wb_3 wG_3)
  obtain ⟨hP, hD⟩ := frameG p9 p8 hP hD hk1 hFc (fz_P ht hB9.1) hB9.2
  refine vx_ret ?_
  refine W.widen (k := 880) (n := 8040) (by decide +kernel) (by decide +kernel) ?_
  exact W.iret (v := r3) hx hb hr (fun t9_ ht hW => ⟨⟨r3, ((.ref (hO 0)), (WO hO aO kO hM hQ hw 0 0 0 iO_counted_3 fO_countedCase_3 (fun _ => 0) (fun _ => 0) fO_start_3 fO_column_3 fO_chosen_3 ++ (WQ hQ aQ kQ hw fQ_inside_3 fQ_outside_3 fQ_shut_3 iQ_rows_3 iQ_allRows_3 iQ_columns_3 ++ (WW nW hw lw kw wl_3 wb_3 wG_3)))), rfl, (by (try dsimp only); exact Or.inr ⟨hO, aO, hQ, hw, 0, 0, 0, iO_counted_3, fO_countedCase_3, (fun _ => 0), (fun _ => 0), fO_start_3, fO_column_3, fO_chosen_3, aQ, fQ_inside_3, fQ_outside_3, fQ_shut_3, iQ_rows_3, iQ_allRows_3, iQ_columns_3, nW, lw, wl_3, wb_3, wG_3, (show 0 ≤ (0 : Int32).toInt ∧ (0 : Int32).toInt ≤ 1 from by decide), (show 0 ≤ (0 : Int32).toInt ∧ (0 : Int32).toInt ≤ 1 from by decide), (show 0 ≤ (0 : Int32).toInt ∧ (0 : Int32).toInt ≤ 1 from by decide), (b_iO_counted_3), b_fO_countedCase_3, b_fO_column_3, b_fO_chosen_3, (b_iQ_rows_3), (b_iQ_allRows_3), (b_iQ_columns_3), (by first | with_reducible assumption | omega | assumption), b_wl_3, b_wb_3, (by omega), rfl, rfl⟩), by rw [ht]; exact hP, hD⟩, hS.F ht⟩) hS.2.2 dX11_count_11
def wsMX11_counted_0 : List Cond := .code yX11_counted cX11_counted 3 (some .int) :: ([.fieldLink RX11 23 "OptimaWorks" "model" "LOptimaWorks$Model;", .fieldLink RX11 84 "OptimaWorks$Model" "variables" "I", .fieldLink RX11 102 "OptimaWorks$Model" "whole" "[Z", .fieldLink RX11 48 "OptimaWorks" "solver" "LOptimaWorks$Solver;"] ++ wsX10 ++ wsX110 ++ (wsV RX11 135 RX11 yX11_needModel wsMX11_needModel) ++ (wsV RX11 162 RX11 yX11_theSolver wsMX11_theSolver_0) ++ (wsV RX11 191 RX5 yX5_countRows wsMX5_countRows) ++ (wsV RX11 194 RX5 yX5_countedNumber wsMX5_countedNumber))
theorem iwsMX11_counted_0_in1 : ∀ w ∈ wsX10, w ∈ wsMX11_counted_0 := fun _ h => List.mem_cons_of_mem _ (List.mem_append_left _ (List.mem_append_left _ (List.mem_append_left _ (List.mem_append_left _ (List.mem_append_left _ (List.mem_append_right _ h))))))
theorem iwsMX11_counted_0_in11 : ∀ w ∈ wsX110, w ∈ wsMX11_counted_0 := fun _ h => List.mem_cons_of_mem _ (List.mem_append_left _ (List.mem_append_left _ (List.mem_append_left _ (List.mem_append_left _ (List.mem_append_right _ h)))))
theorem gwsMX11_counted_0_0 : GoodIn wsMX11_counted_0 (wsV RX11 135 RX11 yX11_needModel wsMX11_needModel) := goodIn_sub (fun _ h => List.mem_cons_of_mem _ (List.mem_append_left _ (List.mem_append_left _ (List.mem_append_left _ (List.mem_append_right _ h))))) (gdV (by decide +kernel) gdwsMX11_needModel)
theorem gwsMX11_counted_0_1 : GoodIn wsMX11_counted_0 (wsV RX11 162 RX11 yX11_theSolver wsMX11_theSolver_0) := goodIn_sub (fun _ h => List.mem_cons_of_mem _ (List.mem_append_left _ (List.mem_append_left _ (List.mem_append_right _ h)))) (gdV (by decide +kernel) gdwsMX11_theSolver_0)
theorem gwsMX11_counted_0_2 : GoodIn wsMX11_counted_0 (wsV RX11 191 RX5 yX5_countRows wsMX5_countRows) := goodIn_sub (fun _ h => List.mem_cons_of_mem _ (List.mem_append_left _ (List.mem_append_right _ h))) (gdV (by decide +kernel) gdwsMX5_countRows)
theorem gwsMX11_counted_0_3 : GoodIn wsMX11_counted_0 (wsV RX11 194 RX5 yX5_countedNumber wsMX5_countedNumber) := goodIn_sub (fun _ h => List.mem_cons_of_mem _ (List.mem_append_right _ h)) (gdV (by decide +kernel) gdwsMX5_countedNumber)
theorem gdwsMX11_counted_0 : wsMX11_counted_0.all goodWord = true := gdC rfl (gdA (gdA (gdA (gdA (gdA (gdA (by decide +kernel : ([.fieldLink RX11 23 "OptimaWorks" "model" "LOptimaWorks$Model;", .fieldLink RX11 84 "OptimaWorks$Model" "variables" "I", .fieldLink RX11 102 "OptimaWorks$Model" "whole" "[Z", .fieldLink RX11 48 "OptimaWorks" "solver" "LOptimaWorks$Solver;"] : List Cond).all goodWord = true) gdwsX10) gdwsX110) (gdV (by decide +kernel) gdwsMX11_needModel)) (gdV (by decide +kernel) gdwsMX11_theSolver_0)) (gdV (by decide +kernel) gdwsMX5_countRows)) (gdV (by decide +kernel) gdwsMX5_countedNumber))
theorem hm_m_X11_counted_0_0 : (.fieldLink RX11 23 "OptimaWorks" "model" "LOptimaWorks$Model;" : Cond) ∈ wsMX11_counted_0 := by decide +kernel
set_option maxHeartbeats 4000000 in
set_option maxRecDepth 100000 in
/-- a number of a counted row -/
theorem m_X11_counted_0 (l : Launch) (hst : l.stackTraces = false) (dC : Nat → ClassId) (dI : Nat → Nat → Nat) (hX : Nat → Nat) (aX : Nat → Nat) (kX : Nat → ClassId) (hT : Nat → Nat) (hM : Nat → Nat) (fX_ready : Nat → Int32) (fX_sheet : Nat → Int32) (dX_sheet : Nat) (nX_sheet : Nat) (iX_sheetLength : Int32) (xX_reader : Value) (xX_prover : Value) (xX_values : Value) (xX_clauses : Value) (xX_nets : Value) (aM : Nat → Nat) (kM : Nat → ClassId) (iM_stands : Int32) (iM_variables : Int32) (iM_rows : Int32) (iM_goals : Int32) (iM_differents : Int32) (iM_cases : Int32) (fM_from : Nat → Int32) (fM_to : Nat → Int32) (fM_whole : Nat → Int32) (fM_ways : Nat → Int32) (iM_plainRows : Int32) (fM_plainRow : Nat → Int32) (fM_kept : Nat → Int32) (fM_goalOver : Nat → Int32) (fM_goalUnder : Nat → Int32) (fM_goalMax : Nat → Int32) (fM_different : Nat → Int32) (kO : Nat → ClassId) (kQ : Nat → ClassId) (kw : ClassId) (p1 : Int32) (p2 : Int32) (b_fX_sheet : ∀ q : Nat, (-128) ≤ (fX_sheet q).toInt ∧ (fX_sheet q).toInt ≤ 127) (b_nX_sheet : 64 ≤ nX_sheet ∧ nX_sheet ≤ 60000) (b_iX_sheetLength : 0 ≤ iX_sheetLength.toInt ∧ iX_sheetLength.toInt ≤ 30000) (b_shl : iX_sheetLength.toInt ≤ ((nX_sheet : Nat) : Int)) (b_iM_stands : 0 ≤ iM_stands.toInt ∧ iM_stands.toInt ≤ 1) (b_iM_variables : 0 ≤ iM_variables.toInt ∧ iM_variables.toInt ≤ 8) (b_iM_rows : 0 ≤ iM_rows.toInt ∧ iM_rows.toInt ≤ 12) (b_iM_goals : 0 ≤ iM_goals.toInt ∧ iM_goals.toInt ≤ 3) (b_iM_differents : 0 ≤ iM_differents.toInt ∧ iM_differents.toInt ≤ 8) (b_iM_cases : 0 ≤ iM_cases.toInt ∧ iM_cases.toInt ≤ 200000) (b_fM_ways : ∀ q : Nat, 0 ≤ (fM_ways q).toInt ∧ (fM_ways q).toInt ≤ 3) (b_iM_plainRows : 0 ≤ iM_plainRows.toInt ∧ iM_plainRows.toInt ≤ 12) (b_fM_plainRow : ∀ q : Nat, 0 ≤ (fM_plainRow q).toInt ∧ (fM_plainRow q).toInt ≤ 11) (b_pr : iM_plainRows.toInt ≤ iM_rows.toInt) (sz : Nat) : vx_Met l yX11_counted wsMX11_counted_0 ({ frames := 8, cells := 880, slots := 8040, locals := 203 }) (va_Pc [.ref (hX 0), .int p1, .int p2] (fun U => U.heap.size = sz ∧ va_P (dC, dI) vwCl (WX hX aX kX hT hM fX_ready fX_sheet dX_sheet nX_sheet iX_sheetLength xX_reader .null xX_prover xX_values xX_clauses xX_nets ++ (WM hM aM kM iM_stands iM_variables iM_rows iM_goals iM_differents iM_cases fM_from fM_to fM_whole fM_ways iM_plainRows fM_plainRow fM_kept fM_goalOver fM_goalUnder fM_goalMax fM_different)) U.heap ∧ va_K (dC, dI) vwCl (tX kX ++ (tM kM ++ (tO kO ++ (tQ kQ ++ (tW kw))))) U ∧ va_D (fun _ => True) (WX hX aX kX hT hM fX_ready fX_sheet dX_sheet nX_sheet iX_sheetLength xX_reader .null xX_prover xX_values xX_clauses xX_nets ++ (WM hM aM kM iM_stands iM_variables iM_rows iM_goals iM_differents iM_cases fM_from fM_to fM_whole fM_ways iM_plainRows fM_plainRow fM_kept fM_goalOver fM_goalUnder fM_goalMax fM_different)) ∧ CE (va_A (WX hX aX kX hT hM fX_ready fX_sheet dX_sheet nX_sheet iX_sheetLength xX_reader .null xX_prover xX_values xX_clauses xX_nets ++ (WM hM aM kM iM_stands iM_variables iM_rows iM_goals iM_differents iM_cases fM_from fM_to fM_whole fM_ways iM_plainRows fM_plainRow fM_kept fM_goalOver fM_goalUnder fM_goalMax fM_different)) sz) U U.heap)) (va_Qi (fun (r : Int32) (u : (Value) × (va_W)) => (SolO kO kQ kw hM (u.1) (u.2))) (fun (u : (Value) × (va_W)) t => va_P (dC, dI) vwCl (WX hX aX kX hT hM fX_ready fX_sheet dX_sheet nX_sheet iX_sheetLength xX_reader (u.1) xX_prover xX_values xX_clauses xX_nets ++ (WM hM aM kM iM_stands iM_variables iM_rows iM_goals iM_differents iM_cases fM_from fM_to fM_whole fM_ways iM_plainRows fM_plainRow fM_kept fM_goalOver fM_goalUnder fM_goalMax fM_different ++ ((u.2)))) t.heap ∧ va_D (va_A (WX hX aX kX hT hM fX_ready fX_sheet dX_sheet nX_sheet iX_sheetLength xX_reader .null xX_prover xX_values xX_clauses xX_nets ++ (WM hM aM kM iM_stands iM_variables iM_rows iM_goals iM_differents iM_cases fM_from fM_to fM_whole fM_ways iM_plainRows fM_plainRow fM_kept fM_goalOver fM_goalUnder fM_goalMax fM_different)) sz) (WX hX aX kX hT hM fX_ready fX_sheet dX_sheet nX_sheet iX_sheetLength xX_reader (u.1) xX_prover xX_values xX_clauses xX_nets ++ (WM hM aM kM iM_stands iM_variables iM_rows iM_goals iM_differents iM_cases fM_from fM_to fM_whole fM_ways iM_plainRows fM_plainRow fM_kept fM_goalOver fM_goalUnder fM_goalMax fM_different ++ ((u.2))))) (va_A (WX hX aX kX hT hM fX_ready fX_sheet dX_sheet nX_sheet iX_sheetLength xX_reader .null xX_prover xX_values xX_clauses xX_nets ++ (WM hM aM kM iM_stands iM_variables iM_rows iM_goals iM_differents iM_cases fM_from fM_to fM_whole fM_ways iM_plainRows fM_plainRow fM_kept fM_goalOver fM_goalUnder fM_goalMax fM_different)) sz)) (vx_X (fun (u : (Value) × (va_W)) => (SolO kO kQ kw hM (u.1) (u.2))) (fun E (u : (Value) × (va_W)) t => (E = "java/lang/IllegalStateException") ∧ va_P (dC, dI) vwCl (WX hX aX kX hT hM fX_ready fX_sheet dX_sheet nX_sheet iX_sheetLength xX_reader (u.1) xX_prover xX_values xX_clauses xX_nets ++ (WM hM aM kM iM_stands iM_variables iM_rows iM_goals iM_differents iM_cases fM_from fM_to fM_whole fM_ways iM_plainRows fM_plainRow fM_kept fM_goalOver fM_goalUnder fM_goalMax fM_different ++ ((u.2)))) t.heap ∧ va_D (va_A (WX hX aX kX hT hM fX_ready fX_sheet dX_sheet nX_sheet iX_sheetLength xX_reader .null xX_prover xX_values xX_clauses xX_nets ++ (WM hM aM kM iM_stands iM_variables iM_rows iM_goals iM_differents iM_cases fM_from fM_to fM_whole fM_ways iM_plainRows fM_plainRow fM_kept fM_goalOver fM_goalUnder fM_goalMax fM_different)) sz) (WX hX aX kX hT hM fX_ready fX_sheet dX_sheet nX_sheet iX_sheetLength xX_reader (u.1) xX_prover xX_values xX_clauses xX_nets ++ (WM hM aM kM iM_stands iM_variables iM_rows iM_goals iM_differents iM_cases fM_from fM_to fM_whole fM_ways iM_plainRows fM_plainRow fM_kept fM_goalOver fM_goalUnder fM_goalMax fM_different ++ ((u.2))))) (va_A (WX hX aX kX hT hM fX_ready fX_sheet dX_sheet nX_sheet iX_sheetLength xX_reader .null xX_prover xX_values xX_clauses xX_nets ++ (WM hM aM kM iM_stands iM_variables iM_rows iM_goals iM_differents iM_cases fM_from fM_to fM_whole fM_ways iM_plainRows fM_plainRow fM_kept fM_goalOver fM_goalUnder fM_goalMax fM_different)) sz)) 880 8040 (va_A (WX hX aX kX hT hM fX_ready fX_sheet dX_sheet nX_sheet iX_sheetLength xX_reader .null xX_prover xX_values xX_clauses xX_nets ++ (WM hM aM kM iM_stands iM_variables iM_rows iM_goals iM_differents iM_cases fM_from fM_to fM_whole fM_ways iM_plainRows fM_plainRow fM_kept fM_goalOver fM_goalUnder fM_goalMax fM_different)) sz) := by
  refine vx_ofW (cc := cX11_counted) (maxL := 3) (ret := (some .int)) (by decide) rfl ?_
  intro p e s m args below meth c s₁ B hml htab hv
  obtain ⟨rfl, hsz, hP, hK, hD0, hE⟩ := hv
  have hx := B.exec
  have hb := B.bytes
  have hr := B.returns
  have hts := atoms_spec (ws := wsMX11_counted_0) B.pre
  have hown : s.vm.findClass RX11 = some m.cls := findClass_of_methodNamed B.named
  have hlocks := B.notSynchronized
  subst hsz
  have hD := hD0.self (sz := s.heap.size)
  generalize hAe : va_A (WX hX aX kX hT hM fX_ready fX_sheet dX_sheet nX_sheet iX_sheetLength xX_reader .null xX_prover xX_values xX_clauses xX_nets ++ (WM hM aM kM iM_stands iM_variables iM_rows iM_goals iM_differents iM_cases fM_from fM_to fM_whole fM_ways iM_plainRows fM_plainRow fM_kept fM_goalOver fM_goalUnder fM_goalMax fM_different)) s.heap.size = A at hD hE ⊢
  have hA : ∀ q : Nat, s.heap.size ≤ q → A q := fun q h => by rw [← hAe]; exact Or.inr h
  have hS : va_S A s.heap s.heap [] := va_S.rf
  have hl := lv_entry ([.ref (hX 0), .int p1, .int p2]) (n := 3) (Nat.le_of_ble_eq_true rfl)
  rw [lg_entry_eq]
  generalize (lg_sl ([.ref (hX 0), .int p1, .int p2]) ++ List.replicate (3 - (lg_sl ([.ref (hX 0), .int p1, .int p2])).length) Slot.unset).toArray = ls at hl ⊢
  have hl : lv_has ls 3 [(0, .ref (hX 0)), (1, .int p1), (2, .int p2)] := hl
  refine lv_aload_n hx hb dX11_counted_0 rfl (lv_at hl 0 rfl) ?_
  refine W.known (fun hz0 _ => ?_)
  have hFc := allFree hD hS hA
  have hKc : va_K (dC, dI) vwCl (tX kX ++ (tM kM)) _ := hK.sub [0, 1, 2, 3, 4, 5, 6, 7, 8, 9, 10, 11] rfl
  refine vx_callv (vx_runV (As := []) (rest := []) ⟨hx, hb, hml, hown, hts⟩ (m_X11_needModel l hst dC dI hX aX kX hT hM fX_ready fX_sheet dX_sheet nX_sheet iX_sheetLength xX_reader .null xX_prover xX_values xX_clauses xX_nets aM kM iM_stands iM_variables iM_rows iM_goals iM_differents iM_cases fM_from fM_to fM_whole fM_ways iM_plainRows fM_plainRow fM_kept fM_goalOver fM_goalUnder fM_goalMax fM_different b_fX_sheet (by first | exact b_nX_sheet | with_reducible assumption | exact ⟨by omega, by omega⟩ | assumption) (b_iX_sheetLength) (by first | with_reducible assumption | omega | assumption) (b_iM_stands) (b_iM_variables) (b_iM_rows) (b_iM_goals) (b_iM_differents) (b_iM_cases) b_fM_ways (b_iM_plainRows) b_fM_plainRow (by first | with_reducible assumption | omega | assumption) s.heap.size) (cwV 0 hts gwsMX11_counted_0_0 rfl rfl rfl hd_yX11_needModel_RX11 (by decide +kernel)) (fz_preE (va_recv hK hP (ci := 11) (q0 := 0) rfl rfl) hP hKc hD (fun a U g mk qE => qE.call) (fun U hU9 hW => by rw [hU9]; exact (((hE : CE A s s.heap).kept hS.2.1).narrow (fun q h => hFc q h)).warm hW)) rfl rfl hl.1 rfl (lv_room (Nat.le_of_ble_eq_true rfl)) dX11_counted_1 (by decide +kernel)) hS (fun q _ h => hFc q h) hFc (fun q _ h => hFc q h) (fun E ce q9 u t9_ H locs ht hvm hw9 hB9 hz1 hk1 hS hc1 hc2 hc3 => ?_) (fun u t9_ H locs ht hvm hw9 hB9 hz1 hk1 hS => ?_)
  · revert hB9
    refine fz_a2 ?_
    intro hEx hB9
    clear hw9
    have hP : va_P (dC, dI) vwCl (WX hX aX kX hT hM fX_ready fX_sheet dX_sheet nX_sheet iX_sheetLength xX_reader .null xX_prover xX_values xX_clauses xX_nets ++ (WM hM aM kM iM_stands iM_variables iM_rows iM_goals iM_differents iM_cases fM_from fM_to fM_whole fM_ways iM_plainRows fM_plainRow fM_kept fM_goalOver fM_goalUnder fM_goalMax fM_different)) H := fz_P ht hB9.1
    have hD := fz_sd hP (hB9.2.weaken (fun _ q _ h => hFc q.1 h)) rfl
    exact vx_out (fun x hx9 => (htab x hx9).elim) hlocks hc1 hc2 hc3 (fun t9_ ht hvm => ⟨(.null, ([])), (by (try dsimp only); exact Or.inl ⟨rfl, rfl⟩), ⟨(by have h9 := hEx; exact h9), by rw [ht]; first | exact hP | (simp only [List.append_nil]; exact hP), by first | exact hD | (simp only [List.append_nil]; exact hD)⟩, hS.F ht⟩) hS.2.2 (by decide +kernel) (by decide +kernel)
  have f1_0 := hw9
  try dsimp only at f1_0
  have hz8 := hB9.2.2
  rw [ht] at hz8
  have hz9 : H.size ≤ s.heap.size + 0 := by rw [hz8]; exact hz0
  refine W.tight (cells2 := 0) (slots2 := 0) hz9 (nS_0 hz9) ?_
  clear hz8 hz9
  have hP : va_P (dC, dI) vwCl (WX hX aX kX hT hM fX_ready fX_sheet dX_sheet nX_sheet iX_sheetLength xX_reader .null xX_prover xX_values xX_clauses xX_nets ++ (WM hM aM kM iM_stands iM_variables iM_rows iM_goals iM_differents iM_cases fM_from fM_to fM_whole fM_ways iM_plainRows fM_plainRow fM_kept fM_goalOver fM_goalUnder fM_goalMax fM_different)) H := fz_P ht hB9.1
  have hD := fz_sd hP (hB9.2.1.weaken (fun _ q _ h => hFc q.1 h)) rfl
  refine lv_iload_n hx hb dX11_counted_4 rfl (lv_at hl 1 rfl) ?_
  refine lv_if_lt (tgt := 46) hx hb dX11_counted_5 (by decide) (fun c_5 => ?_) (fun c_5 => ?_)
  · have t_5 : p1.toInt < 0 := toI_lt c_5 rfl (by decide : (0 : Int32).toInt = 0)
    refine lv_sipush (v := (-1000)) hx hb dX11_counted_46 (by decide) ?_
    refine vx_ret ?_
    refine W.widen (k := 880) (n := 8040) (by decide +kernel) (by decide +kernel) ?_
    exact W.iret (v := (-1000)) hx hb hr (fun t9_ ht hW => ⟨⟨((-1000) : Int32), (.null, ([])), rfl, (by (try dsimp only); exact Or.inl ⟨rfl, rfl⟩), by rw [ht]; first | exact hP | (simp only [List.append_nil]; exact hP), by first | exact hD | (simp only [List.append_nil]; exact hD)⟩, hS.F ht⟩) hS.2.2 dX11_counted_49
  · have t_5 : ¬ p1.toInt < 0 := toI_nlt c_5 rfl (by decide : (0 : Int32).toInt = 0)
    refine lv_iload_n hx hb dX11_counted_8 rfl (lv_at hl 2 rfl) ?_
    refine lv_if_lt (tgt := 46) hx hb dX11_counted_9 (by decide) (fun c_9 => ?_) (fun c_9 => ?_)
    · have t_9 : p2.toInt < 0 := toI_lt c_9 rfl (by decide : (0 : Int32).toInt = 0)
      refine lv_sipush (v := (-1000)) hx hb dX11_counted_46 (by decide) ?_
      refine vx_ret ?_
      refine W.widen (k := 880) (n := 8040) (by decide +kernel) (by decide +kernel) ?_
      exact W.iret (v := (-1000)) hx hb hr (fun t9_ ht hW => ⟨⟨((-1000) : Int32), (.null, ([])), rfl, (by (try dsimp only); exact Or.inl ⟨rfl, rfl⟩), by rw [ht]; first | exact hP | (simp only [List.append_nil]; exact hP), by first | exact hD | (simp only [List.append_nil]; exact hD)⟩, hS.F ht⟩) hS.2.2 dX11_counted_49
    · have t_9 : ¬ p2.toInt < 0 := toI_nlt c_9 rfl (by decide : (0 : Int32).toInt = 0)
      refine lv_iload_n hx hb dX11_counted_12 rfl (lv_at hl 2 rfl) ?_
      refine lv_aload_n hx hb dX11_counted_13 rfl (lv_at hl 0 rfl) ?_
      refine va_get (D := (dC, dI)) (ci := 11) (v := .ref (hM 0)) (C := RX11) (T := TX11) (N := 11) hx hb hts iwsMX11_counted_0_in11 hown hK hP 0 rfl rfl 2 (by decide) (hts _ hm_m_X11_counted_0_0) (fun _ h9 => h9) rfl dX11_counted_14 ?_
      refine va_get (D := (dC, dI)) (ci := 1) (v := .int iM_variables) (C := RX1) (T := TX1) (N := 17) hx hb hts iwsMX11_counted_0_in1 hown hK hP 3 rfl rfl 1 (by decide) (hts (.fieldLink RX11 84 "OptimaWorks$Model" "variables" "I") (by decide +kernel)) (fun _ h9 => h9) rfl dX11_counted_17 ?_
      refine lv_icmp_ge (tgt := 46) hx hb dX11_counted_20 (by decide) (fun c_20 => ?_) (fun c_20 => ?_)
      · have t_20 : p2.toInt ≥ iM_variables.toInt := toI_ge c_20 rfl rfl
        refine lv_sipush (v := (-1000)) hx hb dX11_counted_46 (by decide) ?_
        refine vx_ret ?_
        refine W.widen (k := 880) (n := 8040) (by decide +kernel) (by decide +kernel) ?_
        exact W.iret (v := (-1000)) hx hb hr (fun t9_ ht hW => ⟨⟨((-1000) : Int32), (.null, ([])), rfl, (by (try dsimp only); exact Or.inl ⟨rfl, rfl⟩), by rw [ht]; first | exact hP | (simp only [List.append_nil]; exact hP), by first | exact hD | (simp only [List.append_nil]; exact hD)⟩, hS.F ht⟩) hS.2.2 dX11_counted_49
      · have t_20 : ¬ p2.toInt ≥ iM_variables.toInt := toI_nge c_20 rfl rfl
        refine lv_aload_n hx hb dX11_counted_23 rfl (lv_at hl 0 rfl) ?_
        refine va_get (D := (dC, dI)) (ci := 11) (v := .ref (hM 0)) (C := RX11) (T := TX11) (N := 11) hx hb hts iwsMX11_counted_0_in11 hown hK hP 0 rfl rfl 2 (by decide) (hts _ hm_m_X11_counted_0_0) (fun _ h9 => h9) rfl dX11_counted_24 ?_
        refine va_get (D := (dC, dI)) (ci := 1) (v := .ref (aM 2)) (C := RX1) (T := TX1) (N := 17) hx hb hts iwsMX11_counted_0_in1 hown hK hP 3 rfl rfl 8 (by decide) (hts (.fieldLink RX11 102 "OptimaWorks$Model" "whole" "[Z") (by decide +kernel)) (fun _ h9 => h9) rfl dX11_counted_27 ?_
        refine lv_iload_n hx hb dX11_counted_30 rfl (lv_at hl 2 rfl) ?_
        refine va_zald (cA := kM 2) (n := 8) (f := fM_whole) hx hb hK hP 6 4 rfl rfl (vp_in_iff.mpr ⟨(by omega), (Int.lt_of_lt_of_le (Int.not_le.mp t_20) (Int.le_trans b_iM_variables.2 (by decide)))⟩) dX11_counted_31 ?_
        refine lv_topi (fun v2 hv2 => ?_)
        clear hv2
        refine lv_if_eq (tgt := 46) hx hb dX11_counted_32 (by decide) (fun c_32 => ?_) (fun c_32 => ?_)
        · have t_32 : v2.toInt = 0 := toI_eq c_32 rfl (by decide : (0 : Int32).toInt = 0)
          refine lv_sipush (v := (-1000)) hx hb dX11_counted_46 (by decide) ?_
          refine vx_ret ?_
          refine W.widen (k := 880) (n := 8040) (by decide +kernel) (by decide +kernel) ?_
          exact W.iret (v := (-1000)) hx hb hr (fun t9_ ht hW => ⟨⟨((-1000) : Int32), (.null, ([])), rfl, (by (try dsimp only); exact Or.inl ⟨rfl, rfl⟩), by rw [ht]; first | exact hP | (simp only [List.append_nil]; exact hP), by first | exact hD | (simp only [List.append_nil]; exact hD)⟩, hS.F ht⟩) hS.2.2 dX11_counted_49
        · have t_32 : ¬ v2.toInt = 0 := toI_neq c_32 rfl (by decide : (0 : Int32).toInt = 0)
          refine lv_iload_n hx hb dX11_counted_35 rfl (lv_at hl 1 rfl) ?_
          refine lv_aload_n hx hb dX11_counted_36 rfl (lv_at hl 0 rfl) ?_
          have p9 : List.Perm (WX hX aX kX hT hM fX_ready fX_sheet dX_sheet nX_sheet iX_sheetLength xX_reader .null xX_prover xX_values xX_clauses xX_nets ++ (WM hM aM kM iM_stands iM_variables iM_rows iM_goals iM_differents iM_cases fM_from fM_to fM_whole fM_ways iM_plainRows fM_plainRow fM_kept fM_goalOver fM_goalUnder fM_goalMax fM_different)) ((WX hX aX kX hT hM fX_ready fX_sheet dX_sheet nX_sheet iX_sheetLength xX_reader .null xX_prover xX_values xX_clauses xX_nets) ++ (WM hM aM kM iM_stands iM_variables iM_rows iM_goals iM_differents iM_cases fM_from fM_to fM_whole fM_ways iM_plainRows fM_plainRow fM_kept fM_goalOver fM_goalUnder fM_goalMax fM_different)) := (List.Perm.refl _)
          have hPc := hP.mem (fun q h => p9.mem_iff.mpr (List.mem_append_left _ h))
          have hDc := (hD.perm p9).left
          have hKc : va_K (dC, dI) vwCl (tX kX ++ (tO kO ++ (tQ kQ ++ (tW kw)))) _ := hK.sub [0, 1, 12, 13, 14, 15, 16, 17, 18, 19, 20, 21, 22, 23, 24, 25, 26] rfl
          have hFc := freeG p9 hD hS hA
          refine va_callr (va_runV (As := []) (rest := [.int p1]) ⟨hx, hb, hml, hown, hts⟩ (m_X11_theSolver_0 l hst dC dI hX aX kX hT hM fX_ready fX_sheet dX_sheet nX_sheet iX_sheetLength xX_reader xX_prover xX_values xX_clauses xX_nets kO kQ kw b_fX_sheet (by first | exact b_nX_sheet | with_reducible assumption | exact ⟨by omega, by omega⟩ | assumption) (b_iX_sheetLength) (by first | with_reducible assumption | omega | assumption) H.size) (cwV 0 hts gwsMX11_counted_0_1 rfl rfl rfl hd_yX11_theSolver_RX11 (by decide +kernel)) (fz_preE (va_recv hK hP (ci := 11) (q0 := 0) rfl rfl) hPc hKc hDc (fun a U g mk qE => qE.call) (fun U hU9 hW => by rw [hU9]; exact (((hE : CE A s s.heap).kept hS.2.1).narrow (fun q h => hFc q h)).warm hW)) rfl rfl hl.1 rfl (lv_room (Nat.le_of_ble_eq_true rfl)) dX11_counted_37 (by decide +kernel)) hS (fun q _ h => hFc q h) hFc (fun u ra3 t9_ H1 locs ht hvm hw9 hB9 hz1 hk1 hS => ?_)
          revert u hw9 hB9
          refine fz_p6 ?_
          intro hO aO hQ aQ hw lw hw9 hB9
          try dsimp only at hw9 hB9
          revert hB9
          refine fz_a2 ?_
          intro hra hB9
          subst hra
          clear hw9
          revert hB9
          refine fz_a2 ?_
          intro hP1 hD1
          rw [ht] at hP1
          obtain ⟨nW, hnW9⟩ : ∃ n9 : Nat, n9 = 432 := ⟨_, rfl⟩
          rw [← hnW9] at hP1 hD1
          have p8 : List.Perm (α := Nat × va_E) (WX hX aX kX hT hM fX_ready fX_sheet dX_sheet nX_sheet iX_sheetLength xX_reader (.ref (hO 0)) xX_prover xX_values xX_clauses xX_nets ++ (WM hM aM kM iM_stands iM_variables iM_rows iM_goals iM_differents iM_cases fM_from fM_to fM_whole fM_ways iM_plainRows fM_plainRow fM_kept fM_goalOver fM_goalUnder fM_goalMax fM_different ++ (WO hO aO kO hM hQ hw 0 0 0 (-1) (fun _ => 0) (fun _ => 0) (fun _ => 0) (fun _ => 0) (fun _ => 0) (fun _ => 0) ++ (WQ hQ aQ kQ hw (fun _ => 0) (fun _ => 0) (fun _ => 0) 0 0 0 ++ (WW nW hw lw kw (fun _ => 0) (fun _ => 0) (fun _ _ => 0)))))) ((WX hX aX kX hT hM fX_ready fX_sheet dX_sheet nX_sheet iX_sheetLength xX_reader (.ref (hO 0)) xX_prover xX_values xX_clauses xX_nets ++ (WO hO aO kO hM hQ hw 0 0 0 (-1) (fun _ => 0) (fun _ => 0) (fun _ => 0) (fun _ => 0) (fun _ => 0) (fun _ => 0) ++ (WQ hQ aQ kQ hw (fun _ => 0) (fun _ => 0) (fun _ => 0) 0 0 0 ++ (WW nW hw lw kw (fun _ => 0) (fun _ => 0) (fun _ _ => 0))))) ++ (WM hM aM kM iM_stands iM_variables iM_rows iM_goals iM_differents iM_cases fM_from fM_to fM_whole fM_ways iM_plainRows fM_plainRow fM_kept fM_goalOver fM_goalUnder fM_goalMax fM_different)) := ((((((List.Perm.append_left _ ((List.Perm.append_left _ ((List.Perm.append_left _ (List.perm_append_comm)).trans (List.perm_append_comm_assoc _ _ _))).trans (List.perm_append_comm_assoc _ _ _))).trans (List.perm_append_comm_assoc _ _ _)).trans ((List.Perm.append_left _ ((List.Perm.append_left _ ((List.Perm.append_left _ (List.perm_append_comm)).trans (List.perm_append_comm_assoc _ _ _))).trans (List.perm_append_comm_assoc _ _ _))).trans (List.perm_append_comm_assoc _ _ _))).trans ((List.Perm.append_left _ ((List.Perm.append_left _ ((List.Perm.append_left _ (List.perm_append_comm)).trans (List.perm_append_comm_assoc _ _ _))).trans (List.perm_append_comm_assoc _ _ _))).trans (List.perm_append_comm_assoc _ _ _))).trans ((List.Perm.append_left _ ((List.Perm.append_left _ (List.perm_append_comm_assoc _ _ _)).trans (List.perm_append_comm_assoc _ _ _))).trans (List.perm_append_comm_assoc _ _ _))).trans (List.Perm.of_eq (by simp only [List.append_assoc])))
          obtain ⟨hP, hD⟩ := frameG p9 p8 hP hD hk1 hFc hP1 hD1
          clear p8 p9
          generalize H1 = H at hP hS ⊢
          have hP : va_P (dC, dI) vwCl (WX hX aX kX hT hM fX_ready fX_sheet dX_sheet nX_sheet iX_sheetLength xX_reader (.ref (hO 0)) xX_prover xX_values xX_clauses xX_nets ++ (WM hM aM kM iM_stands iM_variables iM_rows iM_goals iM_differents iM_cases fM_from fM_to fM_whole fM_ways iM_plainRows fM_plainRow fM_kept fM_goalOver fM_goalUnder fM_goalMax fM_different ++ (WO hO aO kO hM hQ hw 0 0 0 (-1) (fun _ => 0) (fun _ => 0) (fun _ => 0) (fun _ => 0) (fun _ => 0) (fun _ => 0) ++ (WQ hQ aQ kQ hw (fun _ => 0) (fun _ => 0) (fun _ => 0) 0 0 0 ++ (WW nW hw lw kw (fun _ => 0) (fun _ => 0) (fun _ _ => 0)))))) H := hP
          have hD := fz_sd hP (hD) rfl
          refine W.widen (k := 880) (n := 8040) (by decide +kernel) (by decide +kernel) ?_
          have htb0 : TbO 0 0 0 := TbO.zero
          have hnW : 432 ≤ nW := by omega
          have p9 := cj_5_2_1_3_4 (WX hX aX kX hT hM fX_ready fX_sheet dX_sheet nX_sheet iX_sheetLength xX_reader (.ref (hO 0)) xX_prover xX_values xX_clauses xX_nets) (WM hM aM kM iM_stands iM_variables iM_rows iM_goals iM_differents iM_cases fM_from fM_to fM_whole fM_ways iM_plainRows fM_plainRow fM_kept fM_goalOver fM_goalUnder fM_goalMax fM_different) (WO hO aO kO hM hQ hw 0 0 0 (-1) (fun _ => 0) (fun _ => 0) (fun _ => 0) (fun _ => 0) (fun _ => 0) (fun _ => 0)) (WQ hQ aQ kQ hw (fun _ => 0) (fun _ => 0) (fun _ => 0) 0 0 0) (WW nW hw lw kw (fun _ => 0) (fun _ => 0) (fun _ _ => 0))
          have hPc := hP.mem (fun q h => p9.mem_iff.mpr (List.mem_append_left _ h))
          have hDc := (hD.perm p9).left
          have hKc : va_K (dC, dI) vwCl (tO kO ++ (tM kM ++ (tQ kQ ++ (tW kw)))) _ := hK.sub [12, 13, 14, 15, 16, 17, 18, 19, 20, 21, 2, 3, 4, 5, 6, 7, 8, 9, 10, 11, 22, 23, 24, 25, 26] rfl
          have hFc := freeG p9 hD hS hA
          refine va_calli (va_runV (As := []) (rest := [.int p1]) ⟨hx, hb, hml, hown, hts⟩ (m_X5_countRows l dC dI hO aO kO hM hQ hw 0 0 0 (-1) (fun _ => 0) (fun _ => 0) (fun _ => 0) (fun _ => 0) (fun _ => 0) (fun _ => 0) aM kM iM_stands iM_variables iM_rows iM_goals iM_differents iM_cases fM_from fM_to fM_whole fM_ways iM_plainRows fM_plainRow fM_kept fM_goalOver fM_goalUnder fM_goalMax fM_different aQ kQ (fun _ => 0) (fun _ => 0) (fun _ => 0) 0 0 0 nW lw kw (fun _ => 0) (fun _ => 0) (fun _ _ => 0) (show 0 ≤ (0 : Int32).toInt ∧ (0 : Int32).toInt ≤ 1 from by decide) (show 0 ≤ (0 : Int32).toInt ∧ (0 : Int32).toInt ≤ 1 from by decide) (show 0 ≤ (0 : Int32).toInt ∧ (0 : Int32).toInt ≤ 1 from by decide) (show (-1) ≤ ((-1) : Int32).toInt ∧ ((-1) : Int32).toInt ≤ 64 from by decide) (zr_r (by decide) (by decide)) (zr_r (by decide) (by decide)) (zr_r (by decide) (by decide)) (b_iM_stands) (b_iM_variables) (b_iM_rows) (b_iM_goals) (b_iM_differents) (b_iM_cases) b_fM_ways (b_iM_plainRows) b_fM_plainRow (by first | with_reducible assumption | omega | assumption) (show 0 ≤ (0 : Int32).toInt ∧ (0 : Int32).toInt ≤ 40 from by decide) (show 0 ≤ (0 : Int32).toInt ∧ (0 : Int32).toInt ≤ 40 from by decide) (show 0 ≤ (0 : Int32).toInt ∧ (0 : Int32).toInt ≤ 40 from by decide) (by first | with_reducible assumption | omega | assumption) (zr_r (by decide) (by decide)) (zr_r (by decide) (by decide)) (by first | with_reducible assumption | omega | (rw [iI_t (by omega) (by omega)]; omega) | decide | assumption) H.size) (cwV 0 hts gwsMX11_counted_0_2 rfl rfl rfl hd_yX5_countRows_RX5 (by decide +kernel)) (fz_pre (va_recv hK hP (ci := 5) (q0 := 14) rfl rfl) hPc hKc hDc) rfl rfl hl.1 rfl (lv_room (Nat.le_of_ble_eq_true rfl)) dX11_counted_40 (by decide +kernel)) hS (fun q _ h => hFc q h) hFc (fun r4 u t9_ H locs ht hvm hw9 hB9 hz1 hk1 hS => ?_)
          revert u hw9 hB9
          refine fz_p14 ?_
          intro iO_counted_4 fO_countedCase_4 fO_start_4 fO_column_4 fO_chosen_4 fQ_inside_4 fQ_outside_4 fQ_shut_4 iQ_rows_4 iQ_allRows_4 iQ_columns_4 wl_4 wb_4 wG_4 hw9 hB9
          try dsimp only at hw9 hB9
          revert hw9
          refine fz_a11 ?_
          intro b_iO_counted_4 b_fO_countedCase_4 b_fO_column_4 b_fO_chosen_4 b_iQ_rows_4 b_iQ_allRows_4 b_iQ_columns_4 b_wl_4 b_wb_4 b_tb_4 b_r4
          have p8 := cj_5_2_1_3_4 (WX hX aX kX hT hM fX_ready fX_sheet dX_sheet nX_sheet iX_sheetLength xX_reader (.ref (hO 0)) xX_prover xX_values xX_clauses xX_nets) (WM hM aM kM iM_stands iM_variables iM_rows iM_goals iM_differents iM_cases fM_from fM_to fM_whole fM_ways iM_plainRows fM_plainRow fM_kept fM_goalOver fM_goalUnder fM_goalMax fM_different) (WO hO aO kO hM hQ hw 0 0 0 iO_counted_4 fO_countedCase_4 (fun _ => 0) (fun _ => 0) fO_start_4 fO_column_4 fO_chosen_4) (WQ hQ aQ kQ hw fQ_inside_4 fQ_outside_4 fQ_shut_4 iQ_rows_4 iQ_allRows_4 iQ_columns_4) (WW nW hw lw kw wl_4 wb_4 wG_4)
          obtain ⟨hP, hD⟩ := frameG p9 p8 hP hD hk1 hFc (fz_P ht hB9.1) hB9.2
          refine lv_icmp_lt (tgt := 50) hx hb dX11_counted_43 (by decide) (fun c_43 => ?_) (fun c_43 => ?_)
          · have t_43 : p1.toInt < r4.toInt := toI_lt c_43 rfl rfl
            refine lv_aload_n hx hb dX11_counted_50 rfl (lv_at hl 0 rfl) ?_
            refine va_get (D := (dC, dI)) (ci := 11) (v := .ref (hO 0)) (C := RX11) (T := TX11) (N := 11) hx hb hts iwsMX11_counted_0_in11 hown hK hP 0 rfl rfl 6 (by decide) (hts (.fieldLink RX11 48 "OptimaWorks" "solver" "LOptimaWorks$Solver;") (by decide +kernel)) (fun _ h9 => h9) rfl dX11_counted_51 ?_
            refine lv_iload_n hx hb dX11_counted_54 rfl (lv_at hl 1 rfl) ?_
            refine lv_iload_n hx hb dX11_counted_55 rfl (lv_at hl 2 rfl) ?_
            have p9 := cj_5_2_1_3_4 (WX hX aX kX hT hM fX_ready fX_sheet dX_sheet nX_sheet iX_sheetLength xX_reader (.ref (hO 0)) xX_prover xX_values xX_clauses xX_nets) (WM hM aM kM iM_stands iM_variables iM_rows iM_goals iM_differents iM_cases fM_from fM_to fM_whole fM_ways iM_plainRows fM_plainRow fM_kept fM_goalOver fM_goalUnder fM_goalMax fM_different) (WO hO aO kO hM hQ hw 0 0 0 iO_counted_4 fO_countedCase_4 (fun _ => 0) (fun _ => 0) fO_start_4 fO_column_4 fO_chosen_4) (WQ hQ aQ kQ hw fQ_inside_4 fQ_outside_4 fQ_shut_4 iQ_rows_4 iQ_allRows_4 iQ_columns_4) (WW nW hw lw kw wl_4 wb_4 wG_4)
            have hPc := hP.mem (fun q h => p9.mem_iff.mpr (List.mem_append_left _ h))
            have hDc := (hD.perm p9).left
            have hKc : va_K (dC, dI) vwCl (tO kO ++ (tM kM ++ (tQ kQ ++ (tW kw)))) _ := hK.sub [12, 13, 14, 15, 16, 17, 18, 19, 20, 21, 2, 3, 4, 5, 6, 7, 8, 9, 10, 11, 22, 23, 24, 25, 26] rfl
            have hFc := freeG p9 hD hS hA
            refine va_calli (va_runV (As := [.int p1, .int p2]) (rest := []) ⟨hx, hb, hml, hown, hts⟩ (m_X5_countedNumber l dC dI hO aO kO hM hQ hw 0 0 0 iO_counted_4 fO_countedCase_4 (fun _ => 0) (fun _ => 0) fO_start_4 fO_column_4 fO_chosen_4 aM kM iM_stands iM_variables iM_rows iM_goals iM_differents iM_cases fM_from fM_to fM_whole fM_ways iM_plainRows fM_plainRow fM_kept fM_goalOver fM_goalUnder fM_goalMax fM_different aQ kQ fQ_inside_4 fQ_outside_4 fQ_shut_4 iQ_rows_4 iQ_allRows_4 iQ_columns_4 nW lw kw wl_4 wb_4 wG_4 p1 p2 (show 0 ≤ (0 : Int32).toInt ∧ (0 : Int32).toInt ≤ 1 from by decide) (show 0 ≤ (0 : Int32).toInt ∧ (0 : Int32).toInt ≤ 1 from by decide) (show 0 ≤ (0 : Int32).toInt ∧ (0 : Int32).toInt ≤ 1 from by decide) (b_iO_counted_4) b_fO_countedCase_4 b_fO_column_4 b_fO_chosen_4 (b_iM_stands) (b_iM_variables) (b_iM_rows) (b_iM_goals) (b_iM_differents) (b_iM_cases) b_fM_ways (b_iM_plainRows) b_fM_plainRow (by first | with_reducible assumption | omega | assumption) (b_iQ_rows_4) (b_iQ_allRows_4) (b_iQ_columns_4) (by first | with_reducible assumption | omega | assumption) b_wl_4 b_wb_4 (by first | exact b_p1 | with_reducible assumption | exact ⟨by omega, by omega⟩ | assumption) (by first | exact b_p2 | with_reducible assumption | exact ⟨by omega, by omega⟩ | assumption) (by first | with_reducible assumption | omega | (rw [iI_t (by omega) (by omega)]; omega) | decide | assumption) H.size) (cwV 2 hts gwsMX11_counted_0_3 rfl rfl rfl hd_yX5_countedNumber_RX5 (by decide +kernel)) (fz_pre (va_recv hK hP (ci := 5) (q0 := 14) rfl rfl) hPc hKc hDc) rfl rfl hl.1 rfl (lv_room (Nat.le_of_ble_eq_true rfl)) dX11_counted_56 (by decide +kernel)) hS (fun q _ h => hFc q h) hFc (fun r5 u t9_ H locs ht hvm hw9 hB9 hz1 hk1 hS => ?_)
            revert u hw9 hB9
            refine fz_p2 ?_
            intro fO_start_5 fO_chosen_5 hw9 hB9
            try dsimp only at hw9 hB9
            have b_fO_chosen_5 := hw9
            try dsimp only at b_fO_chosen_5
            have p8 := cj_5_2_1_3_4 (WX hX aX kX hT hM fX_ready fX_sheet dX_sheet nX_sheet iX_sheetLength xX_reader (.ref (hO 0)) xX_prover xX_values xX_clauses xX_nets) (WM hM aM kM iM_stands iM_variables iM_rows iM_goals iM_differents iM_cases fM_from fM_to fM_whole fM_ways iM_plainRows fM_plainRow fM_kept fM_goalOver fM_goalUnder fM_goalMax fM_different) (WO hO aO kO hM hQ hw 0 0 0 iO_counted_4 fO_countedCase_4 (fun _ => 0) (fun _ => 0) fO_start_5 fO_column_4 fO_chosen_5) (WQ hQ aQ kQ hw fQ_inside_4 fQ_outside_4 fQ_shut_4 iQ_rows_4 iQ_allRows_4 iQ_columns_4) (WW nW hw lw kw wl_4 wb_4 wG_4)
            obtain ⟨hP, hD⟩ := frameG p9 p8 hP hD hk1 hFc (fz_P ht hB9.1) hB9.2
            refine vx_ret ?_
            refine W.widen (k := 880) (n := 8040) (by decide +kernel) (by decide +kernel) ?_
            exact W.iret (v := r5) hx hb hr (fun t9_ ht hW => ⟨⟨r5, ((.ref (hO 0)), (WO hO aO kO hM hQ hw 0 0 0 iO_counted_4 fO_countedCase_4 (fun _ => 0) (fun _ => 0) fO_start_5 fO_column_4 fO_chosen_5 ++ (WQ hQ aQ kQ hw fQ_inside_4 fQ_outside_4 fQ_shut_4 iQ_rows_4 iQ_allRows_4 iQ_columns_4 ++ (WW nW hw lw kw wl_4 wb_4 wG_4)))), rfl, (by (try dsimp only); exact Or.inr ⟨hO, aO, hQ, hw, 0, 0, 0, iO_counted_4, fO_countedCase_4, (fun _ => 0), (fun _ => 0), fO_start_5, fO_column_4, fO_chosen_5, aQ, fQ_inside_4, fQ_outside_4, fQ_shut_4, iQ_rows_4, iQ_allRows_4, iQ_columns_4, nW, lw, wl_4, wb_4, wG_4, (show 0 ≤ (0 : Int32).toInt ∧ (0 : Int32).toInt ≤ 1 from by decide), (show 0 ≤ (0 : Int32).toInt ∧ (0 : Int32).toInt ≤ 1 from by decide), (show 0 ≤ (0 : Int32).toInt ∧ (0 : Int32).toInt ≤ 1 from by decide), (b_iO_counted_4), b_fO_countedCase_4, b_fO_column_4, b_fO_chosen_5, (b_iQ_rows_4), (b_iQ_allRows_4), (b_iQ_columns_4), (by first | with_reducible assumption | omega | assumption), b_wl_4, b_wb_4, (by omega), rfl, rfl⟩), by rw [ht]; exact hP, hD⟩, hS.F ht⟩) hS.2.2 dX11_counted_59
          · have t_43 : ¬ p1.toInt < r4.toInt := toI_nlt c_43 rfl rfl
            refine lv_sipush (v := (-1000)) hx hb dX11_counted_46 (by decide) ?_
            refine vx_ret ?_
            refine W.widen (k := 880) (n := 8040) (by decide +kernel) (by decide +kernel) ?_
            exact W.iret (v := (-1000)) hx hb hr (fun t9_ ht hW => ⟨⟨((-1000) : Int32), ((.ref (hO 0)), (WO hO aO kO hM hQ hw 0 0 0 iO_counted_4 fO_countedCase_4 (fun _ => 0) (fun _ => 0) fO_start_4 fO_column_4 fO_chosen_4 ++ (WQ hQ aQ kQ hw fQ_inside_4 fQ_outside_4 fQ_shut_4 iQ_rows_4 iQ_allRows_4 iQ_columns_4 ++ (WW nW hw lw kw wl_4 wb_4 wG_4)))), rfl, (by (try dsimp only); exact Or.inr ⟨hO, aO, hQ, hw, 0, 0, 0, iO_counted_4, fO_countedCase_4, (fun _ => 0), (fun _ => 0), fO_start_4, fO_column_4, fO_chosen_4, aQ, fQ_inside_4, fQ_outside_4, fQ_shut_4, iQ_rows_4, iQ_allRows_4, iQ_columns_4, nW, lw, wl_4, wb_4, wG_4, (show 0 ≤ (0 : Int32).toInt ∧ (0 : Int32).toInt ≤ 1 from by decide), (show 0 ≤ (0 : Int32).toInt ∧ (0 : Int32).toInt ≤ 1 from by decide), (show 0 ≤ (0 : Int32).toInt ∧ (0 : Int32).toInt ≤ 1 from by decide), (b_iO_counted_4), b_fO_countedCase_4, b_fO_column_4, b_fO_chosen_4, (b_iQ_rows_4), (b_iQ_allRows_4), (b_iQ_columns_4), (by first | with_reducible assumption | omega | assumption), b_wl_4, b_wb_4, (by omega), rfl, rfl⟩), by rw [ht]; exact hP, hD⟩, hS.F ht⟩) hS.2.2 dX11_counted_49
end

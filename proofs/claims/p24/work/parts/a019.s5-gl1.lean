section
theorem hd_yX5_scaleGoals_RX5 : yX5_scaleGoals.cls = RX5 ∧ yX5_scaleGoals.cls ≠ "java/lang/invoke/MethodHandle" ∧ yX5_scaleGoals.cls ≠ "java/lang/invoke/VarHandle" ∧ (parseMethodDescriptor yX5_scaleGoals.desc).map (fun d => d.parameters.length) = some 0 := by decide +kernel
theorem hd_yX5_lay_RX5 : yX5_lay.cls = RX5 ∧ yX5_lay.cls ≠ "java/lang/invoke/MethodHandle" ∧ yX5_lay.cls ≠ "java/lang/invoke/VarHandle" ∧ (parseMethodDescriptor yX5_lay.desc).map (fun d => d.parameters.length) = some 2 := by decide +kernel
theorem hd_yX5_settle_RX5 : yX5_settle.cls = RX5 ∧ yX5_settle.cls ≠ "java/lang/invoke/MethodHandle" ∧ yX5_settle.cls ≠ "java/lang/invoke/VarHandle" ∧ (parseMethodDescriptor yX5_settle.desc).map (fun d => d.parameters.length) = some 1 := by decide +kernel
theorem hd_yX5_tryAnswer_RX5 : yX5_tryAnswer.cls = RX5 ∧ yX5_tryAnswer.cls ≠ "java/lang/invoke/MethodHandle" ∧ yX5_tryAnswer.cls ≠ "java/lang/invoke/VarHandle" ∧ (parseMethodDescriptor yX5_tryAnswer.desc).map (fun d => d.parameters.length) = some 0 := by decide +kernel
theorem hd_yX5_choose_RX5 : yX5_choose.cls = RX5 ∧ yX5_choose.cls ≠ "java/lang/invoke/MethodHandle" ∧ yX5_choose.cls ≠ "java/lang/invoke/VarHandle" ∧ (parseMethodDescriptor yX5_choose.desc).map (fun d => d.parameters.length) = some 1 := by decide +kernel
theorem hd_yX5_setGoal_RX5 : yX5_setGoal.cls = RX5 ∧ yX5_setGoal.cls ≠ "java/lang/invoke/MethodHandle" ∧ yX5_setGoal.cls ≠ "java/lang/invoke/VarHandle" ∧ (parseMethodDescriptor yX5_setGoal.desc).map (fun d => d.parameters.length) = some 3 := by decide +kernel
theorem hd_yX8_isOne_RX8 : yX8_isOne.cls = RX8 ∧ yX8_isOne.cls ≠ "java/lang/invoke/MethodHandle" ∧ yX8_isOne.cls ≠ "java/lang/invoke/VarHandle" ∧ (parseMethodDescriptor yX8_isOne.desc).map (fun d => d.parameters.length) = some 0 := by decide +kernel
theorem dX5_findAnswer_0 : decode cX5_findAnswer 0 = .ok (.aload_n 0, 1) := dk_42 (by decide +kernel)
theorem dX5_findAnswer_1 : decode cX5_findAnswer 1 = .ok (.getfield 82, 3) := dk_180 (by decide +kernel)
theorem dX5_findAnswer_4 : decode cX5_findAnswer 4 = .ok (.ifCond .eq 16, 3) := dk_153 (by decide +kernel)
theorem dX5_findAnswer_7 : decode cX5_findAnswer 7 = .ok (.aload_n 0, 1) := dk_42 (by decide +kernel)
theorem dX5_findAnswer_8 : decode cX5_findAnswer 8 = .ok (.getfield 85, 3) := dk_180 (by decide +kernel)
theorem dX5_findAnswer_11 : decode cX5_findAnswer 11 = .ok (.iload_n 1, 1) := dk_27 (by decide +kernel)
theorem dX5_findAnswer_12 : decode cX5_findAnswer 12 = .ok (.if_icmp .ne 8, 3) := dk_160 (by decide +kernel)
theorem dX5_findAnswer_15 : decode cX5_findAnswer 15 = .ok (.aload_n 0, 1) := dk_42 (by decide +kernel)
theorem dX5_findAnswer_16 : decode cX5_findAnswer 16 = .ok (.getfield 78, 3) := dk_180 (by decide +kernel)
theorem dX5_findAnswer_19 : decode cX5_findAnswer 19 = .ok (.ireturn, 1) := dk_172 (by decide +kernel)
theorem dX5_findAnswer_20 : decode cX5_findAnswer 20 = .ok (.aload_n 0, 1) := dk_42 (by decide +kernel)
theorem dX5_findAnswer_21 : decode cX5_findAnswer 21 = .ok (.iconst 1, 1) := dk_4 (by decide +kernel)
theorem dX5_findAnswer_22 : decode cX5_findAnswer 22 = .ok (.putfield 82, 3) := dk_181 (by decide +kernel)
theorem dX5_findAnswer_25 : decode cX5_findAnswer 25 = .ok (.aload_n 0, 1) := dk_42 (by decide +kernel)
theorem dX5_findAnswer_26 : decode cX5_findAnswer 26 = .ok (.iload_n 1, 1) := dk_27 (by decide +kernel)
theorem dX5_findAnswer_27 : decode cX5_findAnswer 27 = .ok (.putfield 85, 3) := dk_181 (by decide +kernel)
theorem dX5_findAnswer_30 : decode cX5_findAnswer 30 = .ok (.aload_n 0, 1) := dk_42 (by decide +kernel)
theorem dX5_findAnswer_31 : decode cX5_findAnswer 31 = .ok (.iconst 0, 1) := dk_3 (by decide +kernel)
theorem dX5_findAnswer_32 : decode cX5_findAnswer 32 = .ok (.putfield 78, 3) := dk_181 (by decide +kernel)
theorem dX5_findAnswer_35 : decode cX5_findAnswer 35 = .ok (.aload_n 0, 1) := dk_42 (by decide +kernel)
theorem dX5_findAnswer_36 : decode cX5_findAnswer 36 = .ok (.invokevirtual 88, 3) := dk_182 (by decide +kernel)
theorem dX5_findAnswer_39 : decode cX5_findAnswer 39 = .ok (.iload_n 1, 1) := dk_27 (by decide +kernel)
theorem dX5_findAnswer_40 : decode cX5_findAnswer 40 = .ok (.ifCond .eq 7, 3) := dk_153 (by decide +kernel)
theorem dX5_findAnswer_43 : decode cX5_findAnswer 43 = .ok (.iconst 1, 1) := dk_4 (by decide +kernel)
theorem dX5_findAnswer_44 : decode cX5_findAnswer 44 = .ok (.goto 10, 3) := dk_167 (by decide +kernel)
theorem dX5_findAnswer_47 : decode cX5_findAnswer 47 = .ok (.aload_n 0, 1) := dk_42 (by decide +kernel)
theorem dX5_findAnswer_48 : decode cX5_findAnswer 48 = .ok (.getfield 74, 3) := dk_180 (by decide +kernel)
theorem dX5_findAnswer_51 : decode cX5_findAnswer 51 = .ok (.getfield 91, 3) := dk_180 (by decide +kernel)
theorem dX5_findAnswer_54 : decode cX5_findAnswer 54 = .ok (.istore_n 2, 1) := dk_61 (by decide +kernel)
theorem dX5_findAnswer_55 : decode cX5_findAnswer 55 = .ok (.iconst 0, 1) := dk_3 (by decide +kernel)
theorem dX5_findAnswer_56 : decode cX5_findAnswer 56 = .ok (.istore_n 3, 1) := dk_62 (by decide +kernel)
theorem dX5_findAnswer_57 : decode cX5_findAnswer 57 = .ok (.iload_n 3, 1) := dk_29 (by decide +kernel)
theorem dX5_findAnswer_58 : decode cX5_findAnswer 58 = .ok (.iload_n 2, 1) := dk_28 (by decide +kernel)
theorem dX5_findAnswer_59 : decode cX5_findAnswer 59 = .ok (.if_icmp .ge 48, 3) := dk_162 (by decide +kernel)
theorem dX5_findAnswer_62 : decode cX5_findAnswer 62 = .ok (.iload_n 1, 1) := dk_27 (by decide +kernel)
theorem dX5_findAnswer_63 : decode cX5_findAnswer 63 = .ok (.ifCond .ne 11, 3) := dk_154 (by decide +kernel)
theorem dX5_findAnswer_66 : decode cX5_findAnswer 66 = .ok (.aload_n 0, 1) := dk_42 (by decide +kernel)
theorem dX5_findAnswer_67 : decode cX5_findAnswer 67 = .ok (.iload_n 3, 1) := dk_29 (by decide +kernel)
theorem dX5_findAnswer_68 : decode cX5_findAnswer 68 = .ok (.invokevirtual 94, 3) := dk_182 (by decide +kernel)
theorem dX5_findAnswer_71 : decode cX5_findAnswer 71 = .ok (.ifCond .eq 30, 3) := dk_153 (by decide +kernel)
theorem dX5_findAnswer_74 : decode cX5_findAnswer 74 = .ok (.aload_n 0, 1) := dk_42 (by decide +kernel)
theorem dX5_findAnswer_75 : decode cX5_findAnswer 75 = .ok (.iload_n 1, 1) := dk_27 (by decide +kernel)
theorem dX5_findAnswer_76 : decode cX5_findAnswer 76 = .ok (.aload_n 0, 1) := dk_42 (by decide +kernel)
theorem dX5_findAnswer_77 : decode cX5_findAnswer 77 = .ok (.getfield 74, 3) := dk_180 (by decide +kernel)
theorem dX5_findAnswer_80 : decode cX5_findAnswer 80 = .ok (.getfield 98, 3) := dk_180 (by decide +kernel)
theorem dX5_findAnswer_83 : decode cX5_findAnswer 83 = .ok (.invokevirtual 101, 3) := dk_182 (by decide +kernel)
theorem dX5_findAnswer_86 : decode cX5_findAnswer 86 = .ok (.ifCond .eq 15, 3) := dk_153 (by decide +kernel)
theorem dX5_findAnswer_89 : decode cX5_findAnswer 89 = .ok (.aload_n 0, 1) := dk_42 (by decide +kernel)
theorem dX5_findAnswer_90 : decode cX5_findAnswer 90 = .ok (.iload_n 1, 1) := dk_27 (by decide +kernel)
theorem dX5_findAnswer_91 : decode cX5_findAnswer 91 = .ok (.invokevirtual 105, 3) := dk_182 (by decide +kernel)
theorem dX5_findAnswer_94 : decode cX5_findAnswer 94 = .ok (.ifCond .eq 7, 3) := dk_153 (by decide +kernel)
theorem dX5_findAnswer_97 : decode cX5_findAnswer 97 = .ok (.aload_n 0, 1) := dk_42 (by decide +kernel)
theorem dX5_findAnswer_98 : decode cX5_findAnswer 98 = .ok (.invokevirtual 109, 3) := dk_182 (by decide +kernel)
theorem dX5_findAnswer_101 : decode cX5_findAnswer 101 = .ok (.iinc 3 1, 3) := dk_132 (by decide +kernel)
theorem dX5_findAnswer_104 : decode cX5_findAnswer 104 = .ok (.goto (-47), 3) := dk_167 (by decide +kernel)
theorem dX5_findAnswer_107 : decode cX5_findAnswer 107 = .ok (.aload_n 0, 1) := dk_42 (by decide +kernel)
theorem dX5_findAnswer_108 : decode cX5_findAnswer 108 = .ok (.getfield 78, 3) := dk_180 (by decide +kernel)
theorem dX5_findAnswer_111 : decode cX5_findAnswer 111 = .ok (.ireturn, 1) := dk_172 (by decide +kernel)
def wsMX5_findAnswer : List Cond := .code yX5_findAnswer cX5_findAnswer 4 (some .boolean) :: ([.fieldLink RX5 82 "OptimaWorks$Solver" "searched" "Z", .fieldLink RX5 85 "OptimaWorks$Solver" "searchedRelaxed" "Z", .fieldLink RX5 78 "OptimaWorks$Solver" "answered" "Z", .fieldLink RX5 74 "OptimaWorks$Solver" "model" "LOptimaWorks$Model;", .fieldLink RX5 91 "OptimaWorks$Model" "cases" "I", .fieldLink RX5 98 "OptimaWorks$Model" "goals" "I"] ++ wsX10 ++ wsX50 ++ (wsV RX5 88 RX5 yX5_scaleGoals wsMX5_scaleGoals) ++ (wsV RX5 101 RX5 yX5_lay wsMX5_lay) ++ (wsV RX5 105 RX5 yX5_settle wsMX5_settle) ++ (wsV RX5 109 RX5 yX5_tryAnswer wsMX5_tryAnswer) ++ (wsV RX5 94 RX5 yX5_choose wsMX5_choose))
theorem iwsMX5_findAnswer_in1 : ∀ w ∈ wsX10, w ∈ wsMX5_findAnswer := fun _ h => List.mem_cons_of_mem _ (List.mem_append_left _ (List.mem_append_left _ (List.mem_append_left _ (List.mem_append_left _ (List.mem_append_left _ (List.mem_append_left _ (List.mem_append_right _ h)))))))
theorem iwsMX5_findAnswer_in5 : ∀ w ∈ wsX50, w ∈ wsMX5_findAnswer := fun _ h => List.mem_cons_of_mem _ (List.mem_append_left _ (List.mem_append_left _ (List.mem_append_left _ (List.mem_append_left _ (List.mem_append_left _ (List.mem_append_right _ h))))))
theorem gwsMX5_findAnswer_0 : GoodIn wsMX5_findAnswer (wsV RX5 88 RX5 yX5_scaleGoals wsMX5_scaleGoals) := goodIn_sub (fun _ h => List.mem_cons_of_mem _ (List.mem_append_left _ (List.mem_append_left _ (List.mem_append_left _ (List.mem_append_left _ (List.mem_append_right _ h)))))) (gdV (by decide +kernel) gdwsMX5_scaleGoals)
theorem gwsMX5_findAnswer_1 : GoodIn wsMX5_findAnswer (wsV RX5 101 RX5 yX5_lay wsMX5_lay) := goodIn_sub (fun _ h => List.mem_cons_of_mem _ (List.mem_append_left _ (List.mem_append_left _ (List.mem_append_left _ (List.mem_append_right _ h))))) (gdV (by decide +kernel) gdwsMX5_lay)
theorem gwsMX5_findAnswer_2 : GoodIn wsMX5_findAnswer (wsV RX5 105 RX5 yX5_settle wsMX5_settle) := goodIn_sub (fun _ h => List.mem_cons_of_mem _ (List.mem_append_left _ (List.mem_append_left _ (List.mem_append_right _ h)))) (gdV (by decide +kernel) gdwsMX5_settle)
theorem gwsMX5_findAnswer_3 : GoodIn wsMX5_findAnswer (wsV RX5 109 RX5 yX5_tryAnswer wsMX5_tryAnswer) := goodIn_sub (fun _ h => List.mem_cons_of_mem _ (List.mem_append_left _ (List.mem_append_right _ h))) (gdV (by decide +kernel) gdwsMX5_tryAnswer)
theorem gwsMX5_findAnswer_4 : GoodIn wsMX5_findAnswer (wsV RX5 94 RX5 yX5_choose wsMX5_choose) := goodIn_sub (fun _ h => List.mem_cons_of_mem _ (List.mem_append_right _ h)) (gdV (by decide +kernel) gdwsMX5_choose)
theorem gdwsMX5_findAnswer : wsMX5_findAnswer.all goodWord = true := gdC rfl (gdA (gdA (gdA (gdA (gdA (gdA (gdA (by decide +kernel : ([.fieldLink RX5 82 "OptimaWorks$Solver" "searched" "Z", .fieldLink RX5 85 "OptimaWorks$Solver" "searchedRelaxed" "Z", .fieldLink RX5 78 "OptimaWorks$Solver" "answered" "Z", .fieldLink RX5 74 "OptimaWorks$Solver" "model" "LOptimaWorks$Model;", .fieldLink RX5 91 "OptimaWorks$Model" "cases" "I", .fieldLink RX5 98 "OptimaWorks$Model" "goals" "I"] : List Cond).all goodWord = true) gdwsX10) gdwsX50) (gdV (by decide +kernel) gdwsMX5_scaleGoals)) (gdV (by decide +kernel) gdwsMX5_lay)) (gdV (by decide +kernel) gdwsMX5_settle)) (gdV (by decide +kernel) gdwsMX5_tryAnswer)) (gdV (by decide +kernel) gdwsMX5_choose))
theorem hm_m_X5_findAnswer_0 : (.fieldLink RX5 82 "OptimaWorks$Solver" "searched" "Z" : Cond) ∈ wsMX5_findAnswer := by decide +kernel
theorem hm_m_X5_findAnswer_1 : (.fieldLink RX5 85 "OptimaWorks$Solver" "searchedRelaxed" "Z" : Cond) ∈ wsMX5_findAnswer := by decide +kernel
theorem hm_m_X5_findAnswer_2 : (.fieldLink RX5 78 "OptimaWorks$Solver" "answered" "Z" : Cond) ∈ wsMX5_findAnswer := by decide +kernel
theorem hm_m_X5_findAnswer_3 : (.fieldLink RX5 74 "OptimaWorks$Solver" "model" "LOptimaWorks$Model;" : Cond) ∈ wsMX5_findAnswer := by decide +kernel
theorem hm_m_X5_findAnswer_4 : (.fieldLink RX5 91 "OptimaWorks$Model" "cases" "I" : Cond) ∈ wsMX5_findAnswer := by decide +kernel
theorem hm_m_X5_findAnswer_5 : (.fieldLink RX5 98 "OptimaWorks$Model" "goals" "I" : Cond) ∈ wsMX5_findAnswer := by decide +kernel
set_option maxHeartbeats 4000000 in
set_option maxRecDepth 100000 in
/-- an answer is sought -/
theorem m_X5_findAnswer (l : Launch) (dC : Nat → ClassId) (dI : Nat → Nat → Nat) (hO : Nat → Nat) (aO : Nat → Nat) (kO : Nat → ClassId) (hM : Nat → Nat) (hQ : Nat → Nat) (hw : Nat → Nat) (iO_answered : Int32) (iO_searched : Int32) (iO_searchedRelaxed : Int32) (iO_counted : Int32) (fO_countedCase : Nat → Int32) (gO_goalNumber : Nat → Int64) (gO_goalScale : Nat → Int64) (fO_start : Nat → Int32) (fO_column : Nat → Int32) (fO_chosen : Nat → Int32) (aM : Nat → Nat) (kM : Nat → ClassId) (iM_stands : Int32) (iM_variables : Int32) (iM_rows : Int32) (iM_goals : Int32) (iM_differents : Int32) (iM_cases : Int32) (fM_from : Nat → Int32) (fM_to : Nat → Int32) (fM_whole : Nat → Int32) (fM_ways : Nat → Int32) (iM_plainRows : Int32) (fM_plainRow : Nat → Int32) (fM_kept : Nat → Int32) (fM_goalOver : Nat → Int32) (fM_goalUnder : Nat → Int32) (fM_goalMax : Nat → Int32) (fM_different : Nat → Int32) (aQ : Nat → Nat) (kQ : Nat → ClassId) (fQ_inside : Nat → Int32) (fQ_outside : Nat → Int32) (fQ_shut : Nat → Int32) (iQ_rows : Int32) (iQ_allRows : Int32) (iQ_columns : Int32) (nW : Nat) (lw : Nat → Nat) (kw : ClassId) (wl : Nat → Int32) (wb : Nat → Int32) (wG : Nat → Nat → Int64) (p1 : Int32) (b_iO_answered : 0 ≤ iO_answered.toInt ∧ iO_answered.toInt ≤ 1) (b_iO_searched : 0 ≤ iO_searched.toInt ∧ iO_searched.toInt ≤ 1) (b_iO_searchedRelaxed : 0 ≤ iO_searchedRelaxed.toInt ∧ iO_searchedRelaxed.toInt ≤ 1) (b_iO_counted : (-1) ≤ iO_counted.toInt ∧ iO_counted.toInt ≤ 64) (b_fO_countedCase : ∀ q : Nat, 0 ≤ (fO_countedCase q).toInt ∧ (fO_countedCase q).toInt ≤ 200000) (b_fO_column : ∀ q : Nat, (-1) ≤ (fO_column q).toInt ∧ (fO_column q).toInt ≤ 8) (b_fO_chosen : ∀ q : Nat, 0 ≤ (fO_chosen q).toInt ∧ (fO_chosen q).toInt ≤ 2) (b_iM_stands : 0 ≤ iM_stands.toInt ∧ iM_stands.toInt ≤ 1) (b_iM_variables : 0 ≤ iM_variables.toInt ∧ iM_variables.toInt ≤ 8) (b_iM_rows : 0 ≤ iM_rows.toInt ∧ iM_rows.toInt ≤ 12) (b_iM_goals : 0 ≤ iM_goals.toInt ∧ iM_goals.toInt ≤ 3) (b_iM_differents : 0 ≤ iM_differents.toInt ∧ iM_differents.toInt ≤ 8) (b_iM_cases : 0 ≤ iM_cases.toInt ∧ iM_cases.toInt ≤ 200000) (b_fM_ways : ∀ q : Nat, 0 ≤ (fM_ways q).toInt ∧ (fM_ways q).toInt ≤ 3) (b_iM_plainRows : 0 ≤ iM_plainRows.toInt ∧ iM_plainRows.toInt ≤ 12) (b_fM_plainRow : ∀ q : Nat, 0 ≤ (fM_plainRow q).toInt ∧ (fM_plainRow q).toInt ≤ 11) (b_pr : iM_plainRows.toInt ≤ iM_rows.toInt) (b_iQ_rows : 0 ≤ iQ_rows.toInt ∧ iQ_rows.toInt ≤ 40) (b_iQ_allRows : 0 ≤ iQ_allRows.toInt ∧ iQ_allRows.toInt ≤ 40) (b_iQ_columns : 0 ≤ iQ_columns.toInt ∧ iQ_columns.toInt ≤ 40) (b_tb : TbO iQ_rows iQ_allRows iQ_columns) (b_wl : ∀ q : Nat, 0 ≤ (wl q).toInt ∧ (wl q).toInt ≤ 14) (b_wb : ∀ q : Nat, 0 ≤ (wb q).toInt ∧ (wb q).toInt ≤ 1) (b_p1 : 0 ≤ p1.toInt ∧ p1.toInt ≤ 1) (hnW : 432 ≤ nW) (sz : Nat) : Met l yX5_findAnswer wsMX5_findAnswer ({ frames := 7, cells := 0, slots := 0, locals := 178 }) (va_Pc [.ref (hO 0), .int p1] (fun U => U.heap.size = sz ∧ va_P (dC, dI) vwCl (WO hO aO kO hM hQ hw iO_answered iO_searched iO_searchedRelaxed iO_counted fO_countedCase gO_goalNumber gO_goalScale fO_start fO_column fO_chosen ++ (WM hM aM kM iM_stands iM_variables iM_rows iM_goals iM_differents iM_cases fM_from fM_to fM_whole fM_ways iM_plainRows fM_plainRow fM_kept fM_goalOver fM_goalUnder fM_goalMax fM_different ++ (WQ hQ aQ kQ hw fQ_inside fQ_outside fQ_shut iQ_rows iQ_allRows iQ_columns ++ (WW nW hw lw kw wl wb wG)))) U.heap ∧ va_K (dC, dI) vwCl (tO kO ++ (tM kM ++ (tQ kQ ++ (tW kw)))) U ∧ va_D (fun _ => True) (WO hO aO kO hM hQ hw iO_answered iO_searched iO_searchedRelaxed iO_counted fO_countedCase gO_goalNumber gO_goalScale fO_start fO_column fO_chosen ++ (WM hM aM kM iM_stands iM_variables iM_rows iM_goals iM_differents iM_cases fM_from fM_to fM_whole fM_ways iM_plainRows fM_plainRow fM_kept fM_goalOver fM_goalUnder fM_goalMax fM_different ++ (WQ hQ aQ kQ hw fQ_inside fQ_outside fQ_shut iQ_rows iQ_allRows iQ_columns ++ (WW nW hw lw kw wl wb wG)))))) (va_Qi (fun (r : Int32) (u : (Int32) × (Int32) × (Int32) × (Nat → Int64) × (Nat → Int64) × (Nat → Int32) × (Nat → Int32) × (Nat → Int32) × (Nat → Int32) × (Nat → Int32) × (Nat → Int32) × (Int32) × (Int32) × (Int32) × (Nat → Int32) × (Nat → Int32) × (Nat → Nat → Int64)) => (0 ≤ (u.1).toInt ∧ (u.1).toInt ≤ 1) ∧ (0 ≤ (u.2.1).toInt ∧ (u.2.1).toInt ≤ 1) ∧ (0 ≤ (u.2.2.1).toInt ∧ (u.2.2.1).toInt ≤ 1) ∧ (∀ q : Nat, (-1) ≤ ((u.2.2.2.2.2.2.1) q).toInt ∧ ((u.2.2.2.2.2.2.1) q).toInt ≤ 8) ∧ (∀ q : Nat, 0 ≤ ((u.2.2.2.2.2.2.2.1) q).toInt ∧ ((u.2.2.2.2.2.2.2.1) q).toInt ≤ 2) ∧ (0 ≤ (u.2.2.2.2.2.2.2.2.2.2.2.1).toInt ∧ (u.2.2.2.2.2.2.2.2.2.2.2.1).toInt ≤ 40) ∧ (0 ≤ (u.2.2.2.2.2.2.2.2.2.2.2.2.1).toInt ∧ (u.2.2.2.2.2.2.2.2.2.2.2.2.1).toInt ≤ 40) ∧ (0 ≤ (u.2.2.2.2.2.2.2.2.2.2.2.2.2.1).toInt ∧ (u.2.2.2.2.2.2.2.2.2.2.2.2.2.1).toInt ≤ 40) ∧ (∀ q : Nat, 0 ≤ ((u.2.2.2.2.2.2.2.2.2.2.2.2.2.2.1) q).toInt ∧ ((u.2.2.2.2.2.2.2.2.2.2.2.2.2.2.1) q).toInt ≤ 14) ∧ (∀ q : Nat, 0 ≤ ((u.2.2.2.2.2.2.2.2.2.2.2.2.2.2.2.1) q).toInt ∧ ((u.2.2.2.2.2.2.2.2.2.2.2.2.2.2.2.1) q).toInt ≤ 1) ∧ (TbO (u.2.2.2.2.2.2.2.2.2.2.2.1) (u.2.2.2.2.2.2.2.2.2.2.2.2.1) (u.2.2.2.2.2.2.2.2.2.2.2.2.2.1)) ∧ (0 ≤ r.toInt ∧ r.toInt ≤ 1)) (fun (u : (Int32) × (Int32) × (Int32) × (Nat → Int64) × (Nat → Int64) × (Nat → Int32) × (Nat → Int32) × (Nat → Int32) × (Nat → Int32) × (Nat → Int32) × (Nat → Int32) × (Int32) × (Int32) × (Int32) × (Nat → Int32) × (Nat → Int32) × (Nat → Nat → Int64)) t => va_P (dC, dI) vwCl (WO hO aO kO hM hQ hw (u.1) (u.2.1) (u.2.2.1) iO_counted fO_countedCase (u.2.2.2.1) (u.2.2.2.2.1) (u.2.2.2.2.2.1) (u.2.2.2.2.2.2.1) (u.2.2.2.2.2.2.2.1) ++ (WM hM aM kM iM_stands iM_variables iM_rows iM_goals iM_differents iM_cases fM_from fM_to fM_whole fM_ways iM_plainRows fM_plainRow fM_kept fM_goalOver fM_goalUnder fM_goalMax fM_different ++ (WQ hQ aQ kQ hw (u.2.2.2.2.2.2.2.2.1) (u.2.2.2.2.2.2.2.2.2.1) (u.2.2.2.2.2.2.2.2.2.2.1) (u.2.2.2.2.2.2.2.2.2.2.2.1) (u.2.2.2.2.2.2.2.2.2.2.2.2.1) (u.2.2.2.2.2.2.2.2.2.2.2.2.2.1) ++ (WW nW hw lw kw (u.2.2.2.2.2.2.2.2.2.2.2.2.2.2.1) (u.2.2.2.2.2.2.2.2.2.2.2.2.2.2.2.1) (u.2.2.2.2.2.2.2.2.2.2.2.2.2.2.2.2))))) t.heap ∧ va_D (va_A (WO hO aO kO hM hQ hw iO_answered iO_searched iO_searchedRelaxed iO_counted fO_countedCase gO_goalNumber gO_goalScale fO_start fO_column fO_chosen ++ (WM hM aM kM iM_stands iM_variables iM_rows iM_goals iM_differents iM_cases fM_from fM_to fM_whole fM_ways iM_plainRows fM_plainRow fM_kept fM_goalOver fM_goalUnder fM_goalMax fM_different ++ (WQ hQ aQ kQ hw fQ_inside fQ_outside fQ_shut iQ_rows iQ_allRows iQ_columns ++ (WW nW hw lw kw wl wb wG)))) sz) (WO hO aO kO hM hQ hw (u.1) (u.2.1) (u.2.2.1) iO_counted fO_countedCase (u.2.2.2.1) (u.2.2.2.2.1) (u.2.2.2.2.2.1) (u.2.2.2.2.2.2.1) (u.2.2.2.2.2.2.2.1) ++ (WM hM aM kM iM_stands iM_variables iM_rows iM_goals iM_differents iM_cases fM_from fM_to fM_whole fM_ways iM_plainRows fM_plainRow fM_kept fM_goalOver fM_goalUnder fM_goalMax fM_different ++ (WQ hQ aQ kQ hw (u.2.2.2.2.2.2.2.2.1) (u.2.2.2.2.2.2.2.2.2.1) (u.2.2.2.2.2.2.2.2.2.2.1) (u.2.2.2.2.2.2.2.2.2.2.2.1) (u.2.2.2.2.2.2.2.2.2.2.2.2.1) (u.2.2.2.2.2.2.2.2.2.2.2.2.2.1) ++ (WW nW hw lw kw (u.2.2.2.2.2.2.2.2.2.2.2.2.2.2.1) (u.2.2.2.2.2.2.2.2.2.2.2.2.2.2.2.1) (u.2.2.2.2.2.2.2.2.2.2.2.2.2.2.2.2)))))) (va_A (WO hO aO kO hM hQ hw iO_answered iO_searched iO_searchedRelaxed iO_counted fO_countedCase gO_goalNumber gO_goalScale fO_start fO_column fO_chosen ++ (WM hM aM kM iM_stands iM_variables iM_rows iM_goals iM_differents iM_cases fM_from fM_to fM_whole fM_ways iM_plainRows fM_plainRow fM_kept fM_goalOver fM_goalUnder fM_goalMax fM_different ++ (WQ hQ aQ kQ hw fQ_inside fQ_outside fQ_shut iQ_rows iQ_allRows iQ_columns ++ (WW nW hw lw kw wl wb wG)))) sz)) 0 0 (va_A (WO hO aO kO hM hQ hw iO_answered iO_searched iO_searchedRelaxed iO_counted fO_countedCase gO_goalNumber gO_goalScale fO_start fO_column fO_chosen ++ (WM hM aM kM iM_stands iM_variables iM_rows iM_goals iM_differents iM_cases fM_from fM_to fM_whole fM_ways iM_plainRows fM_plainRow fM_kept fM_goalOver fM_goalUnder fM_goalMax fM_different ++ (WQ hQ aQ kQ hw fQ_inside fQ_outside fQ_shut iQ_rows iQ_allRows iQ_columns ++ (WW nW hw lw kw wl wb wG)))) sz) := by
  refine Met.ofW (cc := cX5_findAnswer) (maxL := 4) (ret := (some .boolean)) (by decide) rfl ?_
  intro p e s m args below meth c s₁ B hml hv
  obtain ⟨rfl, hsz, hP, hK, hD0⟩ := hv
  have hx := B.exec
  have hb := B.bytes
  have hr := B.returns
  have hts := atoms_spec (ws := wsMX5_findAnswer) B.pre
  have hown : s.vm.findClass RX5 = some m.cls := findClass_of_methodNamed B.named
  have hlocks := B.notSynchronized
  subst hsz
  have hD := hD0.self (sz := s.heap.size)
  generalize hAe : va_A (WO hO aO kO hM hQ hw iO_answered iO_searched iO_searchedRelaxed iO_counted fO_countedCase gO_goalNumber gO_goalScale fO_start fO_column fO_chosen ++ (WM hM aM kM iM_stands iM_variables iM_rows iM_goals iM_differents iM_cases fM_from fM_to fM_whole fM_ways iM_plainRows fM_plainRow fM_kept fM_goalOver fM_goalUnder fM_goalMax fM_different ++ (WQ hQ aQ kQ hw fQ_inside fQ_outside fQ_shut iQ_rows iQ_allRows iQ_columns ++ (WW nW hw lw kw wl wb wG)))) s.heap.size = A at hD ⊢
  have hA : ∀ q : Nat, s.heap.size ≤ q → A q := fun q h => by rw [← hAe]; exact Or.inr h
  have hS : va_S A s.heap s.heap [] := va_S.rf
  have hl := lv_entry ([.ref (hO 0), .int p1]) (n := 4) (Nat.le_of_ble_eq_true rfl)
  rw [lg_entry_eq]
  generalize (lg_sl ([.ref (hO 0), .int p1]) ++ List.replicate (4 - (lg_sl ([.ref (hO 0), .int p1])).length) Slot.unset).toArray = ls at hl ⊢
  have hl : lv_has ls 4 [(0, .ref (hO 0)), (1, .int p1)] := hl
  refine lv_aload_n hx hb dX5_findAnswer_0 rfl (lv_at hl 0 rfl) ?_
  refine va_get (D := (dC, dI)) (ci := 5) (v := .int iO_searched) (C := RX5) (T := TX5) (N := 19) hx hb hts iwsMX5_findAnswer_in5 hown hK hP 0 rfl rfl 3 (by decide) (hts _ hm_m_X5_findAnswer_0) (fun _ h9 => h9) rfl dX5_findAnswer_1 ?_
  refine lv_if_eq (tgt := 20) hx hb dX5_findAnswer_4 (by decide) (fun c_4 => ?_) (fun c_4 => ?_)
  · have t_4 : iO_searched.toInt = 0 := toI_eq c_4 rfl (by decide : (0 : Int32).toInt = 0)
    refine lv_aload_n hx hb dX5_findAnswer_20 rfl (lv_at hl 0 rfl) ?_
    refine lv_iconst (v := 1) hx hb dX5_findAnswer_21 (by decide) ?_
    refine va_put (D := (dC, dI)) (ci := 5) (v := .int 1) (ty := .boolean) (C := RX5) (T := TX5) (N := 19) hx hb hts iwsMX5_findAnswer_in5 tyX5 tyX5_ok nmX5 hown hK hP hD hS 0 rfl rfl 3 (by decide) (hts _ hm_m_X5_findAnswer_0) (fun _ h9 => h9) rfl (by decide +kernel) rfl rfl (Nat.le_of_ble_eq_true rfl) dX5_findAnswer_22 (fun H locs hP hD hS => ?_)
    have hP : va_P (dC, dI) vwCl (WO hO aO kO hM hQ hw iO_answered 1 iO_searchedRelaxed iO_counted fO_countedCase gO_goalNumber gO_goalScale fO_start fO_column fO_chosen ++ (WM hM aM kM iM_stands iM_variables iM_rows iM_goals iM_differents iM_cases fM_from fM_to fM_whole fM_ways iM_plainRows fM_plainRow fM_kept fM_goalOver fM_goalUnder fM_goalMax fM_different ++ (WQ hQ aQ kQ hw fQ_inside fQ_outside fQ_shut iQ_rows iQ_allRows iQ_columns ++ (WW nW hw lw kw wl wb wG)))) H := hP
    have hD := fz_sd hP (hD) rfl
    refine lv_aload_n hx hb dX5_findAnswer_25 rfl (lv_at hl 0 rfl) ?_
    refine lv_iload_n hx hb dX5_findAnswer_26 rfl (lv_at hl 1 rfl) ?_
    refine va_put (D := (dC, dI)) (ci := 5) (v := .int p1) (ty := .boolean) (C := RX5) (T := TX5) (N := 19) hx hb hts iwsMX5_findAnswer_in5 tyX5 tyX5_ok nmX5 hown hK hP hD hS 0 rfl rfl 4 (by decide) (hts _ hm_m_X5_findAnswer_1) (fun _ h9 => h9) rfl (by decide +kernel) (by rcases z01 (x := p1) (b_p1) with h9 | h9 <;> rw [h9] <;> rfl) (by rcases z01 (x := p1) (b_p1) with h9 | h9 <;> rw [h9] <;> rfl) (Nat.le_of_ble_eq_true rfl) dX5_findAnswer_27 (fun H locs hP hD hS => ?_)
    have hP : va_P (dC, dI) vwCl (WO hO aO kO hM hQ hw iO_answered 1 p1 iO_counted fO_countedCase gO_goalNumber gO_goalScale fO_start fO_column fO_chosen ++ (WM hM aM kM iM_stands iM_variables iM_rows iM_goals iM_differents iM_cases fM_from fM_to fM_whole fM_ways iM_plainRows fM_plainRow fM_kept fM_goalOver fM_goalUnder fM_goalMax fM_different ++ (WQ hQ aQ kQ hw fQ_inside fQ_outside fQ_shut iQ_rows iQ_allRows iQ_columns ++ (WW nW hw lw kw wl wb wG)))) H := hP
    have hD := fz_sd hP (hD) rfl
    refine lv_aload_n hx hb dX5_findAnswer_30 rfl (lv_at hl 0 rfl) ?_
    refine lv_iconst (v := 0) hx hb dX5_findAnswer_31 (by decide) ?_
    refine va_put (D := (dC, dI)) (ci := 5) (v := .int 0) (ty := .boolean) (C := RX5) (T := TX5) (N := 19) hx hb hts iwsMX5_findAnswer_in5 tyX5 tyX5_ok nmX5 hown hK hP hD hS 0 rfl rfl 2 (by decide) (hts _ hm_m_X5_findAnswer_2) (fun _ h9 => h9) rfl (by decide +kernel) rfl rfl (Nat.le_of_ble_eq_true rfl) dX5_findAnswer_32 (fun H locs hP hD hS => ?_)
    have hP : va_P (dC, dI) vwCl (WO hO aO kO hM hQ hw 0 1 p1 iO_counted fO_countedCase gO_goalNumber gO_goalScale fO_start fO_column fO_chosen ++ (WM hM aM kM iM_stands iM_variables iM_rows iM_goals iM_differents iM_cases fM_from fM_to fM_whole fM_ways iM_plainRows fM_plainRow fM_kept fM_goalOver fM_goalUnder fM_goalMax fM_different ++ (WQ hQ aQ kQ hw fQ_inside fQ_outside fQ_shut iQ_rows iQ_allRows iQ_columns ++ (WW nW hw lw kw wl wb wG)))) H := hP
    have hD := fz_sd hP (hD) rfl
    refine lv_aload_n hx hb dX5_findAnswer_35 rfl (lv_at hl 0 rfl) ?_
    have hFc := allFree hD hS hA
    refine va_callv (va_runV (As := []) (rest := []) ⟨hx, hb, hml, hown, hts⟩ (m_X5_scaleGoals l dC dI hO aO kO hM hQ hw 0 1 p1 iO_counted fO_countedCase gO_goalNumber gO_goalScale fO_start fO_column fO_chosen aM kM iM_stands iM_variables iM_rows iM_goals iM_differents iM_cases fM_from fM_to fM_whole fM_ways iM_plainRows fM_plainRow fM_kept fM_goalOver fM_goalUnder fM_goalMax fM_different aQ kQ fQ_inside fQ_outside fQ_shut iQ_rows iQ_allRows iQ_columns nW lw kw wl wb wG (show 0 ≤ (0 : Int32).toInt ∧ (0 : Int32).toInt ≤ 1 from by decide) (show 0 ≤ (1 : Int32).toInt ∧ (1 : Int32).toInt ≤ 1 from by decide) (b_p1) (b_iO_counted) b_fO_countedCase b_fO_column b_fO_chosen (b_iM_stands) (b_iM_variables) (b_iM_rows) (b_iM_goals) (b_iM_differents) (b_iM_cases) b_fM_ways (b_iM_plainRows) b_fM_plainRow (by first | with_reducible assumption | omega | assumption) (b_iQ_rows) (b_iQ_allRows) (b_iQ_columns) (by first | with_reducible assumption | omega | assumption) b_wl b_wb (by omega) H.size) (cwV 0 hts gwsMX5_findAnswer_0 rfl rfl rfl hd_yX5_scaleGoals_RX5 (by decide +kernel)) (fz_pre (va_recv hK hP (ci := 5) (q0 := 0) rfl rfl) hP hK hD) rfl rfl hl.1 rfl (lv_room (Nat.le_of_ble_eq_true rfl)) dX5_findAnswer_36 (by decide +kernel)) hS (fun q _ h => hFc q h) hFc (fun u t9_ H locs ht hvm hw9 hB9 hz1 hk1 hS => ?_)
    revert u hw9 hB9
    refine fz_p2 ?_
    intro gO_goalNumber_1 gO_goalScale_1 hw9 hB9
    try dsimp only at hw9 hB9
    clear hw9
    have hP : va_P (dC, dI) vwCl (WO hO aO kO hM hQ hw 0 1 p1 iO_counted fO_countedCase gO_goalNumber_1 gO_goalScale_1 fO_start fO_column fO_chosen ++ (WM hM aM kM iM_stands iM_variables iM_rows iM_goals iM_differents iM_cases fM_from fM_to fM_whole fM_ways iM_plainRows fM_plainRow fM_kept fM_goalOver fM_goalUnder fM_goalMax fM_different ++ (WQ hQ aQ kQ hw fQ_inside fQ_outside fQ_shut iQ_rows iQ_allRows iQ_columns ++ (WW nW hw lw kw wl wb wG)))) H := fz_P ht hB9.1
    have hD := fz_sd hP (hB9.2.weaken (fun _ q _ h => hFc q.1 h)) rfl
    refine lv_iload_n hx hb dX5_findAnswer_39 rfl (lv_at hl 1 rfl) ?_
    refine W.cut (pc := 54) (fun H locs ls stk => ∃ (k0_j3 : Int32), (0 ≤ k0_j3.toInt ∧ k0_j3.toInt ≤ 200000) ∧  stk = [.int k0_j3] ∧ va_P (dC, dI) vwCl (WO hO aO kO hM hQ hw 0 1 p1 iO_counted fO_countedCase gO_goalNumber_1 gO_goalScale_1 fO_start fO_column fO_chosen ++ (WM hM aM kM iM_stands iM_variables iM_rows iM_goals iM_differents iM_cases fM_from fM_to fM_whole fM_ways iM_plainRows fM_plainRow fM_kept fM_goalOver fM_goalUnder fM_goalMax fM_different ++ (WQ hQ aQ kQ hw fQ_inside fQ_outside fQ_shut iQ_rows iQ_allRows iQ_columns ++ (WW nW hw lw kw wl wb wG)))) H ∧ va_D A (WO hO aO kO hM hQ hw 0 1 p1 iO_counted fO_countedCase gO_goalNumber_1 gO_goalScale_1 fO_start fO_column fO_chosen ++ (WM hM aM kM iM_stands iM_variables iM_rows iM_goals iM_differents iM_cases fM_from fM_to fM_whole fM_ways iM_plainRows fM_plainRow fM_kept fM_goalOver fM_goalUnder fM_goalMax fM_different ++ (WQ hQ aQ kQ hw fQ_inside fQ_outside fQ_shut iQ_rows iQ_allRows iQ_columns ++ (WW nW hw lw kw wl wb wG)))) ∧ va_S A s.heap H locs ∧ lv_has ls 4 [(0, .ref (hO 0)), (1, .int p1)]) (fun join3 => ?_) ?_
    · refine lv_if_eq (tgt := 47) hx hb dX5_findAnswer_40 (by decide) (fun c_40 => ?_) (fun c_40 => ?_)
      · have t_40 : p1.toInt = 0 := toI_eq c_40 rfl (by decide : (0 : Int32).toInt = 0)
        refine lv_aload_n hx hb dX5_findAnswer_47 rfl (lv_at hl 0 rfl) ?_
        refine va_get (D := (dC, dI)) (ci := 5) (v := .ref (hM 0)) (C := RX5) (T := TX5) (N := 19) hx hb hts iwsMX5_findAnswer_in5 hown hK hP 0 rfl rfl 0 (by decide) (hts _ hm_m_X5_findAnswer_3) (fun _ h9 => h9) rfl dX5_findAnswer_48 ?_
        refine va_get (D := (dC, dI)) (ci := 1) (v := .int iM_cases) (C := RX1) (T := TX1) (N := 17) hx hb hts iwsMX5_findAnswer_in1 hown hK hP 11 rfl rfl 5 (by decide) (hts _ hm_m_X5_findAnswer_4) (fun _ h9 => h9) rfl dX5_findAnswer_51 ?_
        have hl : lv_has _ _ ([(0, .ref (hO 0)), (1, .int p1)]) := lv_sub hl [0, 1] rfl
        exact join3 _ _ _ _ ⟨iM_cases, (b_iM_cases), rfl, hP, hD, hS, hl⟩
      · have t_40 : ¬ p1.toInt = 0 := toI_neq c_40 rfl (by decide : (0 : Int32).toInt = 0)
        refine lv_iconst (v := 1) hx hb dX5_findAnswer_43 (by decide) ?_
        refine lv_goto (tgt := 54) hx hb dX5_findAnswer_44 (by decide) ?_
        have hl : lv_has _ _ ([(0, .ref (hO 0)), (1, .int p1)]) := lv_sub hl [0, 1] rfl
        exact join3 _ _ _ _ ⟨1, (show 0 ≤ (1 : Int32).toInt ∧ (1 : Int32).toInt ≤ 200000 from by decide), rfl, hP, hD, hS, hl⟩
    · rintro H locs ls stk ⟨k0_j3, b_k0_j3, rfl, hP, hD, hS, hl⟩
      refine lv_istore_n hx hb dX5_findAnswer_54 rfl hl (by decide) rfl (fun ls (hl : lv_has ls _ ([(2, .int k0_j3), (0, .ref (hO 0)), (1, .int p1)])) => ?_)
      refine lv_iconst (v := 0) hx hb dX5_findAnswer_55 (by decide) ?_
      refine lv_istore_n hx hb dX5_findAnswer_56 rfl hl (by decide) rfl (fun ls (hl : lv_has ls _ ([(3, .int 0), (2, .int k0_j3), (0, .ref (hO 0)), (1, .int p1)])) => ?_)
      have hl : lv_has _ _ ([(3, .int 0), (2, .int k0_j3), (0, .ref (hO 0)), (1, .int p1)]) := lv_sub hl [0, 1, 2, 3] rfl
      refine (fun (loop : ∀ (n9 : Nat) (iO_answered_x57 : Int32) (fO_start_x57 : Nat → Int32) (fO_column_x57 : Nat → Int32) (fO_chosen_x57 : Nat → Int32) (fQ_inside_x57 : Nat → Int32) (fQ_outside_x57 : Nat → Int32) (fQ_shut_x57 : Nat → Int32) (iQ_rows_x57 : Int32) (iQ_allRows_x57 : Int32) (iQ_columns_x57 : Int32) (wl_x57 : Nat → Int32) (wb_x57 : Nat → Int32) (wG_x57 : Nat → Nat → Int64) (l3_x57 : Int32) (H : Heap) (locs : List Loc) (ls : Array Slot), (0 ≤ iO_answered_x57.toInt ∧ iO_answered_x57.toInt ≤ 1) → (∀ q : Nat, (-1) ≤ (fO_column_x57 q).toInt ∧ (fO_column_x57 q).toInt ≤ 8) → (∀ q : Nat, 0 ≤ (fO_chosen_x57 q).toInt ∧ (fO_chosen_x57 q).toInt ≤ 2) → (0 ≤ iQ_rows_x57.toInt ∧ iQ_rows_x57.toInt ≤ 40) → (0 ≤ iQ_allRows_x57.toInt ∧ iQ_allRows_x57.toInt ≤ 40) → (0 ≤ iQ_columns_x57.toInt ∧ iQ_columns_x57.toInt ≤ 40) → (∀ q : Nat, 0 ≤ (wl_x57 q).toInt ∧ (wl_x57 q).toInt ≤ 14) → (∀ q : Nat, 0 ≤ (wb_x57 q).toInt ∧ (wb_x57 q).toInt ≤ 1) → (0 ≤ l3_x57.toInt ∧ l3_x57.toInt ≤ 200000) → (TbO iQ_rows_x57 iQ_allRows_x57 iQ_columns_x57) → (200000 - l3_x57.toInt < ((n9 : Nat) : Int)) → va_P (dC, dI) vwCl (WO hO aO kO hM hQ hw iO_answered_x57 1 p1 iO_counted fO_countedCase gO_goalNumber_1 gO_goalScale_1 fO_start_x57 fO_column_x57 fO_chosen_x57 ++ (WM hM aM kM iM_stands iM_variables iM_rows iM_goals iM_differents iM_cases fM_from fM_to fM_whole fM_ways iM_plainRows fM_plainRow fM_kept fM_goalOver fM_goalUnder fM_goalMax fM_different ++ (WQ hQ aQ kQ hw fQ_inside_x57 fQ_outside_x57 fQ_shut_x57 iQ_rows_x57 iQ_allRows_x57 iQ_columns_x57 ++ (WW nW hw lw kw wl_x57 wb_x57 wG_x57)))) H → va_D A (WO hO aO kO hM hQ hw iO_answered_x57 1 p1 iO_counted fO_countedCase gO_goalNumber_1 gO_goalScale_1 fO_start_x57 fO_column_x57 fO_chosen_x57 ++ (WM hM aM kM iM_stands iM_variables iM_rows iM_goals iM_differents iM_cases fM_from fM_to fM_whole fM_ways iM_plainRows fM_plainRow fM_kept fM_goalOver fM_goalUnder fM_goalMax fM_different ++ (WQ hQ aQ kQ hw fQ_inside_x57 fQ_outside_x57 fQ_shut_x57 iQ_rows_x57 iQ_allRows_x57 iQ_columns_x57 ++ (WW nW hw lw kw wl_x57 wb_x57 wG_x57)))) → va_S A s.heap H locs → lv_has ls 4 [(3, .int l3_x57), (2, .int k0_j3), (0, .ref (hO 0)), (1, .int p1)] → W p l e _ s m _ below meth c H locs 0 0 _ (F0 m 57 ls [])) => loop (200001) 0 fO_start fO_column fO_chosen fQ_inside fQ_outside fQ_shut iQ_rows iQ_allRows iQ_columns wl wb wG 0 _ _ _ (show 0 ≤ (0 : Int32).toInt ∧ (0 : Int32).toInt ≤ 1 from by decide) b_fO_column b_fO_chosen (b_iQ_rows) (b_iQ_allRows) (b_iQ_columns) b_wl b_wb (show 0 ≤ (0 : Int32).toInt ∧ (0 : Int32).toInt ≤ 200000 from by decide) (by first | with_reducible assumption | omega | assumption) ((by have e9 : (0 : Int32).toInt = 0 := (by decide : (0 : Int32).toInt = 0); omega)) hP hD hS hl) ?_
      intro n9
      induction n9 with
      | zero => intro iO_answered_x57 fO_start_x57 fO_column_x57 fO_chosen_x57 fQ_inside_x57 fQ_outside_x57 fQ_shut_x57 iQ_rows_x57 iQ_allRows_x57 iQ_columns_x57 wl_x57 wb_x57 wG_x57 l3_x57 H locs ls b_iO_answered_x57 b_fO_column_x57 b_fO_chosen_x57 b_iQ_rows_x57 b_iQ_allRows_x57 b_iQ_columns_x57 b_wl_x57 b_wb_x57 b_l3_x57 b_tb_x57 hf9; exact False.elim (by omega)
      | succ n9 ihx57 =>
        intro iO_answered_x57 fO_start_x57 fO_column_x57 fO_chosen_x57 fQ_inside_x57 fQ_outside_x57 fQ_shut_x57 iQ_rows_x57 iQ_allRows_x57 iQ_columns_x57 wl_x57 wb_x57 wG_x57 l3_x57 H locs ls b_iO_answered_x57 b_fO_column_x57 b_fO_chosen_x57 b_iQ_rows_x57 b_iQ_allRows_x57 b_iQ_columns_x57 b_wl_x57 b_wb_x57 b_l3_x57 b_tb_x57 hfx57 hP hD hS hl
        refine lv_iload_n hx hb dX5_findAnswer_57 rfl (lv_at hl 0 rfl) ?_
        refine lv_iload_n hx hb dX5_findAnswer_58 rfl (lv_at hl 1 rfl) ?_
        refine lv_icmp_ge (tgt := 107) hx hb dX5_findAnswer_59 (by decide) (fun c_59 => ?_) (fun c_59 => ?_)
        · have t_59 : l3_x57.toInt ≥ k0_j3.toInt := toI_ge c_59 rfl rfl
          refine lv_aload_n hx hb dX5_findAnswer_107 rfl (lv_at hl 2 rfl) ?_
          refine va_get (D := (dC, dI)) (ci := 5) (v := .int iO_answered_x57) (C := RX5) (T := TX5) (N := 19) hx hb hts iwsMX5_findAnswer_in5 hown hK hP 0 rfl rfl 2 (by decide) (hts _ hm_m_X5_findAnswer_2) (fun _ h9 => h9) rfl dX5_findAnswer_108 ?_
          refine W.widen (k := 0) (n := 0) (by decide +kernel) (by decide +kernel) ?_
          exact W.zret (v := iO_answered_x57) hx hb hr (by rcases z01 (x := iO_answered_x57) (b_iO_answered_x57) with h9 | h9 <;> rw [h9] <;> rfl) (fun t9_ ht hW => ⟨⟨iO_answered_x57, (iO_answered_x57, 1, p1, gO_goalNumber_1, gO_goalScale_1, fO_start_x57, fO_column_x57, fO_chosen_x57, fQ_inside_x57, fQ_outside_x57, fQ_shut_x57, iQ_rows_x57, iQ_allRows_x57, iQ_columns_x57, wl_x57, wb_x57, wG_x57), rfl, ⟨b_iO_answered_x57, (by (try dsimp only); exact (show 0 ≤ (1 : Int32).toInt ∧ (1 : Int32).toInt ≤ 1 from by decide)), b_p1, b_fO_column_x57, b_fO_chosen_x57, b_iQ_rows_x57, b_iQ_allRows_x57, b_iQ_columns_x57, b_wl_x57, b_wb_x57, (by (try dsimp only); exact (by first | with_reducible assumption | omega | assumption)), (b_iO_answered_x57)⟩, by rw [ht]; exact hP, hD⟩, hS.F ht⟩) hS.2.2 dX5_findAnswer_111
        · have t_59 : ¬ l3_x57.toInt ≥ k0_j3.toInt := toI_nge c_59 rfl rfl
          refine lv_iload_n hx hb dX5_findAnswer_62 rfl (lv_at hl 3 rfl) ?_
          refine lv_if_ne (tgt := 74) hx hb dX5_findAnswer_63 (by decide) (fun c_63 => ?_) (fun c_63 => ?_)
          · have t_63 : p1.toInt ≠ 0 := toI_ne c_63 rfl (by decide : (0 : Int32).toInt = 0)
            refine lv_aload_n hx hb dX5_findAnswer_74 rfl (lv_at hl 2 rfl) ?_
            refine lv_iload_n hx hb dX5_findAnswer_75 rfl (lv_at hl 3 rfl) ?_
            refine lv_aload_n hx hb dX5_findAnswer_76 rfl (lv_at hl 2 rfl) ?_
            refine va_get (D := (dC, dI)) (ci := 5) (v := .ref (hM 0)) (C := RX5) (T := TX5) (N := 19) hx hb hts iwsMX5_findAnswer_in5 hown hK hP 0 rfl rfl 0 (by decide) (hts _ hm_m_X5_findAnswer_3) (fun _ h9 => h9) rfl dX5_findAnswer_77 ?_
            refine va_get (D := (dC, dI)) (ci := 1) (v := .int iM_goals) (C := RX1) (T := TX1) (N := 17) hx hb hts iwsMX5_findAnswer_in1 hown hK hP 11 rfl rfl 3 (by decide) (hts _ hm_m_X5_findAnswer_5) (fun _ h9 => h9) rfl dX5_findAnswer_80 ?_
            have hFc := allFree hD hS hA
            refine va_calli (va_runV (As := [.int p1, .int iM_goals]) (rest := []) ⟨hx, hb, hml, hown, hts⟩ (m_X5_lay l dC dI hO aO kO hM hQ hw iO_answered_x57 1 p1 iO_counted fO_countedCase gO_goalNumber_1 gO_goalScale_1 fO_start_x57 fO_column_x57 fO_chosen_x57 aM kM iM_stands iM_variables iM_rows iM_goals iM_differents iM_cases fM_from fM_to fM_whole fM_ways iM_plainRows fM_plainRow fM_kept fM_goalOver fM_goalUnder fM_goalMax fM_different aQ kQ fQ_inside_x57 fQ_outside_x57 fQ_shut_x57 iQ_rows_x57 iQ_allRows_x57 iQ_columns_x57 nW lw kw wl_x57 wb_x57 wG_x57 p1 iM_goals (b_iO_answered_x57) (show 0 ≤ (1 : Int32).toInt ∧ (1 : Int32).toInt ≤ 1 from by decide) (b_p1) (b_iO_counted) b_fO_countedCase b_fO_column_x57 b_fO_chosen_x57 (b_iM_stands) (b_iM_variables) (b_iM_rows) (b_iM_goals) (b_iM_differents) (b_iM_cases) b_fM_ways (b_iM_plainRows) b_fM_plainRow (by first | with_reducible assumption | omega | assumption) (b_iQ_rows_x57) (b_iQ_allRows_x57) (b_iQ_columns_x57) (by first | with_reducible assumption | omega | assumption) b_wl_x57 b_wb_x57 (b_iM_goals) (by omega) H.size) (cwV 2 hts gwsMX5_findAnswer_1 rfl rfl rfl hd_yX5_lay_RX5 (by decide +kernel)) (fz_pre (va_recv hK hP (ci := 5) (q0 := 0) rfl rfl) hP hK hD) rfl rfl hl.1 rfl (lv_room (Nat.le_of_ble_eq_true rfl)) dX5_findAnswer_83 (by decide +kernel)) hS (fun q _ h => hFc q h) hFc (fun r37 u t9_ H locs ht hvm hw9 hB9 hz1 hk1 hS => ?_)
            revert u hw9 hB9
            refine fz_p11 ?_
            intro fO_start_37 fO_column_37 fQ_inside_37 fQ_outside_37 fQ_shut_37 iQ_rows_37 iQ_allRows_37 iQ_columns_37 wl_37 wb_37 wG_37 hw9 hB9
            try dsimp only at hw9 hB9
            revert hw9
            refine fz_a10 ?_
            intro b_fO_column_37 b_iQ_rows_37 b_iQ_allRows_37 b_iQ_columns_37 b_wl_37 b_wb_37 b_tb_37 b_r37 f37_0 f37_1
            have hP : va_P (dC, dI) vwCl (WO hO aO kO hM hQ hw iO_answered_x57 1 p1 iO_counted fO_countedCase gO_goalNumber_1 gO_goalScale_1 fO_start_37 fO_column_37 fO_chosen_x57 ++ (WM hM aM kM iM_stands iM_variables iM_rows iM_goals iM_differents iM_cases fM_from fM_to fM_whole fM_ways iM_plainRows fM_plainRow fM_kept fM_goalOver fM_goalUnder fM_goalMax fM_different ++ (WQ hQ aQ kQ hw fQ_inside_37 fQ_outside_37 fQ_shut_37 iQ_rows_37 iQ_allRows_37 iQ_columns_37 ++ (WW nW hw lw kw wl_37 wb_37 wG_37)))) H := fz_P ht hB9.1
            have hD := fz_sd hP (hB9.2.weaken (fun _ q _ h => hFc q.1 h)) rfl
            refine lv_if_eq (tgt := 101) hx hb dX5_findAnswer_86 (by decide) (fun c_86 => ?_) (fun c_86 => ?_)
            · have t_86 : r37.toInt = 0 := toI_eq c_86 rfl (by decide : (0 : Int32).toInt = 0)
              refine lv_iinc (v := (iI (l3_x57.toInt + 1))) hx hb dX5_findAnswer_101 hl (k := 0) rfl (iI_add2 (iI_of _) (by decide : (1 : Int32) = iI 1)) (by decide) rfl (fun ls (hl : lv_has ls _ ([(3, .int (iI (l3_x57.toInt + 1))), (2, .int k0_j3), (0, .ref (hO 0)), (1, .int p1)])) => ?_)
              refine lv_goto (tgt := 57) hx hb dX5_findAnswer_104 (by decide) ?_
              have hl : lv_has _ _ ([(3, .int (iI (l3_x57.toInt + 1))), (2, .int k0_j3), (0, .ref (hO 0)), (1, .int p1)]) := lv_sub hl [0, 1, 2, 3] rfl
              exact ihx57 iO_answered_x57 fO_start_37 fO_column_37 fO_chosen_x57 fQ_inside_37 fQ_outside_37 fQ_shut_37 iQ_rows_37 iQ_allRows_37 iQ_columns_37 wl_37 wb_37 wG_37 (iI (l3_x57.toInt + 1)) _ _ _ (b_iO_answered_x57) b_fO_column_37 b_fO_chosen_x57 (b_iQ_rows_37) (b_iQ_allRows_37) (b_iQ_columns_37) b_wl_37 b_wb_37 (iI_rng (Int.le_trans (by decide) (Int.add_le_add (b_l3_x57.1) (Int.le_refl _))) (by omega) (by decide) (by decide)) (by first | with_reducible assumption | omega | assumption) (by have e9 : ((iI (l3_x57.toInt + 1))).toInt = (l3_x57.toInt + 1) := (iI_t (Int.le_trans (by decide) (Int.add_le_add (b_l3_x57.1) (Int.le_refl _))) (Int.le_trans (Int.add_le_add (b_l3_x57.2) (Int.le_refl _)) (by decide))); omega) hP hD hS hl
            · have t_86 : ¬ r37.toInt = 0 := toI_neq c_86 rfl (by decide : (0 : Int32).toInt = 0)
              refine lv_aload_n hx hb dX5_findAnswer_89 rfl (lv_at hl 2 rfl) ?_
              refine lv_iload_n hx hb dX5_findAnswer_90 rfl (lv_at hl 3 rfl) ?_
              have hFc := allFree hD hS hA
              refine va_calli (va_runV (As := [.int p1]) (rest := []) ⟨hx, hb, hml, hown, hts⟩ (m_X5_settle l dC dI hO aO kO hM hQ hw iO_answered_x57 1 p1 iO_counted fO_countedCase gO_goalNumber_1 gO_goalScale_1 fO_start_37 fO_column_37 fO_chosen_x57 aM kM iM_stands iM_variables iM_rows iM_goals iM_differents iM_cases fM_from fM_to fM_whole fM_ways iM_plainRows fM_plainRow fM_kept fM_goalOver fM_goalUnder fM_goalMax fM_different aQ kQ fQ_inside_37 fQ_outside_37 fQ_shut_37 iQ_rows_37 iQ_allRows_37 iQ_columns_37 nW lw kw wl_37 wb_37 wG_37 p1 (b_iO_answered_x57) (show 0 ≤ (1 : Int32).toInt ∧ (1 : Int32).toInt ≤ 1 from by decide) (b_p1) (b_iO_counted) b_fO_countedCase b_fO_column_37 b_fO_chosen_x57 (b_iM_stands) (b_iM_variables) (b_iM_rows) (b_iM_goals) (b_iM_differents) (b_iM_cases) b_fM_ways (b_iM_plainRows) b_fM_plainRow (by first | with_reducible assumption | omega | assumption) (b_iQ_rows_37) (b_iQ_allRows_37) (b_iQ_columns_37) (by first | with_reducible assumption | omega | assumption) b_wl_37 b_wb_37 (by omega) (by omega) H.size) (cwV 1 hts gwsMX5_findAnswer_2 rfl rfl rfl hd_yX5_settle_RX5 (by decide +kernel)) (fz_pre (va_recv hK hP (ci := 5) (q0 := 0) rfl rfl) hP hK hD) rfl rfl hl.1 rfl (lv_room (Nat.le_of_ble_eq_true rfl)) dX5_findAnswer_91 (by decide +kernel)) hS (fun q _ h => hFc q h) hFc (fun r38 u t9_ H locs ht hvm hw9 hB9 hz1 hk1 hS => ?_)
              revert u hw9 hB9
              refine fz_p6 ?_
              intro fQ_inside_38 fQ_outside_38 fQ_shut_38 wl_38 wb_38 wG_38 hw9 hB9
              try dsimp only at hw9 hB9
              revert hw9
              refine fz_a3 ?_
              intro b_wl_38 b_wb_38 b_r38
              have hP : va_P (dC, dI) vwCl (WO hO aO kO hM hQ hw iO_answered_x57 1 p1 iO_counted fO_countedCase gO_goalNumber_1 gO_goalScale_1 fO_start_37 fO_column_37 fO_chosen_x57 ++ (WM hM aM kM iM_stands iM_variables iM_rows iM_goals iM_differents iM_cases fM_from fM_to fM_whole fM_ways iM_plainRows fM_plainRow fM_kept fM_goalOver fM_goalUnder fM_goalMax fM_different ++ (WQ hQ aQ kQ hw fQ_inside_38 fQ_outside_38 fQ_shut_38 iQ_rows_37 iQ_allRows_37 iQ_columns_37 ++ (WW nW hw lw kw wl_38 wb_38 wG_38)))) H := fz_P ht hB9.1
              have hD := fz_sd hP (hB9.2.weaken (fun _ q _ h => hFc q.1 h)) rfl
              refine lv_if_eq (tgt := 101) hx hb dX5_findAnswer_94 (by decide) (fun c_94 => ?_) (fun c_94 => ?_)
              · have t_94 : r38.toInt = 0 := toI_eq c_94 rfl (by decide : (0 : Int32).toInt = 0)
                refine lv_iinc (v := (iI (l3_x57.toInt + 1))) hx hb dX5_findAnswer_101 hl (k := 0) rfl (iI_add2 (iI_of _) (by decide : (1 : Int32) = iI 1)) (by decide) rfl (fun ls (hl : lv_has ls _ ([(3, .int (iI (l3_x57.toInt + 1))), (2, .int k0_j3), (0, .ref (hO 0)), (1, .int p1)])) => ?_)
                refine lv_goto (tgt := 57) hx hb dX5_findAnswer_104 (by decide) ?_
                have hl : lv_has _ _ ([(3, .int (iI (l3_x57.toInt + 1))), (2, .int k0_j3), (0, .ref (hO 0)), (1, .int p1)]) := lv_sub hl [0, 1, 2, 3] rfl
                exact ihx57 iO_answered_x57 fO_start_37 fO_column_37 fO_chosen_x57 fQ_inside_38 fQ_outside_38 fQ_shut_38 iQ_rows_37 iQ_allRows_37 iQ_columns_37 wl_38 wb_38 wG_38 (iI (l3_x57.toInt + 1)) _ _ _ (b_iO_answered_x57) b_fO_column_37 b_fO_chosen_x57 (b_iQ_rows_37) (b_iQ_allRows_37) (b_iQ_columns_37) b_wl_38 b_wb_38 (iI_rng (Int.le_trans (by decide) (Int.add_le_add (b_l3_x57.1) (Int.le_refl _))) (by omega) (by decide) (by decide)) (by first | with_reducible assumption | omega | assumption) (by have e9 : ((iI (l3_x57.toInt + 1))).toInt = (l3_x57.toInt + 1) := (iI_t (Int.le_trans (by decide) (Int.add_le_add (b_l3_x57.1) (Int.le_refl _))) (Int.le_trans (Int.add_le_add (b_l3_x57.2) (Int.le_refl _)) (by decide))); omega) hP hD hS hl
              · have t_94 : ¬ r38.toInt = 0 := toI_neq c_94 rfl (by decide : (0 : Int32).toInt = 0)
                refine lv_aload_n hx hb dX5_findAnswer_97 rfl (lv_at hl 2 rfl) ?_
                have hFc := allFree hD hS hA
                refine va_callv (va_runV (As := []) (rest := []) ⟨hx, hb, hml, hown, hts⟩ (m_X5_tryAnswer l dC dI hO aO kO hM hQ hw iO_answered_x57 1 p1 iO_counted fO_countedCase gO_goalNumber_1 gO_goalScale_1 fO_start_37 fO_column_37 fO_chosen_x57 aM kM iM_stands iM_variables iM_rows iM_goals iM_differents iM_cases fM_from fM_to fM_whole fM_ways iM_plainRows fM_plainRow fM_kept fM_goalOver fM_goalUnder fM_goalMax fM_different aQ kQ fQ_inside_38 fQ_outside_38 fQ_shut_38 iQ_rows_37 iQ_allRows_37 iQ_columns_37 nW lw kw wl_38 wb_38 wG_38 (b_iO_answered_x57) (show 0 ≤ (1 : Int32).toInt ∧ (1 : Int32).toInt ≤ 1 from by decide) (b_p1) (b_iO_counted) b_fO_countedCase b_fO_column_37 b_fO_chosen_x57 (b_iM_stands) (b_iM_variables) (b_iM_rows) (b_iM_goals) (b_iM_differents) (b_iM_cases) b_fM_ways (b_iM_plainRows) b_fM_plainRow (by first | with_reducible assumption | omega | assumption) (b_iQ_rows_37) (b_iQ_allRows_37) (b_iQ_columns_37) (by first | with_reducible assumption | omega | assumption) b_wl_38 b_wb_38 (by omega) (by omega) (by omega) H.size) (cwV 0 hts gwsMX5_findAnswer_3 rfl rfl rfl hd_yX5_tryAnswer_RX5 (by decide +kernel)) (fz_pre (va_recv hK hP (ci := 5) (q0 := 0) rfl rfl) hP hK hD) rfl rfl hl.1 rfl (lv_room (Nat.le_of_ble_eq_true rfl)) dX5_findAnswer_98 (by decide +kernel)) hS (fun q _ h => hFc q h) hFc (fun u t9_ H locs ht hvm hw9 hB9 hz1 hk1 hS => ?_)
                revert u hw9 hB9
                refine fz_p7 ?_
                intro iO_answered_39 fQ_inside_39 fQ_outside_39 fQ_shut_39 wl_39 wb_39 wG_39 hw9 hB9
                try dsimp only at hw9 hB9
                revert hw9
                refine fz_a3 ?_
                intro b_iO_answered_39 b_wl_39 b_wb_39
                have hP : va_P (dC, dI) vwCl (WO hO aO kO hM hQ hw iO_answered_39 1 p1 iO_counted fO_countedCase gO_goalNumber_1 gO_goalScale_1 fO_start_37 fO_column_37 fO_chosen_x57 ++ (WM hM aM kM iM_stands iM_variables iM_rows iM_goals iM_differents iM_cases fM_from fM_to fM_whole fM_ways iM_plainRows fM_plainRow fM_kept fM_goalOver fM_goalUnder fM_goalMax fM_different ++ (WQ hQ aQ kQ hw fQ_inside_39 fQ_outside_39 fQ_shut_39 iQ_rows_37 iQ_allRows_37 iQ_columns_37 ++ (WW nW hw lw kw wl_39 wb_39 wG_39)))) H := fz_P ht hB9.1
                have hD := fz_sd hP (hB9.2.weaken (fun _ q _ h => hFc q.1 h)) rfl
                refine lv_iinc (v := (iI (l3_x57.toInt + 1))) hx hb dX5_findAnswer_101 hl (k := 0) rfl (iI_add2 (iI_of _) (by decide : (1 : Int32) = iI 1)) (by decide) rfl (fun ls (hl : lv_has ls _ ([(3, .int (iI (l3_x57.toInt + 1))), (2, .int k0_j3), (0, .ref (hO 0)), (1, .int p1)])) => ?_)
                refine lv_goto (tgt := 57) hx hb dX5_findAnswer_104 (by decide) ?_
                have hl : lv_has _ _ ([(3, .int (iI (l3_x57.toInt + 1))), (2, .int k0_j3), (0, .ref (hO 0)), (1, .int p1)]) := lv_sub hl [0, 1, 2, 3] rfl
                exact ihx57 iO_answered_39 fO_start_37 fO_column_37 fO_chosen_x57 fQ_inside_39 fQ_outside_39 fQ_shut_39 iQ_rows_37 iQ_allRows_37 iQ_columns_37 wl_39 wb_39 wG_39 (iI (l3_x57.toInt + 1)) _ _ _ (b_iO_answered_39) b_fO_column_37 b_fO_chosen_x57 (b_iQ_rows_37) (b_iQ_allRows_37) (b_iQ_columns_37) b_wl_39 b_wb_39 (iI_rng (Int.le_trans (by decide) (Int.add_le_add (b_l3_x57.1) (Int.le_refl _))) (by omega) (by decide) (by decide)) (by first | with_reducible assumption | omega | assumption) (by have e9 : ((iI (l3_x57.toInt + 1))).toInt = (l3_x57.toInt + 1) := (iI_t (Int.le_trans (by decide) (Int.add_le_add (b_l3_x57.1) (Int.le_refl _))) (Int.le_trans (Int.add_le_add (b_l3_x57.2) (Int.le_refl _)) (by decide))); omega) hP hD hS hl
          · have t_63 : p1.toInt = 0 := toI_nne c_63 rfl (by decide : (0 : Int32).toInt = 0)
            refine lv_aload_n hx hb dX5_findAnswer_66 rfl (lv_at hl 2 rfl) ?_
            refine lv_iload_n hx hb dX5_findAnswer_67 rfl (lv_at hl 0 rfl) ?_
            have hFc := allFree hD hS hA
            refine va_calli (va_runV (As := [.int l3_x57]) (rest := []) ⟨hx, hb, hml, hown, hts⟩ (m_X5_choose l dC dI hO aO kO hM hQ hw iO_answered_x57 1 p1 iO_counted fO_countedCase gO_goalNumber_1 gO_goalScale_1 fO_start_x57 fO_column_x57 fO_chosen_x57 aM kM iM_stands iM_variables iM_rows iM_goals iM_differents iM_cases fM_from fM_to fM_whole fM_ways iM_plainRows fM_plainRow fM_kept fM_goalOver fM_goalUnder fM_goalMax fM_different aQ kQ fQ_inside_x57 fQ_outside_x57 fQ_shut_x57 iQ_rows_x57 iQ_allRows_x57 iQ_columns_x57 nW lw kw wl_x57 wb_x57 wG_x57 l3_x57 (b_iO_answered_x57) (show 0 ≤ (1 : Int32).toInt ∧ (1 : Int32).toInt ≤ 1 from by decide) (b_p1) (b_iO_counted) b_fO_countedCase b_fO_column_x57 b_fO_chosen_x57 (b_iM_stands) (b_iM_variables) (b_iM_rows) (b_iM_goals) (b_iM_differents) (b_iM_cases) b_fM_ways (b_iM_plainRows) b_fM_plainRow (by first | with_reducible assumption | omega | assumption) (b_iQ_rows_x57) (b_iQ_allRows_x57) (b_iQ_columns_x57) (by first | with_reducible assumption | omega | assumption) b_wl_x57 b_wb_x57 (b_l3_x57) (by omega) H.size) (cwV 1 hts gwsMX5_findAnswer_4 rfl rfl rfl hd_yX5_choose_RX5 (by decide +kernel)) (fz_pre (va_recv hK hP (ci := 5) (q0 := 0) rfl rfl) hP hK hD) rfl rfl hl.1 rfl (lv_room (Nat.le_of_ble_eq_true rfl)) dX5_findAnswer_68 (by decide +kernel)) hS (fun q _ h => hFc q h) hFc (fun r40 u t9_ H locs ht hvm hw9 hB9 hz1 hk1 hS => ?_)
            revert u hw9 hB9
            refine fz_p2 ?_
            intro fO_start_40 fO_chosen_40 hw9 hB9
            try dsimp only at hw9 hB9
            revert hw9
            refine fz_a2 ?_
            intro b_fO_chosen_40 b_r40
            have hP : va_P (dC, dI) vwCl (WO hO aO kO hM hQ hw iO_answered_x57 1 p1 iO_counted fO_countedCase gO_goalNumber_1 gO_goalScale_1 fO_start_40 fO_column_x57 fO_chosen_40 ++ (WM hM aM kM iM_stands iM_variables iM_rows iM_goals iM_differents iM_cases fM_from fM_to fM_whole fM_ways iM_plainRows fM_plainRow fM_kept fM_goalOver fM_goalUnder fM_goalMax fM_different ++ (WQ hQ aQ kQ hw fQ_inside_x57 fQ_outside_x57 fQ_shut_x57 iQ_rows_x57 iQ_allRows_x57 iQ_columns_x57 ++ (WW nW hw lw kw wl_x57 wb_x57 wG_x57)))) H := fz_P ht hB9.1
            have hD := fz_sd hP (hB9.2.weaken (fun _ q _ h => hFc q.1 h)) rfl
            refine lv_if_eq (tgt := 101) hx hb dX5_findAnswer_71 (by decide) (fun c_71 => ?_) (fun c_71 => ?_)
            · have t_71 : r40.toInt = 0 := toI_eq c_71 rfl (by decide : (0 : Int32).toInt = 0)
              refine lv_iinc (v := (iI (l3_x57.toInt + 1))) hx hb dX5_findAnswer_101 hl (k := 0) rfl (iI_add2 (iI_of _) (by decide : (1 : Int32) = iI 1)) (by decide) rfl (fun ls (hl : lv_has ls _ ([(3, .int (iI (l3_x57.toInt + 1))), (2, .int k0_j3), (0, .ref (hO 0)), (1, .int p1)])) => ?_)
              refine lv_goto (tgt := 57) hx hb dX5_findAnswer_104 (by decide) ?_
              have hl : lv_has _ _ ([(3, .int (iI (l3_x57.toInt + 1))), (2, .int k0_j3), (0, .ref (hO 0)), (1, .int p1)]) := lv_sub hl [0, 1, 2, 3] rfl
              exact ihx57 iO_answered_x57 fO_start_40 fO_column_x57 fO_chosen_40 fQ_inside_x57 fQ_outside_x57 fQ_shut_x57 iQ_rows_x57 iQ_allRows_x57 iQ_columns_x57 wl_x57 wb_x57 wG_x57 (iI (l3_x57.toInt + 1)) _ _ _ (b_iO_answered_x57) b_fO_column_x57 b_fO_chosen_40 (b_iQ_rows_x57) (b_iQ_allRows_x57) (b_iQ_columns_x57) b_wl_x57 b_wb_x57 (iI_rng (Int.le_trans (by decide) (Int.add_le_add (b_l3_x57.1) (Int.le_refl _))) (by omega) (by decide) (by decide)) (by first | with_reducible assumption | omega | assumption) (by have e9 : ((iI (l3_x57.toInt + 1))).toInt = (l3_x57.toInt + 1) := (iI_t (Int.le_trans (by decide) (Int.add_le_add (b_l3_x57.1) (Int.le_refl _))) (Int.le_trans (Int.add_le_add (b_l3_x57.2) (Int.le_refl _)) (by decide))); omega) hP hD hS hl
            · have t_71 : ¬ r40.toInt = 0 := toI_neq c_71 rfl (by decide : (0 : Int32).toInt = 0)
              refine lv_aload_n hx hb dX5_findAnswer_74 rfl (lv_at hl 2 rfl) ?_
              refine lv_iload_n hx hb dX5_findAnswer_75 rfl (lv_at hl 3 rfl) ?_
              refine lv_aload_n hx hb dX5_findAnswer_76 rfl (lv_at hl 2 rfl) ?_
              refine va_get (D := (dC, dI)) (ci := 5) (v := .ref (hM 0)) (C := RX5) (T := TX5) (N := 19) hx hb hts iwsMX5_findAnswer_in5 hown hK hP 0 rfl rfl 0 (by decide) (hts _ hm_m_X5_findAnswer_3) (fun _ h9 => h9) rfl dX5_findAnswer_77 ?_
              refine va_get (D := (dC, dI)) (ci := 1) (v := .int iM_goals) (C := RX1) (T := TX1) (N := 17) hx hb hts iwsMX5_findAnswer_in1 hown hK hP 11 rfl rfl 3 (by decide) (hts _ hm_m_X5_findAnswer_5) (fun _ h9 => h9) rfl dX5_findAnswer_80 ?_
              have hFc := allFree hD hS hA
              refine va_calli (va_runV (As := [.int p1, .int iM_goals]) (rest := []) ⟨hx, hb, hml, hown, hts⟩ (m_X5_lay l dC dI hO aO kO hM hQ hw iO_answered_x57 1 p1 iO_counted fO_countedCase gO_goalNumber_1 gO_goalScale_1 fO_start_40 fO_column_x57 fO_chosen_40 aM kM iM_stands iM_variables iM_rows iM_goals iM_differents iM_cases fM_from fM_to fM_whole fM_ways iM_plainRows fM_plainRow fM_kept fM_goalOver fM_goalUnder fM_goalMax fM_different aQ kQ fQ_inside_x57 fQ_outside_x57 fQ_shut_x57 iQ_rows_x57 iQ_allRows_x57 iQ_columns_x57 nW lw kw wl_x57 wb_x57 wG_x57 p1 iM_goals (b_iO_answered_x57) (show 0 ≤ (1 : Int32).toInt ∧ (1 : Int32).toInt ≤ 1 from by decide) (b_p1) (b_iO_counted) b_fO_countedCase b_fO_column_x57 b_fO_chosen_40 (b_iM_stands) (b_iM_variables) (b_iM_rows) (b_iM_goals) (b_iM_differents) (b_iM_cases) b_fM_ways (b_iM_plainRows) b_fM_plainRow (by first | with_reducible assumption | omega | assumption) (b_iQ_rows_x57) (b_iQ_allRows_x57) (b_iQ_columns_x57) (by first | with_reducible assumption | omega | assumption) b_wl_x57 b_wb_x57 (b_iM_goals) (by omega) H.size) (cwV 2 hts gwsMX5_findAnswer_1 rfl rfl rfl hd_yX5_lay_RX5 (by decide +kernel)) (fz_pre (va_recv hK hP (ci := 5) (q0 := 0) rfl rfl) hP hK hD) rfl rfl hl.1 rfl (lv_room (Nat.le_of_ble_eq_true rfl)) dX5_findAnswer_83 (by decide +kernel)) hS (fun q _ h => hFc q h) hFc (fun r41 u t9_ H locs ht hvm hw9 hB9 hz1 hk1 hS => ?_)
              revert u hw9 hB9
              refine fz_p11 ?_
              intro fO_start_41 fO_column_41 fQ_inside_41 fQ_outside_41 fQ_shut_41 iQ_rows_41 iQ_allRows_41 iQ_columns_41 wl_41 wb_41 wG_41 hw9 hB9
              try dsimp only at hw9 hB9
              revert hw9
              refine fz_a10 ?_
              intro b_fO_column_41 b_iQ_rows_41 b_iQ_allRows_41 b_iQ_columns_41 b_wl_41 b_wb_41 b_tb_41 b_r41 f41_0 f41_1
              have hP : va_P (dC, dI) vwCl (WO hO aO kO hM hQ hw iO_answered_x57 1 p1 iO_counted fO_countedCase gO_goalNumber_1 gO_goalScale_1 fO_start_41 fO_column_41 fO_chosen_40 ++ (WM hM aM kM iM_stands iM_variables iM_rows iM_goals iM_differents iM_cases fM_from fM_to fM_whole fM_ways iM_plainRows fM_plainRow fM_kept fM_goalOver fM_goalUnder fM_goalMax fM_different ++ (WQ hQ aQ kQ hw fQ_inside_41 fQ_outside_41 fQ_shut_41 iQ_rows_41 iQ_allRows_41 iQ_columns_41 ++ (WW nW hw lw kw wl_41 wb_41 wG_41)))) H := fz_P ht hB9.1
              have hD := fz_sd hP (hB9.2.weaken (fun _ q _ h => hFc q.1 h)) rfl
              refine lv_if_eq (tgt := 101) hx hb dX5_findAnswer_86 (by decide) (fun c_86 => ?_) (fun c_86 => ?_)
              · have t_86 : r41.toInt = 0 := toI_eq c_86 rfl (by decide : (0 : Int32).toInt = 0)
                refine lv_iinc (v := (iI (l3_x57.toInt + 1))) hx hb dX5_findAnswer_101 hl (k := 0) rfl (iI_add2 (iI_of _) (by decide : (1 : Int32) = iI 1)) (by decide) rfl (fun ls (hl : lv_has ls _ ([(3, .int (iI (l3_x57.toInt + 1))), (2, .int k0_j3), (0, .ref (hO 0)), (1, .int p1)])) => ?_)
                refine lv_goto (tgt := 57) hx hb dX5_findAnswer_104 (by decide) ?_
                have hl : lv_has _ _ ([(3, .int (iI (l3_x57.toInt + 1))), (2, .int k0_j3), (0, .ref (hO 0)), (1, .int p1)]) := lv_sub hl [0, 1, 2, 3] rfl
                exact ihx57 iO_answered_x57 fO_start_41 fO_column_41 fO_chosen_40 fQ_inside_41 fQ_outside_41 fQ_shut_41 iQ_rows_41 iQ_allRows_41 iQ_columns_41 wl_41 wb_41 wG_41 (iI (l3_x57.toInt + 1)) _ _ _ (b_iO_answered_x57) b_fO_column_41 b_fO_chosen_40 (b_iQ_rows_41) (b_iQ_allRows_41) (b_iQ_columns_41) b_wl_41 b_wb_41 (iI_rng (Int.le_trans (by decide) (Int.add_le_add (b_l3_x57.1) (Int.le_refl _))) (by omega) (by decide) (by decide)) (by first | with_reducible assumption | omega | assumption) (by have e9 : ((iI (l3_x57.toInt + 1))).toInt = (l3_x57.toInt + 1) := (iI_t (Int.le_trans (by decide) (Int.add_le_add (b_l3_x57.1) (Int.le_refl _))) (Int.le_trans (Int.add_le_add (b_l3_x57.2) (Int.le_refl _)) (by decide))); omega) hP hD hS hl
              · have t_86 : ¬ r41.toInt = 0 := toI_neq c_86 rfl (by decide : (0 : Int32).toInt = 0)
                refine lv_aload_n hx hb dX5_findAnswer_89 rfl (lv_at hl 2 rfl) ?_
                refine lv_iload_n hx hb dX5_findAnswer_90 rfl (lv_at hl 3 rfl) ?_
                have hFc := allFree hD hS hA
                refine va_calli (va_runV (As := [.int p1]) (rest := []) ⟨hx, hb, hml, hown, hts⟩ (m_X5_settle l dC dI hO aO kO hM hQ hw iO_answered_x57 1 p1 iO_counted fO_countedCase gO_goalNumber_1 gO_goalScale_1 fO_start_41 fO_column_41 fO_chosen_40 aM kM iM_stands iM_variables iM_rows iM_goals iM_differents iM_cases fM_from fM_to fM_whole fM_ways iM_plainRows fM_plainRow fM_kept fM_goalOver fM_goalUnder fM_goalMax fM_different aQ kQ fQ_inside_41 fQ_outside_41 fQ_shut_41 iQ_rows_41 iQ_allRows_41 iQ_columns_41 nW lw kw wl_41 wb_41 wG_41 p1 (b_iO_answered_x57) (show 0 ≤ (1 : Int32).toInt ∧ (1 : Int32).toInt ≤ 1 from by decide) (b_p1) (b_iO_counted) b_fO_countedCase b_fO_column_41 b_fO_chosen_40 (b_iM_stands) (b_iM_variables) (b_iM_rows) (b_iM_goals) (b_iM_differents) (b_iM_cases) b_fM_ways (b_iM_plainRows) b_fM_plainRow (by first | with_reducible assumption | omega | assumption) (b_iQ_rows_41) (b_iQ_allRows_41) (b_iQ_columns_41) (by first | with_reducible assumption | omega | assumption) b_wl_41 b_wb_41 (by omega) (by omega) H.size) (cwV 1 hts gwsMX5_findAnswer_2 rfl rfl rfl hd_yX5_settle_RX5 (by decide +kernel)) (fz_pre (va_recv hK hP (ci := 5) (q0 := 0) rfl rfl) hP hK hD) rfl rfl hl.1 rfl (lv_room (Nat.le_of_ble_eq_true rfl)) dX5_findAnswer_91 (by decide +kernel)) hS (fun q _ h => hFc q h) hFc (fun r42 u t9_ H locs ht hvm hw9 hB9 hz1 hk1 hS => ?_)
                revert u hw9 hB9
                refine fz_p6 ?_
                intro fQ_inside_42 fQ_outside_42 fQ_shut_42 wl_42 wb_42 wG_42 hw9 hB9
                try dsimp only at hw9 hB9
                revert hw9
                refine fz_a3 ?_
                intro b_wl_42 b_wb_42 b_r42
                have hP : va_P (dC, dI) vwCl (WO hO aO kO hM hQ hw iO_answered_x57 1 p1 iO_counted fO_countedCase gO_goalNumber_1 gO_goalScale_1 fO_start_41 fO_column_41 fO_chosen_40 ++ (WM hM aM kM iM_stands iM_variables iM_rows iM_goals iM_differents iM_cases fM_from fM_to fM_whole fM_ways iM_plainRows fM_plainRow fM_kept fM_goalOver fM_goalUnder fM_goalMax fM_different ++ (WQ hQ aQ kQ hw fQ_inside_42 fQ_outside_42 fQ_shut_42 iQ_rows_41 iQ_allRows_41 iQ_columns_41 ++ (WW nW hw lw kw wl_42 wb_42 wG_42)))) H := fz_P ht hB9.1
                have hD := fz_sd hP (hB9.2.weaken (fun _ q _ h => hFc q.1 h)) rfl
                refine lv_if_eq (tgt := 101) hx hb dX5_findAnswer_94 (by decide) (fun c_94 => ?_) (fun c_94 => ?_)
                · have t_94 : r42.toInt = 0 := toI_eq c_94 rfl (by decide : (0 : Int32).toInt = 0)
                  refine lv_iinc (v := (iI (l3_x57.toInt + 1))) hx hb dX5_findAnswer_101 hl (k := 0) rfl (iI_add2 (iI_of _) (by decide : (1 : Int32) = iI 1)) (by decide) rfl (fun ls (hl : lv_has ls _ ([(3, .int (iI (l3_x57.toInt + 1))), (2, .int k0_j3), (0, .ref (hO 0)), (1, .int p1)])) => ?_)
                  refine lv_goto (tgt := 57) hx hb dX5_findAnswer_104 (by decide) ?_
                  have hl : lv_has _ _ ([(3, .int (iI (l3_x57.toInt + 1))), (2, .int k0_j3), (0, .ref (hO 0)), (1, .int p1)]) := lv_sub hl [0, 1, 2, 3] rfl
                  exact ihx57 iO_answered_x57 fO_start_41 fO_column_41 fO_chosen_40 fQ_inside_42 fQ_outside_42 fQ_shut_42 iQ_rows_41 iQ_allRows_41 iQ_columns_41 wl_42 wb_42 wG_42 (iI (l3_x57.toInt + 1)) _ _ _ (b_iO_answered_x57) b_fO_column_41 b_fO_chosen_40 (b_iQ_rows_41) (b_iQ_allRows_41) (b_iQ_columns_41) b_wl_42 b_wb_42 (iI_rng (Int.le_trans (by decide) (Int.add_le_add (b_l3_x57.1) (Int.le_refl _))) (by omega) (by decide) (by decide)) (by first | with_reducible assumption | omega | assumption) (by have e9 : ((iI (l3_x57.toInt + 1))).toInt = (l3_x57.toInt + 1) := (iI_t (Int.le_trans (by decide) (Int.add_le_add (b_l3_x57.1) (Int.le_refl _))) (Int.le_trans (Int.add_le_add (b_l3_x57.2) (Int.le_refl _)) (by decide))); omega) hP hD hS hl
                · have t_94 : ¬ r42.toInt = 0 := toI_neq c_94 rfl (by decide : (0 : Int32).toInt = 0)
                  refine lv_aload_n hx hb dX5_findAnswer_97 rfl (lv_at hl 2 rfl) ?_
                  have hFc := allFree hD hS hA
                  refine va_callv (va_runV (As := []) (rest := []) ⟨hx, hb, hml, hown, hts⟩ (m_X5_tryAnswer l dC dI hO aO kO hM hQ hw iO_answered_x57 1 p1 iO_counted fO_countedCase gO_goalNumber_1 gO_goalScale_1 fO_start_41 fO_column_41 fO_chosen_40 aM kM iM_stands iM_variables iM_rows iM_goals iM_differents iM_cases fM_from fM_to fM_whole fM_ways iM_plainRows fM_plainRow fM_kept fM_goalOver fM_goalUnder fM_goalMax fM_different aQ kQ fQ_inside_42 fQ_outside_42 fQ_shut_42 iQ_rows_41 iQ_allRows_41 iQ_columns_41 nW lw kw wl_42 wb_42 wG_42 (b_iO_answered_x57) (show 0 ≤ (1 : Int32).toInt ∧ (1 : Int32).toInt ≤ 1 from by decide) (b_p1) (b_iO_counted) b_fO_countedCase b_fO_column_41 b_fO_chosen_40 (b_iM_stands) (b_iM_variables) (b_iM_rows) (b_iM_goals) (b_iM_differents) (b_iM_cases) b_fM_ways (b_iM_plainRows) b_fM_plainRow (by first | with_reducible assumption | omega | assumption) (b_iQ_rows_41) (b_iQ_allRows_41) (b_iQ_columns_41) (by first | with_reducible assumption | omega | assumption) b_wl_42 b_wb_42 (by omega) (by omega) (by omega) H.size) (cwV 0 hts gwsMX5_findAnswer_3 rfl rfl rfl hd_yX5_tryAnswer_RX5 (by decide +kernel)) (fz_pre (va_recv hK hP (ci := 5) (q0 := 0) rfl rfl) hP hK hD) rfl rfl hl.1 rfl (lv_room (Nat.le_of_ble_eq_true rfl)) dX5_findAnswer_98 (by decide +kernel)) hS (fun q _ h => hFc q h) hFc (fun u t9_ H locs ht hvm hw9 hB9 hz1 hk1 hS => ?_)
                  revert u hw9 hB9
                  refine fz_p7 ?_
                  intro iO_answered_43 fQ_inside_43 fQ_outside_43 fQ_shut_43 wl_43 wb_43 wG_43 hw9 hB9
                  try dsimp only at hw9 hB9
                  revert hw9
                  refine fz_a3 ?_
                  intro b_iO_answered_43 b_wl_43 b_wb_43
                  have hP : va_P (dC, dI) vwCl (WO hO aO kO hM hQ hw iO_answered_43 1 p1 iO_counted fO_countedCase gO_goalNumber_1 gO_goalScale_1 fO_start_41 fO_column_41 fO_chosen_40 ++ (WM hM aM kM iM_stands iM_variables iM_rows iM_goals iM_differents iM_cases fM_from fM_to fM_whole fM_ways iM_plainRows fM_plainRow fM_kept fM_goalOver fM_goalUnder fM_goalMax fM_different ++ (WQ hQ aQ kQ hw fQ_inside_43 fQ_outside_43 fQ_shut_43 iQ_rows_41 iQ_allRows_41 iQ_columns_41 ++ (WW nW hw lw kw wl_43 wb_43 wG_43)))) H := fz_P ht hB9.1
                  have hD := fz_sd hP (hB9.2.weaken (fun _ q _ h => hFc q.1 h)) rfl
                  refine lv_iinc (v := (iI (l3_x57.toInt + 1))) hx hb dX5_findAnswer_101 hl (k := 0) rfl (iI_add2 (iI_of _) (by decide : (1 : Int32) = iI 1)) (by decide) rfl (fun ls (hl : lv_has ls _ ([(3, .int (iI (l3_x57.toInt + 1))), (2, .int k0_j3), (0, .ref (hO 0)), (1, .int p1)])) => ?_)
                  refine lv_goto (tgt := 57) hx hb dX5_findAnswer_104 (by decide) ?_
                  have hl : lv_has _ _ ([(3, .int (iI (l3_x57.toInt + 1))), (2, .int k0_j3), (0, .ref (hO 0)), (1, .int p1)]) := lv_sub hl [0, 1, 2, 3] rfl
                  exact ihx57 iO_answered_43 fO_start_41 fO_column_41 fO_chosen_40 fQ_inside_43 fQ_outside_43 fQ_shut_43 iQ_rows_41 iQ_allRows_41 iQ_columns_41 wl_43 wb_43 wG_43 (iI (l3_x57.toInt + 1)) _ _ _ (b_iO_answered_43) b_fO_column_41 b_fO_chosen_40 (b_iQ_rows_41) (b_iQ_allRows_41) (b_iQ_columns_41) b_wl_43 b_wb_43 (iI_rng (Int.le_trans (by decide) (Int.add_le_add (b_l3_x57.1) (Int.le_refl _))) (by omega) (by decide) (by decide)) (by first | with_reducible assumption | omega | assumption) (by have e9 : ((iI (l3_x57.toInt + 1))).toInt = (l3_x57.toInt + 1) := (iI_t (Int.le_trans (by decide) (Int.add_le_add (b_l3_x57.1) (Int.le_refl _))) (Int.le_trans (Int.add_le_add (b_l3_x57.2) (Int.le_refl _)) (by decide))); omega) hP hD hS hl
  · have t_4 : ¬ iO_searched.toInt = 0 := toI_neq c_4 rfl (by decide : (0 : Int32).toInt = 0)
    refine lv_aload_n hx hb dX5_findAnswer_7 rfl (lv_at hl 0 rfl) ?_
    refine va_get (D := (dC, dI)) (ci := 5) (v := .int iO_searchedRelaxed) (C := RX5) (T := TX5) (N := 19) hx hb hts iwsMX5_findAnswer_in5 hown hK hP 0 rfl rfl 4 (by decide) (hts _ hm_m_X5_findAnswer_1) (fun _ h9 => h9) rfl dX5_findAnswer_8 ?_
    refine lv_iload_n hx hb dX5_findAnswer_11 rfl (lv_at hl 1 rfl) ?_
    refine lv_icmp_ne (tgt := 20) hx hb dX5_findAnswer_12 (by decide) (fun c_12 => ?_) (fun c_12 => ?_)
    · have t_12 : iO_searchedRelaxed.toInt ≠ p1.toInt := toI_ne c_12 rfl rfl
      refine lv_aload_n hx hb dX5_findAnswer_20 rfl (lv_at hl 0 rfl) ?_
      refine lv_iconst (v := 1) hx hb dX5_findAnswer_21 (by decide) ?_
      refine va_put (D := (dC, dI)) (ci := 5) (v := .int 1) (ty := .boolean) (C := RX5) (T := TX5) (N := 19) hx hb hts iwsMX5_findAnswer_in5 tyX5 tyX5_ok nmX5 hown hK hP hD hS 0 rfl rfl 3 (by decide) (hts _ hm_m_X5_findAnswer_0) (fun _ h9 => h9) rfl (by decide +kernel) rfl rfl (Nat.le_of_ble_eq_true rfl) dX5_findAnswer_22 (fun H locs hP hD hS => ?_)
      have hP : va_P (dC, dI) vwCl (WO hO aO kO hM hQ hw iO_answered 1 iO_searchedRelaxed iO_counted fO_countedCase gO_goalNumber gO_goalScale fO_start fO_column fO_chosen ++ (WM hM aM kM iM_stands iM_variables iM_rows iM_goals iM_differents iM_cases fM_from fM_to fM_whole fM_ways iM_plainRows fM_plainRow fM_kept fM_goalOver fM_goalUnder fM_goalMax fM_different ++ (WQ hQ aQ kQ hw fQ_inside fQ_outside fQ_shut iQ_rows iQ_allRows iQ_columns ++ (WW nW hw lw kw wl wb wG)))) H := hP
      have hD := fz_sd hP (hD) rfl
      refine lv_aload_n hx hb dX5_findAnswer_25 rfl (lv_at hl 0 rfl) ?_
      refine lv_iload_n hx hb dX5_findAnswer_26 rfl (lv_at hl 1 rfl) ?_
      refine va_put (D := (dC, dI)) (ci := 5) (v := .int p1) (ty := .boolean) (C := RX5) (T := TX5) (N := 19) hx hb hts iwsMX5_findAnswer_in5 tyX5 tyX5_ok nmX5 hown hK hP hD hS 0 rfl rfl 4 (by decide) (hts _ hm_m_X5_findAnswer_1) (fun _ h9 => h9) rfl (by decide +kernel) (by rcases z01 (x := p1) (b_p1) with h9 | h9 <;> rw [h9] <;> rfl) (by rcases z01 (x := p1) (b_p1) with h9 | h9 <;> rw [h9] <;> rfl) (Nat.le_of_ble_eq_true rfl) dX5_findAnswer_27 (fun H locs hP hD hS => ?_)
      have hP : va_P (dC, dI) vwCl (WO hO aO kO hM hQ hw iO_answered 1 p1 iO_counted fO_countedCase gO_goalNumber gO_goalScale fO_start fO_column fO_chosen ++ (WM hM aM kM iM_stands iM_variables iM_rows iM_goals iM_differents iM_cases fM_from fM_to fM_whole fM_ways iM_plainRows fM_plainRow fM_kept fM_goalOver fM_goalUnder fM_goalMax fM_different ++ (WQ hQ aQ kQ hw fQ_inside fQ_outside fQ_shut iQ_rows iQ_allRows iQ_columns ++ (WW nW hw lw kw wl wb wG)))) H := hP
      have hD := fz_sd hP (hD) rfl
      refine lv_aload_n hx hb dX5_findAnswer_30 rfl (lv_at hl 0 rfl) ?_
      refine lv_iconst (v := 0) hx hb dX5_findAnswer_31 (by decide) ?_
      refine va_put (D := (dC, dI)) (ci := 5) (v := .int 0) (ty := .boolean) (C := RX5) (T := TX5) (N := 19) hx hb hts iwsMX5_findAnswer_in5 tyX5 tyX5_ok nmX5 hown hK hP hD hS 0 rfl rfl 2 (by decide) (hts _ hm_m_X5_findAnswer_2) (fun _ h9 => h9) rfl (by decide +kernel) rfl rfl (Nat.le_of_ble_eq_true rfl) dX5_findAnswer_32 (fun H locs hP hD hS => ?_)
      have hP : va_P (dC, dI) vwCl (WO hO aO kO hM hQ hw 0 1 p1 iO_counted fO_countedCase gO_goalNumber gO_goalScale fO_start fO_column fO_chosen ++ (WM hM aM kM iM_stands iM_variables iM_rows iM_goals iM_differents iM_cases fM_from fM_to fM_whole fM_ways iM_plainRows fM_plainRow fM_kept fM_goalOver fM_goalUnder fM_goalMax fM_different ++ (WQ hQ aQ kQ hw fQ_inside fQ_outside fQ_shut iQ_rows iQ_allRows iQ_columns ++ (WW nW hw lw kw wl wb wG)))) H := hP
      have hD := fz_sd hP (hD) rfl
      refine lv_aload_n hx hb dX5_findAnswer_35 rfl (lv_at hl 0 rfl) ?_
      have hFc := allFree hD hS hA
      refine va_callv (va_runV (As := []) (rest := []) ⟨hx, hb, hml, hown, hts⟩ (m_X5_scaleGoals l dC dI hO aO kO hM hQ hw 0 1 p1 iO_counted fO_countedCase gO_goalNumber gO_goalScale fO_start fO_column fO_chosen aM kM iM_stands iM_variables iM_rows iM_goals iM_differents iM_cases fM_from fM_to fM_whole fM_ways iM_plainRows fM_plainRow fM_kept fM_goalOver fM_goalUnder fM_goalMax fM_different aQ kQ fQ_inside fQ_outside fQ_shut iQ_rows iQ_allRows iQ_columns nW lw kw wl wb wG (show 0 ≤ (0 : Int32).toInt ∧ (0 : Int32).toInt ≤ 1 from by decide) (show 0 ≤ (1 : Int32).toInt ∧ (1 : Int32).toInt ≤ 1 from by decide) (b_p1) (b_iO_counted) b_fO_countedCase b_fO_column b_fO_chosen (b_iM_stands) (b_iM_variables) (b_iM_rows) (b_iM_goals) (b_iM_differents) (b_iM_cases) b_fM_ways (b_iM_plainRows) b_fM_plainRow (by first | with_reducible assumption | omega | assumption) (b_iQ_rows) (b_iQ_allRows) (b_iQ_columns) (by first | with_reducible assumption | omega | assumption) b_wl b_wb (by omega) H.size) (cwV 0 hts gwsMX5_findAnswer_0 rfl rfl rfl hd_yX5_scaleGoals_RX5 (by decide +kernel)) (fz_pre (va_recv hK hP (ci := 5) (q0 := 0) rfl rfl) hP hK hD) rfl rfl hl.1 rfl (lv_room (Nat.le_of_ble_eq_true rfl)) dX5_findAnswer_36 (by decide +kernel)) hS (fun q _ h => hFc q h) hFc (fun u t9_ H locs ht hvm hw9 hB9 hz1 hk1 hS => ?_)
      revert u hw9 hB9
      refine fz_p2 ?_
      intro gO_goalNumber_44 gO_goalScale_44 hw9 hB9
      try dsimp only at hw9 hB9
      clear hw9
      have hP : va_P (dC, dI) vwCl (WO hO aO kO hM hQ hw 0 1 p1 iO_counted fO_countedCase gO_goalNumber_44 gO_goalScale_44 fO_start fO_column fO_chosen ++ (WM hM aM kM iM_stands iM_variables iM_rows iM_goals iM_differents iM_cases fM_from fM_to fM_whole fM_ways iM_plainRows fM_plainRow fM_kept fM_goalOver fM_goalUnder fM_goalMax fM_different ++ (WQ hQ aQ kQ hw fQ_inside fQ_outside fQ_shut iQ_rows iQ_allRows iQ_columns ++ (WW nW hw lw kw wl wb wG)))) H := fz_P ht hB9.1
      have hD := fz_sd hP (hB9.2.weaken (fun _ q _ h => hFc q.1 h)) rfl
      refine lv_iload_n hx hb dX5_findAnswer_39 rfl (lv_at hl 1 rfl) ?_
      refine W.cut (pc := 54) (fun H locs ls stk => ∃ (k0_j4 : Int32), (0 ≤ k0_j4.toInt ∧ k0_j4.toInt ≤ 200000) ∧  stk = [.int k0_j4] ∧ va_P (dC, dI) vwCl (WO hO aO kO hM hQ hw 0 1 p1 iO_counted fO_countedCase gO_goalNumber_44 gO_goalScale_44 fO_start fO_column fO_chosen ++ (WM hM aM kM iM_stands iM_variables iM_rows iM_goals iM_differents iM_cases fM_from fM_to fM_whole fM_ways iM_plainRows fM_plainRow fM_kept fM_goalOver fM_goalUnder fM_goalMax fM_different ++ (WQ hQ aQ kQ hw fQ_inside fQ_outside fQ_shut iQ_rows iQ_allRows iQ_columns ++ (WW nW hw lw kw wl wb wG)))) H ∧ va_D A (WO hO aO kO hM hQ hw 0 1 p1 iO_counted fO_countedCase gO_goalNumber_44 gO_goalScale_44 fO_start fO_column fO_chosen ++ (WM hM aM kM iM_stands iM_variables iM_rows iM_goals iM_differents iM_cases fM_from fM_to fM_whole fM_ways iM_plainRows fM_plainRow fM_kept fM_goalOver fM_goalUnder fM_goalMax fM_different ++ (WQ hQ aQ kQ hw fQ_inside fQ_outside fQ_shut iQ_rows iQ_allRows iQ_columns ++ (WW nW hw lw kw wl wb wG)))) ∧ va_S A s.heap H locs ∧ lv_has ls 4 [(0, .ref (hO 0)), (1, .int p1)]) (fun join4 => ?_) ?_
      · refine lv_if_eq (tgt := 47) hx hb dX5_findAnswer_40 (by decide) (fun c_40 => ?_) (fun c_40 => ?_)
        · have t_40 : p1.toInt = 0 := toI_eq c_40 rfl (by decide : (0 : Int32).toInt = 0)
          refine lv_aload_n hx hb dX5_findAnswer_47 rfl (lv_at hl 0 rfl) ?_
          refine va_get (D := (dC, dI)) (ci := 5) (v := .ref (hM 0)) (C := RX5) (T := TX5) (N := 19) hx hb hts iwsMX5_findAnswer_in5 hown hK hP 0 rfl rfl 0 (by decide) (hts _ hm_m_X5_findAnswer_3) (fun _ h9 => h9) rfl dX5_findAnswer_48 ?_
          refine va_get (D := (dC, dI)) (ci := 1) (v := .int iM_cases) (C := RX1) (T := TX1) (N := 17) hx hb hts iwsMX5_findAnswer_in1 hown hK hP 11 rfl rfl 5 (by decide) (hts _ hm_m_X5_findAnswer_4) (fun _ h9 => h9) rfl dX5_findAnswer_51 ?_
          have hl : lv_has _ _ ([(0, .ref (hO 0)), (1, .int p1)]) := lv_sub hl [0, 1] rfl
          exact join4 _ _ _ _ ⟨iM_cases, (b_iM_cases), rfl, hP, hD, hS, hl⟩
        · have t_40 : ¬ p1.toInt = 0 := toI_neq c_40 rfl (by decide : (0 : Int32).toInt = 0)
          refine lv_iconst (v := 1) hx hb dX5_findAnswer_43 (by decide) ?_
          refine lv_goto (tgt := 54) hx hb dX5_findAnswer_44 (by decide) ?_
          have hl : lv_has _ _ ([(0, .ref (hO 0)), (1, .int p1)]) := lv_sub hl [0, 1] rfl
          exact join4 _ _ _ _ ⟨1, (show 0 ≤ (1 : Int32).toInt ∧ (1 : Int32).toInt ≤ 200000 from by decide), rfl, hP, hD, hS, hl⟩
      · rintro H locs ls stk ⟨k0_j4, b_k0_j4, rfl, hP, hD, hS, hl⟩
        refine lv_istore_n hx hb dX5_findAnswer_54 rfl hl (by decide) rfl (fun ls (hl : lv_has ls _ ([(2, .int k0_j4), (0, .ref (hO 0)), (1, .int p1)])) => ?_)
        refine lv_iconst (v := 0) hx hb dX5_findAnswer_55 (by decide) ?_
        refine lv_istore_n hx hb dX5_findAnswer_56 rfl hl (by decide) rfl (fun ls (hl : lv_has ls _ ([(3, .int 0), (2, .int k0_j4), (0, .ref (hO 0)), (1, .int p1)])) => ?_)
        have hl : lv_has _ _ ([(3, .int 0), (2, .int k0_j4), (0, .ref (hO 0)), (1, .int p1)]) := lv_sub hl [0, 1, 2, 3] rfl
        refine (fun (loop : ∀ (n9 : Nat) (iO_answered_x57_1 : Int32) (fO_start_x57_1 : Nat → Int32) (fO_column_x57_1 : Nat → Int32) (fO_chosen_x57_1 : Nat → Int32) (fQ_inside_x57_1 : Nat → Int32) (fQ_outside_x57_1 : Nat → Int32) (fQ_shut_x57_1 : Nat → Int32) (iQ_rows_x57_1 : Int32) (iQ_allRows_x57_1 : Int32) (iQ_columns_x57_1 : Int32) (wl_x57_1 : Nat → Int32) (wb_x57_1 : Nat → Int32) (wG_x57_1 : Nat → Nat → Int64) (l3_x57_1 : Int32) (H : Heap) (locs : List Loc) (ls : Array Slot), (0 ≤ iO_answered_x57_1.toInt ∧ iO_answered_x57_1.toInt ≤ 1) → (∀ q : Nat, (-1) ≤ (fO_column_x57_1 q).toInt ∧ (fO_column_x57_1 q).toInt ≤ 8) → (∀ q : Nat, 0 ≤ (fO_chosen_x57_1 q).toInt ∧ (fO_chosen_x57_1 q).toInt ≤ 2) → (0 ≤ iQ_rows_x57_1.toInt ∧ iQ_rows_x57_1.toInt ≤ 40) → (0 ≤ iQ_allRows_x57_1.toInt ∧ iQ_allRows_x57_1.toInt ≤ 40) → (0 ≤ iQ_columns_x57_1.toInt ∧ iQ_columns_x57_1.toInt ≤ 40) → (∀ q : Nat, 0 ≤ (wl_x57_1 q).toInt ∧ (wl_x57_1 q).toInt ≤ 14) → (∀ q : Nat, 0 ≤ (wb_x57_1 q).toInt ∧ (wb_x57_1 q).toInt ≤ 1) → (0 ≤ l3_x57_1.toInt ∧ l3_x57_1.toInt ≤ 200000) → (TbO iQ_rows_x57_1 iQ_allRows_x57_1 iQ_columns_x57_1) → (200000 - l3_x57_1.toInt < ((n9 : Nat) : Int)) → va_P (dC, dI) vwCl (WO hO aO kO hM hQ hw iO_answered_x57_1 1 p1 iO_counted fO_countedCase gO_goalNumber_44 gO_goalScale_44 fO_start_x57_1 fO_column_x57_1 fO_chosen_x57_1 ++ (WM hM aM kM iM_stands iM_variables iM_rows iM_goals iM_differents iM_cases fM_from fM_to fM_whole fM_ways iM_plainRows fM_plainRow fM_kept fM_goalOver fM_goalUnder fM_goalMax fM_different ++ (WQ hQ aQ kQ hw fQ_inside_x57_1 fQ_outside_x57_1 fQ_shut_x57_1 iQ_rows_x57_1 iQ_allRows_x57_1 iQ_columns_x57_1 ++ (WW nW hw lw kw wl_x57_1 wb_x57_1 wG_x57_1)))) H → va_D A (WO hO aO kO hM hQ hw iO_answered_x57_1 1 p1 iO_counted fO_countedCase gO_goalNumber_44 gO_goalScale_44 fO_start_x57_1 fO_column_x57_1 fO_chosen_x57_1 ++ (WM hM aM kM iM_stands iM_variables iM_rows iM_goals iM_differents iM_cases fM_from fM_to fM_whole fM_ways iM_plainRows fM_plainRow fM_kept fM_goalOver fM_goalUnder fM_goalMax fM_different ++ (WQ hQ aQ kQ hw fQ_inside_x57_1 fQ_outside_x57_1 fQ_shut_x57_1 iQ_rows_x57_1 iQ_allRows_x57_1 iQ_columns_x57_1 ++ (WW nW hw lw kw wl_x57_1 wb_x57_1 wG_x57_1)))) → va_S A s.heap H locs → lv_has ls 4 [(3, .int l3_x57_1), (2, .int k0_j4), (0, .ref (hO 0)), (1, .int p1)] → W p l e _ s m _ below meth c H locs 0 0 _ (F0 m 57 ls [])) => loop (200001) 0 fO_start fO_column fO_chosen fQ_inside fQ_outside fQ_shut iQ_rows iQ_allRows iQ_columns wl wb wG 0 _ _ _ (show 0 ≤ (0 : Int32).toInt ∧ (0 : Int32).toInt ≤ 1 from by decide) b_fO_column b_fO_chosen (b_iQ_rows) (b_iQ_allRows) (b_iQ_columns) b_wl b_wb (show 0 ≤ (0 : Int32).toInt ∧ (0 : Int32).toInt ≤ 200000 from by decide) (by first | with_reducible assumption | omega | assumption) ((by have e9 : (0 : Int32).toInt = 0 := (by decide : (0 : Int32).toInt = 0); omega)) hP hD hS hl) ?_
        intro n9
        induction n9 with
        | zero => intro iO_answered_x57_1 fO_start_x57_1 fO_column_x57_1 fO_chosen_x57_1 fQ_inside_x57_1 fQ_outside_x57_1 fQ_shut_x57_1 iQ_rows_x57_1 iQ_allRows_x57_1 iQ_columns_x57_1 wl_x57_1 wb_x57_1 wG_x57_1 l3_x57_1 H locs ls b_iO_answered_x57_1 b_fO_column_x57_1 b_fO_chosen_x57_1 b_iQ_rows_x57_1 b_iQ_allRows_x57_1 b_iQ_columns_x57_1 b_wl_x57_1 b_wb_x57_1 b_l3_x57_1 b_tb_x57_1 hf9; exact False.elim (by omega)
        | succ n9 ihx57_1 =>
          intro iO_answered_x57_1 fO_start_x57_1 fO_column_x57_1 fO_chosen_x57_1 fQ_inside_x57_1 fQ_outside_x57_1 fQ_shut_x57_1 iQ_rows_x57_1 iQ_allRows_x57_1 iQ_columns_x57_1 wl_x57_1 wb_x57_1 wG_x57_1 l3_x57_1 H locs ls b_iO_answered_x57_1 b_fO_column_x57_1 b_fO_chosen_x57_1 b_iQ_rows_x57_1 b_iQ_allRows_x57_1 b_iQ_columns_x57_1 b_wl_x57_1 b_wb_x57_1 b_l3_x57_1 b_tb_x57_1 hfx57_1 hP hD hS hl
          refine lv_iload_n hx hb dX5_findAnswer_57 rfl (lv_at hl 0 rfl) ?_
          refine lv_iload_n hx hb dX5_findAnswer_58 rfl (lv_at hl 1 rfl) ?_
          refine lv_icmp_ge (tgt := 107) hx hb dX5_findAnswer_59 (by decide) (fun c_59 => ?_) (fun c_59 => ?_)
          · have t_59 : l3_x57_1.toInt ≥ k0_j4.toInt := toI_ge c_59 rfl rfl
            refine lv_aload_n hx hb dX5_findAnswer_107 rfl (lv_at hl 2 rfl) ?_
            refine va_get (D := (dC, dI)) (ci := 5) (v := .int iO_answered_x57_1) (C := RX5) (T := TX5) (N := 19) hx hb hts iwsMX5_findAnswer_in5 hown hK hP 0 rfl rfl 2 (by decide) (hts _ hm_m_X5_findAnswer_2) (fun _ h9 => h9) rfl dX5_findAnswer_108 ?_
            refine W.widen (k := 0) (n := 0) (by decide +kernel) (by decide +kernel) ?_
            exact W.zret (v := iO_answered_x57_1) hx hb hr (by rcases z01 (x := iO_answered_x57_1) (b_iO_answered_x57_1) with h9 | h9 <;> rw [h9] <;> rfl) (fun t9_ ht hW => ⟨⟨iO_answered_x57_1, (iO_answered_x57_1, 1, p1, gO_goalNumber_44, gO_goalScale_44, fO_start_x57_1, fO_column_x57_1, fO_chosen_x57_1, fQ_inside_x57_1, fQ_outside_x57_1, fQ_shut_x57_1, iQ_rows_x57_1, iQ_allRows_x57_1, iQ_columns_x57_1, wl_x57_1, wb_x57_1, wG_x57_1), rfl, ⟨b_iO_answered_x57_1, (by (try dsimp only); exact (show 0 ≤ (1 : Int32).toInt ∧ (1 : Int32).toInt ≤ 1 from by decide)), b_p1, b_fO_column_x57_1, b_fO_chosen_x57_1, b_iQ_rows_x57_1, b_iQ_allRows_x57_1, b_iQ_columns_x57_1, b_wl_x57_1, b_wb_x57_1, (by (try dsimp only); exact (by first | with_reducible assumption | omega | assumption)), (b_iO_answered_x57_1)⟩, by rw [ht]; exact hP, hD⟩, hS.F ht⟩) hS.2.2 dX5_findAnswer_111
          · have t_59 : ¬ l3_x57_1.toInt ≥ k0_j4.toInt := toI_nge c_59 rfl rfl
            refine lv_iload_n hx hb dX5_findAnswer_62 rfl (lv_at hl 3 rfl) ?_
            refine lv_if_ne (tgt := 74) hx hb dX5_findAnswer_63 (by decide) (fun c_63 => ?_) (fun c_63 => ?_)
            · have t_63 : p1.toInt ≠ 0 := toI_ne c_63 rfl (by decide : (0 : Int32).toInt = 0)
              refine lv_aload_n hx hb dX5_findAnswer_74 rfl (lv_at hl 2 rfl) ?_
              refine lv_iload_n hx hb dX5_findAnswer_75 rfl (lv_at hl 3 rfl) ?_
              refine lv_aload_n hx hb dX5_findAnswer_76 rfl (lv_at hl 2 rfl) ?_
              refine va_get (D := (dC, dI)) (ci := 5) (v := .ref (hM 0)) (C := RX5) (T := TX5) (N := 19) hx hb hts iwsMX5_findAnswer_in5 hown hK hP 0 rfl rfl 0 (by decide) (hts _ hm_m_X5_findAnswer_3) (fun _ h9 => h9) rfl dX5_findAnswer_77 ?_
              refine va_get (D := (dC, dI)) (ci := 1) (v := .int iM_goals) (C := RX1) (T := TX1) (N := 17) hx hb hts iwsMX5_findAnswer_in1 hown hK hP 11 rfl rfl 3 (by decide) (hts _ hm_m_X5_findAnswer_5) (fun _ h9 => h9) rfl dX5_findAnswer_80 ?_
              have hFc := allFree hD hS hA
              refine va_calli (va_runV (As := [.int p1, .int iM_goals]) (rest := []) ⟨hx, hb, hml, hown, hts⟩ (m_X5_lay l dC dI hO aO kO hM hQ hw iO_answered_x57_1 1 p1 iO_counted fO_countedCase gO_goalNumber_44 gO_goalScale_44 fO_start_x57_1 fO_column_x57_1 fO_chosen_x57_1 aM kM iM_stands iM_variables iM_rows iM_goals iM_differents iM_cases fM_from fM_to fM_whole fM_ways iM_plainRows fM_plainRow fM_kept fM_goalOver fM_goalUnder fM_goalMax fM_different aQ kQ fQ_inside_x57_1 fQ_outside_x57_1 fQ_shut_x57_1 iQ_rows_x57_1 iQ_allRows_x57_1 iQ_columns_x57_1 nW lw kw wl_x57_1 wb_x57_1 wG_x57_1 p1 iM_goals (b_iO_answered_x57_1) (show 0 ≤ (1 : Int32).toInt ∧ (1 : Int32).toInt ≤ 1 from by decide) (b_p1) (b_iO_counted) b_fO_countedCase b_fO_column_x57_1 b_fO_chosen_x57_1 (b_iM_stands) (b_iM_variables) (b_iM_rows) (b_iM_goals) (b_iM_differents) (b_iM_cases) b_fM_ways (b_iM_plainRows) b_fM_plainRow (by first | with_reducible assumption | omega | assumption) (b_iQ_rows_x57_1) (b_iQ_allRows_x57_1) (b_iQ_columns_x57_1) (by first | with_reducible assumption | omega | assumption) b_wl_x57_1 b_wb_x57_1 (b_iM_goals) (by omega) H.size) (cwV 2 hts gwsMX5_findAnswer_1 rfl rfl rfl hd_yX5_lay_RX5 (by decide +kernel)) (fz_pre (va_recv hK hP (ci := 5) (q0 := 0) rfl rfl) hP hK hD) rfl rfl hl.1 rfl (lv_room (Nat.le_of_ble_eq_true rfl)) dX5_findAnswer_83 (by decide +kernel)) hS (fun q _ h => hFc q h) hFc (fun r80 u t9_ H locs ht hvm hw9 hB9 hz1 hk1 hS => ?_)
              revert u hw9 hB9
              refine fz_p11 ?_
              intro fO_start_80 fO_column_80 fQ_inside_80 fQ_outside_80 fQ_shut_80 iQ_rows_80 iQ_allRows_80 iQ_columns_80 wl_80 wb_80 wG_80 hw9 hB9
              try dsimp only at hw9 hB9
              revert hw9
              refine fz_a10 ?_
              intro b_fO_column_80 b_iQ_rows_80 b_iQ_allRows_80 b_iQ_columns_80 b_wl_80 b_wb_80 b_tb_80 b_r80 f80_0 f80_1
              have hP : va_P (dC, dI) vwCl (WO hO aO kO hM hQ hw iO_answered_x57_1 1 p1 iO_counted fO_countedCase gO_goalNumber_44 gO_goalScale_44 fO_start_80 fO_column_80 fO_chosen_x57_1 ++ (WM hM aM kM iM_stands iM_variables iM_rows iM_goals iM_differents iM_cases fM_from fM_to fM_whole fM_ways iM_plainRows fM_plainRow fM_kept fM_goalOver fM_goalUnder fM_goalMax fM_different ++ (WQ hQ aQ kQ hw fQ_inside_80 fQ_outside_80 fQ_shut_80 iQ_rows_80 iQ_allRows_80 iQ_columns_80 ++ (WW nW hw lw kw wl_80 wb_80 wG_80)))) H := fz_P ht hB9.1
              have hD := fz_sd hP (hB9.2.weaken (fun _ q _ h => hFc q.1 h)) rfl
              refine lv_if_eq (tgt := 101) hx hb dX5_findAnswer_86 (by decide) (fun c_86 => ?_) (fun c_86 => ?_)
              · have t_86 : r80.toInt = 0 := toI_eq c_86 rfl (by decide : (0 : Int32).toInt = 0)
                refine lv_iinc (v := (iI (l3_x57_1.toInt + 1))) hx hb dX5_findAnswer_101 hl (k := 0) rfl (iI_add2 (iI_of _) (by decide : (1 : Int32) = iI 1)) (by decide) rfl (fun ls (hl : lv_has ls _ ([(3, .int (iI (l3_x57_1.toInt + 1))), (2, .int k0_j4), (0, .ref (hO 0)), (1, .int p1)])) => ?_)
                refine lv_goto (tgt := 57) hx hb dX5_findAnswer_104 (by decide) ?_
                have hl : lv_has _ _ ([(3, .int (iI (l3_x57_1.toInt + 1))), (2, .int k0_j4), (0, .ref (hO 0)), (1, .int p1)]) := lv_sub hl [0, 1, 2, 3] rfl
                exact ihx57_1 iO_answered_x57_1 fO_start_80 fO_column_80 fO_chosen_x57_1 fQ_inside_80 fQ_outside_80 fQ_shut_80 iQ_rows_80 iQ_allRows_80 iQ_columns_80 wl_80 wb_80 wG_80 (iI (l3_x57_1.toInt + 1)) _ _ _ (b_iO_answered_x57_1) b_fO_column_80 b_fO_chosen_x57_1 (b_iQ_rows_80) (b_iQ_allRows_80) (b_iQ_columns_80) b_wl_80 b_wb_80 (iI_rng (Int.le_trans (by decide) (Int.add_le_add (b_l3_x57_1.1) (Int.le_refl _))) (by omega) (by decide) (by decide)) (by first | with_reducible assumption | omega | assumption) (by have e9 : ((iI (l3_x57_1.toInt + 1))).toInt = (l3_x57_1.toInt + 1) := (iI_t (Int.le_trans (by decide) (Int.add_le_add (b_l3_x57_1.1) (Int.le_refl _))) (Int.le_trans (Int.add_le_add (b_l3_x57_1.2) (Int.le_refl _)) (by decide))); omega) hP hD hS hl
              · have t_86 : ¬ r80.toInt = 0 := toI_neq c_86 rfl (by decide : (0 : Int32).toInt = 0)
                refine lv_aload_n hx hb dX5_findAnswer_89 rfl (lv_at hl 2 rfl) ?_
                refine lv_iload_n hx hb dX5_findAnswer_90 rfl (lv_at hl 3 rfl) ?_
                have hFc := allFree hD hS hA
                refine va_calli (va_runV (As := [.int p1]) (rest := []) ⟨hx, hb, hml, hown, hts⟩ (m_X5_settle l dC dI hO aO kO hM hQ hw iO_answered_x57_1 1 p1 iO_counted fO_countedCase gO_goalNumber_44 gO_goalScale_44 fO_start_80 fO_column_80 fO_chosen_x57_1 aM kM iM_stands iM_variables iM_rows iM_goals iM_differents iM_cases fM_from fM_to fM_whole fM_ways iM_plainRows fM_plainRow fM_kept fM_goalOver fM_goalUnder fM_goalMax fM_different aQ kQ fQ_inside_80 fQ_outside_80 fQ_shut_80 iQ_rows_80 iQ_allRows_80 iQ_columns_80 nW lw kw wl_80 wb_80 wG_80 p1 (b_iO_answered_x57_1) (show 0 ≤ (1 : Int32).toInt ∧ (1 : Int32).toInt ≤ 1 from by decide) (b_p1) (b_iO_counted) b_fO_countedCase b_fO_column_80 b_fO_chosen_x57_1 (b_iM_stands) (b_iM_variables) (b_iM_rows) (b_iM_goals) (b_iM_differents) (b_iM_cases) b_fM_ways (b_iM_plainRows) b_fM_plainRow (by first | with_reducible assumption | omega | assumption) (b_iQ_rows_80) (b_iQ_allRows_80) (b_iQ_columns_80) (by first | with_reducible assumption | omega | assumption) b_wl_80 b_wb_80 (by omega) (by omega) H.size) (cwV 1 hts gwsMX5_findAnswer_2 rfl rfl rfl hd_yX5_settle_RX5 (by decide +kernel)) (fz_pre (va_recv hK hP (ci := 5) (q0 := 0) rfl rfl) hP hK hD) rfl rfl hl.1 rfl (lv_room (Nat.le_of_ble_eq_true rfl)) dX5_findAnswer_91 (by decide +kernel)) hS (fun q _ h => hFc q h) hFc (fun r81 u t9_ H locs ht hvm hw9 hB9 hz1 hk1 hS => ?_)
                revert u hw9 hB9
                refine fz_p6 ?_
                intro fQ_inside_81 fQ_outside_81 fQ_shut_81 wl_81 wb_81 wG_81 hw9 hB9
                try dsimp only at hw9 hB9
                revert hw9
                refine fz_a3 ?_
                intro b_wl_81 b_wb_81 b_r81
                have hP : va_P (dC, dI) vwCl (WO hO aO kO hM hQ hw iO_answered_x57_1 1 p1 iO_counted fO_countedCase gO_goalNumber_44 gO_goalScale_44 fO_start_80 fO_column_80 fO_chosen_x57_1 ++ (WM hM aM kM iM_stands iM_variables iM_rows iM_goals iM_differents iM_cases fM_from fM_to fM_whole fM_ways iM_plainRows fM_plainRow fM_kept fM_goalOver fM_goalUnder fM_goalMax fM_different ++ (WQ hQ aQ kQ hw fQ_inside_81 fQ_outside_81 fQ_shut_81 iQ_rows_80 iQ_allRows_80 iQ_columns_80 ++ (WW nW hw lw kw wl_81 wb_81 wG_81)))) H := fz_P ht hB9.1
                have hD := fz_sd hP (hB9.2.weaken (fun _ q _ h => hFc q.1 h)) rfl
                refine lv_if_eq (tgt := 101) hx hb dX5_findAnswer_94 (by decide) (fun c_94 => ?_) (fun c_94 => ?_)
                · have t_94 : r81.toInt = 0 := toI_eq c_94 rfl (by decide : (0 : Int32).toInt = 0)
                  refine lv_iinc (v := (iI (l3_x57_1.toInt + 1))) hx hb dX5_findAnswer_101 hl (k := 0) rfl (iI_add2 (iI_of _) (by decide : (1 : Int32) = iI 1)) (by decide) rfl (fun ls (hl : lv_has ls _ ([(3, .int (iI (l3_x57_1.toInt + 1))), (2, .int k0_j4), (0, .ref (hO 0)), (1, .int p1)])) => ?_)
                  refine lv_goto (tgt := 57) hx hb dX5_findAnswer_104 (by decide) ?_
                  have hl : lv_has _ _ ([(3, .int (iI (l3_x57_1.toInt + 1))), (2, .int k0_j4), (0, .ref (hO 0)), (1, .int p1)]) := lv_sub hl [0, 1, 2, 3] rfl
                  exact ihx57_1 iO_answered_x57_1 fO_start_80 fO_column_80 fO_chosen_x57_1 fQ_inside_81 fQ_outside_81 fQ_shut_81 iQ_rows_80 iQ_allRows_80 iQ_columns_80 wl_81 wb_81 wG_81 (iI (l3_x57_1.toInt + 1)) _ _ _ (b_iO_answered_x57_1) b_fO_column_80 b_fO_chosen_x57_1 (b_iQ_rows_80) (b_iQ_allRows_80) (b_iQ_columns_80) b_wl_81 b_wb_81 (iI_rng (Int.le_trans (by decide) (Int.add_le_add (b_l3_x57_1.1) (Int.le_refl _))) (by omega) (by decide) (by decide)) (by first | with_reducible assumption | omega | assumption) (by have e9 : ((iI (l3_x57_1.toInt + 1))).toInt = (l3_x57_1.toInt + 1) := (iI_t (Int.le_trans (by decide) (Int.add_le_add (b_l3_x57_1.1) (Int.le_refl _))) (Int.le_trans (Int.add_le_add (b_l3_x57_1.2) (Int.le_refl _)) (by decide))); omega) hP hD hS hl
                · have t_94 : ¬ r81.toInt = 0 := toI_neq c_94 rfl (by decide : (0 : Int32).toInt = 0)
                  refine lv_aload_n hx hb dX5_findAnswer_97 rfl (lv_at hl 2 rfl) ?_
                  have hFc := allFree hD hS hA
                  refine va_callv (va_runV (As := []) (rest := []) ⟨hx, hb, hml, hown, hts⟩ (m_X5_tryAnswer l dC dI hO aO kO hM hQ hw iO_answered_x57_1 1 p1 iO_counted fO_countedCase gO_goalNumber_44 gO_goalScale_44 fO_start_80 fO_column_80 fO_chosen_x57_1 aM kM iM_stands iM_variables iM_rows iM_goals iM_differents iM_cases fM_from fM_to fM_whole fM_ways iM_plainRows fM_plainRow fM_kept fM_goalOver fM_goalUnder fM_goalMax fM_different aQ kQ fQ_inside_81 fQ_outside_81 fQ_shut_81 iQ_rows_80 iQ_allRows_80 iQ_columns_80 nW lw kw wl_81 wb_81 wG_81 (b_iO_answered_x57_1) (show 0 ≤ (1 : Int32).toInt ∧ (1 : Int32).toInt ≤ 1 from by decide) (b_p1) (b_iO_counted) b_fO_countedCase b_fO_column_80 b_fO_chosen_x57_1 (b_iM_stands) (b_iM_variables) (b_iM_rows) (b_iM_goals) (b_iM_differents) (b_iM_cases) b_fM_ways (b_iM_plainRows) b_fM_plainRow (by first | with_reducible assumption | omega | assumption) (b_iQ_rows_80) (b_iQ_allRows_80) (b_iQ_columns_80) (by first | with_reducible assumption | omega | assumption) b_wl_81 b_wb_81 (by omega) (by omega) (by omega) H.size) (cwV 0 hts gwsMX5_findAnswer_3 rfl rfl rfl hd_yX5_tryAnswer_RX5 (by decide +kernel)) (fz_pre (va_recv hK hP (ci := 5) (q0 := 0) rfl rfl) hP hK hD) rfl rfl hl.1 rfl (lv_room (Nat.le_of_ble_eq_true rfl)) dX5_findAnswer_98 (by decide +kernel)) hS (fun q _ h => hFc q h) hFc (fun u t9_ H locs ht hvm hw9 hB9 hz1 hk1 hS => ?_)
                  revert u hw9 hB9
                  refine fz_p7 ?_
                  intro iO_answered_82 fQ_inside_82 fQ_outside_82 fQ_shut_82 wl_82 wb_82 wG_82 hw9 hB9
                  try dsimp only at hw9 hB9
                  revert hw9
                  refine fz_a3 ?_
                  intro b_iO_answered_82 b_wl_82 b_wb_82
                  have hP : va_P (dC, dI) vwCl (WO hO aO kO hM hQ hw iO_answered_82 1 p1 iO_counted fO_countedCase gO_goalNumber_44 gO_goalScale_44 fO_start_80 fO_column_80 fO_chosen_x57_1 ++ (WM hM aM kM iM_stands iM_variables iM_rows iM_goals iM_differents iM_cases fM_from fM_to fM_whole fM_ways iM_plainRows fM_plainRow fM_kept fM_goalOver fM_goalUnder fM_goalMax fM_different ++ (WQ hQ aQ kQ hw fQ_inside_82 fQ_outside_82 fQ_shut_82 iQ_rows_80 iQ_allRows_80 iQ_columns_80 ++ (WW nW hw lw kw wl_82 wb_82 wG_82)))) H := fz_P ht hB9.1
                  have hD := fz_sd hP (hB9.2.weaken (fun _ q _ h => hFc q.1 h)) rfl
                  refine lv_iinc (v := (iI (l3_x57_1.toInt + 1))) hx hb dX5_findAnswer_101 hl (k := 0) rfl (iI_add2 (iI_of _) (by decide : (1 : Int32) = iI 1)) (by decide) rfl (fun ls (hl : lv_has ls _ ([(3, .int (iI (l3_x57_1.toInt + 1))), (2, .int k0_j4), (0, .ref (hO 0)), (1, .int p1)])) => ?_)
                  refine lv_goto (tgt := 57) hx hb dX5_findAnswer_104 (by decide) ?_
                  have hl : lv_has _ _ ([(3, .int (iI (l3_x57_1.toInt + 1))), (2, .int k0_j4), (0, .ref (hO 0)), (1, .int p1)]) := lv_sub hl [0, 1, 2, 3] rfl
                  exact ihx57_1 iO_answered_82 fO_start_80 fO_column_80 fO_chosen_x57_1 fQ_inside_82 fQ_outside_82 fQ_shut_82 iQ_rows_80 iQ_allRows_80 iQ_columns_80 wl_82 wb_82 wG_82 (iI (l3_x57_1.toInt + 1)) _ _ _ (b_iO_answered_82) b_fO_column_80 b_fO_chosen_x57_1 (b_iQ_rows_80) (b_iQ_allRows_80) (b_iQ_columns_80) b_wl_82 b_wb_82 (iI_rng (Int.le_trans (by decide) (Int.add_le_add (b_l3_x57_1.1) (Int.le_refl _))) (by omega) (by decide) (by decide)) (by first | with_reducible assumption | omega | assumption) (by have e9 : ((iI (l3_x57_1.toInt + 1))).toInt = (l3_x57_1.toInt + 1) := (iI_t (Int.le_trans (by decide) (Int.add_le_add (b_l3_x57_1.1) (Int.le_refl _))) (Int.le_trans (Int.add_le_add (b_l3_x57_1.2) (Int.le_refl _)) (by decide))); omega) hP hD hS hl
            · have t_63 : p1.toInt = 0 := toI_nne c_63 rfl (by decide : (0 : Int32).toInt = 0)
              refine lv_aload_n hx hb dX5_findAnswer_66 rfl (lv_at hl 2 rfl) ?_
              refine lv_iload_n hx hb dX5_findAnswer_67 rfl (lv_at hl 0 rfl) ?_
              have hFc := allFree hD hS hA
              refine va_calli (va_runV (As := [.int l3_x57_1]) (rest := []) ⟨hx, hb, hml, hown, hts⟩ (m_X5_choose l dC dI hO aO kO hM hQ hw iO_answered_x57_1 1 p1 iO_counted fO_countedCase gO_goalNumber_44 gO_goalScale_44 fO_start_x57_1 fO_column_x57_1 fO_chosen_x57_1 aM kM iM_stands iM_variables iM_rows iM_goals iM_differents iM_cases fM_from fM_to fM_whole fM_ways iM_plainRows fM_plainRow fM_kept fM_goalOver fM_goalUnder fM_goalMax fM_different aQ kQ fQ_inside_x57_1 fQ_outside_x57_1 fQ_shut_x57_1 iQ_rows_x57_1 iQ_allRows_x57_1 iQ_columns_x57_1 nW lw kw wl_x57_1 wb_x57_1 wG_x57_1 l3_x57_1 (b_iO_answered_x57_1) (show 0 ≤ (1 : Int32).toInt ∧ (1 : Int32).toInt ≤ 1 from by decide) (b_p1) (b_iO_counted) b_fO_countedCase b_fO_column_x57_1 b_fO_chosen_x57_1 (b_iM_stands) (b_iM_variables) (b_iM_rows) (b_iM_goals) (b_iM_differents) (b_iM_cases) b_fM_ways (b_iM_plainRows) b_fM_plainRow (by first | with_reducible assumption | omega | assumption) (b_iQ_rows_x57_1) (b_iQ_allRows_x57_1) (b_iQ_columns_x57_1) (by first | with_reducible assumption | omega | assumption) b_wl_x57_1 b_wb_x57_1 (b_l3_x57_1) (by omega) H.size) (cwV 1 hts gwsMX5_findAnswer_4 rfl rfl rfl hd_yX5_choose_RX5 (by decide +kernel)) (fz_pre (va_recv hK hP (ci := 5) (q0 := 0) rfl rfl) hP hK hD) rfl rfl hl.1 rfl (lv_room (Nat.le_of_ble_eq_true rfl)) dX5_findAnswer_68 (by decide +kernel)) hS (fun q _ h => hFc q h) hFc (fun r83 u t9_ H locs ht hvm hw9 hB9 hz1 hk1 hS => ?_)
              revert u hw9 hB9
              refine fz_p2 ?_
              intro fO_start_83 fO_chosen_83 hw9 hB9
              try dsimp only at hw9 hB9
              revert hw9
              refine fz_a2 ?_
              intro b_fO_chosen_83 b_r83
              have hP : va_P (dC, dI) vwCl (WO hO aO kO hM hQ hw iO_answered_x57_1 1 p1 iO_counted fO_countedCase gO_goalNumber_44 gO_goalScale_44 fO_start_83 fO_column_x57_1 fO_chosen_83 ++ (WM hM aM kM iM_stands iM_variables iM_rows iM_goals iM_differents iM_cases fM_from fM_to fM_whole fM_ways iM_plainRows fM_plainRow fM_kept fM_goalOver fM_goalUnder fM_goalMax fM_different ++ (WQ hQ aQ kQ hw fQ_inside_x57_1 fQ_outside_x57_1 fQ_shut_x57_1 iQ_rows_x57_1 iQ_allRows_x57_1 iQ_columns_x57_1 ++ (WW nW hw lw kw wl_x57_1 wb_x57_1 wG_x57_1)))) H := fz_P ht hB9.1
              have hD := fz_sd hP (hB9.2.weaken (fun _ q _ h => hFc q.1 h)) rfl
              refine lv_if_eq (tgt := 101) hx hb dX5_findAnswer_71 (by decide) (fun c_71 => ?_) (fun c_71 => ?_)
              · have t_71 : r83.toInt = 0 := toI_eq c_71 rfl (by decide : (0 : Int32).toInt = 0)
                refine lv_iinc (v := (iI (l3_x57_1.toInt + 1))) hx hb dX5_findAnswer_101 hl (k := 0) rfl (iI_add2 (iI_of _) (by decide : (1 : Int32) = iI 1)) (by decide) rfl (fun ls (hl : lv_has ls _ ([(3, .int (iI (l3_x57_1.toInt + 1))), (2, .int k0_j4), (0, .ref (hO 0)), (1, .int p1)])) => ?_)
                refine lv_goto (tgt := 57) hx hb dX5_findAnswer_104 (by decide) ?_
                have hl : lv_has _ _ ([(3, .int (iI (l3_x57_1.toInt + 1))), (2, .int k0_j4), (0, .ref (hO 0)), (1, .int p1)]) := lv_sub hl [0, 1, 2, 3] rfl
                exact ihx57_1 iO_answered_x57_1 fO_start_83 fO_column_x57_1 fO_chosen_83 fQ_inside_x57_1 fQ_outside_x57_1 fQ_shut_x57_1 iQ_rows_x57_1 iQ_allRows_x57_1 iQ_columns_x57_1 wl_x57_1 wb_x57_1 wG_x57_1 (iI (l3_x57_1.toInt + 1)) _ _ _ (b_iO_answered_x57_1) b_fO_column_x57_1 b_fO_chosen_83 (b_iQ_rows_x57_1) (b_iQ_allRows_x57_1) (b_iQ_columns_x57_1) b_wl_x57_1 b_wb_x57_1 (iI_rng (Int.le_trans (by decide) (Int.add_le_add (b_l3_x57_1.1) (Int.le_refl _))) (by omega) (by decide) (by decide)) (by first | with_reducible assumption | omega | assumption) (by have e9 : ((iI (l3_x57_1.toInt + 1))).toInt = (l3_x57_1.toInt + 1) := (iI_t (Int.le_trans (by decide) (Int.add_le_add (b_l3_x57_1.1) (Int.le_refl _))) (Int.le_trans (Int.add_le_add (b_l3_x57_1.2) (Int.le_refl _)) (by decide))); omega) hP hD hS hl
              · have t_71 : ¬ r83.toInt = 0 := toI_neq c_71 rfl (by decide : (0 : Int32).toInt = 0)
                refine lv_aload_n hx hb dX5_findAnswer_74 rfl (lv_at hl 2 rfl) ?_
                refine lv_iload_n hx hb dX5_findAnswer_75 rfl (lv_at hl 3 rfl) ?_
                refine lv_aload_n hx hb dX5_findAnswer_76 rfl (lv_at hl 2 rfl) ?_
                refine va_get (D := (dC, dI)) (ci := 5) (v := .ref (hM 0)) (C := RX5) (T := TX5) (N := 19) hx hb hts iwsMX5_findAnswer_in5 hown hK hP 0 rfl rfl 0 (by decide) (hts _ hm_m_X5_findAnswer_3) (fun _ h9 => h9) rfl dX5_findAnswer_77 ?_
                refine va_get (D := (dC, dI)) (ci := 1) (v := .int iM_goals) (C := RX1) (T := TX1) (N := 17) hx hb hts iwsMX5_findAnswer_in1 hown hK hP 11 rfl rfl 3 (by decide) (hts _ hm_m_X5_findAnswer_5) (fun _ h9 => h9) rfl dX5_findAnswer_80 ?_
                have hFc := allFree hD hS hA
                refine va_calli (va_runV (As := [.int p1, .int iM_goals]) (rest := []) ⟨hx, hb, hml, hown, hts⟩ (m_X5_lay l dC dI hO aO kO hM hQ hw iO_answered_x57_1 1 p1 iO_counted fO_countedCase gO_goalNumber_44 gO_goalScale_44 fO_start_83 fO_column_x57_1 fO_chosen_83 aM kM iM_stands iM_variables iM_rows iM_goals iM_differents iM_cases fM_from fM_to fM_whole fM_ways iM_plainRows fM_plainRow fM_kept fM_goalOver fM_goalUnder fM_goalMax fM_different aQ kQ fQ_inside_x57_1 fQ_outside_x57_1 fQ_shut_x57_1 iQ_rows_x57_1 iQ_allRows_x57_1 iQ_columns_x57_1 nW lw kw wl_x57_1 wb_x57_1 wG_x57_1 p1 iM_goals (b_iO_answered_x57_1) (show 0 ≤ (1 : Int32).toInt ∧ (1 : Int32).toInt ≤ 1 from by decide) (b_p1) (b_iO_counted) b_fO_countedCase b_fO_column_x57_1 b_fO_chosen_83 (b_iM_stands) (b_iM_variables) (b_iM_rows) (b_iM_goals) (b_iM_differents) (b_iM_cases) b_fM_ways (b_iM_plainRows) b_fM_plainRow (by first | with_reducible assumption | omega | assumption) (b_iQ_rows_x57_1) (b_iQ_allRows_x57_1) (b_iQ_columns_x57_1) (by first | with_reducible assumption | omega | assumption) b_wl_x57_1 b_wb_x57_1 (b_iM_goals) (by omega) H.size) (cwV 2 hts gwsMX5_findAnswer_1 rfl rfl rfl hd_yX5_lay_RX5 (by decide +kernel)) (fz_pre (va_recv hK hP (ci := 5) (q0 := 0) rfl rfl) hP hK hD) rfl rfl hl.1 rfl (lv_room (Nat.le_of_ble_eq_true rfl)) dX5_findAnswer_83 (by decide +kernel)) hS (fun q _ h => hFc q h) hFc (fun r84 u t9_ H locs ht hvm hw9 hB9 hz1 hk1 hS => ?_)
                revert u hw9 hB9
                refine fz_p11 ?_
                intro fO_start_84 fO_column_84 fQ_inside_84 fQ_outside_84 fQ_shut_84 iQ_rows_84 iQ_allRows_84 iQ_columns_84 wl_84 wb_84 wG_84 hw9 hB9
                try dsimp only at hw9 hB9
                revert hw9
                refine fz_a10 ?_
                intro b_fO_column_84 b_iQ_rows_84 b_iQ_allRows_84 b_iQ_columns_84 b_wl_84 b_wb_84 b_tb_84 b_r84 f84_0 f84_1
                have hP : va_P (dC, dI) vwCl (WO hO aO kO hM hQ hw iO_answered_x57_1 1 p1 iO_counted fO_countedCase gO_goalNumber_44 gO_goalScale_44 fO_start_84 fO_column_84 fO_chosen_83 ++ (WM hM aM kM iM_stands iM_variables iM_rows iM_goals iM_differents iM_cases fM_from fM_to fM_whole fM_ways iM_plainRows fM_plainRow fM_kept fM_goalOver fM_goalUnder fM_goalMax fM_different ++ (WQ hQ aQ kQ hw fQ_inside_84 fQ_outside_84 fQ_shut_84 iQ_rows_84 iQ_allRows_84 iQ_columns_84 ++ (WW nW hw lw kw wl_84 wb_84 wG_84)))) H := fz_P ht hB9.1
                have hD := fz_sd hP (hB9.2.weaken (fun _ q _ h => hFc q.1 h)) rfl
                refine lv_if_eq (tgt := 101) hx hb dX5_findAnswer_86 (by decide) (fun c_86 => ?_) (fun c_86 => ?_)
                · have t_86 : r84.toInt = 0 := toI_eq c_86 rfl (by decide : (0 : Int32).toInt = 0)
                  refine lv_iinc (v := (iI (l3_x57_1.toInt + 1))) hx hb dX5_findAnswer_101 hl (k := 0) rfl (iI_add2 (iI_of _) (by decide : (1 : Int32) = iI 1)) (by decide) rfl (fun ls (hl : lv_has ls _ ([(3, .int (iI (l3_x57_1.toInt + 1))), (2, .int k0_j4), (0, .ref (hO 0)), (1, .int p1)])) => ?_)
                  refine lv_goto (tgt := 57) hx hb dX5_findAnswer_104 (by decide) ?_
                  have hl : lv_has _ _ ([(3, .int (iI (l3_x57_1.toInt + 1))), (2, .int k0_j4), (0, .ref (hO 0)), (1, .int p1)]) := lv_sub hl [0, 1, 2, 3] rfl
                  exact ihx57_1 iO_answered_x57_1 fO_start_84 fO_column_84 fO_chosen_83 fQ_inside_84 fQ_outside_84 fQ_shut_84 iQ_rows_84 iQ_allRows_84 iQ_columns_84 wl_84 wb_84 wG_84 (iI (l3_x57_1.toInt + 1)) _ _ _ (b_iO_answered_x57_1) b_fO_column_84 b_fO_chosen_83 (b_iQ_rows_84) (b_iQ_allRows_84) (b_iQ_columns_84) b_wl_84 b_wb_84 (iI_rng (Int.le_trans (by decide) (Int.add_le_add (b_l3_x57_1.1) (Int.le_refl _))) (by omega) (by decide) (by decide)) (by first | with_reducible assumption | omega | assumption) (by have e9 : ((iI (l3_x57_1.toInt + 1))).toInt = (l3_x57_1.toInt + 1) := (iI_t (Int.le_trans (by decide) (Int.add_le_add (b_l3_x57_1.1) (Int.le_refl _))) (Int.le_trans (Int.add_le_add (b_l3_x57_1.2) (Int.le_refl _)) (by decide))); omega) hP hD hS hl
                · have t_86 : ¬ r84.toInt = 0 := toI_neq c_86 rfl (by decide : (0 : Int32).toInt = 0)
                  refine lv_aload_n hx hb dX5_findAnswer_89 rfl (lv_at hl 2 rfl) ?_
                  refine lv_iload_n hx hb dX5_findAnswer_90 rfl (lv_at hl 3 rfl) ?_
                  have hFc := allFree hD hS hA
                  refine va_calli (va_runV (As := [.int p1]) (rest := []) ⟨hx, hb, hml, hown, hts⟩ (m_X5_settle l dC dI hO aO kO hM hQ hw iO_answered_x57_1 1 p1 iO_counted fO_countedCase gO_goalNumber_44 gO_goalScale_44 fO_start_84 fO_column_84 fO_chosen_83 aM kM iM_stands iM_variables iM_rows iM_goals iM_differents iM_cases fM_from fM_to fM_whole fM_ways iM_plainRows fM_plainRow fM_kept fM_goalOver fM_goalUnder fM_goalMax fM_different aQ kQ fQ_inside_84 fQ_outside_84 fQ_shut_84 iQ_rows_84 iQ_allRows_84 iQ_columns_84 nW lw kw wl_84 wb_84 wG_84 p1 (b_iO_answered_x57_1) (show 0 ≤ (1 : Int32).toInt ∧ (1 : Int32).toInt ≤ 1 from by decide) (b_p1) (b_iO_counted) b_fO_countedCase b_fO_column_84 b_fO_chosen_83 (b_iM_stands) (b_iM_variables) (b_iM_rows) (b_iM_goals) (b_iM_differents) (b_iM_cases) b_fM_ways (b_iM_plainRows) b_fM_plainRow (by first | with_reducible assumption | omega | assumption) (b_iQ_rows_84) (b_iQ_allRows_84) (b_iQ_columns_84) (by first | with_reducible assumption | omega | assumption) b_wl_84 b_wb_84 (by omega) (by omega) H.size) (cwV 1 hts gwsMX5_findAnswer_2 rfl rfl rfl hd_yX5_settle_RX5 (by decide +kernel)) (fz_pre (va_recv hK hP (ci := 5) (q0 := 0) rfl rfl) hP hK hD) rfl rfl hl.1 rfl (lv_room (Nat.le_of_ble_eq_true rfl)) dX5_findAnswer_91 (by decide +kernel)) hS (fun q _ h => hFc q h) hFc (fun r85 u t9_ H locs ht hvm hw9 hB9 hz1 hk1 hS => ?_)
                  revert u hw9 hB9
                  refine fz_p6 ?_
                  intro fQ_inside_85 fQ_outside_85 fQ_shut_85 wl_85 wb_85 wG_85 hw9 hB9
                  try dsimp only at hw9 hB9
                  revert hw9
                  refine fz_a3 ?_
                  intro b_wl_85 b_wb_85 b_r85
                  have hP : va_P (dC, dI) vwCl (WO hO aO kO hM hQ hw iO_answered_x57_1 1 p1 iO_counted fO_countedCase gO_goalNumber_44 gO_goalScale_44 fO_start_84 fO_column_84 fO_chosen_83 ++ (WM hM aM kM iM_stands iM_variables iM_rows iM_goals iM_differents iM_cases fM_from fM_to fM_whole fM_ways iM_plainRows fM_plainRow fM_kept fM_goalOver fM_goalUnder fM_goalMax fM_different ++ (WQ hQ aQ kQ hw fQ_inside_85 fQ_outside_85 fQ_shut_85 iQ_rows_84 iQ_allRows_84 iQ_columns_84 ++ (WW nW hw lw kw wl_85 wb_85 wG_85)))) H := fz_P ht hB9.1
                  have hD := fz_sd hP (hB9.2.weaken (fun _ q _ h => hFc q.1 h)) rfl
                  refine lv_if_eq (tgt := 101) hx hb dX5_findAnswer_94 (by decide) (fun c_94 => ?_) (fun c_94 => ?_)
                  · have t_94 : r85.toInt = 0 := toI_eq c_94 rfl (by decide : (0 : Int32).toInt = 0)
                    refine lv_iinc (v := (iI (l3_x57_1.toInt + 1))) hx hb dX5_findAnswer_101 hl (k := 0) rfl (iI_add2 (iI_of _) (by decide : (1 : Int32) = iI 1)) (by decide) rfl (fun ls (hl : lv_has ls _ ([(3, .int (iI (l3_x57_1.toInt + 1))), (2, .int k0_j4), (0, .ref (hO 0)), (1, .int p1)])) => ?_)
                    refine lv_goto (tgt := 57) hx hb dX5_findAnswer_104 (by decide) ?_
                    have hl : lv_has _ _ ([(3, .int (iI (l3_x57_1.toInt + 1))), (2, .int k0_j4), (0, .ref (hO 0)), (1, .int p1)]) := lv_sub hl [0, 1, 2, 3] rfl
                    exact ihx57_1 iO_answered_x57_1 fO_start_84 fO_column_84 fO_chosen_83 fQ_inside_85 fQ_outside_85 fQ_shut_85 iQ_rows_84 iQ_allRows_84 iQ_columns_84 wl_85 wb_85 wG_85 (iI (l3_x57_1.toInt + 1)) _ _ _ (b_iO_answered_x57_1) b_fO_column_84 b_fO_chosen_83 (b_iQ_rows_84) (b_iQ_allRows_84) (b_iQ_columns_84) b_wl_85 b_wb_85 (iI_rng (Int.le_trans (by decide) (Int.add_le_add (b_l3_x57_1.1) (Int.le_refl _))) (by omega) (by decide) (by decide)) (by first | with_reducible assumption | omega | assumption) (by have e9 : ((iI (l3_x57_1.toInt + 1))).toInt = (l3_x57_1.toInt + 1) := (iI_t (Int.le_trans (by decide) (Int.add_le_add (b_l3_x57_1.1) (Int.le_refl _))) (Int.le_trans (Int.add_le_add (b_l3_x57_1.2) (Int.le_refl _)) (by decide))); omega) hP hD hS hl
                  · have t_94 : ¬ r85.toInt = 0 := toI_neq c_94 rfl (by decide : (0 : Int32).toInt = 0)
                    refine lv_aload_n hx hb dX5_findAnswer_97 rfl (lv_at hl 2 rfl) ?_
                    have hFc := allFree hD hS hA
                    refine va_callv (va_runV (As := []) (rest := []) ⟨hx, hb, hml, hown, hts⟩ (m_X5_tryAnswer l dC dI hO aO kO hM hQ hw iO_answered_x57_1 1 p1 iO_counted fO_countedCase gO_goalNumber_44 gO_goalScale_44 fO_start_84 fO_column_84 fO_chosen_83 aM kM iM_stands iM_variables iM_rows iM_goals iM_differents iM_cases fM_from fM_to fM_whole fM_ways iM_plainRows fM_plainRow fM_kept fM_goalOver fM_goalUnder fM_goalMax fM_different aQ kQ fQ_inside_85 fQ_outside_85 fQ_shut_85 iQ_rows_84 iQ_allRows_84 iQ_columns_84 nW lw kw wl_85 wb_85 wG_85 (b_iO_answered_x57_1) (show 0 ≤ (1 : Int32).toInt ∧ (1 : Int32).toInt ≤ 1 from by decide) (b_p1) (b_iO_counted) b_fO_countedCase b_fO_column_84 b_fO_chosen_83 (b_iM_stands) (b_iM_variables) (b_iM_rows) (b_iM_goals) (b_iM_differents) (b_iM_cases) b_fM_ways (b_iM_plainRows) b_fM_plainRow (by first | with_reducible assumption | omega | assumption) (b_iQ_rows_84) (b_iQ_allRows_84) (b_iQ_columns_84) (by first | with_reducible assumption | omega | assumption) b_wl_85 b_wb_85 (by omega) (by omega) (by omega) H.size) (cwV 0 hts gwsMX5_findAnswer_3 rfl rfl rfl hd_yX5_tryAnswer_RX5 (by decide +kernel)) (fz_pre (va_recv hK hP (ci := 5) (q0 := 0) rfl rfl) hP hK hD) rfl rfl hl.1 rfl (lv_room (Nat.le_of_ble_eq_true rfl)) dX5_findAnswer_98 (by decide +kernel)) hS (fun q _ h => hFc q h) hFc (fun u t9_ H locs ht hvm hw9 hB9 hz1 hk1 hS => ?_)
                    revert u hw9 hB9
                    refine fz_p7 ?_
                    intro iO_answered_86 fQ_inside_86 fQ_outside_86 fQ_shut_86 wl_86 wb_86 wG_86 hw9 hB9
                    try dsimp only at hw9 hB9
                    revert hw9
                    refine fz_a3 ?_
                    intro b_iO_answered_86 b_wl_86 b_wb_86
                    have hP : va_P (dC, dI) vwCl (WO hO aO kO hM hQ hw iO_answered_86 1 p1 iO_counted fO_countedCase gO_goalNumber_44 gO_goalScale_44 fO_start_84 fO_column_84 fO_chosen_83 ++ (WM hM aM kM iM_stands iM_variables iM_rows iM_goals iM_differents iM_cases fM_from fM_to fM_whole fM_ways iM_plainRows fM_plainRow fM_kept fM_goalOver fM_goalUnder fM_goalMax fM_different ++ (WQ hQ aQ kQ hw fQ_inside_86 fQ_outside_86 fQ_shut_86 iQ_rows_84 iQ_allRows_84 iQ_columns_84 ++ (WW nW hw lw kw wl_86 wb_86 wG_86)))) H := fz_P ht hB9.1
                    have hD := fz_sd hP (hB9.2.weaken (fun _ q _ h => hFc q.1 h)) rfl
                    refine lv_iinc (v := (iI (l3_x57_1.toInt + 1))) hx hb dX5_findAnswer_101 hl (k := 0) rfl (iI_add2 (iI_of _) (by decide : (1 : Int32) = iI 1)) (by decide) rfl (fun ls (hl : lv_has ls _ ([(3, .int (iI (l3_x57_1.toInt + 1))), (2, .int k0_j4), (0, .ref (hO 0)), (1, .int p1)])) => ?_)
                    refine lv_goto (tgt := 57) hx hb dX5_findAnswer_104 (by decide) ?_
                    have hl : lv_has _ _ ([(3, .int (iI (l3_x57_1.toInt + 1))), (2, .int k0_j4), (0, .ref (hO 0)), (1, .int p1)]) := lv_sub hl [0, 1, 2, 3] rfl
                    exact ihx57_1 iO_answered_86 fO_start_84 fO_column_84 fO_chosen_83 fQ_inside_86 fQ_outside_86 fQ_shut_86 iQ_rows_84 iQ_allRows_84 iQ_columns_84 wl_86 wb_86 wG_86 (iI (l3_x57_1.toInt + 1)) _ _ _ (b_iO_answered_86) b_fO_column_84 b_fO_chosen_83 (b_iQ_rows_84) (b_iQ_allRows_84) (b_iQ_columns_84) b_wl_86 b_wb_86 (iI_rng (Int.le_trans (by decide) (Int.add_le_add (b_l3_x57_1.1) (Int.le_refl _))) (by omega) (by decide) (by decide)) (by first | with_reducible assumption | omega | assumption) (by have e9 : ((iI (l3_x57_1.toInt + 1))).toInt = (l3_x57_1.toInt + 1) := (iI_t (Int.le_trans (by decide) (Int.add_le_add (b_l3_x57_1.1) (Int.le_refl _))) (Int.le_trans (Int.add_le_add (b_l3_x57_1.2) (Int.le_refl _)) (by decide))); omega) hP hD hS hl
    · have t_12 : iO_searchedRelaxed.toInt = p1.toInt := toI_nne c_12 rfl rfl
      refine lv_aload_n hx hb dX5_findAnswer_15 rfl (lv_at hl 0 rfl) ?_
      refine va_get (D := (dC, dI)) (ci := 5) (v := .int iO_answered) (C := RX5) (T := TX5) (N := 19) hx hb hts iwsMX5_findAnswer_in5 hown hK hP 0 rfl rfl 2 (by decide) (hts _ hm_m_X5_findAnswer_2) (fun _ h9 => h9) rfl dX5_findAnswer_16 ?_
      refine W.widen (k := 0) (n := 0) (by decide +kernel) (by decide +kernel) ?_
      exact W.zret (v := iO_answered) hx hb hr (by rcases z01 (x := iO_answered) (b_iO_answered) with h9 | h9 <;> rw [h9] <;> rfl) (fun t9_ ht hW => ⟨⟨iO_answered, (iO_answered, iO_searched, iO_searchedRelaxed, gO_goalNumber, gO_goalScale, fO_start, fO_column, fO_chosen, fQ_inside, fQ_outside, fQ_shut, iQ_rows, iQ_allRows, iQ_columns, wl, wb, wG), rfl, ⟨b_iO_answered, b_iO_searched, b_iO_searchedRelaxed, b_fO_column, b_fO_chosen, b_iQ_rows, b_iQ_allRows, b_iQ_columns, b_wl, b_wb, (by (try dsimp only); exact (by first | with_reducible assumption | omega | assumption)), (b_iO_answered)⟩, by rw [ht]; exact hP, hD⟩, hS.F ht⟩) hS.2.2 dX5_findAnswer_19
theorem dX5_firstWay_0 : decode cX5_firstWay 0 = .ok (.iconst 0, 1) := dk_3 (by decide +kernel)
theorem dX5_firstWay_1 : decode cX5_firstWay 1 = .ok (.istore_n 2, 1) := dk_61 (by decide +kernel)
theorem dX5_firstWay_2 : decode cX5_firstWay 2 = .ok (.iload_n 2, 1) := dk_28 (by decide +kernel)
theorem dX5_firstWay_3 : decode cX5_firstWay 3 = .ok (.aload_n 0, 1) := dk_42 (by decide +kernel)
theorem dX5_firstWay_4 : decode cX5_firstWay 4 = .ok (.getfield 74, 3) := dk_180 (by decide +kernel)
theorem dX5_firstWay_7 : decode cX5_firstWay 7 = .ok (.getfield 134, 3) := dk_180 (by decide +kernel)
theorem dX5_firstWay_10 : decode cX5_firstWay 10 = .ok (.iload_n 1, 1) := dk_27 (by decide +kernel)
theorem dX5_firstWay_11 : decode cX5_firstWay 11 = .ok (.iaload, 1) := dk_46 (by decide +kernel)
theorem dX5_firstWay_12 : decode cX5_firstWay 12 = .ok (.if_icmp .ge 131, 3) := dk_162 (by decide +kernel)
theorem dX5_firstWay_15 : decode cX5_firstWay 15 = .ok (.aload_n 0, 1) := dk_42 (by decide +kernel)
theorem dX5_firstWay_16 : decode cX5_firstWay 16 = .ok (.getfield 71, 3) := dk_180 (by decide +kernel)
theorem dX5_firstWay_19 : decode cX5_firstWay 19 = .ok (.iconst 1, 1) := dk_4 (by decide +kernel)
theorem dX5_firstWay_20 : decode cX5_firstWay 20 = .ok (.aaload, 1) := dk_50 (by decide +kernel)
theorem dX5_firstWay_21 : decode cX5_firstWay 21 = .ok (.astore_n 3, 1) := dk_78 (by decide +kernel)
theorem dX5_firstWay_22 : decode cX5_firstWay 22 = .ok (.aload_n 3, 1) := dk_45 (by decide +kernel)
theorem dX5_firstWay_23 : decode cX5_firstWay 23 = .ok (.lconst 0, 1) := dk_9 (by decide +kernel)
theorem dX5_firstWay_24 : decode cX5_firstWay 24 = .ok (.invokevirtual 184, 3) := dk_182 (by decide +kernel)
theorem dX5_firstWay_27 : decode cX5_firstWay 27 = .ok (.aload_n 0, 1) := dk_42 (by decide +kernel)
theorem dX5_firstWay_28 : decode cX5_firstWay 28 = .ok (.aload_n 3, 1) := dk_45 (by decide +kernel)
theorem dX5_firstWay_29 : decode cX5_firstWay 29 = .ok (.aload_n 0, 1) := dk_42 (by decide +kernel)
theorem dX5_firstWay_30 : decode cX5_firstWay 30 = .ok (.getfield 58, 3) := dk_180 (by decide +kernel)
theorem dX5_firstWay_33 : decode cX5_firstWay 33 = .ok (.aload_n 0, 1) := dk_42 (by decide +kernel)
theorem dX5_firstWay_34 : decode cX5_firstWay 34 = .ok (.getfield 74, 3) := dk_180 (by decide +kernel)
theorem dX5_firstWay_37 : decode cX5_firstWay 37 = .ok (.iload_n 1, 1) := dk_27 (by decide +kernel)
theorem dX5_firstWay_38 : decode cX5_firstWay 38 = .ok (.iload_n 2, 1) := dk_28 (by decide +kernel)
theorem dX5_firstWay_39 : decode cX5_firstWay 39 = .ok (.invokevirtual 197, 3) := dk_182 (by decide +kernel)
theorem dX5_firstWay_42 : decode cX5_firstWay 42 = .ok (.ineg, 1) := dk_116 (by decide +kernel)
theorem dX5_firstWay_43 : decode cX5_firstWay 43 = .ok (.i2l, 1) := dk_133 (by decide +kernel)
theorem dX5_firstWay_44 : decode cX5_firstWay 44 = .ok (.invokevirtual 211, 3) := dk_182 (by decide +kernel)
theorem dX5_firstWay_47 : decode cX5_firstWay 47 = .ok (.iconst 0, 1) := dk_3 (by decide +kernel)
theorem dX5_firstWay_48 : decode cX5_firstWay 48 = .ok (.istore 4, 2) := dk_54 (by decide +kernel)
theorem dX5_firstWay_50 : decode cX5_firstWay 50 = .ok (.iload 4, 2) := dk_21 (by decide +kernel)
theorem dX5_firstWay_52 : decode cX5_firstWay 52 = .ok (.aload_n 0, 1) := dk_42 (by decide +kernel)
theorem dX5_firstWay_53 : decode cX5_firstWay 53 = .ok (.getfield 74, 3) := dk_180 (by decide +kernel)
theorem dX5_firstWay_56 : decode cX5_firstWay 56 = .ok (.getfield 112, 3) := dk_180 (by decide +kernel)
theorem dX5_firstWay_59 : decode cX5_firstWay 59 = .ok (.if_icmp .ge 33, 3) := dk_162 (by decide +kernel)
theorem dX5_firstWay_62 : decode cX5_firstWay 62 = .ok (.aload_n 0, 1) := dk_42 (by decide +kernel)
theorem dX5_firstWay_63 : decode cX5_firstWay 63 = .ok (.aload_n 3, 1) := dk_45 (by decide +kernel)
theorem dX5_firstWay_64 : decode cX5_firstWay 64 = .ok (.aload_n 0, 1) := dk_42 (by decide +kernel)
theorem dX5_firstWay_65 : decode cX5_firstWay 65 = .ok (.getfield 48, 3) := dk_180 (by decide +kernel)
theorem dX5_firstWay_68 : decode cX5_firstWay 68 = .ok (.iload 4, 2) := dk_21 (by decide +kernel)
theorem dX5_firstWay_70 : decode cX5_firstWay 70 = .ok (.aaload, 1) := dk_50 (by decide +kernel)
theorem dX5_firstWay_71 : decode cX5_firstWay 71 = .ok (.aload_n 0, 1) := dk_42 (by decide +kernel)
theorem dX5_firstWay_72 : decode cX5_firstWay 72 = .ok (.getfield 74, 3) := dk_180 (by decide +kernel)
theorem dX5_firstWay_75 : decode cX5_firstWay 75 = .ok (.iload_n 1, 1) := dk_27 (by decide +kernel)
theorem dX5_firstWay_76 : decode cX5_firstWay 76 = .ok (.iload_n 2, 1) := dk_28 (by decide +kernel)
theorem dX5_firstWay_77 : decode cX5_firstWay 77 = .ok (.iload 4, 2) := dk_21 (by decide +kernel)
theorem dX5_firstWay_79 : decode cX5_firstWay 79 = .ok (.invokevirtual 200, 3) := dk_182 (by decide +kernel)
theorem dX5_firstWay_82 : decode cX5_firstWay 82 = .ok (.i2l, 1) := dk_133 (by decide +kernel)
theorem dX5_firstWay_83 : decode cX5_firstWay 83 = .ok (.invokevirtual 211, 3) := dk_182 (by decide +kernel)
theorem dX5_firstWay_86 : decode cX5_firstWay 86 = .ok (.iinc 4 1, 3) := dk_132 (by decide +kernel)
theorem dX5_firstWay_89 : decode cX5_firstWay 89 = .ok (.goto (-39), 3) := dk_167 (by decide +kernel)
theorem dX5_firstWay_92 : decode cX5_firstWay 92 = .ok (.aload_n 0, 1) := dk_42 (by decide +kernel)
theorem dX5_firstWay_93 : decode cX5_firstWay 93 = .ok (.getfield 74, 3) := dk_180 (by decide +kernel)
theorem dX5_firstWay_96 : decode cX5_firstWay 96 = .ok (.iload_n 1, 1) := dk_27 (by decide +kernel)
theorem dX5_firstWay_97 : decode cX5_firstWay 97 = .ok (.iload_n 2, 1) := dk_28 (by decide +kernel)
theorem dX5_firstWay_98 : decode cX5_firstWay 98 = .ok (.invokevirtual 194, 3) := dk_182 (by decide +kernel)
theorem dX5_firstWay_101 : decode cX5_firstWay 101 = .ok (.istore 4, 2) := dk_54 (by decide +kernel)
theorem dX5_firstWay_103 : decode cX5_firstWay 103 = .ok (.aload_n 3, 1) := dk_45 (by decide +kernel)
theorem dX5_firstWay_104 : decode cX5_firstWay 104 = .ok (.invokevirtual 263, 3) := dk_182 (by decide +kernel)
theorem dX5_firstWay_107 : decode cX5_firstWay 107 = .ok (.istore 5, 2) := dk_54 (by decide +kernel)
theorem dX5_firstWay_109 : decode cX5_firstWay 109 = .ok (.iload 5, 2) := dk_21 (by decide +kernel)
theorem dX5_firstWay_111 : decode cX5_firstWay 111 = .ok (.ifCond .eq 24, 3) := dk_153 (by decide +kernel)
theorem dX5_firstWay_114 : decode cX5_firstWay 114 = .ok (.iload 5, 2) := dk_21 (by decide +kernel)
theorem dX5_firstWay_116 : decode cX5_firstWay 116 = .ok (.ifCond .ge 8, 3) := dk_156 (by decide +kernel)
theorem dX5_firstWay_119 : decode cX5_firstWay 119 = .ok (.iload 4, 2) := dk_21 (by decide +kernel)
theorem dX5_firstWay_121 : decode cX5_firstWay 121 = .ok (.ifCond .eq 14, 3) := dk_153 (by decide +kernel)
theorem dX5_firstWay_124 : decode cX5_firstWay 124 = .ok (.iload 5, 2) := dk_21 (by decide +kernel)
theorem dX5_firstWay_126 : decode cX5_firstWay 126 = .ok (.ifCond .le 11, 3) := dk_158 (by decide +kernel)
theorem dX5_firstWay_129 : decode cX5_firstWay 129 = .ok (.iload 4, 2) := dk_21 (by decide +kernel)
theorem dX5_firstWay_131 : decode cX5_firstWay 131 = .ok (.iconst 1, 1) := dk_4 (by decide +kernel)
theorem dX5_firstWay_132 : decode cX5_firstWay 132 = .ok (.if_icmp .ne 5, 3) := dk_160 (by decide +kernel)
theorem dX5_firstWay_135 : decode cX5_firstWay 135 = .ok (.iload_n 2, 1) := dk_28 (by decide +kernel)
theorem dX5_firstWay_136 : decode cX5_firstWay 136 = .ok (.ireturn, 1) := dk_172 (by decide +kernel)
theorem dX5_firstWay_137 : decode cX5_firstWay 137 = .ok (.iinc 2 1, 3) := dk_132 (by decide +kernel)
theorem dX5_firstWay_140 : decode cX5_firstWay 140 = .ok (.goto (-138), 3) := dk_167 (by decide +kernel)
theorem dX5_firstWay_143 : decode cX5_firstWay 143 = .ok (.iconst (-1), 1) := dk_2 (by decide +kernel)
theorem dX5_firstWay_144 : decode cX5_firstWay 144 = .ok (.ireturn, 1) := dk_172 (by decide +kernel)
def wsMX5_firstWay : List Cond := .code yX5_firstWay cX5_firstWay 6 (some .int) :: ([.fieldLink RX5 74 "OptimaWorks$Solver" "model" "LOptimaWorks$Model;", .fieldLink RX5 134 "OptimaWorks$Model" "ways" "[I", .fieldLink RX5 71 "OptimaWorks$Solver" "spare" "[LOptimaWorks$Whole;", .fieldLink RX5 58 "OptimaWorks$Solver" "answerUnder" "LOptimaWorks$Whole;", .fieldLink RX5 112 "OptimaWorks$Model" "variables" "I", .fieldLink RX5 48 "OptimaWorks$Solver" "answer" "[LOptimaWorks$Whole;"] ++ wsX10 ++ wsX50 ++ (wsV RX5 184 RX8 yX8_setLong wsMX8_setLong) ++ (wsV RX5 197 RX1 yX1_rightSide wsMX1_rightSide) ++ (wsV RX5 211 RX5 yX5_addTimes wsMX5_addTimes) ++ (wsV RX5 200 RX1 yX1_number wsMX1_number) ++ (wsV RX5 194 RX1 yX1_sign wsMX1_sign) ++ (wsV RX5 263 RX8 yX8_sign wsMX8_sign))
theorem iwsMX5_firstWay_in1 : ∀ w ∈ wsX10, w ∈ wsMX5_firstWay := fun _ h => List.mem_cons_of_mem _ (List.mem_append_left _ (List.mem_append_left _ (List.mem_append_left _ (List.mem_append_left _ (List.mem_append_left _ (List.mem_append_left _ (List.mem_append_left _ (List.mem_append_right _ h))))))))
theorem iwsMX5_firstWay_in5 : ∀ w ∈ wsX50, w ∈ wsMX5_firstWay := fun _ h => List.mem_cons_of_mem _ (List.mem_append_left _ (List.mem_append_left _ (List.mem_append_left _ (List.mem_append_left _ (List.mem_append_left _ (List.mem_append_left _ (List.mem_append_right _ h)))))))
theorem gwsMX5_firstWay_0 : GoodIn wsMX5_firstWay (wsV RX5 184 RX8 yX8_setLong wsMX8_setLong) := goodIn_sub (fun _ h => List.mem_cons_of_mem _ (List.mem_append_left _ (List.mem_append_left _ (List.mem_append_left _ (List.mem_append_left _ (List.mem_append_left _ (List.mem_append_right _ h))))))) (gdV (by decide +kernel) gdwsMX8_setLong)
theorem gwsMX5_firstWay_1 : GoodIn wsMX5_firstWay (wsV RX5 197 RX1 yX1_rightSide wsMX1_rightSide) := goodIn_sub (fun _ h => List.mem_cons_of_mem _ (List.mem_append_left _ (List.mem_append_left _ (List.mem_append_left _ (List.mem_append_left _ (List.mem_append_right _ h)))))) (gdV (by decide +kernel) gdwsMX1_rightSide)
theorem gwsMX5_firstWay_2 : GoodIn wsMX5_firstWay (wsV RX5 211 RX5 yX5_addTimes wsMX5_addTimes) := goodIn_sub (fun _ h => List.mem_cons_of_mem _ (List.mem_append_left _ (List.mem_append_left _ (List.mem_append_left _ (List.mem_append_right _ h))))) (gdV (by decide +kernel) gdwsMX5_addTimes)
theorem gwsMX5_firstWay_3 : GoodIn wsMX5_firstWay (wsV RX5 200 RX1 yX1_number wsMX1_number) := goodIn_sub (fun _ h => List.mem_cons_of_mem _ (List.mem_append_left _ (List.mem_append_left _ (List.mem_append_right _ h)))) (gdV (by decide +kernel) gdwsMX1_number)
theorem gwsMX5_firstWay_4 : GoodIn wsMX5_firstWay (wsV RX5 194 RX1 yX1_sign wsMX1_sign) := goodIn_sub (fun _ h => List.mem_cons_of_mem _ (List.mem_append_left _ (List.mem_append_right _ h))) (gdV (by decide +kernel) gdwsMX1_sign)
theorem gwsMX5_firstWay_5 : GoodIn wsMX5_firstWay (wsV RX5 263 RX8 yX8_sign wsMX8_sign) := goodIn_sub (fun _ h => List.mem_cons_of_mem _ (List.mem_append_right _ h)) (gdV (by decide +kernel) gdwsMX8_sign)
theorem gdwsMX5_firstWay : wsMX5_firstWay.all goodWord = true := gdC rfl (gdA (gdA (gdA (gdA (gdA (gdA (gdA (gdA (by decide +kernel : ([.fieldLink RX5 74 "OptimaWorks$Solver" "model" "LOptimaWorks$Model;", .fieldLink RX5 134 "OptimaWorks$Model" "ways" "[I", .fieldLink RX5 71 "OptimaWorks$Solver" "spare" "[LOptimaWorks$Whole;", .fieldLink RX5 58 "OptimaWorks$Solver" "answerUnder" "LOptimaWorks$Whole;", .fieldLink RX5 112 "OptimaWorks$Model" "variables" "I", .fieldLink RX5 48 "OptimaWorks$Solver" "answer" "[LOptimaWorks$Whole;"] : List Cond).all goodWord = true) gdwsX10) gdwsX50) (gdV (by decide +kernel) gdwsMX8_setLong)) (gdV (by decide +kernel) gdwsMX1_rightSide)) (gdV (by decide +kernel) gdwsMX5_addTimes)) (gdV (by decide +kernel) gdwsMX1_number)) (gdV (by decide +kernel) gdwsMX1_sign)) (gdV (by decide +kernel) gdwsMX8_sign))
theorem hm_m_X5_firstWay_0 : (.fieldLink RX5 74 "OptimaWorks$Solver" "model" "LOptimaWorks$Model;" : Cond) ∈ wsMX5_firstWay := by decide +kernel
set_option maxHeartbeats 4000000 in
set_option maxRecDepth 100000 in
/-- the first way that holds -/
theorem m_X5_firstWay (l : Launch) (dC : Nat → ClassId) (dI : Nat → Nat → Nat) (hO : Nat → Nat) (aO : Nat → Nat) (kO : Nat → ClassId) (hM : Nat → Nat) (hQ : Nat → Nat) (hw : Nat → Nat) (iO_answered : Int32) (iO_searched : Int32) (iO_searchedRelaxed : Int32) (iO_counted : Int32) (fO_countedCase : Nat → Int32) (gO_goalNumber : Nat → Int64) (gO_goalScale : Nat → Int64) (fO_start : Nat → Int32) (fO_column : Nat → Int32) (fO_chosen : Nat → Int32) (aM : Nat → Nat) (kM : Nat → ClassId) (iM_stands : Int32) (iM_variables : Int32) (iM_rows : Int32) (iM_goals : Int32) (iM_differents : Int32) (iM_cases : Int32) (fM_from : Nat → Int32) (fM_to : Nat → Int32) (fM_whole : Nat → Int32) (fM_ways : Nat → Int32) (iM_plainRows : Int32) (fM_plainRow : Nat → Int32) (fM_kept : Nat → Int32) (fM_goalOver : Nat → Int32) (fM_goalUnder : Nat → Int32) (fM_goalMax : Nat → Int32) (fM_different : Nat → Int32) (aQ : Nat → Nat) (kQ : Nat → ClassId) (fQ_inside : Nat → Int32) (fQ_outside : Nat → Int32) (fQ_shut : Nat → Int32) (iQ_rows : Int32) (iQ_allRows : Int32) (iQ_columns : Int32) (nW : Nat) (lw : Nat → Nat) (kw : ClassId) (wl : Nat → Int32) (wb : Nat → Int32) (wG : Nat → Nat → Int64) (p1 : Int32) (b_iO_answered : 0 ≤ iO_answered.toInt ∧ iO_answered.toInt ≤ 1) (b_iO_searched : 0 ≤ iO_searched.toInt ∧ iO_searched.toInt ≤ 1) (b_iO_searchedRelaxed : 0 ≤ iO_searchedRelaxed.toInt ∧ iO_searchedRelaxed.toInt ≤ 1) (b_iO_counted : (-1) ≤ iO_counted.toInt ∧ iO_counted.toInt ≤ 64) (b_fO_countedCase : ∀ q : Nat, 0 ≤ (fO_countedCase q).toInt ∧ (fO_countedCase q).toInt ≤ 200000) (b_fO_column : ∀ q : Nat, (-1) ≤ (fO_column q).toInt ∧ (fO_column q).toInt ≤ 8) (b_fO_chosen : ∀ q : Nat, 0 ≤ (fO_chosen q).toInt ∧ (fO_chosen q).toInt ≤ 2) (b_iM_stands : 0 ≤ iM_stands.toInt ∧ iM_stands.toInt ≤ 1) (b_iM_variables : 0 ≤ iM_variables.toInt ∧ iM_variables.toInt ≤ 8) (b_iM_rows : 0 ≤ iM_rows.toInt ∧ iM_rows.toInt ≤ 12) (b_iM_goals : 0 ≤ iM_goals.toInt ∧ iM_goals.toInt ≤ 3) (b_iM_differents : 0 ≤ iM_differents.toInt ∧ iM_differents.toInt ≤ 8) (b_iM_cases : 0 ≤ iM_cases.toInt ∧ iM_cases.toInt ≤ 200000) (b_fM_ways : ∀ q : Nat, 0 ≤ (fM_ways q).toInt ∧ (fM_ways q).toInt ≤ 3) (b_iM_plainRows : 0 ≤ iM_plainRows.toInt ∧ iM_plainRows.toInt ≤ 12) (b_fM_plainRow : ∀ q : Nat, 0 ≤ (fM_plainRow q).toInt ∧ (fM_plainRow q).toInt ≤ 11) (b_pr : iM_plainRows.toInt ≤ iM_rows.toInt) (b_iQ_rows : 0 ≤ iQ_rows.toInt ∧ iQ_rows.toInt ≤ 40) (b_iQ_allRows : 0 ≤ iQ_allRows.toInt ∧ iQ_allRows.toInt ≤ 40) (b_iQ_columns : 0 ≤ iQ_columns.toInt ∧ iQ_columns.toInt ≤ 40) (b_tb : TbO iQ_rows iQ_allRows iQ_columns) (b_wl : ∀ q : Nat, 0 ≤ (wl q).toInt ∧ (wl q).toInt ≤ 14) (b_wb : ∀ q : Nat, 0 ≤ (wb q).toInt ∧ (wb q).toInt ≤ 1) (b_p1 : 0 ≤ p1.toInt ∧ p1.toInt ≤ 11) (hnW : 432 ≤ nW) (sz : Nat) : Met l yX5_firstWay wsMX5_firstWay ({ frames := 4, cells := 0, slots := 0, locals := 85 }) (va_Pc [.ref (hO 0), .int p1] (fun U => U.heap.size = sz ∧ va_P (dC, dI) vwCl (WO hO aO kO hM hQ hw iO_answered iO_searched iO_searchedRelaxed iO_counted fO_countedCase gO_goalNumber gO_goalScale fO_start fO_column fO_chosen ++ (WM hM aM kM iM_stands iM_variables iM_rows iM_goals iM_differents iM_cases fM_from fM_to fM_whole fM_ways iM_plainRows fM_plainRow fM_kept fM_goalOver fM_goalUnder fM_goalMax fM_different ++ (WQ hQ aQ kQ hw fQ_inside fQ_outside fQ_shut iQ_rows iQ_allRows iQ_columns ++ (WW nW hw lw kw wl wb wG)))) U.heap ∧ va_K (dC, dI) vwCl (tO kO ++ (tM kM ++ (tQ kQ ++ (tW kw)))) U ∧ va_D (fun _ => True) (WO hO aO kO hM hQ hw iO_answered iO_searched iO_searchedRelaxed iO_counted fO_countedCase gO_goalNumber gO_goalScale fO_start fO_column fO_chosen ++ (WM hM aM kM iM_stands iM_variables iM_rows iM_goals iM_differents iM_cases fM_from fM_to fM_whole fM_ways iM_plainRows fM_plainRow fM_kept fM_goalOver fM_goalUnder fM_goalMax fM_different ++ (WQ hQ aQ kQ hw fQ_inside fQ_outside fQ_shut iQ_rows iQ_allRows iQ_columns ++ (WW nW hw lw kw wl wb wG)))))) (va_Qi (fun (r : Int32) (u : (Nat → Int32) × (Nat → Int32) × (Nat → Nat → Int64)) => (∀ q : Nat, 0 ≤ ((u.1) q).toInt ∧ ((u.1) q).toInt ≤ 14) ∧ (∀ q : Nat, 0 ≤ ((u.2.1) q).toInt ∧ ((u.2.1) q).toInt ≤ 1) ∧ ((-1) ≤ r.toInt ∧ r.toInt ≤ 2)) (fun (u : (Nat → Int32) × (Nat → Int32) × (Nat → Nat → Int64)) t => va_P (dC, dI) vwCl (WO hO aO kO hM hQ hw iO_answered iO_searched iO_searchedRelaxed iO_counted fO_countedCase gO_goalNumber gO_goalScale fO_start fO_column fO_chosen ++ (WM hM aM kM iM_stands iM_variables iM_rows iM_goals iM_differents iM_cases fM_from fM_to fM_whole fM_ways iM_plainRows fM_plainRow fM_kept fM_goalOver fM_goalUnder fM_goalMax fM_different ++ (WQ hQ aQ kQ hw fQ_inside fQ_outside fQ_shut iQ_rows iQ_allRows iQ_columns ++ (WW nW hw lw kw (u.1) (u.2.1) (u.2.2))))) t.heap ∧ va_D (va_A (WO hO aO kO hM hQ hw iO_answered iO_searched iO_searchedRelaxed iO_counted fO_countedCase gO_goalNumber gO_goalScale fO_start fO_column fO_chosen ++ (WM hM aM kM iM_stands iM_variables iM_rows iM_goals iM_differents iM_cases fM_from fM_to fM_whole fM_ways iM_plainRows fM_plainRow fM_kept fM_goalOver fM_goalUnder fM_goalMax fM_different ++ (WQ hQ aQ kQ hw fQ_inside fQ_outside fQ_shut iQ_rows iQ_allRows iQ_columns ++ (WW nW hw lw kw wl wb wG)))) sz) (WO hO aO kO hM hQ hw iO_answered iO_searched iO_searchedRelaxed iO_counted fO_countedCase gO_goalNumber gO_goalScale fO_start fO_column fO_chosen ++ (WM hM aM kM iM_stands iM_variables iM_rows iM_goals iM_differents iM_cases fM_from fM_to fM_whole fM_ways iM_plainRows fM_plainRow fM_kept fM_goalOver fM_goalUnder fM_goalMax fM_different ++ (WQ hQ aQ kQ hw fQ_inside fQ_outside fQ_shut iQ_rows iQ_allRows iQ_columns ++ (WW nW hw lw kw (u.1) (u.2.1) (u.2.2)))))) (va_A (WO hO aO kO hM hQ hw iO_answered iO_searched iO_searchedRelaxed iO_counted fO_countedCase gO_goalNumber gO_goalScale fO_start fO_column fO_chosen ++ (WM hM aM kM iM_stands iM_variables iM_rows iM_goals iM_differents iM_cases fM_from fM_to fM_whole fM_ways iM_plainRows fM_plainRow fM_kept fM_goalOver fM_goalUnder fM_goalMax fM_different ++ (WQ hQ aQ kQ hw fQ_inside fQ_outside fQ_shut iQ_rows iQ_allRows iQ_columns ++ (WW nW hw lw kw wl wb wG)))) sz)) 0 0 (va_A (WO hO aO kO hM hQ hw iO_answered iO_searched iO_searchedRelaxed iO_counted fO_countedCase gO_goalNumber gO_goalScale fO_start fO_column fO_chosen ++ (WM hM aM kM iM_stands iM_variables iM_rows iM_goals iM_differents iM_cases fM_from fM_to fM_whole fM_ways iM_plainRows fM_plainRow fM_kept fM_goalOver fM_goalUnder fM_goalMax fM_different ++ (WQ hQ aQ kQ hw fQ_inside fQ_outside fQ_shut iQ_rows iQ_allRows iQ_columns ++ (WW nW hw lw kw wl wb wG)))) sz) := by
  refine Met.ofW (cc := cX5_firstWay) (maxL := 6) (ret := (some .int)) (by decide) rfl ?_
  intro p e s m args below meth c s₁ B hml hv
  obtain ⟨rfl, hsz, hP, hK, hD0⟩ := hv
  have hx := B.exec
  have hb := B.bytes
  have hr := B.returns
  have hts := atoms_spec (ws := wsMX5_firstWay) B.pre
  have hown : s.vm.findClass RX5 = some m.cls := findClass_of_methodNamed B.named
  have hlocks := B.notSynchronized
  subst hsz
  have hD := hD0.self (sz := s.heap.size)
  generalize hAe : va_A (WO hO aO kO hM hQ hw iO_answered iO_searched iO_searchedRelaxed iO_counted fO_countedCase gO_goalNumber gO_goalScale fO_start fO_column fO_chosen ++ (WM hM aM kM iM_stands iM_variables iM_rows iM_goals iM_differents iM_cases fM_from fM_to fM_whole fM_ways iM_plainRows fM_plainRow fM_kept fM_goalOver fM_goalUnder fM_goalMax fM_different ++ (WQ hQ aQ kQ hw fQ_inside fQ_outside fQ_shut iQ_rows iQ_allRows iQ_columns ++ (WW nW hw lw kw wl wb wG)))) s.heap.size = A at hD ⊢
  have hA : ∀ q : Nat, s.heap.size ≤ q → A q := fun q h => by rw [← hAe]; exact Or.inr h
  have hS : va_S A s.heap s.heap [] := va_S.rf
  have hl := lv_entry ([.ref (hO 0), .int p1]) (n := 6) (Nat.le_of_ble_eq_true rfl)
  rw [lg_entry_eq]
  generalize (lg_sl ([.ref (hO 0), .int p1]) ++ List.replicate (6 - (lg_sl ([.ref (hO 0), .int p1])).length) Slot.unset).toArray = ls at hl ⊢
  have hl : lv_has ls 6 [(0, .ref (hO 0)), (1, .int p1)] := hl
  refine lv_iconst (v := 0) hx hb dX5_firstWay_0 (by decide) ?_
  refine lv_istore_n hx hb dX5_firstWay_1 rfl hl (by decide) rfl (fun ls (hl : lv_has ls _ ([(2, .int 0), (0, .ref (hO 0)), (1, .int p1)])) => ?_)
  have hl : lv_has _ _ ([(2, .int 0), (0, .ref (hO 0)), (1, .int p1)]) := lv_sub hl [0, 1, 2] rfl
  refine (fun (loop : ∀ (n9 : Nat) (wl_x2 : Nat → Int32) (wb_x2 : Nat → Int32) (wG_x2 : Nat → Nat → Int64) (l2_x2 : Int32) (H : Heap) (locs : List Loc) (ls : Array Slot), (∀ q : Nat, 0 ≤ (wl_x2 q).toInt ∧ (wl_x2 q).toInt ≤ 14) → (∀ q : Nat, 0 ≤ (wb_x2 q).toInt ∧ (wb_x2 q).toInt ≤ 1) → (0 ≤ l2_x2.toInt ∧ l2_x2.toInt ≤ 3) → (3 - l2_x2.toInt < ((n9 : Nat) : Int)) → va_P (dC, dI) vwCl (WO hO aO kO hM hQ hw iO_answered iO_searched iO_searchedRelaxed iO_counted fO_countedCase gO_goalNumber gO_goalScale fO_start fO_column fO_chosen ++ (WM hM aM kM iM_stands iM_variables iM_rows iM_goals iM_differents iM_cases fM_from fM_to fM_whole fM_ways iM_plainRows fM_plainRow fM_kept fM_goalOver fM_goalUnder fM_goalMax fM_different ++ (WQ hQ aQ kQ hw fQ_inside fQ_outside fQ_shut iQ_rows iQ_allRows iQ_columns ++ (WW nW hw lw kw wl_x2 wb_x2 wG_x2)))) H → va_D A (WO hO aO kO hM hQ hw iO_answered iO_searched iO_searchedRelaxed iO_counted fO_countedCase gO_goalNumber gO_goalScale fO_start fO_column fO_chosen ++ (WM hM aM kM iM_stands iM_variables iM_rows iM_goals iM_differents iM_cases fM_from fM_to fM_whole fM_ways iM_plainRows fM_plainRow fM_kept fM_goalOver fM_goalUnder fM_goalMax fM_different ++ (WQ hQ aQ kQ hw fQ_inside fQ_outside fQ_shut iQ_rows iQ_allRows iQ_columns ++ (WW nW hw lw kw wl_x2 wb_x2 wG_x2)))) → va_S A s.heap H locs → lv_has ls 6 [(2, .int l2_x2), (0, .ref (hO 0)), (1, .int p1)] → W p l e _ s m _ below meth c H locs 0 0 _ (F0 m 2 ls [])) => loop (4) wl wb wG 0 _ _ _ b_wl b_wb (show 0 ≤ (0 : Int32).toInt ∧ (0 : Int32).toInt ≤ 3 from by decide) ((by have e9 : (0 : Int32).toInt = 0 := (by decide : (0 : Int32).toInt = 0); omega)) hP hD hS hl) ?_
  intro n9
  induction n9 with
  | zero => intro wl_x2 wb_x2 wG_x2 l2_x2 H locs ls b_wl_x2 b_wb_x2 b_l2_x2 hf9; exact False.elim (by omega)
  | succ n9 ihx2 =>
    intro wl_x2 wb_x2 wG_x2 l2_x2 H locs ls b_wl_x2 b_wb_x2 b_l2_x2 hfx2 hP hD hS hl
    refine lv_iload_n hx hb dX5_firstWay_2 rfl (lv_at hl 0 rfl) ?_
    refine lv_aload_n hx hb dX5_firstWay_3 rfl (lv_at hl 1 rfl) ?_
    refine va_get (D := (dC, dI)) (ci := 5) (v := .ref (hM 0)) (C := RX5) (T := TX5) (N := 19) hx hb hts iwsMX5_firstWay_in5 hown hK hP 0 rfl rfl 0 (by decide) (hts _ hm_m_X5_firstWay_0) (fun _ h9 => h9) rfl dX5_firstWay_4 ?_
    refine va_get (D := (dC, dI)) (ci := 1) (v := .ref (aM 3)) (C := RX1) (T := TX1) (N := 17) hx hb hts iwsMX5_firstWay_in1 hown hK hP 11 rfl rfl 9 (by decide) (hts (.fieldLink RX5 134 "OptimaWorks$Model" "ways" "[I") (by decide +kernel)) (fun _ h9 => h9) rfl dX5_firstWay_7 ?_
    refine lv_iload_n hx hb dX5_firstWay_10 rfl (lv_at hl 2 rfl) ?_
    refine va_iald (cA := kM 3) (n := 12) (f := fM_ways) hx hb hK hP 15 13 rfl rfl (vp_in_iff.mpr ⟨b_p1.1, (Int.lt_of_le_of_lt (b_p1.2) (by decide))⟩) dX5_firstWay_11 ?_
    refine lv_topi (fun v75 hv75 => ?_)
    have b_v75 : 0 ≤ v75.toInt ∧ v75.toInt ≤ 3 := by rw [hv75]; exact b_fM_ways _
    clear hv75
    refine lv_icmp_ge (tgt := 143) hx hb dX5_firstWay_12 (by decide) (fun c_12 => ?_) (fun c_12 => ?_)
    · have t_12 : l2_x2.toInt ≥ v75.toInt := toI_ge c_12 rfl rfl
      refine lv_iconst (v := (-1)) hx hb dX5_firstWay_143 (by decide) ?_
      refine W.widen (k := 0) (n := 0) (by decide +kernel) (by decide +kernel) ?_
      exact W.iret (v := (-1)) hx hb hr (fun t9_ ht hW => ⟨⟨((-1) : Int32), (wl_x2, wb_x2, wG_x2), rfl, ⟨b_wl_x2, b_wb_x2, (show (-1) ≤ ((-1) : Int32).toInt ∧ ((-1) : Int32).toInt ≤ 2 from by decide)⟩, by rw [ht]; exact hP, hD⟩, hS.F ht⟩) hS.2.2 dX5_firstWay_144
    · have t_12 : ¬ l2_x2.toInt ≥ v75.toInt := toI_nge c_12 rfl rfl
      refine lv_aload_n hx hb dX5_firstWay_15 rfl (lv_at hl 1 rfl) ?_
      refine va_get (D := (dC, dI)) (ci := 5) (v := .ref (aO 9)) (C := RX5) (T := TX5) (N := 19) hx hb hts iwsMX5_firstWay_in5 hown hK hP 0 rfl rfl 18 (by decide) (hts (.fieldLink RX5 71 "OptimaWorks$Solver" "spare" "[LOptimaWorks$Whole;") (by decide +kernel)) (fun _ h9 => h9) rfl dX5_firstWay_16 ?_
      refine lv_iconst (v := 1) hx hb dX5_firstWay_19 (by decide) ?_
      refine va_aldq (cA := kO 9) (n := 4) (f := fun q => some (hw (428 + q))) hx hb hK hP 10 9 rfl rfl (show ¬ ((1 : Int32) < 0 ∨ 4 ≤ (1 : Int32).toNatClampNeg) by decide) dX5_firstWay_20 ?_
      obtain ⟨k76, hk76, b_k76⟩ : ∃ k9 : Nat, k9 = 428 + (1 : Int32).toNatClampNeg ∧ (428 ≤ k9 ∧ k9 < 432 ∧ (k9 : Int) = 428 + 1) := ⟨_, rfl, ald_k (x := (1 : Int32)) (o := 428) (n := 4) (by decide : (1 : Int32).toInt = 1) (by omega) (by omega)⟩
      refine W.eq (g2 := F0 m 21 ls [.ref (hw k76)]) (by rw [hk76]; rfl) ?_
      clear hk76
      refine lv_astore_n hx hb dX5_firstWay_21 rfl hl (by decide) rfl (fun ls (hl : lv_has ls _ ([(3, .ref (hw k76)), (2, .int l2_x2), (0, .ref (hO 0)), (1, .int p1)])) => ?_)
      refine lv_aload_n hx hb dX5_firstWay_22 rfl (lv_at hl 0 rfl) ?_
      refine lv_lconst (v := 0) hx hb dX5_firstWay_23 (by decide) ?_
      have p9 := cj_4_3 (WO hO aO kO hM hQ hw iO_answered iO_searched iO_searchedRelaxed iO_counted fO_countedCase gO_goalNumber gO_goalScale fO_start fO_column fO_chosen) (WM hM aM kM iM_stands iM_variables iM_rows iM_goals iM_differents iM_cases fM_from fM_to fM_whole fM_ways iM_plainRows fM_plainRow fM_kept fM_goalOver fM_goalUnder fM_goalMax fM_different) (WQ hQ aQ kQ hw fQ_inside fQ_outside fQ_shut iQ_rows iQ_allRows iQ_columns) (WW nW hw lw kw wl_x2 wb_x2 wG_x2)
      have hPc := hP.mem (fun q h => p9.mem_iff.mpr (List.mem_append_left _ h))
      have hDc := (hD.perm p9).left
      have hKc : va_K (dC, dI) vwCl (tW kw) _ := hK.sub [24] rfl
      have hFc := freeG p9 hD hS hA
      refine va_callv (va_runV (As := [.long 0]) (rest := []) ⟨hx, hb, hml, hown, hts⟩ (m_X8_setLong l dC dI nW hw lw kw wl_x2 wb_x2 wG_x2 k76 0 b_wl_x2 b_wb_x2 (by first | with_reducible assumption | omega | (rw [iI_t (by omega) (by omega)]; omega) | decide | assumption) H.size) (cwV 1 hts gwsMX5_firstWay_0 rfl rfl rfl hd_yX8_setLong_RX8 (by decide +kernel)) (fz_pre (va_recv hK hP (ci := 8) (q0 := 11 + (11 + (5 + (k76)))) rfl (apR rfl (apR rfl (apR rfl (WW_o (by omega)))))) hPc hKc hDc) rfl rfl hl.1 rfl (lv_room (Nat.le_of_ble_eq_true rfl)) dX5_firstWay_24 (by decide +kernel)) hS (fun q _ h => hFc q h) hFc (fun u t9_ H locs ht hvm hw9 hB9 hz1 hk1 hS => ?_)
      revert u hw9 hB9
      refine fz_p3 ?_
      intro wl_77 wb_77 wG_77 hw9 hB9
      try dsimp only at hw9 hB9
      revert hw9
      refine fz_a2 ?_
      intro b_wl_77 b_wb_77
      have p8 := cj_4_3 (WO hO aO kO hM hQ hw iO_answered iO_searched iO_searchedRelaxed iO_counted fO_countedCase gO_goalNumber gO_goalScale fO_start fO_column fO_chosen) (WM hM aM kM iM_stands iM_variables iM_rows iM_goals iM_differents iM_cases fM_from fM_to fM_whole fM_ways iM_plainRows fM_plainRow fM_kept fM_goalOver fM_goalUnder fM_goalMax fM_different) (WQ hQ aQ kQ hw fQ_inside fQ_outside fQ_shut iQ_rows iQ_allRows iQ_columns) (WW nW hw lw kw wl_77 wb_77 wG_77)
      obtain ⟨hP, hD⟩ := frameG p9 p8 hP hD hk1 hFc (fz_P ht hB9.1) hB9.2
      refine lv_aload_n hx hb dX5_firstWay_27 rfl (lv_at hl 2 rfl) ?_
      refine lv_aload_n hx hb dX5_firstWay_28 rfl (lv_at hl 0 rfl) ?_
      refine lv_aload_n hx hb dX5_firstWay_29 rfl (lv_at hl 2 rfl) ?_
      refine va_get (D := (dC, dI)) (ci := 5) (v := .ref (hw 417)) (C := RX5) (T := TX5) (N := 19) hx hb hts iwsMX5_firstWay_in5 hown hK hP 0 rfl rfl 14 (by decide) (hts (.fieldLink RX5 58 "OptimaWorks$Solver" "answerUnder" "LOptimaWorks$Whole;") (by decide +kernel)) (fun _ h9 => h9) rfl dX5_firstWay_30 ?_
      refine lv_aload_n hx hb dX5_firstWay_33 rfl (lv_at hl 2 rfl) ?_
      refine va_get (D := (dC, dI)) (ci := 5) (v := .ref (hM 0)) (C := RX5) (T := TX5) (N := 19) hx hb hts iwsMX5_firstWay_in5 hown hK hP 0 rfl rfl 0 (by decide) (hts _ hm_m_X5_firstWay_0) (fun _ h9 => h9) rfl dX5_firstWay_34 ?_
      refine lv_iload_n hx hb dX5_firstWay_37 rfl (lv_at hl 3 rfl) ?_
      refine lv_iload_n hx hb dX5_firstWay_38 rfl (lv_at hl 1 rfl) ?_
      have p9 := cj_4_1 (WO hO aO kO hM hQ hw iO_answered iO_searched iO_searchedRelaxed iO_counted fO_countedCase gO_goalNumber gO_goalScale fO_start fO_column fO_chosen) (WM hM aM kM iM_stands iM_variables iM_rows iM_goals iM_differents iM_cases fM_from fM_to fM_whole fM_ways iM_plainRows fM_plainRow fM_kept fM_goalOver fM_goalUnder fM_goalMax fM_different) (WQ hQ aQ kQ hw fQ_inside fQ_outside fQ_shut iQ_rows iQ_allRows iQ_columns) (WW nW hw lw kw wl_77 wb_77 wG_77)
      have hPc := hP.mem (fun q h => p9.mem_iff.mpr (List.mem_append_left _ h))
      have hDc := (hD.perm p9).left
      have hKc : va_K (dC, dI) vwCl (tM kM) _ := hK.sub [10, 11, 12, 13, 14, 15, 16, 17, 18, 19] rfl
      have hFc := freeG p9 hD hS hA
      refine va_calli (va_runV (As := [.int p1, .int l2_x2]) (rest := [.ref (hw 417), .ref (hw k76), .ref (hO 0)]) ⟨hx, hb, hml, hown, hts⟩ (m_X1_rightSide l dC dI hM aM kM iM_stands iM_variables iM_rows iM_goals iM_differents iM_cases fM_from fM_to fM_whole fM_ways iM_plainRows fM_plainRow fM_kept fM_goalOver fM_goalUnder fM_goalMax fM_different p1 l2_x2 (b_iM_stands) (b_iM_variables) (b_iM_rows) (b_iM_goals) (b_iM_differents) (b_iM_cases) b_fM_ways (b_iM_plainRows) b_fM_plainRow (by first | with_reducible assumption | omega | assumption) (b_p1) (by first | exact b_l2_x2 | with_reducible assumption | exact ⟨by omega, by omega⟩ | assumption) H.size) (cwV 2 hts gwsMX5_firstWay_1 rfl rfl rfl hd_yX1_rightSide_RX1 (by decide +kernel)) (fz_pre (va_recv hK hP (ci := 1) (q0 := 11) rfl rfl) hPc hKc hDc) rfl rfl hl.1 rfl (lv_room (Nat.le_of_ble_eq_true rfl)) dX5_firstWay_39 (by decide +kernel)) hS (fun q _ h => hFc q h) hFc (fun r78 u t9_ H locs ht hvm hw9 hB9 hz1 hk1 hS => ?_)
      clear hw9
      have p8 := p9
      obtain ⟨hP, hD⟩ := frameG p9 p8 hP hD hk1 hFc (fz_P ht hB9.1) hB9.2
      refine lv_ineg hx hb dX5_firstWay_42 ?_
      refine lv_topi (fun y79 hy79 => ?_)
      obtain rfl : (iI (-r78.toInt)) = y79 := (hy79.trans (iI_neg2 (iI_of _))).symm
      refine lv_i2l hx hb dX5_firstWay_43 rfl ?_
      refine lv_topl (fun v80 hv80 => ?_)
      clear hv80
      have hFc := allFree hD hS hA
      refine va_callv (va_runV (As := [.ref (hw k76), .ref (hw 417), .long v80]) (rest := []) ⟨hx, hb, hml, hown, hts⟩ (m_X5_addTimes l dC dI hO aO kO hM hQ hw iO_answered iO_searched iO_searchedRelaxed iO_counted fO_countedCase gO_goalNumber gO_goalScale fO_start fO_column fO_chosen aM kM iM_stands iM_variables iM_rows iM_goals iM_differents iM_cases fM_from fM_to fM_whole fM_ways iM_plainRows fM_plainRow fM_kept fM_goalOver fM_goalUnder fM_goalMax fM_different aQ kQ fQ_inside fQ_outside fQ_shut iQ_rows iQ_allRows iQ_columns nW lw kw wl_77 wb_77 wG_77 k76 417 v80 (b_iO_answered) (b_iO_searched) (b_iO_searchedRelaxed) (b_iO_counted) b_fO_countedCase b_fO_column b_fO_chosen (b_iM_stands) (b_iM_variables) (b_iM_rows) (b_iM_goals) (b_iM_differents) (b_iM_cases) b_fM_ways (b_iM_plainRows) b_fM_plainRow (by first | with_reducible assumption | omega | assumption) (b_iQ_rows) (b_iQ_allRows) (b_iQ_columns) (by first | with_reducible assumption | omega | assumption) b_wl_77 b_wb_77 (by omega) (by first | with_reducible assumption | omega | (rw [iI_t (by omega) (by omega)]; omega) | decide | assumption) (by first | with_reducible assumption | omega | (rw [iI_t (by omega) (by omega)]; omega) | decide | assumption) H.size) (cwV 3 hts gwsMX5_firstWay_2 rfl rfl rfl hd_yX5_addTimes_RX5 (by decide +kernel)) (fz_pre (va_recv hK hP (ci := 5) (q0 := 0) rfl rfl) hP hK hD) rfl rfl hl.1 rfl (lv_room (Nat.le_of_ble_eq_true rfl)) dX5_firstWay_44 (by decide +kernel)) hS (fun q _ h => hFc q h) hFc (fun u t9_ H locs ht hvm hw9 hB9 hz1 hk1 hS => ?_)
      revert u hw9 hB9
      refine fz_p3 ?_
      intro wl_81 wb_81 wG_81 hw9 hB9
      try dsimp only at hw9 hB9
      revert hw9
      refine fz_a2 ?_
      intro b_wl_81 b_wb_81
      have hP : va_P (dC, dI) vwCl (WO hO aO kO hM hQ hw iO_answered iO_searched iO_searchedRelaxed iO_counted fO_countedCase gO_goalNumber gO_goalScale fO_start fO_column fO_chosen ++ (WM hM aM kM iM_stands iM_variables iM_rows iM_goals iM_differents iM_cases fM_from fM_to fM_whole fM_ways iM_plainRows fM_plainRow fM_kept fM_goalOver fM_goalUnder fM_goalMax fM_different ++ (WQ hQ aQ kQ hw fQ_inside fQ_outside fQ_shut iQ_rows iQ_allRows iQ_columns ++ (WW nW hw lw kw wl_81 wb_81 wG_81)))) H := fz_P ht hB9.1
      have hD := fz_sd hP (hB9.2.weaken (fun _ q _ h => hFc q.1 h)) rfl
      refine lv_iconst (v := 0) hx hb dX5_firstWay_47 (by decide) ?_
      refine lv_istore hx hb dX5_firstWay_48 hl (by decide) rfl (fun ls (hl : lv_has ls _ ([(4, .int 0), (3, .ref (hw k76)), (2, .int l2_x2), (0, .ref (hO 0)), (1, .int p1)])) => ?_)
      have hl : lv_has _ _ ([(4, .int 0), (3, .ref (hw k76)), (2, .int l2_x2), (0, .ref (hO 0)), (1, .int p1)]) := lv_sub hl [0, 1, 2, 3, 4] rfl
      refine (fun (loop : ∀ (n9 : Nat) (wl_x50 : Nat → Int32) (wb_x50 : Nat → Int32) (wG_x50 : Nat → Nat → Int64) (l4_x50 : Int32) (H : Heap) (locs : List Loc) (ls : Array Slot), (∀ q : Nat, 0 ≤ (wl_x50 q).toInt ∧ (wl_x50 q).toInt ≤ 14) → (∀ q : Nat, 0 ≤ (wb_x50 q).toInt ∧ (wb_x50 q).toInt ≤ 1) → (0 ≤ l4_x50.toInt ∧ l4_x50.toInt ≤ 8) → (8 - l4_x50.toInt < ((n9 : Nat) : Int)) → va_P (dC, dI) vwCl (WO hO aO kO hM hQ hw iO_answered iO_searched iO_searchedRelaxed iO_counted fO_countedCase gO_goalNumber gO_goalScale fO_start fO_column fO_chosen ++ (WM hM aM kM iM_stands iM_variables iM_rows iM_goals iM_differents iM_cases fM_from fM_to fM_whole fM_ways iM_plainRows fM_plainRow fM_kept fM_goalOver fM_goalUnder fM_goalMax fM_different ++ (WQ hQ aQ kQ hw fQ_inside fQ_outside fQ_shut iQ_rows iQ_allRows iQ_columns ++ (WW nW hw lw kw wl_x50 wb_x50 wG_x50)))) H → va_D A (WO hO aO kO hM hQ hw iO_answered iO_searched iO_searchedRelaxed iO_counted fO_countedCase gO_goalNumber gO_goalScale fO_start fO_column fO_chosen ++ (WM hM aM kM iM_stands iM_variables iM_rows iM_goals iM_differents iM_cases fM_from fM_to fM_whole fM_ways iM_plainRows fM_plainRow fM_kept fM_goalOver fM_goalUnder fM_goalMax fM_different ++ (WQ hQ aQ kQ hw fQ_inside fQ_outside fQ_shut iQ_rows iQ_allRows iQ_columns ++ (WW nW hw lw kw wl_x50 wb_x50 wG_x50)))) → va_S A s.heap H locs → lv_has ls 6 [(4, .int l4_x50), (3, .ref (hw k76)), (2, .int l2_x2), (0, .ref (hO 0)), (1, .int p1)] → W p l e _ s m _ below meth c H locs 0 0 _ (F0 m 50 ls [])) => loop (9) wl_81 wb_81 wG_81 0 _ _ _ b_wl_81 b_wb_81 (show 0 ≤ (0 : Int32).toInt ∧ (0 : Int32).toInt ≤ 8 from by decide) ((by have e9 : (0 : Int32).toInt = 0 := (by decide : (0 : Int32).toInt = 0); omega)) hP hD hS hl) ?_
      intro n9
      induction n9 with
      | zero => intro wl_x50 wb_x50 wG_x50 l4_x50 H locs ls b_wl_x50 b_wb_x50 b_l4_x50 hf9; exact False.elim (by omega)
      | succ n9 ihx50 =>
        intro wl_x50 wb_x50 wG_x50 l4_x50 H locs ls b_wl_x50 b_wb_x50 b_l4_x50 hfx50 hP hD hS hl
        refine lv_iload hx hb dX5_firstWay_50 (lv_at hl 0 rfl) ?_
        refine lv_aload_n hx hb dX5_firstWay_52 rfl (lv_at hl 3 rfl) ?_
        refine va_get (D := (dC, dI)) (ci := 5) (v := .ref (hM 0)) (C := RX5) (T := TX5) (N := 19) hx hb hts iwsMX5_firstWay_in5 hown hK hP 0 rfl rfl 0 (by decide) (hts _ hm_m_X5_firstWay_0) (fun _ h9 => h9) rfl dX5_firstWay_53 ?_
        refine va_get (D := (dC, dI)) (ci := 1) (v := .int iM_variables) (C := RX1) (T := TX1) (N := 17) hx hb hts iwsMX5_firstWay_in1 hown hK hP 11 rfl rfl 1 (by decide) (hts (.fieldLink RX5 112 "OptimaWorks$Model" "variables" "I") (by decide +kernel)) (fun _ h9 => h9) rfl dX5_firstWay_56 ?_
        refine lv_icmp_ge (tgt := 92) hx hb dX5_firstWay_59 (by decide) (fun c_59 => ?_) (fun c_59 => ?_)
        · have t_59 : l4_x50.toInt ≥ iM_variables.toInt := toI_ge c_59 rfl rfl
          refine lv_aload_n hx hb dX5_firstWay_92 rfl (lv_at hl 3 rfl) ?_
          refine va_get (D := (dC, dI)) (ci := 5) (v := .ref (hM 0)) (C := RX5) (T := TX5) (N := 19) hx hb hts iwsMX5_firstWay_in5 hown hK hP 0 rfl rfl 0 (by decide) (hts _ hm_m_X5_firstWay_0) (fun _ h9 => h9) rfl dX5_firstWay_93 ?_
          refine lv_iload_n hx hb dX5_firstWay_96 rfl (lv_at hl 4 rfl) ?_
          refine lv_iload_n hx hb dX5_firstWay_97 rfl (lv_at hl 2 rfl) ?_
          have p9 := cj_4_1 (WO hO aO kO hM hQ hw iO_answered iO_searched iO_searchedRelaxed iO_counted fO_countedCase gO_goalNumber gO_goalScale fO_start fO_column fO_chosen) (WM hM aM kM iM_stands iM_variables iM_rows iM_goals iM_differents iM_cases fM_from fM_to fM_whole fM_ways iM_plainRows fM_plainRow fM_kept fM_goalOver fM_goalUnder fM_goalMax fM_different) (WQ hQ aQ kQ hw fQ_inside fQ_outside fQ_shut iQ_rows iQ_allRows iQ_columns) (WW nW hw lw kw wl_x50 wb_x50 wG_x50)
          have hPc := hP.mem (fun q h => p9.mem_iff.mpr (List.mem_append_left _ h))
          have hDc := (hD.perm p9).left
          have hKc : va_K (dC, dI) vwCl (tM kM) _ := hK.sub [10, 11, 12, 13, 14, 15, 16, 17, 18, 19] rfl
          have hFc := freeG p9 hD hS hA
          refine va_calli (va_runV (As := [.int p1, .int l2_x2]) (rest := []) ⟨hx, hb, hml, hown, hts⟩ (m_X1_sign l dC dI hM aM kM iM_stands iM_variables iM_rows iM_goals iM_differents iM_cases fM_from fM_to fM_whole fM_ways iM_plainRows fM_plainRow fM_kept fM_goalOver fM_goalUnder fM_goalMax fM_different p1 l2_x2 (b_iM_stands) (b_iM_variables) (b_iM_rows) (b_iM_goals) (b_iM_differents) (b_iM_cases) b_fM_ways (b_iM_plainRows) b_fM_plainRow (by first | with_reducible assumption | omega | assumption) (b_p1) (by first | exact b_l2_x2 | with_reducible assumption | exact ⟨by omega, by omega⟩ | assumption) H.size) (cwV 2 hts gwsMX5_firstWay_4 rfl rfl rfl hd_yX1_sign_RX1 (by decide +kernel)) (fz_pre (va_recv hK hP (ci := 1) (q0 := 11) rfl rfl) hPc hKc hDc) rfl rfl hl.1 rfl (lv_room (Nat.le_of_ble_eq_true rfl)) dX5_firstWay_98 (by decide +kernel)) hS (fun q _ h => hFc q h) hFc (fun r106 u t9_ H locs ht hvm hw9 hB9 hz1 hk1 hS => ?_)
          clear hw9
          have p8 := p9
          obtain ⟨hP, hD⟩ := frameG p9 p8 hP hD hk1 hFc (fz_P ht hB9.1) hB9.2
          refine lv_istore hx hb dX5_firstWay_101 hl (by decide) rfl (fun ls (hl : lv_has ls _ ([(4, .int r106), (3, .ref (hw k76)), (2, .int l2_x2), (0, .ref (hO 0)), (1, .int p1)])) => ?_)
          refine lv_aload_n hx hb dX5_firstWay_103 rfl (lv_at hl 1 rfl) ?_
          have p9 := cj_4_3 (WO hO aO kO hM hQ hw iO_answered iO_searched iO_searchedRelaxed iO_counted fO_countedCase gO_goalNumber gO_goalScale fO_start fO_column fO_chosen) (WM hM aM kM iM_stands iM_variables iM_rows iM_goals iM_differents iM_cases fM_from fM_to fM_whole fM_ways iM_plainRows fM_plainRow fM_kept fM_goalOver fM_goalUnder fM_goalMax fM_different) (WQ hQ aQ kQ hw fQ_inside fQ_outside fQ_shut iQ_rows iQ_allRows iQ_columns) (WW nW hw lw kw wl_x50 wb_x50 wG_x50)
          have hPc := hP.mem (fun q h => p9.mem_iff.mpr (List.mem_append_left _ h))
          have hDc := (hD.perm p9).left
          have hKc : va_K (dC, dI) vwCl (tW kw) _ := hK.sub [24] rfl
          have hFc := freeG p9 hD hS hA
          refine va_calli (va_runV (As := []) (rest := []) ⟨hx, hb, hml, hown, hts⟩ (m_X8_sign l dC dI nW hw lw kw wl_x50 wb_x50 wG_x50 k76 b_wl_x50 b_wb_x50 (by first | with_reducible assumption | omega | (rw [iI_t (by omega) (by omega)]; omega) | decide | assumption) H.size) (cwV 0 hts gwsMX5_firstWay_5 rfl rfl rfl hd_yX8_sign_RX8 (by decide +kernel)) (fz_pre (va_recv hK hP (ci := 8) (q0 := 11 + (11 + (5 + (k76)))) rfl (apR rfl (apR rfl (apR rfl (WW_o (by omega)))))) hPc hKc hDc) rfl rfl hl.1 rfl (lv_room (Nat.le_of_ble_eq_true rfl)) dX5_firstWay_104 (by decide +kernel)) hS (fun q _ h => hFc q h) hFc (fun r107 u t9_ H locs ht hvm hw9 hB9 hz1 hk1 hS => ?_)
          have b_r107 := hw9
          try dsimp only at b_r107
          have p8 := p9
          obtain ⟨hP, hD⟩ := frameG p9 p8 hP hD hk1 hFc (fz_P ht hB9.1) hB9.2
          refine lv_istore hx hb dX5_firstWay_107 hl (by decide) rfl (fun ls (hl : lv_has ls _ ([(5, .int r107), (4, .int r106), (3, .ref (hw k76)), (2, .int l2_x2), (0, .ref (hO 0)), (1, .int p1)])) => ?_)
          refine lv_iload hx hb dX5_firstWay_109 (lv_at hl 0 rfl) ?_
          refine lv_if_eq (tgt := 135) hx hb dX5_firstWay_111 (by decide) (fun c_111 => ?_) (fun c_111 => ?_)
          · have t_111 : r107.toInt = 0 := toI_eq c_111 rfl (by decide : (0 : Int32).toInt = 0)
            refine lv_iload_n hx hb dX5_firstWay_135 rfl (lv_at hl 3 rfl) ?_
            refine W.widen (k := 0) (n := 0) (by decide +kernel) (by decide +kernel) ?_
            exact W.iret (v := l2_x2) hx hb hr (fun t9_ ht hW => ⟨⟨l2_x2, (wl_x50, wb_x50, wG_x50), rfl, ⟨b_wl_x50, b_wb_x50, (by first | exact b_l2_x2 | with_reducible assumption | exact ⟨by omega, by omega⟩ | assumption)⟩, by rw [ht]; exact hP, hD⟩, hS.F ht⟩) hS.2.2 dX5_firstWay_136
          · have t_111 : ¬ r107.toInt = 0 := toI_neq c_111 rfl (by decide : (0 : Int32).toInt = 0)
            refine lv_iload hx hb dX5_firstWay_114 (lv_at hl 0 rfl) ?_
            refine lv_if_ge (tgt := 124) hx hb dX5_firstWay_116 (by decide) (fun c_116 => ?_) (fun c_116 => ?_)
            · have t_116 : r107.toInt ≥ 0 := toI_ge c_116 rfl (by decide : (0 : Int32).toInt = 0)
              refine lv_iload hx hb dX5_firstWay_124 (lv_at hl 0 rfl) ?_
              refine lv_if_le (tgt := 137) hx hb dX5_firstWay_126 (by decide) (fun c_126 => ?_) (fun c_126 => ?_)
              · have t_126 : r107.toInt ≤ 0 := toI_le c_126 rfl (by decide : (0 : Int32).toInt = 0)
                refine lv_iinc (v := (iI (l2_x2.toInt + 1))) hx hb dX5_firstWay_137 hl (k := 3) rfl (iI_add2 (iI_of _) (by decide : (1 : Int32) = iI 1)) (by decide) rfl (fun ls (hl : lv_has ls _ ([(2, .int (iI (l2_x2.toInt + 1))), (5, .int r107), (4, .int r106), (3, .ref (hw k76)), (0, .ref (hO 0)), (1, .int p1)])) => ?_)
                refine lv_goto (tgt := 2) hx hb dX5_firstWay_140 (by decide) ?_
                have hl : lv_has _ _ ([(2, .int (iI (l2_x2.toInt + 1))), (0, .ref (hO 0)), (1, .int p1)]) := lv_sub hl [0, 4, 5] rfl
                exact ihx2 wl_x50 wb_x50 wG_x50 (iI (l2_x2.toInt + 1)) _ _ _ b_wl_x50 b_wb_x50 (iI_rng (Int.le_trans (by decide) (Int.add_le_add (b_l2_x2.1) (Int.le_refl _))) (by omega) (by decide) (by decide)) (by have e9 : ((iI (l2_x2.toInt + 1))).toInt = (l2_x2.toInt + 1) := (iI_t (Int.le_trans (by decide) (Int.add_le_add (b_l2_x2.1) (Int.le_refl _))) (Int.le_trans (Int.add_le_add (b_l2_x2.2) (Int.le_refl _)) (by decide))); omega) hP hD hS hl
              · have t_126 : ¬ r107.toInt ≤ 0 := toI_nle c_126 rfl (by decide : (0 : Int32).toInt = 0)
                refine lv_iload hx hb dX5_firstWay_129 (lv_at hl 1 rfl) ?_
                refine lv_iconst (v := 1) hx hb dX5_firstWay_131 (by decide) ?_
                refine lv_icmp_ne (tgt := 137) hx hb dX5_firstWay_132 (by decide) (fun c_132 => ?_) (fun c_132 => ?_)
                · have t_132 : r106.toInt ≠ 1 := toI_ne c_132 rfl (by decide : (1 : Int32).toInt = 1)
                  refine lv_iinc (v := (iI (l2_x2.toInt + 1))) hx hb dX5_firstWay_137 hl (k := 3) rfl (iI_add2 (iI_of _) (by decide : (1 : Int32) = iI 1)) (by decide) rfl (fun ls (hl : lv_has ls _ ([(2, .int (iI (l2_x2.toInt + 1))), (5, .int r107), (4, .int r106), (3, .ref (hw k76)), (0, .ref (hO 0)), (1, .int p1)])) => ?_)
                  refine lv_goto (tgt := 2) hx hb dX5_firstWay_140 (by decide) ?_
                  have hl : lv_has _ _ ([(2, .int (iI (l2_x2.toInt + 1))), (0, .ref (hO 0)), (1, .int p1)]) := lv_sub hl [0, 4, 5] rfl
                  exact ihx2 wl_x50 wb_x50 wG_x50 (iI (l2_x2.toInt + 1)) _ _ _ b_wl_x50 b_wb_x50 (iI_rng (Int.le_trans (by decide) (Int.add_le_add (b_l2_x2.1) (Int.le_refl _))) (by omega) (by decide) (by decide)) (by have e9 : ((iI (l2_x2.toInt + 1))).toInt = (l2_x2.toInt + 1) := (iI_t (Int.le_trans (by decide) (Int.add_le_add (b_l2_x2.1) (Int.le_refl _))) (Int.le_trans (Int.add_le_add (b_l2_x2.2) (Int.le_refl _)) (by decide))); omega) hP hD hS hl
                · have t_132 : r106.toInt = 1 := toI_nne c_132 rfl (by decide : (1 : Int32).toInt = 1)
                  refine lv_iload_n hx hb dX5_firstWay_135 rfl (lv_at hl 3 rfl) ?_
                  refine W.widen (k := 0) (n := 0) (by decide +kernel) (by decide +kernel) ?_
                  exact W.iret (v := l2_x2) hx hb hr (fun t9_ ht hW => ⟨⟨l2_x2, (wl_x50, wb_x50, wG_x50), rfl, ⟨b_wl_x50, b_wb_x50, (by first | exact b_l2_x2 | with_reducible assumption | exact ⟨by omega, by omega⟩ | assumption)⟩, by rw [ht]; exact hP, hD⟩, hS.F ht⟩) hS.2.2 dX5_firstWay_136
            · have t_116 : ¬ r107.toInt ≥ 0 := toI_nge c_116 rfl (by decide : (0 : Int32).toInt = 0)
              refine lv_iload hx hb dX5_firstWay_119 (lv_at hl 1 rfl) ?_
              refine lv_if_eq (tgt := 135) hx hb dX5_firstWay_121 (by decide) (fun c_121 => ?_) (fun c_121 => ?_)
              · have t_121 : r106.toInt = 0 := toI_eq c_121 rfl (by decide : (0 : Int32).toInt = 0)
                refine lv_iload_n hx hb dX5_firstWay_135 rfl (lv_at hl 3 rfl) ?_
                refine W.widen (k := 0) (n := 0) (by decide +kernel) (by decide +kernel) ?_
                exact W.iret (v := l2_x2) hx hb hr (fun t9_ ht hW => ⟨⟨l2_x2, (wl_x50, wb_x50, wG_x50), rfl, ⟨b_wl_x50, b_wb_x50, (by first | exact b_l2_x2 | with_reducible assumption | exact ⟨by omega, by omega⟩ | assumption)⟩, by rw [ht]; exact hP, hD⟩, hS.F ht⟩) hS.2.2 dX5_firstWay_136
              · have t_121 : ¬ r106.toInt = 0 := toI_neq c_121 rfl (by decide : (0 : Int32).toInt = 0)
                refine lv_iload hx hb dX5_firstWay_124 (lv_at hl 0 rfl) ?_
                refine lv_if_le (tgt := 137) hx hb dX5_firstWay_126 (by decide) (fun c_126 => ?_) (fun c_126 => ?_)
                · have t_126 : r107.toInt ≤ 0 := toI_le c_126 rfl (by decide : (0 : Int32).toInt = 0)
                  refine lv_iinc (v := (iI (l2_x2.toInt + 1))) hx hb dX5_firstWay_137 hl (k := 3) rfl (iI_add2 (iI_of _) (by decide : (1 : Int32) = iI 1)) (by decide) rfl (fun ls (hl : lv_has ls _ ([(2, .int (iI (l2_x2.toInt + 1))), (5, .int r107), (4, .int r106), (3, .ref (hw k76)), (0, .ref (hO 0)), (1, .int p1)])) => ?_)
                  refine lv_goto (tgt := 2) hx hb dX5_firstWay_140 (by decide) ?_
                  have hl : lv_has _ _ ([(2, .int (iI (l2_x2.toInt + 1))), (0, .ref (hO 0)), (1, .int p1)]) := lv_sub hl [0, 4, 5] rfl
                  exact ihx2 wl_x50 wb_x50 wG_x50 (iI (l2_x2.toInt + 1)) _ _ _ b_wl_x50 b_wb_x50 (iI_rng (Int.le_trans (by decide) (Int.add_le_add (b_l2_x2.1) (Int.le_refl _))) (by omega) (by decide) (by decide)) (by have e9 : ((iI (l2_x2.toInt + 1))).toInt = (l2_x2.toInt + 1) := (iI_t (Int.le_trans (by decide) (Int.add_le_add (b_l2_x2.1) (Int.le_refl _))) (Int.le_trans (Int.add_le_add (b_l2_x2.2) (Int.le_refl _)) (by decide))); omega) hP hD hS hl
                · have t_126 : ¬ r107.toInt ≤ 0 := toI_nle c_126 rfl (by decide : (0 : Int32).toInt = 0)
                  refine lv_iload hx hb dX5_firstWay_129 (lv_at hl 1 rfl) ?_
                  refine lv_iconst (v := 1) hx hb dX5_firstWay_131 (by decide) ?_
                  refine lv_icmp_ne (tgt := 137) hx hb dX5_firstWay_132 (by decide) (fun c_132 => ?_) (fun c_132 => ?_)
                  · have t_132 : r106.toInt ≠ 1 := toI_ne c_132 rfl (by decide : (1 : Int32).toInt = 1)
                    refine lv_iinc (v := (iI (l2_x2.toInt + 1))) hx hb dX5_firstWay_137 hl (k := 3) rfl (iI_add2 (iI_of _) (by decide : (1 : Int32) = iI 1)) (by decide) rfl (fun ls (hl : lv_has ls _ ([(2, .int (iI (l2_x2.toInt + 1))), (5, .int r107), (4, .int r106), (3, .ref (hw k76)), (0, .ref (hO 0)), (1, .int p1)])) => ?_)
                    refine lv_goto (tgt := 2) hx hb dX5_firstWay_140 (by decide) ?_
                    have hl : lv_has _ _ ([(2, .int (iI (l2_x2.toInt + 1))), (0, .ref (hO 0)), (1, .int p1)]) := lv_sub hl [0, 4, 5] rfl
                    exact ihx2 wl_x50 wb_x50 wG_x50 (iI (l2_x2.toInt + 1)) _ _ _ b_wl_x50 b_wb_x50 (iI_rng (Int.le_trans (by decide) (Int.add_le_add (b_l2_x2.1) (Int.le_refl _))) (by omega) (by decide) (by decide)) (by have e9 : ((iI (l2_x2.toInt + 1))).toInt = (l2_x2.toInt + 1) := (iI_t (Int.le_trans (by decide) (Int.add_le_add (b_l2_x2.1) (Int.le_refl _))) (Int.le_trans (Int.add_le_add (b_l2_x2.2) (Int.le_refl _)) (by decide))); omega) hP hD hS hl
                  · have t_132 : r106.toInt = 1 := toI_nne c_132 rfl (by decide : (1 : Int32).toInt = 1)
                    refine lv_iload_n hx hb dX5_firstWay_135 rfl (lv_at hl 3 rfl) ?_
                    refine W.widen (k := 0) (n := 0) (by decide +kernel) (by decide +kernel) ?_
                    exact W.iret (v := l2_x2) hx hb hr (fun t9_ ht hW => ⟨⟨l2_x2, (wl_x50, wb_x50, wG_x50), rfl, ⟨b_wl_x50, b_wb_x50, (by first | exact b_l2_x2 | with_reducible assumption | exact ⟨by omega, by omega⟩ | assumption)⟩, by rw [ht]; exact hP, hD⟩, hS.F ht⟩) hS.2.2 dX5_firstWay_136
        · have t_59 : ¬ l4_x50.toInt ≥ iM_variables.toInt := toI_nge c_59 rfl rfl
          refine lv_aload_n hx hb dX5_firstWay_62 rfl (lv_at hl 3 rfl) ?_
          refine lv_aload_n hx hb dX5_firstWay_63 rfl (lv_at hl 1 rfl) ?_
          refine lv_aload_n hx hb dX5_firstWay_64 rfl (lv_at hl 3 rfl) ?_
          refine va_get (D := (dC, dI)) (ci := 5) (v := .ref (aO 6)) (C := RX5) (T := TX5) (N := 19) hx hb hts iwsMX5_firstWay_in5 hown hK hP 0 rfl rfl 12 (by decide) (hts (.fieldLink RX5 48 "OptimaWorks$Solver" "answer" "[LOptimaWorks$Whole;") (by decide +kernel)) (fun _ h9 => h9) rfl dX5_firstWay_65 ?_
          refine lv_iload hx hb dX5_firstWay_68 (lv_at hl 0 rfl) ?_
          refine va_aldq (cA := kO 6) (n := 8) (f := fun q => some (hw (406 + q))) hx hb hK hP 7 6 rfl rfl (vp_in_iff.mpr ⟨b_l4_x50.1, (Int.lt_of_lt_of_le (Int.not_le.mp t_59) (Int.le_trans b_iM_variables.2 (by decide)))⟩) dX5_firstWay_70 ?_
          obtain ⟨k108, hk108, b_k108⟩ : ∃ k9 : Nat, k9 = 406 + (l4_x50).toNatClampNeg ∧ (406 ≤ k9 ∧ k9 < 414 ∧ (k9 : Int) = 406 + l4_x50.toInt) := ⟨_, rfl, ald_k (x := (l4_x50)) (o := 406) (n := 8) rfl (by omega) (by omega)⟩
          refine W.eq (g2 := F0 m 71 ls [.ref (hw k108), .ref (hw k76), .ref (hO 0)]) (by rw [hk108]; rfl) ?_
          clear hk108
          refine lv_aload_n hx hb dX5_firstWay_71 rfl (lv_at hl 3 rfl) ?_
          refine va_get (D := (dC, dI)) (ci := 5) (v := .ref (hM 0)) (C := RX5) (T := TX5) (N := 19) hx hb hts iwsMX5_firstWay_in5 hown hK hP 0 rfl rfl 0 (by decide) (hts _ hm_m_X5_firstWay_0) (fun _ h9 => h9) rfl dX5_firstWay_72 ?_
          refine lv_iload_n hx hb dX5_firstWay_75 rfl (lv_at hl 4 rfl) ?_
          refine lv_iload_n hx hb dX5_firstWay_76 rfl (lv_at hl 2 rfl) ?_
          refine lv_iload hx hb dX5_firstWay_77 (lv_at hl 0 rfl) ?_
          have p9 := cj_4_1 (WO hO aO kO hM hQ hw iO_answered iO_searched iO_searchedRelaxed iO_counted fO_countedCase gO_goalNumber gO_goalScale fO_start fO_column fO_chosen) (WM hM aM kM iM_stands iM_variables iM_rows iM_goals iM_differents iM_cases fM_from fM_to fM_whole fM_ways iM_plainRows fM_plainRow fM_kept fM_goalOver fM_goalUnder fM_goalMax fM_different) (WQ hQ aQ kQ hw fQ_inside fQ_outside fQ_shut iQ_rows iQ_allRows iQ_columns) (WW nW hw lw kw wl_x50 wb_x50 wG_x50)
          have hPc := hP.mem (fun q h => p9.mem_iff.mpr (List.mem_append_left _ h))
          have hDc := (hD.perm p9).left
          have hKc : va_K (dC, dI) vwCl (tM kM) _ := hK.sub [10, 11, 12, 13, 14, 15, 16, 17, 18, 19] rfl
          have hFc := freeG p9 hD hS hA
          refine va_calli (va_runV (As := [.int p1, .int l2_x2, .int l4_x50]) (rest := [.ref (hw k108), .ref (hw k76), .ref (hO 0)]) ⟨hx, hb, hml, hown, hts⟩ (m_X1_number l dC dI hM aM kM iM_stands iM_variables iM_rows iM_goals iM_differents iM_cases fM_from fM_to fM_whole fM_ways iM_plainRows fM_plainRow fM_kept fM_goalOver fM_goalUnder fM_goalMax fM_different p1 l2_x2 l4_x50 (b_iM_stands) (b_iM_variables) (b_iM_rows) (b_iM_goals) (b_iM_differents) (b_iM_cases) b_fM_ways (b_iM_plainRows) b_fM_plainRow (by first | with_reducible assumption | omega | assumption) (b_p1) (by first | exact b_l2_x2 | with_reducible assumption | exact ⟨by omega, by omega⟩ | assumption) (b_l4_x50) H.size) (cwV 3 hts gwsMX5_firstWay_3 rfl rfl rfl hd_yX1_number_RX1 (by decide +kernel)) (fz_pre (va_recv hK hP (ci := 1) (q0 := 11) rfl rfl) hPc hKc hDc) rfl rfl hl.1 rfl (lv_room (Nat.le_of_ble_eq_true rfl)) dX5_firstWay_79 (by decide +kernel)) hS (fun q _ h => hFc q h) hFc (fun r109 u t9_ H locs ht hvm hw9 hB9 hz1 hk1 hS => ?_)
          clear hw9
          have p8 := p9
          obtain ⟨hP, hD⟩ := frameG p9 p8 hP hD hk1 hFc (fz_P ht hB9.1) hB9.2
          refine lv_i2l hx hb dX5_firstWay_82 rfl ?_
          refine lv_topl (fun v110 hv110 => ?_)
          clear hv110
          have hFc := allFree hD hS hA
          refine va_callv (va_runV (As := [.ref (hw k76), .ref (hw k108), .long v110]) (rest := []) ⟨hx, hb, hml, hown, hts⟩ (m_X5_addTimes l dC dI hO aO kO hM hQ hw iO_answered iO_searched iO_searchedRelaxed iO_counted fO_countedCase gO_goalNumber gO_goalScale fO_start fO_column fO_chosen aM kM iM_stands iM_variables iM_rows iM_goals iM_differents iM_cases fM_from fM_to fM_whole fM_ways iM_plainRows fM_plainRow fM_kept fM_goalOver fM_goalUnder fM_goalMax fM_different aQ kQ fQ_inside fQ_outside fQ_shut iQ_rows iQ_allRows iQ_columns nW lw kw wl_x50 wb_x50 wG_x50 k76 k108 v110 (b_iO_answered) (b_iO_searched) (b_iO_searchedRelaxed) (b_iO_counted) b_fO_countedCase b_fO_column b_fO_chosen (b_iM_stands) (b_iM_variables) (b_iM_rows) (b_iM_goals) (b_iM_differents) (b_iM_cases) b_fM_ways (b_iM_plainRows) b_fM_plainRow (by first | with_reducible assumption | omega | assumption) (b_iQ_rows) (b_iQ_allRows) (b_iQ_columns) (by first | with_reducible assumption | omega | assumption) b_wl_x50 b_wb_x50 (by omega) (by first | with_reducible assumption | omega | (rw [iI_t (by omega) (by omega)]; omega) | decide | assumption) (by first | with_reducible assumption | omega | (rw [iI_t (by omega) (by omega)]; omega) | decide | assumption) H.size) (cwV 3 hts gwsMX5_firstWay_2 rfl rfl rfl hd_yX5_addTimes_RX5 (by decide +kernel)) (fz_pre (va_recv hK hP (ci := 5) (q0 := 0) rfl rfl) hP hK hD) rfl rfl hl.1 rfl (lv_room (Nat.le_of_ble_eq_true rfl)) dX5_firstWay_83 (by decide +kernel)) hS (fun q _ h => hFc q h) hFc (fun u t9_ H locs ht hvm hw9 hB9 hz1 hk1 hS => ?_)
          revert u hw9 hB9
          refine fz_p3 ?_
          intro wl_111 wb_111 wG_111 hw9 hB9
          try dsimp only at hw9 hB9
          revert hw9
          refine fz_a2 ?_
          intro b_wl_111 b_wb_111
          have hP : va_P (dC, dI) vwCl (WO hO aO kO hM hQ hw iO_answered iO_searched iO_searchedRelaxed iO_counted fO_countedCase gO_goalNumber gO_goalScale fO_start fO_column fO_chosen ++ (WM hM aM kM iM_stands iM_variables iM_rows iM_goals iM_differents iM_cases fM_from fM_to fM_whole fM_ways iM_plainRows fM_plainRow fM_kept fM_goalOver fM_goalUnder fM_goalMax fM_different ++ (WQ hQ aQ kQ hw fQ_inside fQ_outside fQ_shut iQ_rows iQ_allRows iQ_columns ++ (WW nW hw lw kw wl_111 wb_111 wG_111)))) H := fz_P ht hB9.1
          have hD := fz_sd hP (hB9.2.weaken (fun _ q _ h => hFc q.1 h)) rfl
          refine lv_iinc (v := (iI (l4_x50.toInt + 1))) hx hb dX5_firstWay_86 hl (k := 0) rfl (iI_add2 (iI_of _) (by decide : (1 : Int32) = iI 1)) (by decide) rfl (fun ls (hl : lv_has ls _ ([(4, .int (iI (l4_x50.toInt + 1))), (3, .ref (hw k76)), (2, .int l2_x2), (0, .ref (hO 0)), (1, .int p1)])) => ?_)
          refine lv_goto (tgt := 50) hx hb dX5_firstWay_89 (by decide) ?_
          have hl : lv_has _ _ ([(4, .int (iI (l4_x50.toInt + 1))), (3, .ref (hw k76)), (2, .int l2_x2), (0, .ref (hO 0)), (1, .int p1)]) := lv_sub hl [0, 1, 2, 3, 4] rfl
          exact ihx50 wl_111 wb_111 wG_111 (iI (l4_x50.toInt + 1)) _ _ _ b_wl_111 b_wb_111 (iI_rng (Int.le_trans (by decide) (Int.add_le_add (b_l4_x50.1) (Int.le_refl _))) (by omega) (by decide) (by decide)) (by have e9 : ((iI (l4_x50.toInt + 1))).toInt = (l4_x50.toInt + 1) := (iI_t (Int.le_trans (by decide) (Int.add_le_add (b_l4_x50.1) (Int.le_refl _))) (Int.le_trans (Int.add_le_add (b_l4_x50.2) (Int.le_refl _)) (by decide))); omega) hP hD hS hl
theorem dX5_tellNumber_0 : decode cX5_tellNumber 0 = .ok (.aload_n 0, 1) := dk_42 (by decide +kernel)
theorem dX5_tellNumber_1 : decode cX5_tellNumber 1 = .ok (.getfield 65, 3) := dk_180 (by decide +kernel)
theorem dX5_tellNumber_4 : decode cX5_tellNumber 4 = .ok (.aload_n 0, 1) := dk_42 (by decide +kernel)
theorem dX5_tellNumber_5 : decode cX5_tellNumber 5 = .ok (.getfield 48, 3) := dk_180 (by decide +kernel)
theorem dX5_tellNumber_8 : decode cX5_tellNumber 8 = .ok (.iload_n 1, 1) := dk_27 (by decide +kernel)
theorem dX5_tellNumber_9 : decode cX5_tellNumber 9 = .ok (.aaload, 1) := dk_50 (by decide +kernel)
theorem dX5_tellNumber_10 : decode cX5_tellNumber 10 = .ok (.invokevirtual 268, 3) := dk_182 (by decide +kernel)
theorem dX5_tellNumber_13 : decode cX5_tellNumber 13 = .ok (.aload_n 0, 1) := dk_42 (by decide +kernel)
theorem dX5_tellNumber_14 : decode cX5_tellNumber 14 = .ok (.getfield 68, 3) := dk_180 (by decide +kernel)
theorem dX5_tellNumber_17 : decode cX5_tellNumber 17 = .ok (.aload_n 0, 1) := dk_42 (by decide +kernel)
theorem dX5_tellNumber_18 : decode cX5_tellNumber 18 = .ok (.getfield 58, 3) := dk_180 (by decide +kernel)
theorem dX5_tellNumber_21 : decode cX5_tellNumber 21 = .ok (.invokevirtual 268, 3) := dk_182 (by decide +kernel)
theorem dX5_tellNumber_24 : decode cX5_tellNumber 24 = .ok (.return_, 1) := dk_177 (by decide +kernel)
def wsMX5_tellNumber : List Cond := .code yX5_tellNumber cX5_tellNumber 2 none :: ([.fieldLink RX5 65 "OptimaWorks$Solver" "top" "LOptimaWorks$Whole;", .fieldLink RX5 48 "OptimaWorks$Solver" "answer" "[LOptimaWorks$Whole;", .fieldLink RX5 68 "OptimaWorks$Solver" "bottom" "LOptimaWorks$Whole;", .fieldLink RX5 58 "OptimaWorks$Solver" "answerUnder" "LOptimaWorks$Whole;"] ++ wsX50 ++ (wsV RX5 268 RX8 yX8_copy wsMX8_copy))
theorem iwsMX5_tellNumber_in5 : ∀ w ∈ wsX50, w ∈ wsMX5_tellNumber := fun _ h => List.mem_cons_of_mem _ (List.mem_append_left _ (List.mem_append_right _ h))
theorem gwsMX5_tellNumber_0 : GoodIn wsMX5_tellNumber (wsV RX5 268 RX8 yX8_copy wsMX8_copy) := goodIn_sub (fun _ h => List.mem_cons_of_mem _ (List.mem_append_right _ h)) (gdV (by decide +kernel) gdwsMX8_copy)
theorem gdwsMX5_tellNumber : wsMX5_tellNumber.all goodWord = true := gdC rfl (gdA (gdA (by decide +kernel : ([.fieldLink RX5 65 "OptimaWorks$Solver" "top" "LOptimaWorks$Whole;", .fieldLink RX5 48 "OptimaWorks$Solver" "answer" "[LOptimaWorks$Whole;", .fieldLink RX5 68 "OptimaWorks$Solver" "bottom" "LOptimaWorks$Whole;", .fieldLink RX5 58 "OptimaWorks$Solver" "answerUnder" "LOptimaWorks$Whole;"] : List Cond).all goodWord = true) gdwsX50) (gdV (by decide +kernel) gdwsMX8_copy))
set_option maxHeartbeats 4000000 in
set_option maxRecDepth 100000 in
/-- a number is told -/
theorem m_X5_tellNumber (l : Launch) (dC : Nat → ClassId) (dI : Nat → Nat → Nat) (hO : Nat → Nat) (aO : Nat → Nat) (kO : Nat → ClassId) (hM : Nat → Nat) (hQ : Nat → Nat) (hw : Nat → Nat) (iO_answered : Int32) (iO_searched : Int32) (iO_searchedRelaxed : Int32) (iO_counted : Int32) (fO_countedCase : Nat → Int32) (gO_goalNumber : Nat → Int64) (gO_goalScale : Nat → Int64) (fO_start : Nat → Int32) (fO_column : Nat → Int32) (fO_chosen : Nat → Int32) (aM : Nat → Nat) (kM : Nat → ClassId) (iM_stands : Int32) (iM_variables : Int32) (iM_rows : Int32) (iM_goals : Int32) (iM_differents : Int32) (iM_cases : Int32) (fM_from : Nat → Int32) (fM_to : Nat → Int32) (fM_whole : Nat → Int32) (fM_ways : Nat → Int32) (iM_plainRows : Int32) (fM_plainRow : Nat → Int32) (fM_kept : Nat → Int32) (fM_goalOver : Nat → Int32) (fM_goalUnder : Nat → Int32) (fM_goalMax : Nat → Int32) (fM_different : Nat → Int32) (aQ : Nat → Nat) (kQ : Nat → ClassId) (fQ_inside : Nat → Int32) (fQ_outside : Nat → Int32) (fQ_shut : Nat → Int32) (iQ_rows : Int32) (iQ_allRows : Int32) (iQ_columns : Int32) (nW : Nat) (lw : Nat → Nat) (kw : ClassId) (wl : Nat → Int32) (wb : Nat → Int32) (wG : Nat → Nat → Int64) (p1 : Int32) (b_iO_answered : 0 ≤ iO_answered.toInt ∧ iO_answered.toInt ≤ 1) (b_iO_searched : 0 ≤ iO_searched.toInt ∧ iO_searched.toInt ≤ 1) (b_iO_searchedRelaxed : 0 ≤ iO_searchedRelaxed.toInt ∧ iO_searchedRelaxed.toInt ≤ 1) (b_iO_counted : (-1) ≤ iO_counted.toInt ∧ iO_counted.toInt ≤ 64) (b_fO_countedCase : ∀ q : Nat, 0 ≤ (fO_countedCase q).toInt ∧ (fO_countedCase q).toInt ≤ 200000) (b_fO_column : ∀ q : Nat, (-1) ≤ (fO_column q).toInt ∧ (fO_column q).toInt ≤ 8) (b_fO_chosen : ∀ q : Nat, 0 ≤ (fO_chosen q).toInt ∧ (fO_chosen q).toInt ≤ 2) (b_iM_stands : 0 ≤ iM_stands.toInt ∧ iM_stands.toInt ≤ 1) (b_iM_variables : 0 ≤ iM_variables.toInt ∧ iM_variables.toInt ≤ 8) (b_iM_rows : 0 ≤ iM_rows.toInt ∧ iM_rows.toInt ≤ 12) (b_iM_goals : 0 ≤ iM_goals.toInt ∧ iM_goals.toInt ≤ 3) (b_iM_differents : 0 ≤ iM_differents.toInt ∧ iM_differents.toInt ≤ 8) (b_iM_cases : 0 ≤ iM_cases.toInt ∧ iM_cases.toInt ≤ 200000) (b_fM_ways : ∀ q : Nat, 0 ≤ (fM_ways q).toInt ∧ (fM_ways q).toInt ≤ 3) (b_iM_plainRows : 0 ≤ iM_plainRows.toInt ∧ iM_plainRows.toInt ≤ 12) (b_fM_plainRow : ∀ q : Nat, 0 ≤ (fM_plainRow q).toInt ∧ (fM_plainRow q).toInt ≤ 11) (b_pr : iM_plainRows.toInt ≤ iM_rows.toInt) (b_iQ_rows : 0 ≤ iQ_rows.toInt ∧ iQ_rows.toInt ≤ 40) (b_iQ_allRows : 0 ≤ iQ_allRows.toInt ∧ iQ_allRows.toInt ≤ 40) (b_iQ_columns : 0 ≤ iQ_columns.toInt ∧ iQ_columns.toInt ≤ 40) (b_tb : TbO iQ_rows iQ_allRows iQ_columns) (b_wl : ∀ q : Nat, 0 ≤ (wl q).toInt ∧ (wl q).toInt ≤ 14) (b_wb : ∀ q : Nat, 0 ≤ (wb q).toInt ∧ (wb q).toInt ≤ 1) (b_p1 : 0 ≤ p1.toInt ∧ p1.toInt ≤ 7) (hnW : 432 ≤ nW) (sz : Nat) : Met l yX5_tellNumber wsMX5_tellNumber ({ frames := 2, cells := 0, slots := 0, locals := 39 }) (va_Pc [.ref (hO 0), .int p1] (fun U => U.heap.size = sz ∧ va_P (dC, dI) vwCl (WO hO aO kO hM hQ hw iO_answered iO_searched iO_searchedRelaxed iO_counted fO_countedCase gO_goalNumber gO_goalScale fO_start fO_column fO_chosen ++ (WM hM aM kM iM_stands iM_variables iM_rows iM_goals iM_differents iM_cases fM_from fM_to fM_whole fM_ways iM_plainRows fM_plainRow fM_kept fM_goalOver fM_goalUnder fM_goalMax fM_different ++ (WQ hQ aQ kQ hw fQ_inside fQ_outside fQ_shut iQ_rows iQ_allRows iQ_columns ++ (WW nW hw lw kw wl wb wG)))) U.heap ∧ va_K (dC, dI) vwCl (tO kO ++ (tM kM ++ (tQ kQ ++ (tW kw)))) U ∧ va_D (fun _ => True) (WO hO aO kO hM hQ hw iO_answered iO_searched iO_searchedRelaxed iO_counted fO_countedCase gO_goalNumber gO_goalScale fO_start fO_column fO_chosen ++ (WM hM aM kM iM_stands iM_variables iM_rows iM_goals iM_differents iM_cases fM_from fM_to fM_whole fM_ways iM_plainRows fM_plainRow fM_kept fM_goalOver fM_goalUnder fM_goalMax fM_different ++ (WQ hQ aQ kQ hw fQ_inside fQ_outside fQ_shut iQ_rows iQ_allRows iQ_columns ++ (WW nW hw lw kw wl wb wG)))))) (va_Qv (fun (u : (Nat → Int32) × (Nat → Int32) × (Nat → Nat → Int64)) => (∀ q : Nat, 0 ≤ ((u.1) q).toInt ∧ ((u.1) q).toInt ≤ 14) ∧ (∀ q : Nat, 0 ≤ ((u.2.1) q).toInt ∧ ((u.2.1) q).toInt ≤ 1)) (fun (u : (Nat → Int32) × (Nat → Int32) × (Nat → Nat → Int64)) t => va_P (dC, dI) vwCl (WO hO aO kO hM hQ hw iO_answered iO_searched iO_searchedRelaxed iO_counted fO_countedCase gO_goalNumber gO_goalScale fO_start fO_column fO_chosen ++ (WM hM aM kM iM_stands iM_variables iM_rows iM_goals iM_differents iM_cases fM_from fM_to fM_whole fM_ways iM_plainRows fM_plainRow fM_kept fM_goalOver fM_goalUnder fM_goalMax fM_different ++ (WQ hQ aQ kQ hw fQ_inside fQ_outside fQ_shut iQ_rows iQ_allRows iQ_columns ++ (WW nW hw lw kw (u.1) (u.2.1) (u.2.2))))) t.heap ∧ va_D (va_A (WO hO aO kO hM hQ hw iO_answered iO_searched iO_searchedRelaxed iO_counted fO_countedCase gO_goalNumber gO_goalScale fO_start fO_column fO_chosen ++ (WM hM aM kM iM_stands iM_variables iM_rows iM_goals iM_differents iM_cases fM_from fM_to fM_whole fM_ways iM_plainRows fM_plainRow fM_kept fM_goalOver fM_goalUnder fM_goalMax fM_different ++ (WQ hQ aQ kQ hw fQ_inside fQ_outside fQ_shut iQ_rows iQ_allRows iQ_columns ++ (WW nW hw lw kw wl wb wG)))) sz) (WO hO aO kO hM hQ hw iO_answered iO_searched iO_searchedRelaxed iO_counted fO_countedCase gO_goalNumber gO_goalScale fO_start fO_column fO_chosen ++ (WM hM aM kM iM_stands iM_variables iM_rows iM_goals iM_differents iM_cases fM_from fM_to fM_whole fM_ways iM_plainRows fM_plainRow fM_kept fM_goalOver fM_goalUnder fM_goalMax fM_different ++ (WQ hQ aQ kQ hw fQ_inside fQ_outside fQ_shut iQ_rows iQ_allRows iQ_columns ++ (WW nW hw lw kw (u.1) (u.2.1) (u.2.2)))))) (va_A (WO hO aO kO hM hQ hw iO_answered iO_searched iO_searchedRelaxed iO_counted fO_countedCase gO_goalNumber gO_goalScale fO_start fO_column fO_chosen ++ (WM hM aM kM iM_stands iM_variables iM_rows iM_goals iM_differents iM_cases fM_from fM_to fM_whole fM_ways iM_plainRows fM_plainRow fM_kept fM_goalOver fM_goalUnder fM_goalMax fM_different ++ (WQ hQ aQ kQ hw fQ_inside fQ_outside fQ_shut iQ_rows iQ_allRows iQ_columns ++ (WW nW hw lw kw wl wb wG)))) sz)) 0 0 (va_A (WO hO aO kO hM hQ hw iO_answered iO_searched iO_searchedRelaxed iO_counted fO_countedCase gO_goalNumber gO_goalScale fO_start fO_column fO_chosen ++ (WM hM aM kM iM_stands iM_variables iM_rows iM_goals iM_differents iM_cases fM_from fM_to fM_whole fM_ways iM_plainRows fM_plainRow fM_kept fM_goalOver fM_goalUnder fM_goalMax fM_different ++ (WQ hQ aQ kQ hw fQ_inside fQ_outside fQ_shut iQ_rows iQ_allRows iQ_columns ++ (WW nW hw lw kw wl wb wG)))) sz) := by
  refine Met.ofW (cc := cX5_tellNumber) (maxL := 2) (ret := none) (by decide) rfl ?_
  intro p e s m args below meth c s₁ B hml hv
  obtain ⟨rfl, hsz, hP, hK, hD0⟩ := hv
  have hx := B.exec
  have hb := B.bytes
  have hr := B.returns
  have hts := atoms_spec (ws := wsMX5_tellNumber) B.pre
  have hown : s.vm.findClass RX5 = some m.cls := findClass_of_methodNamed B.named
  have hlocks := B.notSynchronized
  subst hsz
  have hD := hD0.self (sz := s.heap.size)
  generalize hAe : va_A (WO hO aO kO hM hQ hw iO_answered iO_searched iO_searchedRelaxed iO_counted fO_countedCase gO_goalNumber gO_goalScale fO_start fO_column fO_chosen ++ (WM hM aM kM iM_stands iM_variables iM_rows iM_goals iM_differents iM_cases fM_from fM_to fM_whole fM_ways iM_plainRows fM_plainRow fM_kept fM_goalOver fM_goalUnder fM_goalMax fM_different ++ (WQ hQ aQ kQ hw fQ_inside fQ_outside fQ_shut iQ_rows iQ_allRows iQ_columns ++ (WW nW hw lw kw wl wb wG)))) s.heap.size = A at hD ⊢
  have hA : ∀ q : Nat, s.heap.size ≤ q → A q := fun q h => by rw [← hAe]; exact Or.inr h
  have hS : va_S A s.heap s.heap [] := va_S.rf
  have hl := lv_entry ([.ref (hO 0), .int p1]) (n := 2) (Nat.le_of_ble_eq_true rfl)
  rw [lg_entry_eq]
  generalize (lg_sl ([.ref (hO 0), .int p1]) ++ List.replicate (2 - (lg_sl ([.ref (hO 0), .int p1])).length) Slot.unset).toArray = ls at hl ⊢
  have hl : lv_has ls 2 [(0, .ref (hO 0)), (1, .int p1)] := hl
  refine lv_aload_n hx hb dX5_tellNumber_0 rfl (lv_at hl 0 rfl) ?_
  refine va_get (D := (dC, dI)) (ci := 5) (v := .ref (hw 426)) (C := RX5) (T := TX5) (N := 19) hx hb hts iwsMX5_tellNumber_in5 hown hK hP 0 rfl rfl 16 (by decide) (hts (.fieldLink RX5 65 "OptimaWorks$Solver" "top" "LOptimaWorks$Whole;") (by decide +kernel)) (fun _ h9 => h9) rfl dX5_tellNumber_1 ?_
  refine lv_aload_n hx hb dX5_tellNumber_4 rfl (lv_at hl 0 rfl) ?_
  refine va_get (D := (dC, dI)) (ci := 5) (v := .ref (aO 6)) (C := RX5) (T := TX5) (N := 19) hx hb hts iwsMX5_tellNumber_in5 hown hK hP 0 rfl rfl 12 (by decide) (hts (.fieldLink RX5 48 "OptimaWorks$Solver" "answer" "[LOptimaWorks$Whole;") (by decide +kernel)) (fun _ h9 => h9) rfl dX5_tellNumber_5 ?_
  refine lv_iload_n hx hb dX5_tellNumber_8 rfl (lv_at hl 1 rfl) ?_
  refine va_aldq (cA := kO 6) (n := 8) (f := fun q => some (hw (406 + q))) hx hb hK hP 7 6 rfl rfl (vp_in_iff.mpr ⟨b_p1.1, (Int.lt_of_le_of_lt (b_p1.2) (by decide))⟩) dX5_tellNumber_9 ?_
  obtain ⟨k1, hk1, b_k1⟩ : ∃ k9 : Nat, k9 = 406 + (p1).toNatClampNeg ∧ (406 ≤ k9 ∧ k9 < 414 ∧ (k9 : Int) = 406 + p1.toInt) := ⟨_, rfl, ald_k (x := (p1)) (o := 406) (n := 8) rfl (by omega) (by omega)⟩
  refine W.eq (g2 := F0 m 10 ls [.ref (hw k1), .ref (hw 426)]) (by rw [hk1]; rfl) ?_
  clear hk1
  have p9 := cj_4_3 (WO hO aO kO hM hQ hw iO_answered iO_searched iO_searchedRelaxed iO_counted fO_countedCase gO_goalNumber gO_goalScale fO_start fO_column fO_chosen) (WM hM aM kM iM_stands iM_variables iM_rows iM_goals iM_differents iM_cases fM_from fM_to fM_whole fM_ways iM_plainRows fM_plainRow fM_kept fM_goalOver fM_goalUnder fM_goalMax fM_different) (WQ hQ aQ kQ hw fQ_inside fQ_outside fQ_shut iQ_rows iQ_allRows iQ_columns) (WW nW hw lw kw wl wb wG)
  have hPc := hP.mem (fun q h => p9.mem_iff.mpr (List.mem_append_left _ h))
  have hDc := (hD.perm p9).left
  have hKc : va_K (dC, dI) vwCl (tW kw) _ := hK.sub [24] rfl
  have hFc := freeG p9 hD hS hA
  refine va_callv (va_runV (As := [.ref (hw k1)]) (rest := []) ⟨hx, hb, hml, hown, hts⟩ (m_X8_copy l dC dI nW hw lw kw wl wb wG 426 k1 b_wl b_wb (by first | with_reducible assumption | omega | (rw [iI_t (by omega) (by omega)]; omega) | decide | assumption) (by first | with_reducible assumption | omega | (rw [iI_t (by omega) (by omega)]; omega) | decide | assumption) s.heap.size) (cwV 1 hts gwsMX5_tellNumber_0 rfl rfl rfl hd_yX8_copy_RX8 (by decide +kernel)) (fz_pre (va_recv hK hP (ci := 8) (q0 := 11 + (11 + (5 + (426)))) rfl (apR rfl (apR rfl (apR rfl (WW_o (by omega)))))) hPc hKc hDc) rfl rfl hl.1 rfl (lv_room (Nat.le_of_ble_eq_true rfl)) dX5_tellNumber_10 (by decide +kernel)) hS (fun q _ h => hFc q h) hFc (fun u t9_ H locs ht hvm hw9 hB9 hz1 hk1 hS => ?_)
  revert u hw9 hB9
  refine fz_p3 ?_
  intro wl_2 wb_2 wG_2 hw9 hB9
  try dsimp only at hw9 hB9
  revert hw9
  refine fz_a2 ?_
  intro b_wl_2 b_wb_2
  have p8 := cj_4_3 (WO hO aO kO hM hQ hw iO_answered iO_searched iO_searchedRelaxed iO_counted fO_countedCase gO_goalNumber gO_goalScale fO_start fO_column fO_chosen) (WM hM aM kM iM_stands iM_variables iM_rows iM_goals iM_differents iM_cases fM_from fM_to fM_whole fM_ways iM_plainRows fM_plainRow fM_kept fM_goalOver fM_goalUnder fM_goalMax fM_different) (WQ hQ aQ kQ hw fQ_inside fQ_outside fQ_shut iQ_rows iQ_allRows iQ_columns) (WW nW hw lw kw wl_2 wb_2 wG_2)
  obtain ⟨hP, hD⟩ := frameG p9 p8 hP hD hk1 hFc (fz_P ht hB9.1) hB9.2
  refine lv_aload_n hx hb dX5_tellNumber_13 rfl (lv_at hl 0 rfl) ?_
  refine va_get (D := (dC, dI)) (ci := 5) (v := .ref (hw 427)) (C := RX5) (T := TX5) (N := 19) hx hb hts iwsMX5_tellNumber_in5 hown hK hP 0 rfl rfl 17 (by decide) (hts (.fieldLink RX5 68 "OptimaWorks$Solver" "bottom" "LOptimaWorks$Whole;") (by decide +kernel)) (fun _ h9 => h9) rfl dX5_tellNumber_14 ?_
  refine lv_aload_n hx hb dX5_tellNumber_17 rfl (lv_at hl 0 rfl) ?_
  refine va_get (D := (dC, dI)) (ci := 5) (v := .ref (hw 417)) (C := RX5) (T := TX5) (N := 19) hx hb hts iwsMX5_tellNumber_in5 hown hK hP 0 rfl rfl 14 (by decide) (hts (.fieldLink RX5 58 "OptimaWorks$Solver" "answerUnder" "LOptimaWorks$Whole;") (by decide +kernel)) (fun _ h9 => h9) rfl dX5_tellNumber_18 ?_
  have p9 := cj_4_3 (WO hO aO kO hM hQ hw iO_answered iO_searched iO_searchedRelaxed iO_counted fO_countedCase gO_goalNumber gO_goalScale fO_start fO_column fO_chosen) (WM hM aM kM iM_stands iM_variables iM_rows iM_goals iM_differents iM_cases fM_from fM_to fM_whole fM_ways iM_plainRows fM_plainRow fM_kept fM_goalOver fM_goalUnder fM_goalMax fM_different) (WQ hQ aQ kQ hw fQ_inside fQ_outside fQ_shut iQ_rows iQ_allRows iQ_columns) (WW nW hw lw kw wl_2 wb_2 wG_2)
  have hPc := hP.mem (fun q h => p9.mem_iff.mpr (List.mem_append_left _ h))
  have hDc := (hD.perm p9).left
  have hKc : va_K (dC, dI) vwCl (tW kw) _ := hK.sub [24] rfl
  have hFc := freeG p9 hD hS hA
  refine va_callv (va_runV (As := [.ref (hw 417)]) (rest := []) ⟨hx, hb, hml, hown, hts⟩ (m_X8_copy l dC dI nW hw lw kw wl_2 wb_2 wG_2 427 417 b_wl_2 b_wb_2 (by first | with_reducible assumption | omega | (rw [iI_t (by omega) (by omega)]; omega) | decide | assumption) (by first | with_reducible assumption | omega | (rw [iI_t (by omega) (by omega)]; omega) | decide | assumption) H.size) (cwV 1 hts gwsMX5_tellNumber_0 rfl rfl rfl hd_yX8_copy_RX8 (by decide +kernel)) (fz_pre (va_recv hK hP (ci := 8) (q0 := 11 + (11 + (5 + (427)))) rfl (apR rfl (apR rfl (apR rfl (WW_o (by omega)))))) hPc hKc hDc) rfl rfl hl.1 rfl (lv_room (Nat.le_of_ble_eq_true rfl)) dX5_tellNumber_21 (by decide +kernel)) hS (fun q _ h => hFc q h) hFc (fun u t9_ H locs ht hvm hw9 hB9 hz1 hk1 hS => ?_)
  revert u hw9 hB9
  refine fz_p3 ?_
  intro wl_3 wb_3 wG_3 hw9 hB9
  try dsimp only at hw9 hB9
  revert hw9
  refine fz_a2 ?_
  intro b_wl_3 b_wb_3
  have p8 := cj_4_3 (WO hO aO kO hM hQ hw iO_answered iO_searched iO_searchedRelaxed iO_counted fO_countedCase gO_goalNumber gO_goalScale fO_start fO_column fO_chosen) (WM hM aM kM iM_stands iM_variables iM_rows iM_goals iM_differents iM_cases fM_from fM_to fM_whole fM_ways iM_plainRows fM_plainRow fM_kept fM_goalOver fM_goalUnder fM_goalMax fM_different) (WQ hQ aQ kQ hw fQ_inside fQ_outside fQ_shut iQ_rows iQ_allRows iQ_columns) (WW nW hw lw kw wl_3 wb_3 wG_3)
  obtain ⟨hP, hD⟩ := frameG p9 p8 hP hD hk1 hFc (fz_P ht hB9.1) hB9.2
  refine W.widen (k := 0) (n := 0) (by decide +kernel) (by decide +kernel) ?_
  exact W.vret hx hb hr (fun t9_ ht hW => ⟨⟨(wl_3, wb_3, wG_3), rfl, ⟨b_wl_3, b_wb_3⟩, by rw [ht]; exact hP, hD⟩, hS.F ht⟩) hS.2.2 dX5_tellNumber_24
theorem dX5_setGoal_0 : decode cX5_setGoal 0 = .ok (.aload_n 0, 1) := dk_42 (by decide +kernel)
theorem dX5_setGoal_1 : decode cX5_setGoal 1 = .ok (.getfield 74, 3) := dk_180 (by decide +kernel)
theorem dX5_setGoal_4 : decode cX5_setGoal 4 = .ok (.getfield 124, 3) := dk_180 (by decide +kernel)
theorem dX5_setGoal_7 : decode cX5_setGoal 7 = .ok (.iload_n 1, 1) := dk_27 (by decide +kernel)
theorem dX5_setGoal_8 : decode cX5_setGoal 8 = .ok (.bipush 9, 2) := dk_16 (by decide +kernel)
theorem dX5_setGoal_10 : decode cX5_setGoal 10 = .ok (.imul, 1) := dk_104 (by decide +kernel)
theorem dX5_setGoal_11 : decode cX5_setGoal 11 = .ok (.iaload, 1) := dk_46 (by decide +kernel)
theorem dX5_setGoal_12 : decode cX5_setGoal 12 = .ok (.istore 4, 2) := dk_54 (by decide +kernel)
theorem dX5_setGoal_14 : decode cX5_setGoal 14 = .ok (.aload_n 0, 1) := dk_42 (by decide +kernel)
theorem dX5_setGoal_15 : decode cX5_setGoal 15 = .ok (.getfield 74, 3) := dk_180 (by decide +kernel)
theorem dX5_setGoal_18 : decode cX5_setGoal 18 = .ok (.getfield 115, 3) := dk_180 (by decide +kernel)
theorem dX5_setGoal_21 : decode cX5_setGoal 21 = .ok (.iload_n 1, 1) := dk_27 (by decide +kernel)
theorem dX5_setGoal_22 : decode cX5_setGoal 22 = .ok (.bipush 9, 2) := dk_16 (by decide +kernel)
theorem dX5_setGoal_24 : decode cX5_setGoal 24 = .ok (.imul, 1) := dk_104 (by decide +kernel)
theorem dX5_setGoal_25 : decode cX5_setGoal 25 = .ok (.iaload, 1) := dk_46 (by decide +kernel)
theorem dX5_setGoal_26 : decode cX5_setGoal 26 = .ok (.istore 5, 2) := dk_54 (by decide +kernel)
theorem dX5_setGoal_28 : decode cX5_setGoal 28 = .ok (.aload_n 0, 1) := dk_42 (by decide +kernel)
theorem dX5_setGoal_29 : decode cX5_setGoal 29 = .ok (.getfield 71, 3) := dk_180 (by decide +kernel)
theorem dX5_setGoal_32 : decode cX5_setGoal 32 = .ok (.iconst 0, 1) := dk_3 (by decide +kernel)
theorem dX5_setGoal_33 : decode cX5_setGoal 33 = .ok (.aaload, 1) := dk_50 (by decide +kernel)
theorem dX5_setGoal_34 : decode cX5_setGoal 34 = .ok (.lconst 0, 1) := dk_9 (by decide +kernel)
theorem dX5_setGoal_35 : decode cX5_setGoal 35 = .ok (.invokevirtual 184, 3) := dk_182 (by decide +kernel)
theorem dX5_setGoal_38 : decode cX5_setGoal 38 = .ok (.aload_n 0, 1) := dk_42 (by decide +kernel)
theorem dX5_setGoal_39 : decode cX5_setGoal 39 = .ok (.aload_n 0, 1) := dk_42 (by decide +kernel)
theorem dX5_setGoal_40 : decode cX5_setGoal 40 = .ok (.getfield 71, 3) := dk_180 (by decide +kernel)
theorem dX5_setGoal_43 : decode cX5_setGoal 43 = .ok (.iconst 0, 1) := dk_3 (by decide +kernel)
theorem dX5_setGoal_44 : decode cX5_setGoal 44 = .ok (.aaload, 1) := dk_50 (by decide +kernel)
theorem dX5_setGoal_45 : decode cX5_setGoal 45 = .ok (.aload_n 3, 1) := dk_45 (by decide +kernel)
theorem dX5_setGoal_46 : decode cX5_setGoal 46 = .ok (.aload_n 0, 1) := dk_42 (by decide +kernel)
theorem dX5_setGoal_47 : decode cX5_setGoal 47 = .ok (.getfield 32, 3) := dk_180 (by decide +kernel)
theorem dX5_setGoal_50 : decode cX5_setGoal 50 = .ok (.iload_n 1, 1) := dk_27 (by decide +kernel)
theorem dX5_setGoal_51 : decode cX5_setGoal 51 = .ok (.laload, 1) := dk_47 (by decide +kernel)
theorem dX5_setGoal_52 : decode cX5_setGoal 52 = .ok (.invokevirtual 211, 3) := dk_182 (by decide +kernel)
theorem dX5_setGoal_55 : decode cX5_setGoal 55 = .ok (.aload_n 0, 1) := dk_42 (by decide +kernel)
theorem dX5_setGoal_56 : decode cX5_setGoal 56 = .ok (.getfield 68, 3) := dk_180 (by decide +kernel)
theorem dX5_setGoal_59 : decode cX5_setGoal 59 = .ok (.lconst 0, 1) := dk_9 (by decide +kernel)
theorem dX5_setGoal_60 : decode cX5_setGoal 60 = .ok (.invokevirtual 184, 3) := dk_182 (by decide +kernel)
theorem dX5_setGoal_63 : decode cX5_setGoal 63 = .ok (.aload_n 0, 1) := dk_42 (by decide +kernel)
theorem dX5_setGoal_64 : decode cX5_setGoal 64 = .ok (.aload_n 0, 1) := dk_42 (by decide +kernel)
theorem dX5_setGoal_65 : decode cX5_setGoal 65 = .ok (.getfield 68, 3) := dk_180 (by decide +kernel)
theorem dX5_setGoal_68 : decode cX5_setGoal 68 = .ok (.aload_n 0, 1) := dk_42 (by decide +kernel)
theorem dX5_setGoal_69 : decode cX5_setGoal 69 = .ok (.getfield 71, 3) := dk_180 (by decide +kernel)
theorem dX5_setGoal_72 : decode cX5_setGoal 72 = .ok (.iconst 0, 1) := dk_3 (by decide +kernel)
theorem dX5_setGoal_73 : decode cX5_setGoal 73 = .ok (.aaload, 1) := dk_50 (by decide +kernel)
theorem dX5_setGoal_74 : decode cX5_setGoal 74 = .ok (.iload 5, 2) := dk_21 (by decide +kernel)
theorem dX5_setGoal_76 : decode cX5_setGoal 76 = .ok (.i2l, 1) := dk_133 (by decide +kernel)
theorem dX5_setGoal_77 : decode cX5_setGoal 77 = .ok (.invokevirtual 211, 3) := dk_182 (by decide +kernel)
theorem dX5_setGoal_80 : decode cX5_setGoal 80 = .ok (.aload_n 0, 1) := dk_42 (by decide +kernel)
theorem dX5_setGoal_81 : decode cX5_setGoal 81 = .ok (.getfield 65, 3) := dk_180 (by decide +kernel)
theorem dX5_setGoal_84 : decode cX5_setGoal 84 = .ok (.lconst 0, 1) := dk_9 (by decide +kernel)
theorem dX5_setGoal_85 : decode cX5_setGoal 85 = .ok (.invokevirtual 184, 3) := dk_182 (by decide +kernel)
theorem dX5_setGoal_88 : decode cX5_setGoal 88 = .ok (.aload_n 0, 1) := dk_42 (by decide +kernel)
theorem dX5_setGoal_89 : decode cX5_setGoal 89 = .ok (.aload_n 0, 1) := dk_42 (by decide +kernel)
theorem dX5_setGoal_90 : decode cX5_setGoal 90 = .ok (.getfield 65, 3) := dk_180 (by decide +kernel)
theorem dX5_setGoal_93 : decode cX5_setGoal 93 = .ok (.aload_n 2, 1) := dk_44 (by decide +kernel)
theorem dX5_setGoal_94 : decode cX5_setGoal 94 = .ok (.aload_n 0, 1) := dk_42 (by decide +kernel)
theorem dX5_setGoal_95 : decode cX5_setGoal 95 = .ok (.getfield 74, 3) := dk_180 (by decide +kernel)
theorem dX5_setGoal_98 : decode cX5_setGoal 98 = .ok (.getfield 127, 3) := dk_180 (by decide +kernel)
theorem dX5_setGoal_101 : decode cX5_setGoal 101 = .ok (.iload_n 1, 1) := dk_27 (by decide +kernel)
theorem dX5_setGoal_102 : decode cX5_setGoal 102 = .ok (.baload, 1) := dk_51 (by decide +kernel)
theorem dX5_setGoal_103 : decode cX5_setGoal 103 = .ok (.ifCond .eq 10, 3) := dk_153 (by decide +kernel)
theorem dX5_setGoal_106 : decode cX5_setGoal 106 = .ok (.iload 5, 2) := dk_21 (by decide +kernel)
theorem dX5_setGoal_108 : decode cX5_setGoal 108 = .ok (.ineg, 1) := dk_116 (by decide +kernel)
theorem dX5_setGoal_109 : decode cX5_setGoal 109 = .ok (.i2l, 1) := dk_133 (by decide +kernel)
theorem dX5_setGoal_110 : decode cX5_setGoal 110 = .ok (.goto 6, 3) := dk_167 (by decide +kernel)
theorem dX5_setGoal_113 : decode cX5_setGoal 113 = .ok (.iload 5, 2) := dk_21 (by decide +kernel)
theorem dX5_setGoal_115 : decode cX5_setGoal 115 = .ok (.i2l, 1) := dk_133 (by decide +kernel)
theorem dX5_setGoal_116 : decode cX5_setGoal 116 = .ok (.invokevirtual 211, 3) := dk_182 (by decide +kernel)
theorem dX5_setGoal_119 : decode cX5_setGoal 119 = .ok (.aload_n 0, 1) := dk_42 (by decide +kernel)
theorem dX5_setGoal_120 : decode cX5_setGoal 120 = .ok (.aload_n 0, 1) := dk_42 (by decide +kernel)
theorem dX5_setGoal_121 : decode cX5_setGoal 121 = .ok (.getfield 65, 3) := dk_180 (by decide +kernel)
theorem dX5_setGoal_124 : decode cX5_setGoal 124 = .ok (.aload_n 0, 1) := dk_42 (by decide +kernel)
theorem dX5_setGoal_125 : decode cX5_setGoal 125 = .ok (.getfield 71, 3) := dk_180 (by decide +kernel)
theorem dX5_setGoal_128 : decode cX5_setGoal 128 = .ok (.iconst 0, 1) := dk_3 (by decide +kernel)
theorem dX5_setGoal_129 : decode cX5_setGoal 129 = .ok (.aaload, 1) := dk_50 (by decide +kernel)
theorem dX5_setGoal_130 : decode cX5_setGoal 130 = .ok (.iload 4, 2) := dk_21 (by decide +kernel)
theorem dX5_setGoal_132 : decode cX5_setGoal 132 = .ok (.i2l, 1) := dk_133 (by decide +kernel)
theorem dX5_setGoal_133 : decode cX5_setGoal 133 = .ok (.invokevirtual 211, 3) := dk_182 (by decide +kernel)
theorem dX5_setGoal_136 : decode cX5_setGoal 136 = .ok (.return_, 1) := dk_177 (by decide +kernel)
def wsMX5_setGoal : List Cond := .code yX5_setGoal cX5_setGoal 6 none :: ([.fieldLink RX5 74 "OptimaWorks$Solver" "model" "LOptimaWorks$Model;", .fieldLink RX5 124 "OptimaWorks$Model" "goalOver" "[I", .fieldLink RX5 115 "OptimaWorks$Model" "goalUnder" "[I", .fieldLink RX5 71 "OptimaWorks$Solver" "spare" "[LOptimaWorks$Whole;", .fieldLink RX5 32 "OptimaWorks$Solver" "goalScale" "[J", .fieldLink RX5 68 "OptimaWorks$Solver" "bottom" "LOptimaWorks$Whole;", .fieldLink RX5 65 "OptimaWorks$Solver" "top" "LOptimaWorks$Whole;", .fieldLink RX5 127 "OptimaWorks$Model" "goalMax" "[Z"] ++ wsX10 ++ wsX50 ++ (wsV RX5 184 RX8 yX8_setLong wsMX8_setLong) ++ (wsV RX5 211 RX5 yX5_addTimes wsMX5_addTimes))
theorem iwsMX5_setGoal_in1 : ∀ w ∈ wsX10, w ∈ wsMX5_setGoal := fun _ h => List.mem_cons_of_mem _ (List.mem_append_left _ (List.mem_append_left _ (List.mem_append_left _ (List.mem_append_right _ h))))
theorem iwsMX5_setGoal_in5 : ∀ w ∈ wsX50, w ∈ wsMX5_setGoal := fun _ h => List.mem_cons_of_mem _ (List.mem_append_left _ (List.mem_append_left _ (List.mem_append_right _ h)))
theorem gwsMX5_setGoal_0 : GoodIn wsMX5_setGoal (wsV RX5 184 RX8 yX8_setLong wsMX8_setLong) := goodIn_sub (fun _ h => List.mem_cons_of_mem _ (List.mem_append_left _ (List.mem_append_right _ h))) (gdV (by decide +kernel) gdwsMX8_setLong)
theorem gwsMX5_setGoal_1 : GoodIn wsMX5_setGoal (wsV RX5 211 RX5 yX5_addTimes wsMX5_addTimes) := goodIn_sub (fun _ h => List.mem_cons_of_mem _ (List.mem_append_right _ h)) (gdV (by decide +kernel) gdwsMX5_addTimes)
theorem gdwsMX5_setGoal : wsMX5_setGoal.all goodWord = true := gdC rfl (gdA (gdA (gdA (gdA (by decide +kernel : ([.fieldLink RX5 74 "OptimaWorks$Solver" "model" "LOptimaWorks$Model;", .fieldLink RX5 124 "OptimaWorks$Model" "goalOver" "[I", .fieldLink RX5 115 "OptimaWorks$Model" "goalUnder" "[I", .fieldLink RX5 71 "OptimaWorks$Solver" "spare" "[LOptimaWorks$Whole;", .fieldLink RX5 32 "OptimaWorks$Solver" "goalScale" "[J", .fieldLink RX5 68 "OptimaWorks$Solver" "bottom" "LOptimaWorks$Whole;", .fieldLink RX5 65 "OptimaWorks$Solver" "top" "LOptimaWorks$Whole;", .fieldLink RX5 127 "OptimaWorks$Model" "goalMax" "[Z"] : List Cond).all goodWord = true) gdwsX10) gdwsX50) (gdV (by decide +kernel) gdwsMX8_setLong)) (gdV (by decide +kernel) gdwsMX5_addTimes))
theorem hm_m_X5_setGoal_0 : (.fieldLink RX5 74 "OptimaWorks$Solver" "model" "LOptimaWorks$Model;" : Cond) ∈ wsMX5_setGoal := by decide +kernel
theorem hm_m_X5_setGoal_1 : (.fieldLink RX5 71 "OptimaWorks$Solver" "spare" "[LOptimaWorks$Whole;" : Cond) ∈ wsMX5_setGoal := by decide +kernel
theorem hm_m_X5_setGoal_2 : (.fieldLink RX5 68 "OptimaWorks$Solver" "bottom" "LOptimaWorks$Whole;" : Cond) ∈ wsMX5_setGoal := by decide +kernel
theorem hm_m_X5_setGoal_3 : (.fieldLink RX5 65 "OptimaWorks$Solver" "top" "LOptimaWorks$Whole;" : Cond) ∈ wsMX5_setGoal := by decide +kernel
set_option maxHeartbeats 4000000 in
set_option maxRecDepth 100000 in
/-- a goal is told -/
theorem m_X5_setGoal (l : Launch) (dC : Nat → ClassId) (dI : Nat → Nat → Nat) (hO : Nat → Nat) (aO : Nat → Nat) (kO : Nat → ClassId) (hM : Nat → Nat) (hQ : Nat → Nat) (hw : Nat → Nat) (iO_answered : Int32) (iO_searched : Int32) (iO_searchedRelaxed : Int32) (iO_counted : Int32) (fO_countedCase : Nat → Int32) (gO_goalNumber : Nat → Int64) (gO_goalScale : Nat → Int64) (fO_start : Nat → Int32) (fO_column : Nat → Int32) (fO_chosen : Nat → Int32) (aM : Nat → Nat) (kM : Nat → ClassId) (iM_stands : Int32) (iM_variables : Int32) (iM_rows : Int32) (iM_goals : Int32) (iM_differents : Int32) (iM_cases : Int32) (fM_from : Nat → Int32) (fM_to : Nat → Int32) (fM_whole : Nat → Int32) (fM_ways : Nat → Int32) (iM_plainRows : Int32) (fM_plainRow : Nat → Int32) (fM_kept : Nat → Int32) (fM_goalOver : Nat → Int32) (fM_goalUnder : Nat → Int32) (fM_goalMax : Nat → Int32) (fM_different : Nat → Int32) (aQ : Nat → Nat) (kQ : Nat → ClassId) (fQ_inside : Nat → Int32) (fQ_outside : Nat → Int32) (fQ_shut : Nat → Int32) (iQ_rows : Int32) (iQ_allRows : Int32) (iQ_columns : Int32) (nW : Nat) (lw : Nat → Nat) (kw : ClassId) (wl : Nat → Int32) (wb : Nat → Int32) (wG : Nat → Nat → Int64) (ka : Nat) (kb : Nat) (p1 : Int32) (b_iO_answered : 0 ≤ iO_answered.toInt ∧ iO_answered.toInt ≤ 1) (b_iO_searched : 0 ≤ iO_searched.toInt ∧ iO_searched.toInt ≤ 1) (b_iO_searchedRelaxed : 0 ≤ iO_searchedRelaxed.toInt ∧ iO_searchedRelaxed.toInt ≤ 1) (b_iO_counted : (-1) ≤ iO_counted.toInt ∧ iO_counted.toInt ≤ 64) (b_fO_countedCase : ∀ q : Nat, 0 ≤ (fO_countedCase q).toInt ∧ (fO_countedCase q).toInt ≤ 200000) (b_fO_column : ∀ q : Nat, (-1) ≤ (fO_column q).toInt ∧ (fO_column q).toInt ≤ 8) (b_fO_chosen : ∀ q : Nat, 0 ≤ (fO_chosen q).toInt ∧ (fO_chosen q).toInt ≤ 2) (b_iM_stands : 0 ≤ iM_stands.toInt ∧ iM_stands.toInt ≤ 1) (b_iM_variables : 0 ≤ iM_variables.toInt ∧ iM_variables.toInt ≤ 8) (b_iM_rows : 0 ≤ iM_rows.toInt ∧ iM_rows.toInt ≤ 12) (b_iM_goals : 0 ≤ iM_goals.toInt ∧ iM_goals.toInt ≤ 3) (b_iM_differents : 0 ≤ iM_differents.toInt ∧ iM_differents.toInt ≤ 8) (b_iM_cases : 0 ≤ iM_cases.toInt ∧ iM_cases.toInt ≤ 200000) (b_fM_ways : ∀ q : Nat, 0 ≤ (fM_ways q).toInt ∧ (fM_ways q).toInt ≤ 3) (b_iM_plainRows : 0 ≤ iM_plainRows.toInt ∧ iM_plainRows.toInt ≤ 12) (b_fM_plainRow : ∀ q : Nat, 0 ≤ (fM_plainRow q).toInt ∧ (fM_plainRow q).toInt ≤ 11) (b_pr : iM_plainRows.toInt ≤ iM_rows.toInt) (b_iQ_rows : 0 ≤ iQ_rows.toInt ∧ iQ_rows.toInt ≤ 40) (b_iQ_allRows : 0 ≤ iQ_allRows.toInt ∧ iQ_allRows.toInt ≤ 40) (b_iQ_columns : 0 ≤ iQ_columns.toInt ∧ iQ_columns.toInt ≤ 40) (b_tb : TbO iQ_rows iQ_allRows iQ_columns) (b_wl : ∀ q : Nat, 0 ≤ (wl q).toInt ∧ (wl q).toInt ≤ 14) (b_wb : ∀ q : Nat, 0 ≤ (wb q).toInt ∧ (wb q).toInt ≤ 1) (b_p1 : 0 ≤ p1.toInt ∧ p1.toInt ≤ 2) (hnW : 432 ≤ nW) (hka : ka < nW) (hkb : kb < nW) (sz : Nat) : Met l yX5_setGoal wsMX5_setGoal ({ frames := 4, cells := 0, slots := 0, locals := 85 }) (va_Pc [.ref (hO 0), .int p1, .ref (hw ka), .ref (hw kb)] (fun U => U.heap.size = sz ∧ va_P (dC, dI) vwCl (WO hO aO kO hM hQ hw iO_answered iO_searched iO_searchedRelaxed iO_counted fO_countedCase gO_goalNumber gO_goalScale fO_start fO_column fO_chosen ++ (WM hM aM kM iM_stands iM_variables iM_rows iM_goals iM_differents iM_cases fM_from fM_to fM_whole fM_ways iM_plainRows fM_plainRow fM_kept fM_goalOver fM_goalUnder fM_goalMax fM_different ++ (WQ hQ aQ kQ hw fQ_inside fQ_outside fQ_shut iQ_rows iQ_allRows iQ_columns ++ (WW nW hw lw kw wl wb wG)))) U.heap ∧ va_K (dC, dI) vwCl (tO kO ++ (tM kM ++ (tQ kQ ++ (tW kw)))) U ∧ va_D (fun _ => True) (WO hO aO kO hM hQ hw iO_answered iO_searched iO_searchedRelaxed iO_counted fO_countedCase gO_goalNumber gO_goalScale fO_start fO_column fO_chosen ++ (WM hM aM kM iM_stands iM_variables iM_rows iM_goals iM_differents iM_cases fM_from fM_to fM_whole fM_ways iM_plainRows fM_plainRow fM_kept fM_goalOver fM_goalUnder fM_goalMax fM_different ++ (WQ hQ aQ kQ hw fQ_inside fQ_outside fQ_shut iQ_rows iQ_allRows iQ_columns ++ (WW nW hw lw kw wl wb wG)))))) (va_Qv (fun (u : (Nat → Int32) × (Nat → Int32) × (Nat → Nat → Int64)) => (∀ q : Nat, 0 ≤ ((u.1) q).toInt ∧ ((u.1) q).toInt ≤ 14) ∧ (∀ q : Nat, 0 ≤ ((u.2.1) q).toInt ∧ ((u.2.1) q).toInt ≤ 1)) (fun (u : (Nat → Int32) × (Nat → Int32) × (Nat → Nat → Int64)) t => va_P (dC, dI) vwCl (WO hO aO kO hM hQ hw iO_answered iO_searched iO_searchedRelaxed iO_counted fO_countedCase gO_goalNumber gO_goalScale fO_start fO_column fO_chosen ++ (WM hM aM kM iM_stands iM_variables iM_rows iM_goals iM_differents iM_cases fM_from fM_to fM_whole fM_ways iM_plainRows fM_plainRow fM_kept fM_goalOver fM_goalUnder fM_goalMax fM_different ++ (WQ hQ aQ kQ hw fQ_inside fQ_outside fQ_shut iQ_rows iQ_allRows iQ_columns ++ (WW nW hw lw kw (u.1) (u.2.1) (u.2.2))))) t.heap ∧ va_D (va_A (WO hO aO kO hM hQ hw iO_answered iO_searched iO_searchedRelaxed iO_counted fO_countedCase gO_goalNumber gO_goalScale fO_start fO_column fO_chosen ++ (WM hM aM kM iM_stands iM_variables iM_rows iM_goals iM_differents iM_cases fM_from fM_to fM_whole fM_ways iM_plainRows fM_plainRow fM_kept fM_goalOver fM_goalUnder fM_goalMax fM_different ++ (WQ hQ aQ kQ hw fQ_inside fQ_outside fQ_shut iQ_rows iQ_allRows iQ_columns ++ (WW nW hw lw kw wl wb wG)))) sz) (WO hO aO kO hM hQ hw iO_answered iO_searched iO_searchedRelaxed iO_counted fO_countedCase gO_goalNumber gO_goalScale fO_start fO_column fO_chosen ++ (WM hM aM kM iM_stands iM_variables iM_rows iM_goals iM_differents iM_cases fM_from fM_to fM_whole fM_ways iM_plainRows fM_plainRow fM_kept fM_goalOver fM_goalUnder fM_goalMax fM_different ++ (WQ hQ aQ kQ hw fQ_inside fQ_outside fQ_shut iQ_rows iQ_allRows iQ_columns ++ (WW nW hw lw kw (u.1) (u.2.1) (u.2.2)))))) (va_A (WO hO aO kO hM hQ hw iO_answered iO_searched iO_searchedRelaxed iO_counted fO_countedCase gO_goalNumber gO_goalScale fO_start fO_column fO_chosen ++ (WM hM aM kM iM_stands iM_variables iM_rows iM_goals iM_differents iM_cases fM_from fM_to fM_whole fM_ways iM_plainRows fM_plainRow fM_kept fM_goalOver fM_goalUnder fM_goalMax fM_different ++ (WQ hQ aQ kQ hw fQ_inside fQ_outside fQ_shut iQ_rows iQ_allRows iQ_columns ++ (WW nW hw lw kw wl wb wG)))) sz)) 0 0 (va_A (WO hO aO kO hM hQ hw iO_answered iO_searched iO_searchedRelaxed iO_counted fO_countedCase gO_goalNumber gO_goalScale fO_start fO_column fO_chosen ++ (WM hM aM kM iM_stands iM_variables iM_rows iM_goals iM_differents iM_cases fM_from fM_to fM_whole fM_ways iM_plainRows fM_plainRow fM_kept fM_goalOver fM_goalUnder fM_goalMax fM_different ++ (WQ hQ aQ kQ hw fQ_inside fQ_outside fQ_shut iQ_rows iQ_allRows iQ_columns ++ (WW nW hw lw kw wl wb wG)))) sz) := by
  refine Met.ofW (cc := cX5_setGoal) (maxL := 6) (ret := none) (by decide) rfl ?_
  intro p e s m args below meth c s₁ B hml hv
  obtain ⟨rfl, hsz, hP, hK, hD0⟩ := hv
  have hx := B.exec
  have hb := B.bytes
  have hr := B.returns
  have hts := atoms_spec (ws := wsMX5_setGoal) B.pre
  have hown : s.vm.findClass RX5 = some m.cls := findClass_of_methodNamed B.named
  have hlocks := B.notSynchronized
  subst hsz
  have hD := hD0.self (sz := s.heap.size)
  generalize hAe : va_A (WO hO aO kO hM hQ hw iO_answered iO_searched iO_searchedRelaxed iO_counted fO_countedCase gO_goalNumber gO_goalScale fO_start fO_column fO_chosen ++ (WM hM aM kM iM_stands iM_variables iM_rows iM_goals iM_differents iM_cases fM_from fM_to fM_whole fM_ways iM_plainRows fM_plainRow fM_kept fM_goalOver fM_goalUnder fM_goalMax fM_different ++ (WQ hQ aQ kQ hw fQ_inside fQ_outside fQ_shut iQ_rows iQ_allRows iQ_columns ++ (WW nW hw lw kw wl wb wG)))) s.heap.size = A at hD ⊢
  have hA : ∀ q : Nat, s.heap.size ≤ q → A q := fun q h => by rw [← hAe]; exact Or.inr h
  have hS : va_S A s.heap s.heap [] := va_S.rf
  have hl := lv_entry ([.ref (hO 0), .int p1, .ref (hw ka), .ref (hw kb)]) (n := 6) (Nat.le_of_ble_eq_true rfl)
  rw [lg_entry_eq]
  generalize (lg_sl ([.ref (hO 0), .int p1, .ref (hw ka), .ref (hw kb)]) ++ List.replicate (6 - (lg_sl ([.ref (hO 0), .int p1, .ref (hw ka), .ref (hw kb)])).length) Slot.unset).toArray = ls at hl ⊢
  have hl : lv_has ls 6 [(0, .ref (hO 0)), (1, .int p1), (2, .ref (hw ka)), (3, .ref (hw kb))] := hl
  refine lv_aload_n hx hb dX5_setGoal_0 rfl (lv_at hl 0 rfl) ?_
  refine va_get (D := (dC, dI)) (ci := 5) (v := .ref (hM 0)) (C := RX5) (T := TX5) (N := 19) hx hb hts iwsMX5_setGoal_in5 hown hK hP 0 rfl rfl 0 (by decide) (hts _ hm_m_X5_setGoal_0) (fun _ h9 => h9) rfl dX5_setGoal_1 ?_
  refine va_get (D := (dC, dI)) (ci := 1) (v := .ref (aM 6)) (C := RX1) (T := TX1) (N := 17) hx hb hts iwsMX5_setGoal_in1 hown hK hP 11 rfl rfl 13 (by decide) (hts (.fieldLink RX5 124 "OptimaWorks$Model" "goalOver" "[I") (by decide +kernel)) (fun _ h9 => h9) rfl dX5_setGoal_4 ?_
  refine lv_iload_n hx hb dX5_setGoal_7 rfl (lv_at hl 1 rfl) ?_
  refine lv_bipush (v := 9) hx hb dX5_setGoal_8 (by decide) ?_
  refine lv_imul hx hb dX5_setGoal_10 ?_
  refine lv_topi (fun y1 hy1 => ?_)
  obtain rfl : (iI (p1.toInt * 9)) = y1 := (hy1.trans (iI_mul2 (iI_of _) (by decide : (9 : Int32) = iI 9))).symm
  refine va_iald (cA := kM 6) (n := 27) (f := fM_goalOver) hx hb hK hP 18 16 rfl rfl (vp_iI (Int.le_trans (by decide) (Int.mul_le_mul_of_nonneg_right (b_p1.1) (by decide))) (Int.lt_of_le_of_lt (Int.mul_le_mul_of_nonneg_right (b_p1.2) (by decide)) (by decide)) (by decide)) dX5_setGoal_11 ?_
  refine lv_topi (fun v2 hv2 => ?_)
  clear hv2
  refine lv_istore hx hb dX5_setGoal_12 hl (by decide) rfl (fun ls (hl : lv_has ls _ ([(4, .int v2), (0, .ref (hO 0)), (1, .int p1), (2, .ref (hw ka)), (3, .ref (hw kb))])) => ?_)
  refine lv_aload_n hx hb dX5_setGoal_14 rfl (lv_at hl 1 rfl) ?_
  refine va_get (D := (dC, dI)) (ci := 5) (v := .ref (hM 0)) (C := RX5) (T := TX5) (N := 19) hx hb hts iwsMX5_setGoal_in5 hown hK hP 0 rfl rfl 0 (by decide) (hts _ hm_m_X5_setGoal_0) (fun _ h9 => h9) rfl dX5_setGoal_15 ?_
  refine va_get (D := (dC, dI)) (ci := 1) (v := .ref (aM 7)) (C := RX1) (T := TX1) (N := 17) hx hb hts iwsMX5_setGoal_in1 hown hK hP 11 rfl rfl 14 (by decide) (hts (.fieldLink RX5 115 "OptimaWorks$Model" "goalUnder" "[I") (by decide +kernel)) (fun _ h9 => h9) rfl dX5_setGoal_18 ?_
  refine lv_iload_n hx hb dX5_setGoal_21 rfl (lv_at hl 2 rfl) ?_
  refine lv_bipush (v := 9) hx hb dX5_setGoal_22 (by decide) ?_
  refine lv_imul hx hb dX5_setGoal_24 ?_
  refine lv_topi (fun y3 hy3 => ?_)
  obtain rfl : (iI (p1.toInt * 9)) = y3 := (hy3.trans (iI_mul2 (iI_of _) (by decide : (9 : Int32) = iI 9))).symm
  refine va_iald (cA := kM 7) (n := 27) (f := fM_goalUnder) hx hb hK hP 19 17 rfl rfl (vp_iI (Int.le_trans (by decide) (Int.mul_le_mul_of_nonneg_right (b_p1.1) (by decide))) (Int.lt_of_le_of_lt (Int.mul_le_mul_of_nonneg_right (b_p1.2) (by decide)) (by decide)) (by decide)) dX5_setGoal_25 ?_
  refine lv_topi (fun v4 hv4 => ?_)
  clear hv4
  refine lv_istore hx hb dX5_setGoal_26 hl (by decide) rfl (fun ls (hl : lv_has ls _ ([(5, .int v4), (4, .int v2), (0, .ref (hO 0)), (1, .int p1), (2, .ref (hw ka)), (3, .ref (hw kb))])) => ?_)
  refine lv_aload_n hx hb dX5_setGoal_28 rfl (lv_at hl 2 rfl) ?_
  refine va_get (D := (dC, dI)) (ci := 5) (v := .ref (aO 9)) (C := RX5) (T := TX5) (N := 19) hx hb hts iwsMX5_setGoal_in5 hown hK hP 0 rfl rfl 18 (by decide) (hts _ hm_m_X5_setGoal_1) (fun _ h9 => h9) rfl dX5_setGoal_29 ?_
  refine lv_iconst (v := 0) hx hb dX5_setGoal_32 (by decide) ?_
  refine va_aldq (cA := kO 9) (n := 4) (f := fun q => some (hw (428 + q))) hx hb hK hP 10 9 rfl rfl (show ¬ ((0 : Int32) < 0 ∨ 4 ≤ (0 : Int32).toNatClampNeg) by decide) dX5_setGoal_33 ?_
  obtain ⟨k5, hk5, b_k5⟩ : ∃ k9 : Nat, k9 = 428 + (0 : Int32).toNatClampNeg ∧ (428 ≤ k9 ∧ k9 < 432 ∧ (k9 : Int) = 428 + 0) := ⟨_, rfl, ald_k (x := (0 : Int32)) (o := 428) (n := 4) (by decide : (0 : Int32).toInt = 0) (by omega) (by omega)⟩
  refine W.eq (g2 := F0 m 34 ls [.ref (hw k5)]) (by rw [hk5]; rfl) ?_
  clear hk5
  refine lv_lconst (v := 0) hx hb dX5_setGoal_34 (by decide) ?_
  have p9 := cj_4_3 (WO hO aO kO hM hQ hw iO_answered iO_searched iO_searchedRelaxed iO_counted fO_countedCase gO_goalNumber gO_goalScale fO_start fO_column fO_chosen) (WM hM aM kM iM_stands iM_variables iM_rows iM_goals iM_differents iM_cases fM_from fM_to fM_whole fM_ways iM_plainRows fM_plainRow fM_kept fM_goalOver fM_goalUnder fM_goalMax fM_different) (WQ hQ aQ kQ hw fQ_inside fQ_outside fQ_shut iQ_rows iQ_allRows iQ_columns) (WW nW hw lw kw wl wb wG)
  have hPc := hP.mem (fun q h => p9.mem_iff.mpr (List.mem_append_left _ h))
  have hDc := (hD.perm p9).left
  have hKc : va_K (dC, dI) vwCl (tW kw) _ := hK.sub [24] rfl
  have hFc := freeG p9 hD hS hA
  refine va_callv (va_runV (As := [.long 0]) (rest := []) ⟨hx, hb, hml, hown, hts⟩ (m_X8_setLong l dC dI nW hw lw kw wl wb wG k5 0 b_wl b_wb (by first | with_reducible assumption | omega | (rw [iI_t (by omega) (by omega)]; omega) | decide | assumption) s.heap.size) (cwV 1 hts gwsMX5_setGoal_0 rfl rfl rfl hd_yX8_setLong_RX8 (by decide +kernel)) (fz_pre (va_recv hK hP (ci := 8) (q0 := 11 + (11 + (5 + (k5)))) rfl (apR rfl (apR rfl (apR rfl (WW_o (by omega)))))) hPc hKc hDc) rfl rfl hl.1 rfl (lv_room (Nat.le_of_ble_eq_true rfl)) dX5_setGoal_35 (by decide +kernel)) hS (fun q _ h => hFc q h) hFc (fun u t9_ H locs ht hvm hw9 hB9 hz1 hk1 hS => ?_)
  revert u hw9 hB9
  refine fz_p3 ?_
  intro wl_6 wb_6 wG_6 hw9 hB9
  try dsimp only at hw9 hB9
  revert hw9
  refine fz_a2 ?_
  intro b_wl_6 b_wb_6
  have p8 := cj_4_3 (WO hO aO kO hM hQ hw iO_answered iO_searched iO_searchedRelaxed iO_counted fO_countedCase gO_goalNumber gO_goalScale fO_start fO_column fO_chosen) (WM hM aM kM iM_stands iM_variables iM_rows iM_goals iM_differents iM_cases fM_from fM_to fM_whole fM_ways iM_plainRows fM_plainRow fM_kept fM_goalOver fM_goalUnder fM_goalMax fM_different) (WQ hQ aQ kQ hw fQ_inside fQ_outside fQ_shut iQ_rows iQ_allRows iQ_columns) (WW nW hw lw kw wl_6 wb_6 wG_6)
  obtain ⟨hP, hD⟩ := frameG p9 p8 hP hD hk1 hFc (fz_P ht hB9.1) hB9.2
  refine lv_aload_n hx hb dX5_setGoal_38 rfl (lv_at hl 2 rfl) ?_
  refine lv_aload_n hx hb dX5_setGoal_39 rfl (lv_at hl 2 rfl) ?_
  refine va_get (D := (dC, dI)) (ci := 5) (v := .ref (aO 9)) (C := RX5) (T := TX5) (N := 19) hx hb hts iwsMX5_setGoal_in5 hown hK hP 0 rfl rfl 18 (by decide) (hts _ hm_m_X5_setGoal_1) (fun _ h9 => h9) rfl dX5_setGoal_40 ?_
  refine lv_iconst (v := 0) hx hb dX5_setGoal_43 (by decide) ?_
  refine va_aldq (cA := kO 9) (n := 4) (f := fun q => some (hw (428 + q))) hx hb hK hP 10 9 rfl rfl (show ¬ ((0 : Int32) < 0 ∨ 4 ≤ (0 : Int32).toNatClampNeg) by decide) dX5_setGoal_44 ?_
  obtain ⟨k7, hk7, b_k7⟩ : ∃ k9 : Nat, k9 = 428 + (0 : Int32).toNatClampNeg ∧ (428 ≤ k9 ∧ k9 < 432 ∧ (k9 : Int) = 428 + 0) := ⟨_, rfl, ald_k (x := (0 : Int32)) (o := 428) (n := 4) (by decide : (0 : Int32).toInt = 0) (by omega) (by omega)⟩
  refine W.eq (g2 := F0 m 45 ls [.ref (hw k7), .ref (hO 0)]) (by rw [hk7]; rfl) ?_
  clear hk7
  refine lv_aload_n hx hb dX5_setGoal_45 rfl (lv_at hl 5 rfl) ?_
  refine lv_aload_n hx hb dX5_setGoal_46 rfl (lv_at hl 2 rfl) ?_
  refine va_get (D := (dC, dI)) (ci := 5) (v := .ref (aO 2)) (C := RX5) (T := TX5) (N := 19) hx hb hts iwsMX5_setGoal_in5 hown hK hP 0 rfl rfl 8 (by decide) (hts (.fieldLink RX5 32 "OptimaWorks$Solver" "goalScale" "[J") (by decide +kernel)) (fun _ h9 => h9) rfl dX5_setGoal_47 ?_
  refine lv_iload_n hx hb dX5_setGoal_50 rfl (lv_at hl 3 rfl) ?_
  refine va_lald (cA := kO 2) (n := 3) (f := gO_goalScale) hx hb hK hP 3 2 rfl rfl (vp_in_iff.mpr ⟨b_p1.1, (Int.lt_of_le_of_lt (b_p1.2) (by decide))⟩) dX5_setGoal_51 ?_
  refine lv_topl (fun v8 hv8 => ?_)
  clear hv8
  have hFc := allFree hD hS hA
  refine va_callv (va_runV (As := [.ref (hw k7), .ref (hw kb), .long v8]) (rest := []) ⟨hx, hb, hml, hown, hts⟩ (m_X5_addTimes l dC dI hO aO kO hM hQ hw iO_answered iO_searched iO_searchedRelaxed iO_counted fO_countedCase gO_goalNumber gO_goalScale fO_start fO_column fO_chosen aM kM iM_stands iM_variables iM_rows iM_goals iM_differents iM_cases fM_from fM_to fM_whole fM_ways iM_plainRows fM_plainRow fM_kept fM_goalOver fM_goalUnder fM_goalMax fM_different aQ kQ fQ_inside fQ_outside fQ_shut iQ_rows iQ_allRows iQ_columns nW lw kw wl_6 wb_6 wG_6 k7 kb v8 (b_iO_answered) (b_iO_searched) (b_iO_searchedRelaxed) (b_iO_counted) b_fO_countedCase b_fO_column b_fO_chosen (b_iM_stands) (b_iM_variables) (b_iM_rows) (b_iM_goals) (b_iM_differents) (b_iM_cases) b_fM_ways (b_iM_plainRows) b_fM_plainRow (by first | with_reducible assumption | omega | assumption) (b_iQ_rows) (b_iQ_allRows) (b_iQ_columns) (by first | with_reducible assumption | omega | assumption) b_wl_6 b_wb_6 (by omega) (by first | with_reducible assumption | omega | (rw [iI_t (by omega) (by omega)]; omega) | decide | assumption) (by first | with_reducible assumption | omega | (rw [iI_t (by omega) (by omega)]; omega) | decide | assumption) H.size) (cwV 3 hts gwsMX5_setGoal_1 rfl rfl rfl hd_yX5_addTimes_RX5 (by decide +kernel)) (fz_pre (va_recv hK hP (ci := 5) (q0 := 0) rfl rfl) hP hK hD) rfl rfl hl.1 rfl (lv_room (Nat.le_of_ble_eq_true rfl)) dX5_setGoal_52 (by decide +kernel)) hS (fun q _ h => hFc q h) hFc (fun u t9_ H locs ht hvm hw9 hB9 hz1 hk1 hS => ?_)
  revert u hw9 hB9
  refine fz_p3 ?_
  intro wl_9 wb_9 wG_9 hw9 hB9
  try dsimp only at hw9 hB9
  revert hw9
  refine fz_a2 ?_
  intro b_wl_9 b_wb_9
  have hP : va_P (dC, dI) vwCl (WO hO aO kO hM hQ hw iO_answered iO_searched iO_searchedRelaxed iO_counted fO_countedCase gO_goalNumber gO_goalScale fO_start fO_column fO_chosen ++ (WM hM aM kM iM_stands iM_variables iM_rows iM_goals iM_differents iM_cases fM_from fM_to fM_whole fM_ways iM_plainRows fM_plainRow fM_kept fM_goalOver fM_goalUnder fM_goalMax fM_different ++ (WQ hQ aQ kQ hw fQ_inside fQ_outside fQ_shut iQ_rows iQ_allRows iQ_columns ++ (WW nW hw lw kw wl_9 wb_9 wG_9)))) H := fz_P ht hB9.1
  have hD := fz_sd hP (hB9.2.weaken (fun _ q _ h => hFc q.1 h)) rfl
  refine lv_aload_n hx hb dX5_setGoal_55 rfl (lv_at hl 2 rfl) ?_
  refine va_get (D := (dC, dI)) (ci := 5) (v := .ref (hw 427)) (C := RX5) (T := TX5) (N := 19) hx hb hts iwsMX5_setGoal_in5 hown hK hP 0 rfl rfl 17 (by decide) (hts _ hm_m_X5_setGoal_2) (fun _ h9 => h9) rfl dX5_setGoal_56 ?_
  refine lv_lconst (v := 0) hx hb dX5_setGoal_59 (by decide) ?_
  have p9 := cj_4_3 (WO hO aO kO hM hQ hw iO_answered iO_searched iO_searchedRelaxed iO_counted fO_countedCase gO_goalNumber gO_goalScale fO_start fO_column fO_chosen) (WM hM aM kM iM_stands iM_variables iM_rows iM_goals iM_differents iM_cases fM_from fM_to fM_whole fM_ways iM_plainRows fM_plainRow fM_kept fM_goalOver fM_goalUnder fM_goalMax fM_different) (WQ hQ aQ kQ hw fQ_inside fQ_outside fQ_shut iQ_rows iQ_allRows iQ_columns) (WW nW hw lw kw wl_9 wb_9 wG_9)
  have hPc := hP.mem (fun q h => p9.mem_iff.mpr (List.mem_append_left _ h))
  have hDc := (hD.perm p9).left
  have hKc : va_K (dC, dI) vwCl (tW kw) _ := hK.sub [24] rfl
  have hFc := freeG p9 hD hS hA
  refine va_callv (va_runV (As := [.long 0]) (rest := []) ⟨hx, hb, hml, hown, hts⟩ (m_X8_setLong l dC dI nW hw lw kw wl_9 wb_9 wG_9 427 0 b_wl_9 b_wb_9 (by first | with_reducible assumption | omega | (rw [iI_t (by omega) (by omega)]; omega) | decide | assumption) H.size) (cwV 1 hts gwsMX5_setGoal_0 rfl rfl rfl hd_yX8_setLong_RX8 (by decide +kernel)) (fz_pre (va_recv hK hP (ci := 8) (q0 := 11 + (11 + (5 + (427)))) rfl (apR rfl (apR rfl (apR rfl (WW_o (by omega)))))) hPc hKc hDc) rfl rfl hl.1 rfl (lv_room (Nat.le_of_ble_eq_true rfl)) dX5_setGoal_60 (by decide +kernel)) hS (fun q _ h => hFc q h) hFc (fun u t9_ H locs ht hvm hw9 hB9 hz1 hk1 hS => ?_)
  revert u hw9 hB9
  refine fz_p3 ?_
  intro wl_10 wb_10 wG_10 hw9 hB9
  try dsimp only at hw9 hB9
  revert hw9
  refine fz_a2 ?_
  intro b_wl_10 b_wb_10
  have p8 := cj_4_3 (WO hO aO kO hM hQ hw iO_answered iO_searched iO_searchedRelaxed iO_counted fO_countedCase gO_goalNumber gO_goalScale fO_start fO_column fO_chosen) (WM hM aM kM iM_stands iM_variables iM_rows iM_goals iM_differents iM_cases fM_from fM_to fM_whole fM_ways iM_plainRows fM_plainRow fM_kept fM_goalOver fM_goalUnder fM_goalMax fM_different) (WQ hQ aQ kQ hw fQ_inside fQ_outside fQ_shut iQ_rows iQ_allRows iQ_columns) (WW nW hw lw kw wl_10 wb_10 wG_10)
  obtain ⟨hP, hD⟩ := frameG p9 p8 hP hD hk1 hFc (fz_P ht hB9.1) hB9.2
  refine lv_aload_n hx hb dX5_setGoal_63 rfl (lv_at hl 2 rfl) ?_
  refine lv_aload_n hx hb dX5_setGoal_64 rfl (lv_at hl 2 rfl) ?_
  refine va_get (D := (dC, dI)) (ci := 5) (v := .ref (hw 427)) (C := RX5) (T := TX5) (N := 19) hx hb hts iwsMX5_setGoal_in5 hown hK hP 0 rfl rfl 17 (by decide) (hts _ hm_m_X5_setGoal_2) (fun _ h9 => h9) rfl dX5_setGoal_65 ?_
  refine lv_aload_n hx hb dX5_setGoal_68 rfl (lv_at hl 2 rfl) ?_
  refine va_get (D := (dC, dI)) (ci := 5) (v := .ref (aO 9)) (C := RX5) (T := TX5) (N := 19) hx hb hts iwsMX5_setGoal_in5 hown hK hP 0 rfl rfl 18 (by decide) (hts _ hm_m_X5_setGoal_1) (fun _ h9 => h9) rfl dX5_setGoal_69 ?_
  refine lv_iconst (v := 0) hx hb dX5_setGoal_72 (by decide) ?_
  refine va_aldq (cA := kO 9) (n := 4) (f := fun q => some (hw (428 + q))) hx hb hK hP 10 9 rfl rfl (show ¬ ((0 : Int32) < 0 ∨ 4 ≤ (0 : Int32).toNatClampNeg) by decide) dX5_setGoal_73 ?_
  obtain ⟨k11, hk11, b_k11⟩ : ∃ k9 : Nat, k9 = 428 + (0 : Int32).toNatClampNeg ∧ (428 ≤ k9 ∧ k9 < 432 ∧ (k9 : Int) = 428 + 0) := ⟨_, rfl, ald_k (x := (0 : Int32)) (o := 428) (n := 4) (by decide : (0 : Int32).toInt = 0) (by omega) (by omega)⟩
  refine W.eq (g2 := F0 m 74 ls [.ref (hw k11), .ref (hw 427), .ref (hO 0)]) (by rw [hk11]; rfl) ?_
  clear hk11
  refine lv_iload hx hb dX5_setGoal_74 (lv_at hl 0 rfl) ?_
  refine lv_i2l hx hb dX5_setGoal_76 rfl ?_
  refine lv_topl (fun v12 hv12 => ?_)
  clear hv12
  have hFc := allFree hD hS hA
  refine va_callv (va_runV (As := [.ref (hw 427), .ref (hw k11), .long v12]) (rest := []) ⟨hx, hb, hml, hown, hts⟩ (m_X5_addTimes l dC dI hO aO kO hM hQ hw iO_answered iO_searched iO_searchedRelaxed iO_counted fO_countedCase gO_goalNumber gO_goalScale fO_start fO_column fO_chosen aM kM iM_stands iM_variables iM_rows iM_goals iM_differents iM_cases fM_from fM_to fM_whole fM_ways iM_plainRows fM_plainRow fM_kept fM_goalOver fM_goalUnder fM_goalMax fM_different aQ kQ fQ_inside fQ_outside fQ_shut iQ_rows iQ_allRows iQ_columns nW lw kw wl_10 wb_10 wG_10 427 k11 v12 (b_iO_answered) (b_iO_searched) (b_iO_searchedRelaxed) (b_iO_counted) b_fO_countedCase b_fO_column b_fO_chosen (b_iM_stands) (b_iM_variables) (b_iM_rows) (b_iM_goals) (b_iM_differents) (b_iM_cases) b_fM_ways (b_iM_plainRows) b_fM_plainRow (by first | with_reducible assumption | omega | assumption) (b_iQ_rows) (b_iQ_allRows) (b_iQ_columns) (by first | with_reducible assumption | omega | assumption) b_wl_10 b_wb_10 (by omega) (by first | with_reducible assumption | omega | (rw [iI_t (by omega) (by omega)]; omega) | decide | assumption) (by first | with_reducible assumption | omega | (rw [iI_t (by omega) (by omega)]; omega) | decide | assumption) H.size) (cwV 3 hts gwsMX5_setGoal_1 rfl rfl rfl hd_yX5_addTimes_RX5 (by decide +kernel)) (fz_pre (va_recv hK hP (ci := 5) (q0 := 0) rfl rfl) hP hK hD) rfl rfl hl.1 rfl (lv_room (Nat.le_of_ble_eq_true rfl)) dX5_setGoal_77 (by decide +kernel)) hS (fun q _ h => hFc q h) hFc (fun u t9_ H locs ht hvm hw9 hB9 hz1 hk1 hS => ?_)
  revert u hw9 hB9
  refine fz_p3 ?_
  intro wl_13 wb_13 wG_13 hw9 hB9
  try dsimp only at hw9 hB9
  revert hw9
  refine fz_a2 ?_
  intro b_wl_13 b_wb_13
  have hP : va_P (dC, dI) vwCl (WO hO aO kO hM hQ hw iO_answered iO_searched iO_searchedRelaxed iO_counted fO_countedCase gO_goalNumber gO_goalScale fO_start fO_column fO_chosen ++ (WM hM aM kM iM_stands iM_variables iM_rows iM_goals iM_differents iM_cases fM_from fM_to fM_whole fM_ways iM_plainRows fM_plainRow fM_kept fM_goalOver fM_goalUnder fM_goalMax fM_different ++ (WQ hQ aQ kQ hw fQ_inside fQ_outside fQ_shut iQ_rows iQ_allRows iQ_columns ++ (WW nW hw lw kw wl_13 wb_13 wG_13)))) H := fz_P ht hB9.1
  have hD := fz_sd hP (hB9.2.weaken (fun _ q _ h => hFc q.1 h)) rfl
  refine lv_aload_n hx hb dX5_setGoal_80 rfl (lv_at hl 2 rfl) ?_
  refine va_get (D := (dC, dI)) (ci := 5) (v := .ref (hw 426)) (C := RX5) (T := TX5) (N := 19) hx hb hts iwsMX5_setGoal_in5 hown hK hP 0 rfl rfl 16 (by decide) (hts _ hm_m_X5_setGoal_3) (fun _ h9 => h9) rfl dX5_setGoal_81 ?_
  refine lv_lconst (v := 0) hx hb dX5_setGoal_84 (by decide) ?_
  have p9 := cj_4_3 (WO hO aO kO hM hQ hw iO_answered iO_searched iO_searchedRelaxed iO_counted fO_countedCase gO_goalNumber gO_goalScale fO_start fO_column fO_chosen) (WM hM aM kM iM_stands iM_variables iM_rows iM_goals iM_differents iM_cases fM_from fM_to fM_whole fM_ways iM_plainRows fM_plainRow fM_kept fM_goalOver fM_goalUnder fM_goalMax fM_different) (WQ hQ aQ kQ hw fQ_inside fQ_outside fQ_shut iQ_rows iQ_allRows iQ_columns) (WW nW hw lw kw wl_13 wb_13 wG_13)
  have hPc := hP.mem (fun q h => p9.mem_iff.mpr (List.mem_append_left _ h))
  have hDc := (hD.perm p9).left
  have hKc : va_K (dC, dI) vwCl (tW kw) _ := hK.sub [24] rfl
  have hFc := freeG p9 hD hS hA
  refine va_callv (va_runV (As := [.long 0]) (rest := []) ⟨hx, hb, hml, hown, hts⟩ (m_X8_setLong l dC dI nW hw lw kw wl_13 wb_13 wG_13 426 0 b_wl_13 b_wb_13 (by first | with_reducible assumption | omega | (rw [iI_t (by omega) (by omega)]; omega) | decide | assumption) H.size) (cwV 1 hts gwsMX5_setGoal_0 rfl rfl rfl hd_yX8_setLong_RX8 (by decide +kernel)) (fz_pre (va_recv hK hP (ci := 8) (q0 := 11 + (11 + (5 + (426)))) rfl (apR rfl (apR rfl (apR rfl (WW_o (by omega)))))) hPc hKc hDc) rfl rfl hl.1 rfl (lv_room (Nat.le_of_ble_eq_true rfl)) dX5_setGoal_85 (by decide +kernel)) hS (fun q _ h => hFc q h) hFc (fun u t9_ H locs ht hvm hw9 hB9 hz1 hk1 hS => ?_)
  revert u hw9 hB9
  refine fz_p3 ?_
  intro wl_14 wb_14 wG_14 hw9 hB9
  try dsimp only at hw9 hB9
  revert hw9
  refine fz_a2 ?_
  intro b_wl_14 b_wb_14
  have p8 := cj_4_3 (WO hO aO kO hM hQ hw iO_answered iO_searched iO_searchedRelaxed iO_counted fO_countedCase gO_goalNumber gO_goalScale fO_start fO_column fO_chosen) (WM hM aM kM iM_stands iM_variables iM_rows iM_goals iM_differents iM_cases fM_from fM_to fM_whole fM_ways iM_plainRows fM_plainRow fM_kept fM_goalOver fM_goalUnder fM_goalMax fM_different) (WQ hQ aQ kQ hw fQ_inside fQ_outside fQ_shut iQ_rows iQ_allRows iQ_columns) (WW nW hw lw kw wl_14 wb_14 wG_14)
  obtain ⟨hP, hD⟩ := frameG p9 p8 hP hD hk1 hFc (fz_P ht hB9.1) hB9.2
  refine lv_aload_n hx hb dX5_setGoal_88 rfl (lv_at hl 2 rfl) ?_
  refine lv_aload_n hx hb dX5_setGoal_89 rfl (lv_at hl 2 rfl) ?_
  refine va_get (D := (dC, dI)) (ci := 5) (v := .ref (hw 426)) (C := RX5) (T := TX5) (N := 19) hx hb hts iwsMX5_setGoal_in5 hown hK hP 0 rfl rfl 16 (by decide) (hts _ hm_m_X5_setGoal_3) (fun _ h9 => h9) rfl dX5_setGoal_90 ?_
  refine lv_aload_n hx hb dX5_setGoal_93 rfl (lv_at hl 4 rfl) ?_
  refine lv_aload_n hx hb dX5_setGoal_94 rfl (lv_at hl 2 rfl) ?_
  refine va_get (D := (dC, dI)) (ci := 5) (v := .ref (hM 0)) (C := RX5) (T := TX5) (N := 19) hx hb hts iwsMX5_setGoal_in5 hown hK hP 0 rfl rfl 0 (by decide) (hts _ hm_m_X5_setGoal_0) (fun _ h9 => h9) rfl dX5_setGoal_95 ?_
  refine va_get (D := (dC, dI)) (ci := 1) (v := .ref (aM 8)) (C := RX1) (T := TX1) (N := 17) hx hb hts iwsMX5_setGoal_in1 hown hK hP 11 rfl rfl 15 (by decide) (hts (.fieldLink RX5 127 "OptimaWorks$Model" "goalMax" "[Z") (by decide +kernel)) (fun _ h9 => h9) rfl dX5_setGoal_98 ?_
  refine lv_iload_n hx hb dX5_setGoal_101 rfl (lv_at hl 3 rfl) ?_
  refine va_zald (cA := kM 8) (n := 3) (f := fM_goalMax) hx hb hK hP 20 18 rfl rfl (vp_in_iff.mpr ⟨b_p1.1, (Int.lt_of_le_of_lt (b_p1.2) (by decide))⟩) dX5_setGoal_102 ?_
  refine lv_topi (fun v15 hv15 => ?_)
  clear hv15
  refine W.cut (pc := 116) (fun H locs ls stk => ∃ (k0_j2 : Int64),  stk = [.long k0_j2, .ref (hw ka), .ref (hw 426), .ref (hO 0)] ∧ va_P (dC, dI) vwCl (WO hO aO kO hM hQ hw iO_answered iO_searched iO_searchedRelaxed iO_counted fO_countedCase gO_goalNumber gO_goalScale fO_start fO_column fO_chosen ++ (WM hM aM kM iM_stands iM_variables iM_rows iM_goals iM_differents iM_cases fM_from fM_to fM_whole fM_ways iM_plainRows fM_plainRow fM_kept fM_goalOver fM_goalUnder fM_goalMax fM_different ++ (WQ hQ aQ kQ hw fQ_inside fQ_outside fQ_shut iQ_rows iQ_allRows iQ_columns ++ (WW nW hw lw kw wl_14 wb_14 wG_14)))) H ∧ va_D A (WO hO aO kO hM hQ hw iO_answered iO_searched iO_searchedRelaxed iO_counted fO_countedCase gO_goalNumber gO_goalScale fO_start fO_column fO_chosen ++ (WM hM aM kM iM_stands iM_variables iM_rows iM_goals iM_differents iM_cases fM_from fM_to fM_whole fM_ways iM_plainRows fM_plainRow fM_kept fM_goalOver fM_goalUnder fM_goalMax fM_different ++ (WQ hQ aQ kQ hw fQ_inside fQ_outside fQ_shut iQ_rows iQ_allRows iQ_columns ++ (WW nW hw lw kw wl_14 wb_14 wG_14)))) ∧ va_S A s.heap H locs ∧ lv_has ls 6 [(5, .int v4), (4, .int v2), (0, .ref (hO 0)), (1, .int p1), (2, .ref (hw ka)), (3, .ref (hw kb))]) (fun join2 => ?_) ?_
  · refine lv_if_eq (tgt := 113) hx hb dX5_setGoal_103 (by decide) (fun c_103 => ?_) (fun c_103 => ?_)
    · have t_103 : v15.toInt = 0 := toI_eq c_103 rfl (by decide : (0 : Int32).toInt = 0)
      refine lv_iload hx hb dX5_setGoal_113 (lv_at hl 0 rfl) ?_
      refine lv_i2l hx hb dX5_setGoal_115 rfl ?_
      refine lv_topl (fun v19 hv19 => ?_)
      clear hv19
      have hl : lv_has _ _ ([(5, .int v4), (4, .int v2), (0, .ref (hO 0)), (1, .int p1), (2, .ref (hw ka)), (3, .ref (hw kb))]) := lv_sub hl [0, 1, 2, 3, 4, 5] rfl
      exact join2 _ _ _ _ ⟨v19, rfl, hP, hD, hS, hl⟩
    · have t_103 : ¬ v15.toInt = 0 := toI_neq c_103 rfl (by decide : (0 : Int32).toInt = 0)
      refine lv_iload hx hb dX5_setGoal_106 (lv_at hl 0 rfl) ?_
      refine lv_ineg hx hb dX5_setGoal_108 ?_
      refine lv_topi (fun y20 hy20 => ?_)
      obtain rfl : (iI (-v4.toInt)) = y20 := (hy20.trans (iI_neg2 (iI_of _))).symm
      refine lv_i2l hx hb dX5_setGoal_109 rfl ?_
      refine lv_topl (fun v21 hv21 => ?_)
      clear hv21
      refine lv_goto (tgt := 116) hx hb dX5_setGoal_110 (by decide) ?_
      have hl : lv_has _ _ ([(5, .int v4), (4, .int v2), (0, .ref (hO 0)), (1, .int p1), (2, .ref (hw ka)), (3, .ref (hw kb))]) := lv_sub hl [0, 1, 2, 3, 4, 5] rfl
      exact join2 _ _ _ _ ⟨v21, rfl, hP, hD, hS, hl⟩
  · rintro H locs ls stk ⟨k0_j2, rfl, hP, hD, hS, hl⟩
    have hFc := allFree hD hS hA
    refine va_callv (va_runV (As := [.ref (hw 426), .ref (hw ka), .long k0_j2]) (rest := []) ⟨hx, hb, hml, hown, hts⟩ (m_X5_addTimes l dC dI hO aO kO hM hQ hw iO_answered iO_searched iO_searchedRelaxed iO_counted fO_countedCase gO_goalNumber gO_goalScale fO_start fO_column fO_chosen aM kM iM_stands iM_variables iM_rows iM_goals iM_differents iM_cases fM_from fM_to fM_whole fM_ways iM_plainRows fM_plainRow fM_kept fM_goalOver fM_goalUnder fM_goalMax fM_different aQ kQ fQ_inside fQ_outside fQ_shut iQ_rows iQ_allRows iQ_columns nW lw kw wl_14 wb_14 wG_14 426 ka k0_j2 (b_iO_answered) (b_iO_searched) (b_iO_searchedRelaxed) (b_iO_counted) b_fO_countedCase b_fO_column b_fO_chosen (b_iM_stands) (b_iM_variables) (b_iM_rows) (b_iM_goals) (b_iM_differents) (b_iM_cases) b_fM_ways (b_iM_plainRows) b_fM_plainRow (by first | with_reducible assumption | omega | assumption) (b_iQ_rows) (b_iQ_allRows) (b_iQ_columns) (by first | with_reducible assumption | omega | assumption) b_wl_14 b_wb_14 (by omega) (by first | with_reducible assumption | omega | (rw [iI_t (by omega) (by omega)]; omega) | decide | assumption) (by first | with_reducible assumption | omega | (rw [iI_t (by omega) (by omega)]; omega) | decide | assumption) H.size) (cwV 3 hts gwsMX5_setGoal_1 rfl rfl rfl hd_yX5_addTimes_RX5 (by decide +kernel)) (fz_pre (va_recv hK hP (ci := 5) (q0 := 0) rfl rfl) hP hK hD) rfl rfl hl.1 rfl (lv_room (Nat.le_of_ble_eq_true rfl)) dX5_setGoal_116 (by decide +kernel)) hS (fun q _ h => hFc q h) hFc (fun u t9_ H locs ht hvm hw9 hB9 hz1 hk1 hS => ?_)
    revert u hw9 hB9
    refine fz_p3 ?_
    intro wl_22 wb_22 wG_22 hw9 hB9
    try dsimp only at hw9 hB9
    revert hw9
    refine fz_a2 ?_
    intro b_wl_22 b_wb_22
    have hP : va_P (dC, dI) vwCl (WO hO aO kO hM hQ hw iO_answered iO_searched iO_searchedRelaxed iO_counted fO_countedCase gO_goalNumber gO_goalScale fO_start fO_column fO_chosen ++ (WM hM aM kM iM_stands iM_variables iM_rows iM_goals iM_differents iM_cases fM_from fM_to fM_whole fM_ways iM_plainRows fM_plainRow fM_kept fM_goalOver fM_goalUnder fM_goalMax fM_different ++ (WQ hQ aQ kQ hw fQ_inside fQ_outside fQ_shut iQ_rows iQ_allRows iQ_columns ++ (WW nW hw lw kw wl_22 wb_22 wG_22)))) H := fz_P ht hB9.1
    have hD := fz_sd hP (hB9.2.weaken (fun _ q _ h => hFc q.1 h)) rfl
    refine lv_aload_n hx hb dX5_setGoal_119 rfl (lv_at hl 2 rfl) ?_
    refine lv_aload_n hx hb dX5_setGoal_120 rfl (lv_at hl 2 rfl) ?_
    refine va_get (D := (dC, dI)) (ci := 5) (v := .ref (hw 426)) (C := RX5) (T := TX5) (N := 19) hx hb hts iwsMX5_setGoal_in5 hown hK hP 0 rfl rfl 16 (by decide) (hts _ hm_m_X5_setGoal_3) (fun _ h9 => h9) rfl dX5_setGoal_121 ?_
    refine lv_aload_n hx hb dX5_setGoal_124 rfl (lv_at hl 2 rfl) ?_
    refine va_get (D := (dC, dI)) (ci := 5) (v := .ref (aO 9)) (C := RX5) (T := TX5) (N := 19) hx hb hts iwsMX5_setGoal_in5 hown hK hP 0 rfl rfl 18 (by decide) (hts _ hm_m_X5_setGoal_1) (fun _ h9 => h9) rfl dX5_setGoal_125 ?_
    refine lv_iconst (v := 0) hx hb dX5_setGoal_128 (by decide) ?_
    refine va_aldq (cA := kO 9) (n := 4) (f := fun q => some (hw (428 + q))) hx hb hK hP 10 9 rfl rfl (show ¬ ((0 : Int32) < 0 ∨ 4 ≤ (0 : Int32).toNatClampNeg) by decide) dX5_setGoal_129 ?_
    obtain ⟨k23, hk23, b_k23⟩ : ∃ k9 : Nat, k9 = 428 + (0 : Int32).toNatClampNeg ∧ (428 ≤ k9 ∧ k9 < 432 ∧ (k9 : Int) = 428 + 0) := ⟨_, rfl, ald_k (x := (0 : Int32)) (o := 428) (n := 4) (by decide : (0 : Int32).toInt = 0) (by omega) (by omega)⟩
    refine W.eq (g2 := F0 m 130 ls [.ref (hw k23), .ref (hw 426), .ref (hO 0)]) (by rw [hk23]; rfl) ?_
    clear hk23
    refine lv_iload hx hb dX5_setGoal_130 (lv_at hl 1 rfl) ?_
    refine lv_i2l hx hb dX5_setGoal_132 rfl ?_
    refine lv_topl (fun v24 hv24 => ?_)
    clear hv24
    have hFc := allFree hD hS hA
    refine va_callv (va_runV (As := [.ref (hw 426), .ref (hw k23), .long v24]) (rest := []) ⟨hx, hb, hml, hown, hts⟩ (m_X5_addTimes l dC dI hO aO kO hM hQ hw iO_answered iO_searched iO_searchedRelaxed iO_counted fO_countedCase gO_goalNumber gO_goalScale fO_start fO_column fO_chosen aM kM iM_stands iM_variables iM_rows iM_goals iM_differents iM_cases fM_from fM_to fM_whole fM_ways iM_plainRows fM_plainRow fM_kept fM_goalOver fM_goalUnder fM_goalMax fM_different aQ kQ fQ_inside fQ_outside fQ_shut iQ_rows iQ_allRows iQ_columns nW lw kw wl_22 wb_22 wG_22 426 k23 v24 (b_iO_answered) (b_iO_searched) (b_iO_searchedRelaxed) (b_iO_counted) b_fO_countedCase b_fO_column b_fO_chosen (b_iM_stands) (b_iM_variables) (b_iM_rows) (b_iM_goals) (b_iM_differents) (b_iM_cases) b_fM_ways (b_iM_plainRows) b_fM_plainRow (by first | with_reducible assumption | omega | assumption) (b_iQ_rows) (b_iQ_allRows) (b_iQ_columns) (by first | with_reducible assumption | omega | assumption) b_wl_22 b_wb_22 (by omega) (by first | with_reducible assumption | omega | (rw [iI_t (by omega) (by omega)]; omega) | decide | assumption) (by first | with_reducible assumption | omega | (rw [iI_t (by omega) (by omega)]; omega) | decide | assumption) H.size) (cwV 3 hts gwsMX5_setGoal_1 rfl rfl rfl hd_yX5_addTimes_RX5 (by decide +kernel)) (fz_pre (va_recv hK hP (ci := 5) (q0 := 0) rfl rfl) hP hK hD) rfl rfl hl.1 rfl (lv_room (Nat.le_of_ble_eq_true rfl)) dX5_setGoal_133 (by decide +kernel)) hS (fun q _ h => hFc q h) hFc (fun u t9_ H locs ht hvm hw9 hB9 hz1 hk1 hS => ?_)
    revert u hw9 hB9
    refine fz_p3 ?_
    intro wl_25 wb_25 wG_25 hw9 hB9
    try dsimp only at hw9 hB9
    revert hw9
    refine fz_a2 ?_
    intro b_wl_25 b_wb_25
    have hP : va_P (dC, dI) vwCl (WO hO aO kO hM hQ hw iO_answered iO_searched iO_searchedRelaxed iO_counted fO_countedCase gO_goalNumber gO_goalScale fO_start fO_column fO_chosen ++ (WM hM aM kM iM_stands iM_variables iM_rows iM_goals iM_differents iM_cases fM_from fM_to fM_whole fM_ways iM_plainRows fM_plainRow fM_kept fM_goalOver fM_goalUnder fM_goalMax fM_different ++ (WQ hQ aQ kQ hw fQ_inside fQ_outside fQ_shut iQ_rows iQ_allRows iQ_columns ++ (WW nW hw lw kw wl_25 wb_25 wG_25)))) H := fz_P ht hB9.1
    have hD := fz_sd hP (hB9.2.weaken (fun _ q _ h => hFc q.1 h)) rfl
    refine W.widen (k := 0) (n := 0) (by decide +kernel) (by decide +kernel) ?_
    exact W.vret hx hb hr (fun t9_ ht hW => ⟨⟨(wl_25, wb_25, wG_25), rfl, ⟨b_wl_25, b_wb_25⟩, by rw [ht]; exact hP, hD⟩, hS.F ht⟩) hS.2.2 dX5_setGoal_136
theorem dX5_tellGoal_0 : decode cX5_tellGoal 0 = .ok (.aload_n 0, 1) := dk_42 (by decide +kernel)
theorem dX5_tellGoal_1 : decode cX5_tellGoal 1 = .ok (.iload_n 1, 1) := dk_27 (by decide +kernel)
theorem dX5_tellGoal_2 : decode cX5_tellGoal 2 = .ok (.aload_n 0, 1) := dk_42 (by decide +kernel)
theorem dX5_tellGoal_3 : decode cX5_tellGoal 3 = .ok (.getfield 52, 3) := dk_180 (by decide +kernel)
theorem dX5_tellGoal_6 : decode cX5_tellGoal 6 = .ok (.iload_n 1, 1) := dk_27 (by decide +kernel)
theorem dX5_tellGoal_7 : decode cX5_tellGoal 7 = .ok (.aaload, 1) := dk_50 (by decide +kernel)
theorem dX5_tellGoal_8 : decode cX5_tellGoal 8 = .ok (.aload_n 0, 1) := dk_42 (by decide +kernel)
theorem dX5_tellGoal_9 : decode cX5_tellGoal 9 = .ok (.getfield 58, 3) := dk_180 (by decide +kernel)
theorem dX5_tellGoal_12 : decode cX5_tellGoal 12 = .ok (.invokevirtual 271, 3) := dk_182 (by decide +kernel)
theorem dX5_tellGoal_15 : decode cX5_tellGoal 15 = .ok (.return_, 1) := dk_177 (by decide +kernel)
def wsMX5_tellGoal : List Cond := .code yX5_tellGoal cX5_tellGoal 2 none :: ([.fieldLink RX5 52 "OptimaWorks$Solver" "answerGoal" "[LOptimaWorks$Whole;", .fieldLink RX5 58 "OptimaWorks$Solver" "answerUnder" "LOptimaWorks$Whole;"] ++ wsX50 ++ (wsV RX5 271 RX5 yX5_setGoal wsMX5_setGoal))
theorem iwsMX5_tellGoal_in5 : ∀ w ∈ wsX50, w ∈ wsMX5_tellGoal := fun _ h => List.mem_cons_of_mem _ (List.mem_append_left _ (List.mem_append_right _ h))
theorem gwsMX5_tellGoal_0 : GoodIn wsMX5_tellGoal (wsV RX5 271 RX5 yX5_setGoal wsMX5_setGoal) := goodIn_sub (fun _ h => List.mem_cons_of_mem _ (List.mem_append_right _ h)) (gdV (by decide +kernel) gdwsMX5_setGoal)
theorem gdwsMX5_tellGoal : wsMX5_tellGoal.all goodWord = true := gdC rfl (gdA (gdA (by decide +kernel : ([.fieldLink RX5 52 "OptimaWorks$Solver" "answerGoal" "[LOptimaWorks$Whole;", .fieldLink RX5 58 "OptimaWorks$Solver" "answerUnder" "LOptimaWorks$Whole;"] : List Cond).all goodWord = true) gdwsX50) (gdV (by decide +kernel) gdwsMX5_setGoal))
set_option maxHeartbeats 4000000 in
set_option maxRecDepth 100000 in
/-- a goal of the answer is told -/
theorem m_X5_tellGoal (l : Launch) (dC : Nat → ClassId) (dI : Nat → Nat → Nat) (hO : Nat → Nat) (aO : Nat → Nat) (kO : Nat → ClassId) (hM : Nat → Nat) (hQ : Nat → Nat) (hw : Nat → Nat) (iO_answered : Int32) (iO_searched : Int32) (iO_searchedRelaxed : Int32) (iO_counted : Int32) (fO_countedCase : Nat → Int32) (gO_goalNumber : Nat → Int64) (gO_goalScale : Nat → Int64) (fO_start : Nat → Int32) (fO_column : Nat → Int32) (fO_chosen : Nat → Int32) (aM : Nat → Nat) (kM : Nat → ClassId) (iM_stands : Int32) (iM_variables : Int32) (iM_rows : Int32) (iM_goals : Int32) (iM_differents : Int32) (iM_cases : Int32) (fM_from : Nat → Int32) (fM_to : Nat → Int32) (fM_whole : Nat → Int32) (fM_ways : Nat → Int32) (iM_plainRows : Int32) (fM_plainRow : Nat → Int32) (fM_kept : Nat → Int32) (fM_goalOver : Nat → Int32) (fM_goalUnder : Nat → Int32) (fM_goalMax : Nat → Int32) (fM_different : Nat → Int32) (aQ : Nat → Nat) (kQ : Nat → ClassId) (fQ_inside : Nat → Int32) (fQ_outside : Nat → Int32) (fQ_shut : Nat → Int32) (iQ_rows : Int32) (iQ_allRows : Int32) (iQ_columns : Int32) (nW : Nat) (lw : Nat → Nat) (kw : ClassId) (wl : Nat → Int32) (wb : Nat → Int32) (wG : Nat → Nat → Int64) (p1 : Int32) (b_iO_answered : 0 ≤ iO_answered.toInt ∧ iO_answered.toInt ≤ 1) (b_iO_searched : 0 ≤ iO_searched.toInt ∧ iO_searched.toInt ≤ 1) (b_iO_searchedRelaxed : 0 ≤ iO_searchedRelaxed.toInt ∧ iO_searchedRelaxed.toInt ≤ 1) (b_iO_counted : (-1) ≤ iO_counted.toInt ∧ iO_counted.toInt ≤ 64) (b_fO_countedCase : ∀ q : Nat, 0 ≤ (fO_countedCase q).toInt ∧ (fO_countedCase q).toInt ≤ 200000) (b_fO_column : ∀ q : Nat, (-1) ≤ (fO_column q).toInt ∧ (fO_column q).toInt ≤ 8) (b_fO_chosen : ∀ q : Nat, 0 ≤ (fO_chosen q).toInt ∧ (fO_chosen q).toInt ≤ 2) (b_iM_stands : 0 ≤ iM_stands.toInt ∧ iM_stands.toInt ≤ 1) (b_iM_variables : 0 ≤ iM_variables.toInt ∧ iM_variables.toInt ≤ 8) (b_iM_rows : 0 ≤ iM_rows.toInt ∧ iM_rows.toInt ≤ 12) (b_iM_goals : 0 ≤ iM_goals.toInt ∧ iM_goals.toInt ≤ 3) (b_iM_differents : 0 ≤ iM_differents.toInt ∧ iM_differents.toInt ≤ 8) (b_iM_cases : 0 ≤ iM_cases.toInt ∧ iM_cases.toInt ≤ 200000) (b_fM_ways : ∀ q : Nat, 0 ≤ (fM_ways q).toInt ∧ (fM_ways q).toInt ≤ 3) (b_iM_plainRows : 0 ≤ iM_plainRows.toInt ∧ iM_plainRows.toInt ≤ 12) (b_fM_plainRow : ∀ q : Nat, 0 ≤ (fM_plainRow q).toInt ∧ (fM_plainRow q).toInt ≤ 11) (b_pr : iM_plainRows.toInt ≤ iM_rows.toInt) (b_iQ_rows : 0 ≤ iQ_rows.toInt ∧ iQ_rows.toInt ≤ 40) (b_iQ_allRows : 0 ≤ iQ_allRows.toInt ∧ iQ_allRows.toInt ≤ 40) (b_iQ_columns : 0 ≤ iQ_columns.toInt ∧ iQ_columns.toInt ≤ 40) (b_tb : TbO iQ_rows iQ_allRows iQ_columns) (b_wl : ∀ q : Nat, 0 ≤ (wl q).toInt ∧ (wl q).toInt ≤ 14) (b_wb : ∀ q : Nat, 0 ≤ (wb q).toInt ∧ (wb q).toInt ≤ 1) (b_p1 : 0 ≤ p1.toInt ∧ p1.toInt ≤ 2) (hnW : 432 ≤ nW) (sz : Nat) : Met l yX5_tellGoal wsMX5_tellGoal ({ frames := 5, cells := 0, slots := 0, locals := 110 }) (va_Pc [.ref (hO 0), .int p1] (fun U => U.heap.size = sz ∧ va_P (dC, dI) vwCl (WO hO aO kO hM hQ hw iO_answered iO_searched iO_searchedRelaxed iO_counted fO_countedCase gO_goalNumber gO_goalScale fO_start fO_column fO_chosen ++ (WM hM aM kM iM_stands iM_variables iM_rows iM_goals iM_differents iM_cases fM_from fM_to fM_whole fM_ways iM_plainRows fM_plainRow fM_kept fM_goalOver fM_goalUnder fM_goalMax fM_different ++ (WQ hQ aQ kQ hw fQ_inside fQ_outside fQ_shut iQ_rows iQ_allRows iQ_columns ++ (WW nW hw lw kw wl wb wG)))) U.heap ∧ va_K (dC, dI) vwCl (tO kO ++ (tM kM ++ (tQ kQ ++ (tW kw)))) U ∧ va_D (fun _ => True) (WO hO aO kO hM hQ hw iO_answered iO_searched iO_searchedRelaxed iO_counted fO_countedCase gO_goalNumber gO_goalScale fO_start fO_column fO_chosen ++ (WM hM aM kM iM_stands iM_variables iM_rows iM_goals iM_differents iM_cases fM_from fM_to fM_whole fM_ways iM_plainRows fM_plainRow fM_kept fM_goalOver fM_goalUnder fM_goalMax fM_different ++ (WQ hQ aQ kQ hw fQ_inside fQ_outside fQ_shut iQ_rows iQ_allRows iQ_columns ++ (WW nW hw lw kw wl wb wG)))))) (va_Qv (fun (u : (Nat → Int32) × (Nat → Int32) × (Nat → Nat → Int64)) => (∀ q : Nat, 0 ≤ ((u.1) q).toInt ∧ ((u.1) q).toInt ≤ 14) ∧ (∀ q : Nat, 0 ≤ ((u.2.1) q).toInt ∧ ((u.2.1) q).toInt ≤ 1)) (fun (u : (Nat → Int32) × (Nat → Int32) × (Nat → Nat → Int64)) t => va_P (dC, dI) vwCl (WO hO aO kO hM hQ hw iO_answered iO_searched iO_searchedRelaxed iO_counted fO_countedCase gO_goalNumber gO_goalScale fO_start fO_column fO_chosen ++ (WM hM aM kM iM_stands iM_variables iM_rows iM_goals iM_differents iM_cases fM_from fM_to fM_whole fM_ways iM_plainRows fM_plainRow fM_kept fM_goalOver fM_goalUnder fM_goalMax fM_different ++ (WQ hQ aQ kQ hw fQ_inside fQ_outside fQ_shut iQ_rows iQ_allRows iQ_columns ++ (WW nW hw lw kw (u.1) (u.2.1) (u.2.2))))) t.heap ∧ va_D (va_A (WO hO aO kO hM hQ hw iO_answered iO_searched iO_searchedRelaxed iO_counted fO_countedCase gO_goalNumber gO_goalScale fO_start fO_column fO_chosen ++ (WM hM aM kM iM_stands iM_variables iM_rows iM_goals iM_differents iM_cases fM_from fM_to fM_whole fM_ways iM_plainRows fM_plainRow fM_kept fM_goalOver fM_goalUnder fM_goalMax fM_different ++ (WQ hQ aQ kQ hw fQ_inside fQ_outside fQ_shut iQ_rows iQ_allRows iQ_columns ++ (WW nW hw lw kw wl wb wG)))) sz) (WO hO aO kO hM hQ hw iO_answered iO_searched iO_searchedRelaxed iO_counted fO_countedCase gO_goalNumber gO_goalScale fO_start fO_column fO_chosen ++ (WM hM aM kM iM_stands iM_variables iM_rows iM_goals iM_differents iM_cases fM_from fM_to fM_whole fM_ways iM_plainRows fM_plainRow fM_kept fM_goalOver fM_goalUnder fM_goalMax fM_different ++ (WQ hQ aQ kQ hw fQ_inside fQ_outside fQ_shut iQ_rows iQ_allRows iQ_columns ++ (WW nW hw lw kw (u.1) (u.2.1) (u.2.2)))))) (va_A (WO hO aO kO hM hQ hw iO_answered iO_searched iO_searchedRelaxed iO_counted fO_countedCase gO_goalNumber gO_goalScale fO_start fO_column fO_chosen ++ (WM hM aM kM iM_stands iM_variables iM_rows iM_goals iM_differents iM_cases fM_from fM_to fM_whole fM_ways iM_plainRows fM_plainRow fM_kept fM_goalOver fM_goalUnder fM_goalMax fM_different ++ (WQ hQ aQ kQ hw fQ_inside fQ_outside fQ_shut iQ_rows iQ_allRows iQ_columns ++ (WW nW hw lw kw wl wb wG)))) sz)) 0 0 (va_A (WO hO aO kO hM hQ hw iO_answered iO_searched iO_searchedRelaxed iO_counted fO_countedCase gO_goalNumber gO_goalScale fO_start fO_column fO_chosen ++ (WM hM aM kM iM_stands iM_variables iM_rows iM_goals iM_differents iM_cases fM_from fM_to fM_whole fM_ways iM_plainRows fM_plainRow fM_kept fM_goalOver fM_goalUnder fM_goalMax fM_different ++ (WQ hQ aQ kQ hw fQ_inside fQ_outside fQ_shut iQ_rows iQ_allRows iQ_columns ++ (WW nW hw lw kw wl wb wG)))) sz) := by
  refine Met.ofW (cc := cX5_tellGoal) (maxL := 2) (ret := none) (by decide) rfl ?_
  intro p e s m args below meth c s₁ B hml hv
  obtain ⟨rfl, hsz, hP, hK, hD0⟩ := hv
  have hx := B.exec
  have hb := B.bytes
  have hr := B.returns
  have hts := atoms_spec (ws := wsMX5_tellGoal) B.pre
  have hown : s.vm.findClass RX5 = some m.cls := findClass_of_methodNamed B.named
  have hlocks := B.notSynchronized
  subst hsz
  have hD := hD0.self (sz := s.heap.size)
  generalize hAe : va_A (WO hO aO kO hM hQ hw iO_answered iO_searched iO_searchedRelaxed iO_counted fO_countedCase gO_goalNumber gO_goalScale fO_start fO_column fO_chosen ++ (WM hM aM kM iM_stands iM_variables iM_rows iM_goals iM_differents iM_cases fM_from fM_to fM_whole fM_ways iM_plainRows fM_plainRow fM_kept fM_goalOver fM_goalUnder fM_goalMax fM_different ++ (WQ hQ aQ kQ hw fQ_inside fQ_outside fQ_shut iQ_rows iQ_allRows iQ_columns ++ (WW nW hw lw kw wl wb wG)))) s.heap.size = A at hD ⊢
  have hA : ∀ q : Nat, s.heap.size ≤ q → A q := fun q h => by rw [← hAe]; exact Or.inr h
  have hS : va_S A s.heap s.heap [] := va_S.rf
  have hl := lv_entry ([.ref (hO 0), .int p1]) (n := 2) (Nat.le_of_ble_eq_true rfl)
  rw [lg_entry_eq]
  generalize (lg_sl ([.ref (hO 0), .int p1]) ++ List.replicate (2 - (lg_sl ([.ref (hO 0), .int p1])).length) Slot.unset).toArray = ls at hl ⊢
  have hl : lv_has ls 2 [(0, .ref (hO 0)), (1, .int p1)] := hl
  refine lv_aload_n hx hb dX5_tellGoal_0 rfl (lv_at hl 0 rfl) ?_
  refine lv_iload_n hx hb dX5_tellGoal_1 rfl (lv_at hl 1 rfl) ?_
  refine lv_aload_n hx hb dX5_tellGoal_2 rfl (lv_at hl 0 rfl) ?_
  refine va_get (D := (dC, dI)) (ci := 5) (v := .ref (aO 7)) (C := RX5) (T := TX5) (N := 19) hx hb hts iwsMX5_tellGoal_in5 hown hK hP 0 rfl rfl 13 (by decide) (hts (.fieldLink RX5 52 "OptimaWorks$Solver" "answerGoal" "[LOptimaWorks$Whole;") (by decide +kernel)) (fun _ h9 => h9) rfl dX5_tellGoal_3 ?_
  refine lv_iload_n hx hb dX5_tellGoal_6 rfl (lv_at hl 1 rfl) ?_
  refine va_aldq (cA := kO 7) (n := 3) (f := fun q => some (hw (414 + q))) hx hb hK hP 8 7 rfl rfl (vp_in_iff.mpr ⟨b_p1.1, (Int.lt_of_le_of_lt (b_p1.2) (by decide))⟩) dX5_tellGoal_7 ?_
  obtain ⟨k1, hk1, b_k1⟩ : ∃ k9 : Nat, k9 = 414 + (p1).toNatClampNeg ∧ (414 ≤ k9 ∧ k9 < 417 ∧ (k9 : Int) = 414 + p1.toInt) := ⟨_, rfl, ald_k (x := (p1)) (o := 414) (n := 3) rfl (by omega) (by omega)⟩
  refine W.eq (g2 := F0 m 8 ls [.ref (hw k1), .int p1, .ref (hO 0)]) (by rw [hk1]; rfl) ?_
  clear hk1
  refine lv_aload_n hx hb dX5_tellGoal_8 rfl (lv_at hl 0 rfl) ?_
  refine va_get (D := (dC, dI)) (ci := 5) (v := .ref (hw 417)) (C := RX5) (T := TX5) (N := 19) hx hb hts iwsMX5_tellGoal_in5 hown hK hP 0 rfl rfl 14 (by decide) (hts (.fieldLink RX5 58 "OptimaWorks$Solver" "answerUnder" "LOptimaWorks$Whole;") (by decide +kernel)) (fun _ h9 => h9) rfl dX5_tellGoal_9 ?_
  have hFc := allFree hD hS hA
  refine va_callv (va_runV (As := [.int p1, .ref (hw k1), .ref (hw 417)]) (rest := []) ⟨hx, hb, hml, hown, hts⟩ (m_X5_setGoal l dC dI hO aO kO hM hQ hw iO_answered iO_searched iO_searchedRelaxed iO_counted fO_countedCase gO_goalNumber gO_goalScale fO_start fO_column fO_chosen aM kM iM_stands iM_variables iM_rows iM_goals iM_differents iM_cases fM_from fM_to fM_whole fM_ways iM_plainRows fM_plainRow fM_kept fM_goalOver fM_goalUnder fM_goalMax fM_different aQ kQ fQ_inside fQ_outside fQ_shut iQ_rows iQ_allRows iQ_columns nW lw kw wl wb wG k1 417 p1 (b_iO_answered) (b_iO_searched) (b_iO_searchedRelaxed) (b_iO_counted) b_fO_countedCase b_fO_column b_fO_chosen (b_iM_stands) (b_iM_variables) (b_iM_rows) (b_iM_goals) (b_iM_differents) (b_iM_cases) b_fM_ways (b_iM_plainRows) b_fM_plainRow (by first | with_reducible assumption | omega | assumption) (b_iQ_rows) (b_iQ_allRows) (b_iQ_columns) (by first | with_reducible assumption | omega | assumption) b_wl b_wb (b_p1) (by omega) (by first | with_reducible assumption | omega | (rw [iI_t (by omega) (by omega)]; omega) | decide | assumption) (by first | with_reducible assumption | omega | (rw [iI_t (by omega) (by omega)]; omega) | decide | assumption) s.heap.size) (cwV 3 hts gwsMX5_tellGoal_0 rfl rfl rfl hd_yX5_setGoal_RX5 (by decide +kernel)) (fz_pre (va_recv hK hP (ci := 5) (q0 := 0) rfl rfl) hP hK hD) rfl rfl hl.1 rfl (lv_room (Nat.le_of_ble_eq_true rfl)) dX5_tellGoal_12 (by decide +kernel)) hS (fun q _ h => hFc q h) hFc (fun u t9_ H locs ht hvm hw9 hB9 hz1 hk1 hS => ?_)
  revert u hw9 hB9
  refine fz_p3 ?_
  intro wl_2 wb_2 wG_2 hw9 hB9
  try dsimp only at hw9 hB9
  revert hw9
  refine fz_a2 ?_
  intro b_wl_2 b_wb_2
  have hP : va_P (dC, dI) vwCl (WO hO aO kO hM hQ hw iO_answered iO_searched iO_searchedRelaxed iO_counted fO_countedCase gO_goalNumber gO_goalScale fO_start fO_column fO_chosen ++ (WM hM aM kM iM_stands iM_variables iM_rows iM_goals iM_differents iM_cases fM_from fM_to fM_whole fM_ways iM_plainRows fM_plainRow fM_kept fM_goalOver fM_goalUnder fM_goalMax fM_different ++ (WQ hQ aQ kQ hw fQ_inside fQ_outside fQ_shut iQ_rows iQ_allRows iQ_columns ++ (WW nW hw lw kw wl_2 wb_2 wG_2)))) H := fz_P ht hB9.1
  have hD := fz_sd hP (hB9.2.weaken (fun _ q _ h => hFc q.1 h)) rfl
  refine W.widen (k := 0) (n := 0) (by decide +kernel) (by decide +kernel) ?_
  exact W.vret hx hb hr (fun t9_ ht hW => ⟨⟨(wl_2, wb_2, wG_2), rfl, ⟨b_wl_2, b_wb_2⟩, by rw [ht]; exact hP, hD⟩, hS.F ht⟩) hS.2.2 dX5_tellGoal_15
theorem dX5_shortenTold_0 : decode cX5_shortenTold 0 = .ok (.aload_n 0, 1) := dk_42 (by decide +kernel)
theorem dX5_shortenTold_1 : decode cX5_shortenTold 1 = .ok (.getfield 71, 3) := dk_180 (by decide +kernel)
theorem dX5_shortenTold_4 : decode cX5_shortenTold 4 = .ok (.iconst 0, 1) := dk_3 (by decide +kernel)
theorem dX5_shortenTold_5 : decode cX5_shortenTold 5 = .ok (.aaload, 1) := dk_50 (by decide +kernel)
theorem dX5_shortenTold_6 : decode cX5_shortenTold 6 = .ok (.astore_n 1, 1) := dk_76 (by decide +kernel)
theorem dX5_shortenTold_7 : decode cX5_shortenTold 7 = .ok (.aload_n 0, 1) := dk_42 (by decide +kernel)
theorem dX5_shortenTold_8 : decode cX5_shortenTold 8 = .ok (.getfield 71, 3) := dk_180 (by decide +kernel)
theorem dX5_shortenTold_11 : decode cX5_shortenTold 11 = .ok (.iconst 1, 1) := dk_4 (by decide +kernel)
theorem dX5_shortenTold_12 : decode cX5_shortenTold 12 = .ok (.aaload, 1) := dk_50 (by decide +kernel)
theorem dX5_shortenTold_13 : decode cX5_shortenTold 13 = .ok (.astore_n 2, 1) := dk_77 (by decide +kernel)
theorem dX5_shortenTold_14 : decode cX5_shortenTold 14 = .ok (.aload_n 0, 1) := dk_42 (by decide +kernel)
theorem dX5_shortenTold_15 : decode cX5_shortenTold 15 = .ok (.getfield 71, 3) := dk_180 (by decide +kernel)
theorem dX5_shortenTold_18 : decode cX5_shortenTold 18 = .ok (.iconst 2, 1) := dk_5 (by decide +kernel)
theorem dX5_shortenTold_19 : decode cX5_shortenTold 19 = .ok (.aaload, 1) := dk_50 (by decide +kernel)
theorem dX5_shortenTold_20 : decode cX5_shortenTold 20 = .ok (.astore_n 3, 1) := dk_78 (by decide +kernel)
theorem dX5_shortenTold_21 : decode cX5_shortenTold 21 = .ok (.aload_n 1, 1) := dk_43 (by decide +kernel)
theorem dX5_shortenTold_22 : decode cX5_shortenTold 22 = .ok (.aload_n 0, 1) := dk_42 (by decide +kernel)
theorem dX5_shortenTold_23 : decode cX5_shortenTold 23 = .ok (.getfield 65, 3) := dk_180 (by decide +kernel)
theorem dX5_shortenTold_26 : decode cX5_shortenTold 26 = .ok (.invokevirtual 268, 3) := dk_182 (by decide +kernel)
theorem dX5_shortenTold_29 : decode cX5_shortenTold 29 = .ok (.aload_n 2, 1) := dk_44 (by decide +kernel)
theorem dX5_shortenTold_30 : decode cX5_shortenTold 30 = .ok (.aload_n 0, 1) := dk_42 (by decide +kernel)
theorem dX5_shortenTold_31 : decode cX5_shortenTold 31 = .ok (.getfield 68, 3) := dk_180 (by decide +kernel)
theorem dX5_shortenTold_34 : decode cX5_shortenTold 34 = .ok (.invokevirtual 268, 3) := dk_182 (by decide +kernel)
theorem dX5_shortenTold_37 : decode cX5_shortenTold 37 = .ok (.iconst 0, 1) := dk_3 (by decide +kernel)
theorem dX5_shortenTold_38 : decode cX5_shortenTold 38 = .ok (.istore 4, 2) := dk_54 (by decide +kernel)
theorem dX5_shortenTold_40 : decode cX5_shortenTold 40 = .ok (.iload 4, 2) := dk_21 (by decide +kernel)
theorem dX5_shortenTold_42 : decode cX5_shortenTold 42 = .ok (.sipush 1000, 3) := dk_17 (by decide +kernel)
theorem dX5_shortenTold_45 : decode cX5_shortenTold 45 = .ok (.if_icmp .ge 38, 3) := dk_162 (by decide +kernel)
theorem dX5_shortenTold_48 : decode cX5_shortenTold 48 = .ok (.aload_n 2, 1) := dk_44 (by decide +kernel)
theorem dX5_shortenTold_49 : decode cX5_shortenTold 49 = .ok (.getfield 275, 3) := dk_180 (by decide +kernel)
theorem dX5_shortenTold_52 : decode cX5_shortenTold 52 = .ok (.ifCond .eq 31, 3) := dk_153 (by decide +kernel)
theorem dX5_shortenTold_55 : decode cX5_shortenTold 55 = .ok (.aload_n 1, 1) := dk_43 (by decide +kernel)
theorem dX5_shortenTold_56 : decode cX5_shortenTold 56 = .ok (.aload_n 2, 1) := dk_44 (by decide +kernel)
theorem dX5_shortenTold_57 : decode cX5_shortenTold 57 = .ok (.aload_n 3, 1) := dk_45 (by decide +kernel)
theorem dX5_shortenTold_58 : decode cX5_shortenTold 58 = .ok (.aload_n 0, 1) := dk_42 (by decide +kernel)
theorem dX5_shortenTold_59 : decode cX5_shortenTold 59 = .ok (.getfield 71, 3) := dk_180 (by decide +kernel)
theorem dX5_shortenTold_62 : decode cX5_shortenTold 62 = .ok (.iconst 3, 1) := dk_6 (by decide +kernel)
theorem dX5_shortenTold_63 : decode cX5_shortenTold 63 = .ok (.aaload, 1) := dk_50 (by decide +kernel)
theorem dX5_shortenTold_64 : decode cX5_shortenTold 64 = .ok (.invokevirtual 278, 3) := dk_182 (by decide +kernel)
theorem dX5_shortenTold_67 : decode cX5_shortenTold 67 = .ok (.aload_n 1, 1) := dk_43 (by decide +kernel)
theorem dX5_shortenTold_68 : decode cX5_shortenTold 68 = .ok (.astore 5, 2) := dk_58 (by decide +kernel)
theorem dX5_shortenTold_70 : decode cX5_shortenTold 70 = .ok (.aload_n 2, 1) := dk_44 (by decide +kernel)
theorem dX5_shortenTold_71 : decode cX5_shortenTold 71 = .ok (.astore_n 1, 1) := dk_76 (by decide +kernel)
theorem dX5_shortenTold_72 : decode cX5_shortenTold 72 = .ok (.aload_n 3, 1) := dk_45 (by decide +kernel)
theorem dX5_shortenTold_73 : decode cX5_shortenTold 73 = .ok (.astore_n 2, 1) := dk_77 (by decide +kernel)
theorem dX5_shortenTold_74 : decode cX5_shortenTold 74 = .ok (.aload 5, 2) := dk_25 (by decide +kernel)
theorem dX5_shortenTold_76 : decode cX5_shortenTold 76 = .ok (.astore_n 3, 1) := dk_78 (by decide +kernel)
theorem dX5_shortenTold_77 : decode cX5_shortenTold 77 = .ok (.iinc 4 1, 3) := dk_132 (by decide +kernel)
theorem dX5_shortenTold_80 : decode cX5_shortenTold 80 = .ok (.goto (-40), 3) := dk_167 (by decide +kernel)
theorem dX5_shortenTold_83 : decode cX5_shortenTold 83 = .ok (.aload_n 1, 1) := dk_43 (by decide +kernel)
theorem dX5_shortenTold_84 : decode cX5_shortenTold 84 = .ok (.iconst 0, 1) := dk_3 (by decide +kernel)
theorem dX5_shortenTold_85 : decode cX5_shortenTold 85 = .ok (.putfield 282, 3) := dk_181 (by decide +kernel)
theorem dX5_shortenTold_88 : decode cX5_shortenTold 88 = .ok (.aload_n 1, 1) := dk_43 (by decide +kernel)
theorem dX5_shortenTold_89 : decode cX5_shortenTold 89 = .ok (.invokevirtual 285, 3) := dk_182 (by decide +kernel)
theorem dX5_shortenTold_92 : decode cX5_shortenTold 92 = .ok (.ifCond .ne 33, 3) := dk_154 (by decide +kernel)
theorem dX5_shortenTold_95 : decode cX5_shortenTold 95 = .ok (.aload_n 0, 1) := dk_42 (by decide +kernel)
theorem dX5_shortenTold_96 : decode cX5_shortenTold 96 = .ok (.getfield 65, 3) := dk_180 (by decide +kernel)
theorem dX5_shortenTold_99 : decode cX5_shortenTold 99 = .ok (.aload_n 1, 1) := dk_43 (by decide +kernel)
theorem dX5_shortenTold_100 : decode cX5_shortenTold 100 = .ok (.aload_n 3, 1) := dk_45 (by decide +kernel)
theorem dX5_shortenTold_101 : decode cX5_shortenTold 101 = .ok (.aload_n 0, 1) := dk_42 (by decide +kernel)
theorem dX5_shortenTold_102 : decode cX5_shortenTold 102 = .ok (.getfield 71, 3) := dk_180 (by decide +kernel)
theorem dX5_shortenTold_105 : decode cX5_shortenTold 105 = .ok (.iconst 3, 1) := dk_6 (by decide +kernel)
theorem dX5_shortenTold_106 : decode cX5_shortenTold 106 = .ok (.aaload, 1) := dk_50 (by decide +kernel)
theorem dX5_shortenTold_107 : decode cX5_shortenTold 107 = .ok (.invokevirtual 278, 3) := dk_182 (by decide +kernel)
theorem dX5_shortenTold_110 : decode cX5_shortenTold 110 = .ok (.aload_n 0, 1) := dk_42 (by decide +kernel)
theorem dX5_shortenTold_111 : decode cX5_shortenTold 111 = .ok (.getfield 68, 3) := dk_180 (by decide +kernel)
theorem dX5_shortenTold_114 : decode cX5_shortenTold 114 = .ok (.aload_n 1, 1) := dk_43 (by decide +kernel)
theorem dX5_shortenTold_115 : decode cX5_shortenTold 115 = .ok (.aload_n 3, 1) := dk_45 (by decide +kernel)
theorem dX5_shortenTold_116 : decode cX5_shortenTold 116 = .ok (.aload_n 0, 1) := dk_42 (by decide +kernel)
theorem dX5_shortenTold_117 : decode cX5_shortenTold 117 = .ok (.getfield 71, 3) := dk_180 (by decide +kernel)
theorem dX5_shortenTold_120 : decode cX5_shortenTold 120 = .ok (.iconst 3, 1) := dk_6 (by decide +kernel)
theorem dX5_shortenTold_121 : decode cX5_shortenTold 121 = .ok (.aaload, 1) := dk_50 (by decide +kernel)
theorem dX5_shortenTold_122 : decode cX5_shortenTold 122 = .ok (.invokevirtual 278, 3) := dk_182 (by decide +kernel)
theorem dX5_shortenTold_125 : decode cX5_shortenTold 125 = .ok (.return_, 1) := dk_177 (by decide +kernel)
def wsMX5_shortenTold : List Cond := .code yX5_shortenTold cX5_shortenTold 6 none :: ([.fieldLink RX5 71 "OptimaWorks$Solver" "spare" "[LOptimaWorks$Whole;", .fieldLink RX5 65 "OptimaWorks$Solver" "top" "LOptimaWorks$Whole;", .fieldLink RX5 68 "OptimaWorks$Solver" "bottom" "LOptimaWorks$Whole;", .fieldLink RX5 275 "OptimaWorks$Whole" "length" "I", .fieldLink RX5 282 "OptimaWorks$Whole" "below" "Z"] ++ wsX50 ++ wsX80 ++ (wsV RX5 268 RX8 yX8_copy wsMX8_copy) ++ (wsV RX5 278 RX8 yX8_divide wsMX8_divide) ++ (wsV RX5 285 RX8 yX8_isOne wsMX8_isOne))
theorem iwsMX5_shortenTold_in5 : ∀ w ∈ wsX50, w ∈ wsMX5_shortenTold := fun _ h => List.mem_cons_of_mem _ (List.mem_append_left _ (List.mem_append_left _ (List.mem_append_left _ (List.mem_append_left _ (List.mem_append_right _ h)))))
theorem iwsMX5_shortenTold_in8 : ∀ w ∈ wsX80, w ∈ wsMX5_shortenTold := fun _ h => List.mem_cons_of_mem _ (List.mem_append_left _ (List.mem_append_left _ (List.mem_append_left _ (List.mem_append_right _ h))))
theorem gwsMX5_shortenTold_0 : GoodIn wsMX5_shortenTold (wsV RX5 268 RX8 yX8_copy wsMX8_copy) := goodIn_sub (fun _ h => List.mem_cons_of_mem _ (List.mem_append_left _ (List.mem_append_left _ (List.mem_append_right _ h)))) (gdV (by decide +kernel) gdwsMX8_copy)
theorem gwsMX5_shortenTold_1 : GoodIn wsMX5_shortenTold (wsV RX5 278 RX8 yX8_divide wsMX8_divide) := goodIn_sub (fun _ h => List.mem_cons_of_mem _ (List.mem_append_left _ (List.mem_append_right _ h))) (gdV (by decide +kernel) gdwsMX8_divide)
theorem gwsMX5_shortenTold_2 : GoodIn wsMX5_shortenTold (wsV RX5 285 RX8 yX8_isOne wsMX8_isOne) := goodIn_sub (fun _ h => List.mem_cons_of_mem _ (List.mem_append_right _ h)) (gdV (by decide +kernel) gdwsMX8_isOne)
theorem gdwsMX5_shortenTold : wsMX5_shortenTold.all goodWord = true := gdC rfl (gdA (gdA (gdA (gdA (gdA (by decide +kernel : ([.fieldLink RX5 71 "OptimaWorks$Solver" "spare" "[LOptimaWorks$Whole;", .fieldLink RX5 65 "OptimaWorks$Solver" "top" "LOptimaWorks$Whole;", .fieldLink RX5 68 "OptimaWorks$Solver" "bottom" "LOptimaWorks$Whole;", .fieldLink RX5 275 "OptimaWorks$Whole" "length" "I", .fieldLink RX5 282 "OptimaWorks$Whole" "below" "Z"] : List Cond).all goodWord = true) gdwsX50) gdwsX80) (gdV (by decide +kernel) gdwsMX8_copy)) (gdV (by decide +kernel) gdwsMX8_divide)) (gdV (by decide +kernel) gdwsMX8_isOne))
theorem hm_m_X5_shortenTold_0 : (.fieldLink RX5 71 "OptimaWorks$Solver" "spare" "[LOptimaWorks$Whole;" : Cond) ∈ wsMX5_shortenTold := by decide +kernel
theorem hm_m_X5_shortenTold_1 : (.fieldLink RX5 65 "OptimaWorks$Solver" "top" "LOptimaWorks$Whole;" : Cond) ∈ wsMX5_shortenTold := by decide +kernel
theorem hm_m_X5_shortenTold_2 : (.fieldLink RX5 68 "OptimaWorks$Solver" "bottom" "LOptimaWorks$Whole;" : Cond) ∈ wsMX5_shortenTold := by decide +kernel
set_option maxHeartbeats 4000000 in
set_option maxRecDepth 100000 in
/-- shortened -/
theorem m_X5_shortenTold (l : Launch) (dC : Nat → ClassId) (dI : Nat → Nat → Nat) (hO : Nat → Nat) (aO : Nat → Nat) (kO : Nat → ClassId) (hM : Nat → Nat) (hQ : Nat → Nat) (hw : Nat → Nat) (iO_answered : Int32) (iO_searched : Int32) (iO_searchedRelaxed : Int32) (iO_counted : Int32) (fO_countedCase : Nat → Int32) (gO_goalNumber : Nat → Int64) (gO_goalScale : Nat → Int64) (fO_start : Nat → Int32) (fO_column : Nat → Int32) (fO_chosen : Nat → Int32) (aM : Nat → Nat) (kM : Nat → ClassId) (iM_stands : Int32) (iM_variables : Int32) (iM_rows : Int32) (iM_goals : Int32) (iM_differents : Int32) (iM_cases : Int32) (fM_from : Nat → Int32) (fM_to : Nat → Int32) (fM_whole : Nat → Int32) (fM_ways : Nat → Int32) (iM_plainRows : Int32) (fM_plainRow : Nat → Int32) (fM_kept : Nat → Int32) (fM_goalOver : Nat → Int32) (fM_goalUnder : Nat → Int32) (fM_goalMax : Nat → Int32) (fM_different : Nat → Int32) (aQ : Nat → Nat) (kQ : Nat → ClassId) (fQ_inside : Nat → Int32) (fQ_outside : Nat → Int32) (fQ_shut : Nat → Int32) (iQ_rows : Int32) (iQ_allRows : Int32) (iQ_columns : Int32) (nW : Nat) (lw : Nat → Nat) (kw : ClassId) (wl : Nat → Int32) (wb : Nat → Int32) (wG : Nat → Nat → Int64) (b_iO_answered : 0 ≤ iO_answered.toInt ∧ iO_answered.toInt ≤ 1) (b_iO_searched : 0 ≤ iO_searched.toInt ∧ iO_searched.toInt ≤ 1) (b_iO_searchedRelaxed : 0 ≤ iO_searchedRelaxed.toInt ∧ iO_searchedRelaxed.toInt ≤ 1) (b_iO_counted : (-1) ≤ iO_counted.toInt ∧ iO_counted.toInt ≤ 64) (b_fO_countedCase : ∀ q : Nat, 0 ≤ (fO_countedCase q).toInt ∧ (fO_countedCase q).toInt ≤ 200000) (b_fO_column : ∀ q : Nat, (-1) ≤ (fO_column q).toInt ∧ (fO_column q).toInt ≤ 8) (b_fO_chosen : ∀ q : Nat, 0 ≤ (fO_chosen q).toInt ∧ (fO_chosen q).toInt ≤ 2) (b_iM_stands : 0 ≤ iM_stands.toInt ∧ iM_stands.toInt ≤ 1) (b_iM_variables : 0 ≤ iM_variables.toInt ∧ iM_variables.toInt ≤ 8) (b_iM_rows : 0 ≤ iM_rows.toInt ∧ iM_rows.toInt ≤ 12) (b_iM_goals : 0 ≤ iM_goals.toInt ∧ iM_goals.toInt ≤ 3) (b_iM_differents : 0 ≤ iM_differents.toInt ∧ iM_differents.toInt ≤ 8) (b_iM_cases : 0 ≤ iM_cases.toInt ∧ iM_cases.toInt ≤ 200000) (b_fM_ways : ∀ q : Nat, 0 ≤ (fM_ways q).toInt ∧ (fM_ways q).toInt ≤ 3) (b_iM_plainRows : 0 ≤ iM_plainRows.toInt ∧ iM_plainRows.toInt ≤ 12) (b_fM_plainRow : ∀ q : Nat, 0 ≤ (fM_plainRow q).toInt ∧ (fM_plainRow q).toInt ≤ 11) (b_pr : iM_plainRows.toInt ≤ iM_rows.toInt) (b_iQ_rows : 0 ≤ iQ_rows.toInt ∧ iQ_rows.toInt ≤ 40) (b_iQ_allRows : 0 ≤ iQ_allRows.toInt ∧ iQ_allRows.toInt ≤ 40) (b_iQ_columns : 0 ≤ iQ_columns.toInt ∧ iQ_columns.toInt ≤ 40) (b_tb : TbO iQ_rows iQ_allRows iQ_columns) (b_wl : ∀ q : Nat, 0 ≤ (wl q).toInt ∧ (wl q).toInt ≤ 14) (b_wb : ∀ q : Nat, 0 ≤ (wb q).toInt ∧ (wb q).toInt ≤ 1) (hnW : 432 ≤ nW) (sz : Nat) : Met l yX5_shortenTold wsMX5_shortenTold ({ frames := 3, cells := 0, slots := 0, locals := 68 }) (va_Pc [.ref (hO 0)] (fun U => U.heap.size = sz ∧ va_P (dC, dI) vwCl (WO hO aO kO hM hQ hw iO_answered iO_searched iO_searchedRelaxed iO_counted fO_countedCase gO_goalNumber gO_goalScale fO_start fO_column fO_chosen ++ (WM hM aM kM iM_stands iM_variables iM_rows iM_goals iM_differents iM_cases fM_from fM_to fM_whole fM_ways iM_plainRows fM_plainRow fM_kept fM_goalOver fM_goalUnder fM_goalMax fM_different ++ (WQ hQ aQ kQ hw fQ_inside fQ_outside fQ_shut iQ_rows iQ_allRows iQ_columns ++ (WW nW hw lw kw wl wb wG)))) U.heap ∧ va_K (dC, dI) vwCl (tO kO ++ (tM kM ++ (tQ kQ ++ (tW kw)))) U ∧ va_D (fun _ => True) (WO hO aO kO hM hQ hw iO_answered iO_searched iO_searchedRelaxed iO_counted fO_countedCase gO_goalNumber gO_goalScale fO_start fO_column fO_chosen ++ (WM hM aM kM iM_stands iM_variables iM_rows iM_goals iM_differents iM_cases fM_from fM_to fM_whole fM_ways iM_plainRows fM_plainRow fM_kept fM_goalOver fM_goalUnder fM_goalMax fM_different ++ (WQ hQ aQ kQ hw fQ_inside fQ_outside fQ_shut iQ_rows iQ_allRows iQ_columns ++ (WW nW hw lw kw wl wb wG)))))) (va_Qv (fun (u : (Nat → Int32) × (Nat → Int32) × (Nat → Nat → Int64)) => (∀ q : Nat, 0 ≤ ((u.1) q).toInt ∧ ((u.1) q).toInt ≤ 14) ∧ (∀ q : Nat, 0 ≤ ((u.2.1) q).toInt ∧ ((u.2.1) q).toInt ≤ 1)) (fun (u : (Nat → Int32) × (Nat → Int32) × (Nat → Nat → Int64)) t => va_P (dC, dI) vwCl (WO hO aO kO hM hQ hw iO_answered iO_searched iO_searchedRelaxed iO_counted fO_countedCase gO_goalNumber gO_goalScale fO_start fO_column fO_chosen ++ (WM hM aM kM iM_stands iM_variables iM_rows iM_goals iM_differents iM_cases fM_from fM_to fM_whole fM_ways iM_plainRows fM_plainRow fM_kept fM_goalOver fM_goalUnder fM_goalMax fM_different ++ (WQ hQ aQ kQ hw fQ_inside fQ_outside fQ_shut iQ_rows iQ_allRows iQ_columns ++ (WW nW hw lw kw (u.1) (u.2.1) (u.2.2))))) t.heap ∧ va_D (va_A (WO hO aO kO hM hQ hw iO_answered iO_searched iO_searchedRelaxed iO_counted fO_countedCase gO_goalNumber gO_goalScale fO_start fO_column fO_chosen ++ (WM hM aM kM iM_stands iM_variables iM_rows iM_goals iM_differents iM_cases fM_from fM_to fM_whole fM_ways iM_plainRows fM_plainRow fM_kept fM_goalOver fM_goalUnder fM_goalMax fM_different ++ (WQ hQ aQ kQ hw fQ_inside fQ_outside fQ_shut iQ_rows iQ_allRows iQ_columns ++ (WW nW hw lw kw wl wb wG)))) sz) (WO hO aO kO hM hQ hw iO_answered iO_searched iO_searchedRelaxed iO_counted fO_countedCase gO_goalNumber gO_goalScale fO_start fO_column fO_chosen ++ (WM hM aM kM iM_stands iM_variables iM_rows iM_goals iM_differents iM_cases fM_from fM_to fM_whole fM_ways iM_plainRows fM_plainRow fM_kept fM_goalOver fM_goalUnder fM_goalMax fM_different ++ (WQ hQ aQ kQ hw fQ_inside fQ_outside fQ_shut iQ_rows iQ_allRows iQ_columns ++ (WW nW hw lw kw (u.1) (u.2.1) (u.2.2)))))) (va_A (WO hO aO kO hM hQ hw iO_answered iO_searched iO_searchedRelaxed iO_counted fO_countedCase gO_goalNumber gO_goalScale fO_start fO_column fO_chosen ++ (WM hM aM kM iM_stands iM_variables iM_rows iM_goals iM_differents iM_cases fM_from fM_to fM_whole fM_ways iM_plainRows fM_plainRow fM_kept fM_goalOver fM_goalUnder fM_goalMax fM_different ++ (WQ hQ aQ kQ hw fQ_inside fQ_outside fQ_shut iQ_rows iQ_allRows iQ_columns ++ (WW nW hw lw kw wl wb wG)))) sz)) 0 0 (va_A (WO hO aO kO hM hQ hw iO_answered iO_searched iO_searchedRelaxed iO_counted fO_countedCase gO_goalNumber gO_goalScale fO_start fO_column fO_chosen ++ (WM hM aM kM iM_stands iM_variables iM_rows iM_goals iM_differents iM_cases fM_from fM_to fM_whole fM_ways iM_plainRows fM_plainRow fM_kept fM_goalOver fM_goalUnder fM_goalMax fM_different ++ (WQ hQ aQ kQ hw fQ_inside fQ_outside fQ_shut iQ_rows iQ_allRows iQ_columns ++ (WW nW hw lw kw wl wb wG)))) sz) := by
  refine Met.ofW (cc := cX5_shortenTold) (maxL := 6) (ret := none) (by decide) rfl ?_
  intro p e s m args below meth c s₁ B hml hv
  obtain ⟨rfl, hsz, hP, hK, hD0⟩ := hv
  have hx := B.exec
  have hb := B.bytes
  have hr := B.returns
  have hts := atoms_spec (ws := wsMX5_shortenTold) B.pre
  have hown : s.vm.findClass RX5 = some m.cls := findClass_of_methodNamed B.named
  have hlocks := B.notSynchronized
  subst hsz
  have hD := hD0.self (sz := s.heap.size)
  generalize hAe : va_A (WO hO aO kO hM hQ hw iO_answered iO_searched iO_searchedRelaxed iO_counted fO_countedCase gO_goalNumber gO_goalScale fO_start fO_column fO_chosen ++ (WM hM aM kM iM_stands iM_variables iM_rows iM_goals iM_differents iM_cases fM_from fM_to fM_whole fM_ways iM_plainRows fM_plainRow fM_kept fM_goalOver fM_goalUnder fM_goalMax fM_different ++ (WQ hQ aQ kQ hw fQ_inside fQ_outside fQ_shut iQ_rows iQ_allRows iQ_columns ++ (WW nW hw lw kw wl wb wG)))) s.heap.size = A at hD ⊢
  have hA : ∀ q : Nat, s.heap.size ≤ q → A q := fun q h => by rw [← hAe]; exact Or.inr h
  have hS : va_S A s.heap s.heap [] := va_S.rf
  have hl := lv_entry ([.ref (hO 0)]) (n := 6) (Nat.le_of_ble_eq_true rfl)
  rw [lg_entry_eq]
  generalize (lg_sl ([.ref (hO 0)]) ++ List.replicate (6 - (lg_sl ([.ref (hO 0)])).length) Slot.unset).toArray = ls at hl ⊢
  have hl : lv_has ls 6 [(0, .ref (hO 0))] := hl
  refine lv_aload_n hx hb dX5_shortenTold_0 rfl (lv_at hl 0 rfl) ?_
  refine va_get (D := (dC, dI)) (ci := 5) (v := .ref (aO 9)) (C := RX5) (T := TX5) (N := 19) hx hb hts iwsMX5_shortenTold_in5 hown hK hP 0 rfl rfl 18 (by decide) (hts _ hm_m_X5_shortenTold_0) (fun _ h9 => h9) rfl dX5_shortenTold_1 ?_
  refine lv_iconst (v := 0) hx hb dX5_shortenTold_4 (by decide) ?_
  refine va_aldq (cA := kO 9) (n := 4) (f := fun q => some (hw (428 + q))) hx hb hK hP 10 9 rfl rfl (show ¬ ((0 : Int32) < 0 ∨ 4 ≤ (0 : Int32).toNatClampNeg) by decide) dX5_shortenTold_5 ?_
  obtain ⟨k1, hk1, b_k1⟩ : ∃ k9 : Nat, k9 = 428 + (0 : Int32).toNatClampNeg ∧ (428 ≤ k9 ∧ k9 < 432 ∧ (k9 : Int) = 428 + 0) := ⟨_, rfl, ald_k (x := (0 : Int32)) (o := 428) (n := 4) (by decide : (0 : Int32).toInt = 0) (by omega) (by omega)⟩
  refine W.eq (g2 := F0 m 6 ls [.ref (hw k1)]) (by rw [hk1]; rfl) ?_
  clear hk1
  refine lv_astore_n hx hb dX5_shortenTold_6 rfl hl (by decide) rfl (fun ls (hl : lv_has ls _ ([(1, .ref (hw k1)), (0, .ref (hO 0))])) => ?_)
  refine lv_aload_n hx hb dX5_shortenTold_7 rfl (lv_at hl 1 rfl) ?_
  refine va_get (D := (dC, dI)) (ci := 5) (v := .ref (aO 9)) (C := RX5) (T := TX5) (N := 19) hx hb hts iwsMX5_shortenTold_in5 hown hK hP 0 rfl rfl 18 (by decide) (hts _ hm_m_X5_shortenTold_0) (fun _ h9 => h9) rfl dX5_shortenTold_8 ?_
  refine lv_iconst (v := 1) hx hb dX5_shortenTold_11 (by decide) ?_
  refine va_aldq (cA := kO 9) (n := 4) (f := fun q => some (hw (428 + q))) hx hb hK hP 10 9 rfl rfl (show ¬ ((1 : Int32) < 0 ∨ 4 ≤ (1 : Int32).toNatClampNeg) by decide) dX5_shortenTold_12 ?_
  obtain ⟨k2, hk2, b_k2⟩ : ∃ k9 : Nat, k9 = 428 + (1 : Int32).toNatClampNeg ∧ (428 ≤ k9 ∧ k9 < 432 ∧ (k9 : Int) = 428 + 1) := ⟨_, rfl, ald_k (x := (1 : Int32)) (o := 428) (n := 4) (by decide : (1 : Int32).toInt = 1) (by omega) (by omega)⟩
  refine W.eq (g2 := F0 m 13 ls [.ref (hw k2)]) (by rw [hk2]; rfl) ?_
  clear hk2
  refine lv_astore_n hx hb dX5_shortenTold_13 rfl hl (by decide) rfl (fun ls (hl : lv_has ls _ ([(2, .ref (hw k2)), (1, .ref (hw k1)), (0, .ref (hO 0))])) => ?_)
  refine lv_aload_n hx hb dX5_shortenTold_14 rfl (lv_at hl 2 rfl) ?_
  refine va_get (D := (dC, dI)) (ci := 5) (v := .ref (aO 9)) (C := RX5) (T := TX5) (N := 19) hx hb hts iwsMX5_shortenTold_in5 hown hK hP 0 rfl rfl 18 (by decide) (hts _ hm_m_X5_shortenTold_0) (fun _ h9 => h9) rfl dX5_shortenTold_15 ?_
  refine lv_iconst (v := 2) hx hb dX5_shortenTold_18 (by decide) ?_
  refine va_aldq (cA := kO 9) (n := 4) (f := fun q => some (hw (428 + q))) hx hb hK hP 10 9 rfl rfl (show ¬ ((2 : Int32) < 0 ∨ 4 ≤ (2 : Int32).toNatClampNeg) by decide) dX5_shortenTold_19 ?_
  obtain ⟨k3, hk3, b_k3⟩ : ∃ k9 : Nat, k9 = 428 + (2 : Int32).toNatClampNeg ∧ (428 ≤ k9 ∧ k9 < 432 ∧ (k9 : Int) = 428 + 2) := ⟨_, rfl, ald_k (x := (2 : Int32)) (o := 428) (n := 4) (by decide : (2 : Int32).toInt = 2) (by omega) (by omega)⟩
  refine W.eq (g2 := F0 m 20 ls [.ref (hw k3)]) (by rw [hk3]; rfl) ?_
  clear hk3
  refine lv_astore_n hx hb dX5_shortenTold_20 rfl hl (by decide) rfl (fun ls (hl : lv_has ls _ ([(3, .ref (hw k3)), (2, .ref (hw k2)), (1, .ref (hw k1)), (0, .ref (hO 0))])) => ?_)
  refine lv_aload_n hx hb dX5_shortenTold_21 rfl (lv_at hl 2 rfl) ?_
  refine lv_aload_n hx hb dX5_shortenTold_22 rfl (lv_at hl 3 rfl) ?_
  refine va_get (D := (dC, dI)) (ci := 5) (v := .ref (hw 426)) (C := RX5) (T := TX5) (N := 19) hx hb hts iwsMX5_shortenTold_in5 hown hK hP 0 rfl rfl 16 (by decide) (hts _ hm_m_X5_shortenTold_1) (fun _ h9 => h9) rfl dX5_shortenTold_23 ?_
  have p9 := cj_4_3 (WO hO aO kO hM hQ hw iO_answered iO_searched iO_searchedRelaxed iO_counted fO_countedCase gO_goalNumber gO_goalScale fO_start fO_column fO_chosen) (WM hM aM kM iM_stands iM_variables iM_rows iM_goals iM_differents iM_cases fM_from fM_to fM_whole fM_ways iM_plainRows fM_plainRow fM_kept fM_goalOver fM_goalUnder fM_goalMax fM_different) (WQ hQ aQ kQ hw fQ_inside fQ_outside fQ_shut iQ_rows iQ_allRows iQ_columns) (WW nW hw lw kw wl wb wG)
  have hPc := hP.mem (fun q h => p9.mem_iff.mpr (List.mem_append_left _ h))
  have hDc := (hD.perm p9).left
  have hKc : va_K (dC, dI) vwCl (tW kw) _ := hK.sub [24] rfl
  have hFc := freeG p9 hD hS hA
  refine va_callv (va_runV (As := [.ref (hw 426)]) (rest := []) ⟨hx, hb, hml, hown, hts⟩ (m_X8_copy l dC dI nW hw lw kw wl wb wG k1 426 b_wl b_wb (by first | with_reducible assumption | omega | (rw [iI_t (by omega) (by omega)]; omega) | decide | assumption) (by first | with_reducible assumption | omega | (rw [iI_t (by omega) (by omega)]; omega) | decide | assumption) s.heap.size) (cwV 1 hts gwsMX5_shortenTold_0 rfl rfl rfl hd_yX8_copy_RX8 (by decide +kernel)) (fz_pre (va_recv hK hP (ci := 8) (q0 := 11 + (11 + (5 + (k1)))) rfl (apR rfl (apR rfl (apR rfl (WW_o (by omega)))))) hPc hKc hDc) rfl rfl hl.1 rfl (lv_room (Nat.le_of_ble_eq_true rfl)) dX5_shortenTold_26 (by decide +kernel)) hS (fun q _ h => hFc q h) hFc (fun u t9_ H locs ht hvm hw9 hB9 hz1 hk1 hS => ?_)
  revert u hw9 hB9
  refine fz_p3 ?_
  intro wl_4 wb_4 wG_4 hw9 hB9
  try dsimp only at hw9 hB9
  revert hw9
  refine fz_a2 ?_
  intro b_wl_4 b_wb_4
  have p8 := cj_4_3 (WO hO aO kO hM hQ hw iO_answered iO_searched iO_searchedRelaxed iO_counted fO_countedCase gO_goalNumber gO_goalScale fO_start fO_column fO_chosen) (WM hM aM kM iM_stands iM_variables iM_rows iM_goals iM_differents iM_cases fM_from fM_to fM_whole fM_ways iM_plainRows fM_plainRow fM_kept fM_goalOver fM_goalUnder fM_goalMax fM_different) (WQ hQ aQ kQ hw fQ_inside fQ_outside fQ_shut iQ_rows iQ_allRows iQ_columns) (WW nW hw lw kw wl_4 wb_4 wG_4)
  obtain ⟨hP, hD⟩ := frameG p9 p8 hP hD hk1 hFc (fz_P ht hB9.1) hB9.2
  refine lv_aload_n hx hb dX5_shortenTold_29 rfl (lv_at hl 1 rfl) ?_
  refine lv_aload_n hx hb dX5_shortenTold_30 rfl (lv_at hl 3 rfl) ?_
  refine va_get (D := (dC, dI)) (ci := 5) (v := .ref (hw 427)) (C := RX5) (T := TX5) (N := 19) hx hb hts iwsMX5_shortenTold_in5 hown hK hP 0 rfl rfl 17 (by decide) (hts _ hm_m_X5_shortenTold_2) (fun _ h9 => h9) rfl dX5_shortenTold_31 ?_
  have p9 := cj_4_3 (WO hO aO kO hM hQ hw iO_answered iO_searched iO_searchedRelaxed iO_counted fO_countedCase gO_goalNumber gO_goalScale fO_start fO_column fO_chosen) (WM hM aM kM iM_stands iM_variables iM_rows iM_goals iM_differents iM_cases fM_from fM_to fM_whole fM_ways iM_plainRows fM_plainRow fM_kept fM_goalOver fM_goalUnder fM_goalMax fM_different) (WQ hQ aQ kQ hw fQ_inside fQ_outside fQ_shut iQ_rows iQ_allRows iQ_columns) (WW nW hw lw kw wl_4 wb_4 wG_4)
  have hPc := hP.mem (fun q h => p9.mem_iff.mpr (List.mem_append_left _ h))
  have hDc := (hD.perm p9).left
  have hKc : va_K (dC, dI) vwCl (tW kw) _ := hK.sub [24] rfl
  have hFc := freeG p9 hD hS hA
  refine va_callv (va_runV (As := [.ref (hw 427)]) (rest := []) ⟨hx, hb, hml, hown, hts⟩ (m_X8_copy l dC dI nW hw lw kw wl_4 wb_4 wG_4 k2 427 b_wl_4 b_wb_4 (by first | with_reducible assumption | omega | (rw [iI_t (by omega) (by omega)]; omega) | decide | assumption) (by first | with_reducible assumption | omega | (rw [iI_t (by omega) (by omega)]; omega) | decide | assumption) H.size) (cwV 1 hts gwsMX5_shortenTold_0 rfl rfl rfl hd_yX8_copy_RX8 (by decide +kernel)) (fz_pre (va_recv hK hP (ci := 8) (q0 := 11 + (11 + (5 + (k2)))) rfl (apR rfl (apR rfl (apR rfl (WW_o (by omega)))))) hPc hKc hDc) rfl rfl hl.1 rfl (lv_room (Nat.le_of_ble_eq_true rfl)) dX5_shortenTold_34 (by decide +kernel)) hS (fun q _ h => hFc q h) hFc (fun u t9_ H locs ht hvm hw9 hB9 hz1 hk1 hS => ?_)
  revert u hw9 hB9
  refine fz_p3 ?_
  intro wl_5 wb_5 wG_5 hw9 hB9
  try dsimp only at hw9 hB9
  revert hw9
  refine fz_a2 ?_
  intro b_wl_5 b_wb_5
  have p8 := cj_4_3 (WO hO aO kO hM hQ hw iO_answered iO_searched iO_searchedRelaxed iO_counted fO_countedCase gO_goalNumber gO_goalScale fO_start fO_column fO_chosen) (WM hM aM kM iM_stands iM_variables iM_rows iM_goals iM_differents iM_cases fM_from fM_to fM_whole fM_ways iM_plainRows fM_plainRow fM_kept fM_goalOver fM_goalUnder fM_goalMax fM_different) (WQ hQ aQ kQ hw fQ_inside fQ_outside fQ_shut iQ_rows iQ_allRows iQ_columns) (WW nW hw lw kw wl_5 wb_5 wG_5)
  obtain ⟨hP, hD⟩ := frameG p9 p8 hP hD hk1 hFc (fz_P ht hB9.1) hB9.2
  refine lv_iconst (v := 0) hx hb dX5_shortenTold_37 (by decide) ?_
  refine lv_istore hx hb dX5_shortenTold_38 hl (by decide) rfl (fun ls (hl : lv_has ls _ ([(4, .int 0), (3, .ref (hw k3)), (2, .ref (hw k2)), (1, .ref (hw k1)), (0, .ref (hO 0))])) => ?_)
  have hl : lv_has _ _ ([(4, .int 0), (3, .ref (hw k3)), (2, .ref (hw k2)), (1, .ref (hw k1)), (0, .ref (hO 0))]) := lv_sub hl [0, 1, 2, 3, 4] rfl
  refine (fun (loop : ∀ (n9 : Nat) (wl_x40 : Nat → Int32) (wb_x40 : Nat → Int32) (wG_x40 : Nat → Nat → Int64) (l4_x40 : Int32) (l3_x40 : Nat) (l2_x40 : Nat) (l1_x40 : Nat) (H : Heap) (locs : List Loc) (ls : Array Slot), (∀ q : Nat, 0 ≤ (wl_x40 q).toInt ∧ (wl_x40 q).toInt ≤ 14) → (∀ q : Nat, 0 ≤ (wb_x40 q).toInt ∧ (wb_x40 q).toInt ≤ 1) → (0 ≤ l4_x40.toInt ∧ l4_x40.toInt ≤ 1000) → (428 ≤ l3_x40 ∧ l3_x40 ≤ 430) → (428 ≤ l2_x40 ∧ l2_x40 ≤ 430) → (428 ≤ l1_x40 ∧ l1_x40 ≤ 430) → (1000 - l4_x40.toInt < ((n9 : Nat) : Int)) → va_P (dC, dI) vwCl (WO hO aO kO hM hQ hw iO_answered iO_searched iO_searchedRelaxed iO_counted fO_countedCase gO_goalNumber gO_goalScale fO_start fO_column fO_chosen ++ (WM hM aM kM iM_stands iM_variables iM_rows iM_goals iM_differents iM_cases fM_from fM_to fM_whole fM_ways iM_plainRows fM_plainRow fM_kept fM_goalOver fM_goalUnder fM_goalMax fM_different ++ (WQ hQ aQ kQ hw fQ_inside fQ_outside fQ_shut iQ_rows iQ_allRows iQ_columns ++ (WW nW hw lw kw wl_x40 wb_x40 wG_x40)))) H → va_D A (WO hO aO kO hM hQ hw iO_answered iO_searched iO_searchedRelaxed iO_counted fO_countedCase gO_goalNumber gO_goalScale fO_start fO_column fO_chosen ++ (WM hM aM kM iM_stands iM_variables iM_rows iM_goals iM_differents iM_cases fM_from fM_to fM_whole fM_ways iM_plainRows fM_plainRow fM_kept fM_goalOver fM_goalUnder fM_goalMax fM_different ++ (WQ hQ aQ kQ hw fQ_inside fQ_outside fQ_shut iQ_rows iQ_allRows iQ_columns ++ (WW nW hw lw kw wl_x40 wb_x40 wG_x40)))) → va_S A s.heap H locs → lv_has ls 6 [(4, .int l4_x40), (3, .ref (hw l3_x40)), (2, .ref (hw l2_x40)), (1, .ref (hw l1_x40)), (0, .ref (hO 0))] → W p l e _ s m _ below meth c H locs 0 0 _ (F0 m 40 ls [])) => loop (1001) wl_5 wb_5 wG_5 0 k3 k2 k1 _ _ _ b_wl_5 b_wb_5 (show 0 ≤ (0 : Int32).toInt ∧ (0 : Int32).toInt ≤ 1000 from by decide) ⟨by omega, by omega⟩ ⟨by omega, by omega⟩ ⟨by omega, by omega⟩ ((by have e9 : (0 : Int32).toInt = 0 := (by decide : (0 : Int32).toInt = 0); omega)) hP hD hS hl) ?_
  intro n9
  induction n9 with
  | zero => intro wl_x40 wb_x40 wG_x40 l4_x40 l3_x40 l2_x40 l1_x40 H locs ls b_wl_x40 b_wb_x40 b_l4_x40 b_l3_x40 b_l2_x40 b_l1_x40 hf9; exact False.elim (by omega)
  | succ n9 ihx40 =>
    intro wl_x40 wb_x40 wG_x40 l4_x40 l3_x40 l2_x40 l1_x40 H locs ls b_wl_x40 b_wb_x40 b_l4_x40 b_l3_x40 b_l2_x40 b_l1_x40 hfx40 hP hD hS hl
    refine lv_iload hx hb dX5_shortenTold_40 (lv_at hl 0 rfl) ?_
    refine lv_sipush (v := 1000) hx hb dX5_shortenTold_42 (by decide) ?_
    refine W.cut (pc := 83) (fun H locs ls stk =>  stk = [] ∧ va_P (dC, dI) vwCl (WO hO aO kO hM hQ hw iO_answered iO_searched iO_searchedRelaxed iO_counted fO_countedCase gO_goalNumber gO_goalScale fO_start fO_column fO_chosen ++ (WM hM aM kM iM_stands iM_variables iM_rows iM_goals iM_differents iM_cases fM_from fM_to fM_whole fM_ways iM_plainRows fM_plainRow fM_kept fM_goalOver fM_goalUnder fM_goalMax fM_different ++ (WQ hQ aQ kQ hw fQ_inside fQ_outside fQ_shut iQ_rows iQ_allRows iQ_columns ++ (WW nW hw lw kw wl_x40 wb_x40 wG_x40)))) H ∧ va_D A (WO hO aO kO hM hQ hw iO_answered iO_searched iO_searchedRelaxed iO_counted fO_countedCase gO_goalNumber gO_goalScale fO_start fO_column fO_chosen ++ (WM hM aM kM iM_stands iM_variables iM_rows iM_goals iM_differents iM_cases fM_from fM_to fM_whole fM_ways iM_plainRows fM_plainRow fM_kept fM_goalOver fM_goalUnder fM_goalMax fM_different ++ (WQ hQ aQ kQ hw fQ_inside fQ_outside fQ_shut iQ_rows iQ_allRows iQ_columns ++ (WW nW hw lw kw wl_x40 wb_x40 wG_x40)))) ∧ va_S A s.heap H locs ∧ lv_has ls 6 [(4, .int l4_x40), (3, .ref (hw l3_x40)), (2, .ref (hw l2_x40)), (1, .ref (hw l1_x40)), (0, .ref (hO 0))]) (fun join9 => ?_) ?_
    · refine lv_icmp_ge (tgt := 83) hx hb dX5_shortenTold_45 (by decide) (fun c_45 => ?_) (fun c_45 => ?_)
      · have t_45 : l4_x40.toInt ≥ 1000 := toI_ge c_45 rfl (by decide : (1000 : Int32).toInt = 1000)
        have hl : lv_has _ _ ([(4, .int l4_x40), (3, .ref (hw l3_x40)), (2, .ref (hw l2_x40)), (1, .ref (hw l1_x40)), (0, .ref (hO 0))]) := lv_sub hl [0, 1, 2, 3, 4] rfl
        exact join9 _ _ _ _ ⟨rfl, hP, hD, hS, hl⟩
      · have t_45 : ¬ l4_x40.toInt ≥ 1000 := toI_nge c_45 rfl (by decide : (1000 : Int32).toInt = 1000)
        refine lv_aload_n hx hb dX5_shortenTold_48 rfl (lv_at hl 2 rfl) ?_
        refine va_get (D := (dC, dI)) (ci := 8) (v := .int (wl_x40 l2_x40)) (C := RX8) (T := TX8) (N := 3) hx hb hts iwsMX5_shortenTold_in8 hown hK hP (11 + (11 + (5 + (l2_x40)))) (apR rfl (apR rfl (apR rfl (WW_o (by omega))))) rfl 1 (by decide) (hts (.fieldLink RX5 275 "OptimaWorks$Whole" "length" "I") (by decide +kernel)) (fun _ h9 => h9) rfl dX5_shortenTold_49 ?_
        have br49 := b_wl_x40 l2_x40
        refine lv_if_eq (tgt := 83) hx hb dX5_shortenTold_52 (by decide) (fun c_52 => ?_) (fun c_52 => ?_)
        · have t_52 : (wl_x40 l2_x40).toInt = 0 := toI_eq c_52 rfl (by decide : (0 : Int32).toInt = 0)
          have hl : lv_has _ _ ([(4, .int l4_x40), (3, .ref (hw l3_x40)), (2, .ref (hw l2_x40)), (1, .ref (hw l1_x40)), (0, .ref (hO 0))]) := lv_sub hl [0, 1, 2, 3, 4] rfl
          exact join9 _ _ _ _ ⟨rfl, hP, hD, hS, hl⟩
        · have t_52 : ¬ (wl_x40 l2_x40).toInt = 0 := toI_neq c_52 rfl (by decide : (0 : Int32).toInt = 0)
          refine lv_aload_n hx hb dX5_shortenTold_55 rfl (lv_at hl 3 rfl) ?_
          refine lv_aload_n hx hb dX5_shortenTold_56 rfl (lv_at hl 2 rfl) ?_
          refine lv_aload_n hx hb dX5_shortenTold_57 rfl (lv_at hl 1 rfl) ?_
          refine lv_aload_n hx hb dX5_shortenTold_58 rfl (lv_at hl 4 rfl) ?_
          refine va_get (D := (dC, dI)) (ci := 5) (v := .ref (aO 9)) (C := RX5) (T := TX5) (N := 19) hx hb hts iwsMX5_shortenTold_in5 hown hK hP 0 rfl rfl 18 (by decide) (hts _ hm_m_X5_shortenTold_0) (fun _ h9 => h9) rfl dX5_shortenTold_59 ?_
          refine lv_iconst (v := 3) hx hb dX5_shortenTold_62 (by decide) ?_
          refine va_aldq (cA := kO 9) (n := 4) (f := fun q => some (hw (428 + q))) hx hb hK hP 10 9 rfl rfl (show ¬ ((3 : Int32) < 0 ∨ 4 ≤ (3 : Int32).toNatClampNeg) by decide) dX5_shortenTold_63 ?_
          obtain ⟨k36, hk36, b_k36⟩ : ∃ k9 : Nat, k9 = 428 + (3 : Int32).toNatClampNeg ∧ (428 ≤ k9 ∧ k9 < 432 ∧ (k9 : Int) = 428 + 3) := ⟨_, rfl, ald_k (x := (3 : Int32)) (o := 428) (n := 4) (by decide : (3 : Int32).toInt = 3) (by omega) (by omega)⟩
          refine W.eq (g2 := F0 m 64 ls [.ref (hw k36), .ref (hw l3_x40), .ref (hw l2_x40), .ref (hw l1_x40)]) (by rw [hk36]; rfl) ?_
          clear hk36
          have p9 := cj_4_3 (WO hO aO kO hM hQ hw iO_answered iO_searched iO_searchedRelaxed iO_counted fO_countedCase gO_goalNumber gO_goalScale fO_start fO_column fO_chosen) (WM hM aM kM iM_stands iM_variables iM_rows iM_goals iM_differents iM_cases fM_from fM_to fM_whole fM_ways iM_plainRows fM_plainRow fM_kept fM_goalOver fM_goalUnder fM_goalMax fM_different) (WQ hQ aQ kQ hw fQ_inside fQ_outside fQ_shut iQ_rows iQ_allRows iQ_columns) (WW nW hw lw kw wl_x40 wb_x40 wG_x40)
          have hPc := hP.mem (fun q h => p9.mem_iff.mpr (List.mem_append_left _ h))
          have hDc := (hD.perm p9).left
          have hKc : va_K (dC, dI) vwCl (tW kw) _ := hK.sub [24] rfl
          have hFc := freeG p9 hD hS hA
          refine va_callv (va_runV (As := [.ref (hw l2_x40), .ref (hw l3_x40), .ref (hw k36)]) (rest := []) ⟨hx, hb, hml, hown, hts⟩ (m_X8_divide l dC dI nW hw lw kw wl_x40 wb_x40 wG_x40 l1_x40 l2_x40 l3_x40 k36 b_wl_x40 b_wb_x40 (by first | with_reducible assumption | omega | (rw [iI_t (by omega) (by omega)]; omega) | decide | assumption) (by first | with_reducible assumption | omega | (rw [iI_t (by omega) (by omega)]; omega) | decide | assumption) (by first | with_reducible assumption | omega | (rw [iI_t (by omega) (by omega)]; omega) | decide | assumption) (by first | with_reducible assumption | omega | (rw [iI_t (by omega) (by omega)]; omega) | decide | assumption) (by omega) H.size) (cwV 3 hts gwsMX5_shortenTold_1 rfl rfl rfl hd_yX8_divide_RX8 (by decide +kernel)) (fz_pre (va_recv hK hP (ci := 8) (q0 := 11 + (11 + (5 + (l1_x40)))) rfl (apR rfl (apR rfl (apR rfl (WW_o (by omega)))))) hPc hKc hDc) rfl rfl hl.1 rfl (lv_room (Nat.le_of_ble_eq_true rfl)) dX5_shortenTold_64 (by decide +kernel)) hS (fun q _ h => hFc q h) hFc (fun u t9_ H locs ht hvm hw9 hB9 hz1 hk1 hS => ?_)
          revert u hw9 hB9
          refine fz_p3 ?_
          intro wl_37 wb_37 wG_37 hw9 hB9
          try dsimp only at hw9 hB9
          revert hw9
          refine fz_a2 ?_
          intro b_wl_37 b_wb_37
          have p8 := cj_4_3 (WO hO aO kO hM hQ hw iO_answered iO_searched iO_searchedRelaxed iO_counted fO_countedCase gO_goalNumber gO_goalScale fO_start fO_column fO_chosen) (WM hM aM kM iM_stands iM_variables iM_rows iM_goals iM_differents iM_cases fM_from fM_to fM_whole fM_ways iM_plainRows fM_plainRow fM_kept fM_goalOver fM_goalUnder fM_goalMax fM_different) (WQ hQ aQ kQ hw fQ_inside fQ_outside fQ_shut iQ_rows iQ_allRows iQ_columns) (WW nW hw lw kw wl_37 wb_37 wG_37)
          obtain ⟨hP, hD⟩ := frameG p9 p8 hP hD hk1 hFc (fz_P ht hB9.1) hB9.2
          refine lv_aload_n hx hb dX5_shortenTold_67 rfl (lv_at hl 3 rfl) ?_
          refine lv_astore hx hb dX5_shortenTold_68 hl (by decide) rfl (fun ls (hl : lv_has ls _ ([(5, .ref (hw l1_x40)), (4, .int l4_x40), (3, .ref (hw l3_x40)), (2, .ref (hw l2_x40)), (1, .ref (hw l1_x40)), (0, .ref (hO 0))])) => ?_)
          refine lv_aload_n hx hb dX5_shortenTold_70 rfl (lv_at hl 3 rfl) ?_
          refine lv_astore_n hx hb dX5_shortenTold_71 rfl hl (by decide) rfl (fun ls (hl : lv_has ls _ ([(1, .ref (hw l2_x40)), (5, .ref (hw l1_x40)), (4, .int l4_x40), (3, .ref (hw l3_x40)), (2, .ref (hw l2_x40)), (0, .ref (hO 0))])) => ?_)
          refine lv_aload_n hx hb dX5_shortenTold_72 rfl (lv_at hl 3 rfl) ?_
          refine lv_astore_n hx hb dX5_shortenTold_73 rfl hl (by decide) rfl (fun ls (hl : lv_has ls _ ([(2, .ref (hw l3_x40)), (1, .ref (hw l2_x40)), (5, .ref (hw l1_x40)), (4, .int l4_x40), (3, .ref (hw l3_x40)), (0, .ref (hO 0))])) => ?_)
          refine lv_aload hx hb dX5_shortenTold_74 (lv_at hl 2 rfl) ?_
          refine lv_astore_n hx hb dX5_shortenTold_76 rfl hl (by decide) rfl (fun ls (hl : lv_has ls _ ([(3, .ref (hw l1_x40)), (2, .ref (hw l3_x40)), (1, .ref (hw l2_x40)), (5, .ref (hw l1_x40)), (4, .int l4_x40), (0, .ref (hO 0))])) => ?_)
          refine lv_iinc (v := (iI (l4_x40.toInt + 1))) hx hb dX5_shortenTold_77 hl (k := 4) rfl (iI_add2 (iI_of _) (by decide : (1 : Int32) = iI 1)) (by decide) rfl (fun ls (hl : lv_has ls _ ([(4, .int (iI (l4_x40.toInt + 1))), (3, .ref (hw l1_x40)), (2, .ref (hw l3_x40)), (1, .ref (hw l2_x40)), (5, .ref (hw l1_x40)), (0, .ref (hO 0))])) => ?_)
          refine lv_goto (tgt := 40) hx hb dX5_shortenTold_80 (by decide) ?_
          have hl : lv_has _ _ ([(4, .int (iI (l4_x40.toInt + 1))), (3, .ref (hw l1_x40)), (2, .ref (hw l3_x40)), (1, .ref (hw l2_x40)), (0, .ref (hO 0))]) := lv_sub hl [0, 1, 2, 3, 5] rfl
          exact ihx40 wl_37 wb_37 wG_37 (iI (l4_x40.toInt + 1)) l1_x40 l3_x40 l2_x40 _ _ _ b_wl_37 b_wb_37 (iI_rng (Int.le_trans (by decide) (Int.add_le_add (b_l4_x40.1) (Int.le_refl _))) (by omega) (by decide) (by decide)) ⟨by omega, by omega⟩ ⟨by omega, by omega⟩ ⟨by omega, by omega⟩ (by have e9 : ((iI (l4_x40.toInt + 1))).toInt = (l4_x40.toInt + 1) := (iI_t (Int.le_trans (by decide) (Int.add_le_add (b_l4_x40.1) (Int.le_refl _))) (Int.le_trans (Int.add_le_add (b_l4_x40.2) (Int.le_refl _)) (by decide))); omega) hP hD hS hl
    · rintro H locs ls stk ⟨rfl, hP, hD, hS, hl⟩
      refine lv_aload_n hx hb dX5_shortenTold_83 rfl (lv_at hl 3 rfl) ?_
      refine lv_iconst (v := 0) hx hb dX5_shortenTold_84 (by decide) ?_
      refine va_put (D := (dC, dI)) (ci := 8) (v := .int 0) (ty := .boolean) (C := RX8) (T := TX8) (N := 3) hx hb hts iwsMX5_shortenTold_in8 tyX8 tyX8_ok nmX8 hown hK hP hD hS (11 + (11 + (5 + (l1_x40)))) (apR rfl (apR rfl (apR rfl (WW_o (by omega))))) rfl 2 (by decide) (hts (.fieldLink RX5 282 "OptimaWorks$Whole" "below" "Z") (by decide +kernel)) (fun _ h9 => h9) rfl (by decide +kernel) rfl rfl (Nat.le_of_ble_eq_true rfl) dX5_shortenTold_85 (fun H locs hP hD hS => ?_)
      obtain ⟨u38, hu38⟩ : ∃ f9, f9 = fT wb_x40 l1_x40 (0 : Int32) := ⟨_, rfl⟩
      have hP : va_P (dC, dI) vwCl (WO hO aO kO hM hQ hw iO_answered iO_searched iO_searchedRelaxed iO_counted fO_countedCase gO_goalNumber gO_goalScale fO_start fO_column fO_chosen ++ (WM hM aM kM iM_stands iM_variables iM_rows iM_goals iM_differents iM_cases fM_from fM_to fM_whole fM_ways iM_plainRows fM_plainRow fM_kept fM_goalOver fM_goalUnder fM_goalMax fM_different ++ (WQ hQ aQ kQ hw fQ_inside fQ_outside fQ_shut iQ_rows iQ_allRows iQ_columns ++ (WW nW hw lw kw wl_x40 u38 wG_x40)))) H := by rw [hu38]; exact Eq.mp (congrArg (fun z9 => va_P (dC, dI) vwCl z9 H) ((stR rfl).trans (congrArg (fun z9 => WO hO aO kO hM hQ hw iO_answered iO_searched iO_searchedRelaxed iO_counted fO_countedCase gO_goalNumber gO_goalScale fO_start fO_column fO_chosen ++ z9) ((stR rfl).trans (congrArg (fun z9 => WM hM aM kM iM_stands iM_variables iM_rows iM_goals iM_differents iM_cases fM_from fM_to fM_whole fM_ways iM_plainRows fM_plainRow fM_kept fM_goalOver fM_goalUnder fM_goalMax fM_different ++ z9) ((stR rfl).trans (congrArg (fun z9 => WQ hQ aQ kQ hw fQ_inside fQ_outside fQ_shut iQ_rows iQ_allRows iQ_columns ++ z9) (WW_sb (by omega) (0 : Int32))))))))) hP
      have hD : va_D A (WO hO aO kO hM hQ hw iO_answered iO_searched iO_searchedRelaxed iO_counted fO_countedCase gO_goalNumber gO_goalScale fO_start fO_column fO_chosen ++ (WM hM aM kM iM_stands iM_variables iM_rows iM_goals iM_differents iM_cases fM_from fM_to fM_whole fM_ways iM_plainRows fM_plainRow fM_kept fM_goalOver fM_goalUnder fM_goalMax fM_different ++ (WQ hQ aQ kQ hw fQ_inside fQ_outside fQ_shut iQ_rows iQ_allRows iQ_columns ++ (WW nW hw lw kw wl_x40 u38 wG_x40)))) := by rw [hu38]; exact Eq.mp (congrArg (fun z9 => va_D A z9) ((stR rfl).trans (congrArg (fun z9 => WO hO aO kO hM hQ hw iO_answered iO_searched iO_searchedRelaxed iO_counted fO_countedCase gO_goalNumber gO_goalScale fO_start fO_column fO_chosen ++ z9) ((stR rfl).trans (congrArg (fun z9 => WM hM aM kM iM_stands iM_variables iM_rows iM_goals iM_differents iM_cases fM_from fM_to fM_whole fM_ways iM_plainRows fM_plainRow fM_kept fM_goalOver fM_goalUnder fM_goalMax fM_different ++ z9) ((stR rfl).trans (congrArg (fun z9 => WQ hQ aQ kQ hw fQ_inside fQ_outside fQ_shut iQ_rows iQ_allRows iQ_columns ++ z9) (WW_sb (by omega) (0 : Int32))))))))) hD
      have b_u38 : ∀ q : Nat, 0 ≤ (u38 q).toInt ∧ (u38 q).toInt ≤ 1 := by rw [hu38]; exact fT_r b_wb_x40 (show 0 ≤ (0 : Int32).toInt ∧ (0 : Int32).toInt ≤ 1 from by decide)
      have q_u38 : (u38 l1_x40).toInt = 0 := by rw [hu38, fT_eq]; exact (by decide : (0 : Int32).toInt = 0)
      clear hu38
      refine lv_aload_n hx hb dX5_shortenTold_88 rfl (lv_at hl 3 rfl) ?_
      have p9 := cj_4_3 (WO hO aO kO hM hQ hw iO_answered iO_searched iO_searchedRelaxed iO_counted fO_countedCase gO_goalNumber gO_goalScale fO_start fO_column fO_chosen) (WM hM aM kM iM_stands iM_variables iM_rows iM_goals iM_differents iM_cases fM_from fM_to fM_whole fM_ways iM_plainRows fM_plainRow fM_kept fM_goalOver fM_goalUnder fM_goalMax fM_different) (WQ hQ aQ kQ hw fQ_inside fQ_outside fQ_shut iQ_rows iQ_allRows iQ_columns) (WW nW hw lw kw wl_x40 u38 wG_x40)
      have hPc := hP.mem (fun q h => p9.mem_iff.mpr (List.mem_append_left _ h))
      have hDc := (hD.perm p9).left
      have hKc : va_K (dC, dI) vwCl (tW kw) _ := hK.sub [24] rfl
      have hFc := freeG p9 hD hS hA
      refine va_calli (va_runV (As := []) (rest := []) ⟨hx, hb, hml, hown, hts⟩ (m_X8_isOne l dC dI nW hw lw kw wl_x40 u38 wG_x40 l1_x40 b_wl_x40 b_u38 (by first | with_reducible assumption | omega | (rw [iI_t (by omega) (by omega)]; omega) | decide | assumption) H.size) (cwV 0 hts gwsMX5_shortenTold_2 rfl rfl rfl hd_yX8_isOne_RX8 (by decide +kernel)) (fz_pre (va_recv hK hP (ci := 8) (q0 := 11 + (11 + (5 + (l1_x40)))) rfl (apR rfl (apR rfl (apR rfl (WW_o (by omega)))))) hPc hKc hDc) rfl rfl hl.1 rfl (lv_room (Nat.le_of_ble_eq_true rfl)) dX5_shortenTold_89 (by decide +kernel)) hS (fun q _ h => hFc q h) hFc (fun r39 u t9_ H locs ht hvm hw9 hB9 hz1 hk1 hS => ?_)
      have b_r39 := hw9
      try dsimp only at b_r39
      have p8 := p9
      obtain ⟨hP, hD⟩ := frameG p9 p8 hP hD hk1 hFc (fz_P ht hB9.1) hB9.2
      refine W.cut (pc := 125) (fun H locs ls stk => ∃ (wl_j10 : Nat → Int32) (wb_j10 : Nat → Int32) (wG_j10 : Nat → Nat → Int64), (∀ q : Nat, 0 ≤ (wl_j10 q).toInt ∧ (wl_j10 q).toInt ≤ 14) ∧ (∀ q : Nat, 0 ≤ (wb_j10 q).toInt ∧ (wb_j10 q).toInt ≤ 1) ∧  stk = [] ∧ va_P (dC, dI) vwCl (WO hO aO kO hM hQ hw iO_answered iO_searched iO_searchedRelaxed iO_counted fO_countedCase gO_goalNumber gO_goalScale fO_start fO_column fO_chosen ++ (WM hM aM kM iM_stands iM_variables iM_rows iM_goals iM_differents iM_cases fM_from fM_to fM_whole fM_ways iM_plainRows fM_plainRow fM_kept fM_goalOver fM_goalUnder fM_goalMax fM_different ++ (WQ hQ aQ kQ hw fQ_inside fQ_outside fQ_shut iQ_rows iQ_allRows iQ_columns ++ (WW nW hw lw kw wl_j10 wb_j10 wG_j10)))) H ∧ va_D A (WO hO aO kO hM hQ hw iO_answered iO_searched iO_searchedRelaxed iO_counted fO_countedCase gO_goalNumber gO_goalScale fO_start fO_column fO_chosen ++ (WM hM aM kM iM_stands iM_variables iM_rows iM_goals iM_differents iM_cases fM_from fM_to fM_whole fM_ways iM_plainRows fM_plainRow fM_kept fM_goalOver fM_goalUnder fM_goalMax fM_different ++ (WQ hQ aQ kQ hw fQ_inside fQ_outside fQ_shut iQ_rows iQ_allRows iQ_columns ++ (WW nW hw lw kw wl_j10 wb_j10 wG_j10)))) ∧ va_S A s.heap H locs ∧ lv_has ls 6 [(4, .int l4_x40), (3, .ref (hw l3_x40)), (2, .ref (hw l2_x40)), (1, .ref (hw l1_x40)), (0, .ref (hO 0))]) (fun join10 => ?_) ?_
      · refine lv_if_ne (tgt := 125) hx hb dX5_shortenTold_92 (by decide) (fun c_92 => ?_) (fun c_92 => ?_)
        · have t_92 : r39.toInt ≠ 0 := toI_ne c_92 rfl (by decide : (0 : Int32).toInt = 0)
          have hl : lv_has _ _ ([(4, .int l4_x40), (3, .ref (hw l3_x40)), (2, .ref (hw l2_x40)), (1, .ref (hw l1_x40)), (0, .ref (hO 0))]) := lv_sub hl [0, 1, 2, 3, 4] rfl
          exact join10 _ _ _ _ ⟨wl_x40, u38, wG_x40, b_wl_x40, b_u38, rfl, hP, hD, hS, hl⟩
        · have t_92 : r39.toInt = 0 := toI_nne c_92 rfl (by decide : (0 : Int32).toInt = 0)
          refine lv_aload_n hx hb dX5_shortenTold_95 rfl (lv_at hl 4 rfl) ?_
          refine va_get (D := (dC, dI)) (ci := 5) (v := .ref (hw 426)) (C := RX5) (T := TX5) (N := 19) hx hb hts iwsMX5_shortenTold_in5 hown hK hP 0 rfl rfl 16 (by decide) (hts _ hm_m_X5_shortenTold_1) (fun _ h9 => h9) rfl dX5_shortenTold_96 ?_
          refine lv_aload_n hx hb dX5_shortenTold_99 rfl (lv_at hl 3 rfl) ?_
          refine lv_aload_n hx hb dX5_shortenTold_100 rfl (lv_at hl 1 rfl) ?_
          refine lv_aload_n hx hb dX5_shortenTold_101 rfl (lv_at hl 4 rfl) ?_
          refine va_get (D := (dC, dI)) (ci := 5) (v := .ref (aO 9)) (C := RX5) (T := TX5) (N := 19) hx hb hts iwsMX5_shortenTold_in5 hown hK hP 0 rfl rfl 18 (by decide) (hts _ hm_m_X5_shortenTold_0) (fun _ h9 => h9) rfl dX5_shortenTold_102 ?_
          refine lv_iconst (v := 3) hx hb dX5_shortenTold_105 (by decide) ?_
          refine va_aldq (cA := kO 9) (n := 4) (f := fun q => some (hw (428 + q))) hx hb hK hP 10 9 rfl rfl (show ¬ ((3 : Int32) < 0 ∨ 4 ≤ (3 : Int32).toNatClampNeg) by decide) dX5_shortenTold_106 ?_
          obtain ⟨k44, hk44, b_k44⟩ : ∃ k9 : Nat, k9 = 428 + (3 : Int32).toNatClampNeg ∧ (428 ≤ k9 ∧ k9 < 432 ∧ (k9 : Int) = 428 + 3) := ⟨_, rfl, ald_k (x := (3 : Int32)) (o := 428) (n := 4) (by decide : (3 : Int32).toInt = 3) (by omega) (by omega)⟩
          refine W.eq (g2 := F0 m 107 ls [.ref (hw k44), .ref (hw l3_x40), .ref (hw l1_x40), .ref (hw 426)]) (by rw [hk44]; rfl) ?_
          clear hk44
          have p9 := cj_4_3 (WO hO aO kO hM hQ hw iO_answered iO_searched iO_searchedRelaxed iO_counted fO_countedCase gO_goalNumber gO_goalScale fO_start fO_column fO_chosen) (WM hM aM kM iM_stands iM_variables iM_rows iM_goals iM_differents iM_cases fM_from fM_to fM_whole fM_ways iM_plainRows fM_plainRow fM_kept fM_goalOver fM_goalUnder fM_goalMax fM_different) (WQ hQ aQ kQ hw fQ_inside fQ_outside fQ_shut iQ_rows iQ_allRows iQ_columns) (WW nW hw lw kw wl_x40 u38 wG_x40)
          have hPc := hP.mem (fun q h => p9.mem_iff.mpr (List.mem_append_left _ h))
          have hDc := (hD.perm p9).left
          have hKc : va_K (dC, dI) vwCl (tW kw) _ := hK.sub [24] rfl
          have hFc := freeG p9 hD hS hA
          refine va_callv (va_runV (As := [.ref (hw l1_x40), .ref (hw l3_x40), .ref (hw k44)]) (rest := []) ⟨hx, hb, hml, hown, hts⟩ (m_X8_divide l dC dI nW hw lw kw wl_x40 u38 wG_x40 426 l1_x40 l3_x40 k44 b_wl_x40 b_u38 (by first | with_reducible assumption | omega | (rw [iI_t (by omega) (by omega)]; omega) | decide | assumption) (by first | with_reducible assumption | omega | (rw [iI_t (by omega) (by omega)]; omega) | decide | assumption) (by first | with_reducible assumption | omega | (rw [iI_t (by omega) (by omega)]; omega) | decide | assumption) (by first | with_reducible assumption | omega | (rw [iI_t (by omega) (by omega)]; omega) | decide | assumption) (by omega) H.size) (cwV 3 hts gwsMX5_shortenTold_1 rfl rfl rfl hd_yX8_divide_RX8 (by decide +kernel)) (fz_pre (va_recv hK hP (ci := 8) (q0 := 11 + (11 + (5 + (426)))) rfl (apR rfl (apR rfl (apR rfl (WW_o (by omega)))))) hPc hKc hDc) rfl rfl hl.1 rfl (lv_room (Nat.le_of_ble_eq_true rfl)) dX5_shortenTold_107 (by decide +kernel)) hS (fun q _ h => hFc q h) hFc (fun u t9_ H locs ht hvm hw9 hB9 hz1 hk1 hS => ?_)
          revert u hw9 hB9
          refine fz_p3 ?_
          intro wl_45 wb_45 wG_45 hw9 hB9
          try dsimp only at hw9 hB9
          revert hw9
          refine fz_a2 ?_
          intro b_wl_45 b_wb_45
          have p8 := cj_4_3 (WO hO aO kO hM hQ hw iO_answered iO_searched iO_searchedRelaxed iO_counted fO_countedCase gO_goalNumber gO_goalScale fO_start fO_column fO_chosen) (WM hM aM kM iM_stands iM_variables iM_rows iM_goals iM_differents iM_cases fM_from fM_to fM_whole fM_ways iM_plainRows fM_plainRow fM_kept fM_goalOver fM_goalUnder fM_goalMax fM_different) (WQ hQ aQ kQ hw fQ_inside fQ_outside fQ_shut iQ_rows iQ_allRows iQ_columns) (WW nW hw lw kw wl_45 wb_45 wG_45)
          obtain ⟨hP, hD⟩ := frameG p9 p8 hP hD hk1 hFc (fz_P ht hB9.1) hB9.2
          refine lv_aload_n hx hb dX5_shortenTold_110 rfl (lv_at hl 4 rfl) ?_
          refine va_get (D := (dC, dI)) (ci := 5) (v := .ref (hw 427)) (C := RX5) (T := TX5) (N := 19) hx hb hts iwsMX5_shortenTold_in5 hown hK hP 0 rfl rfl 17 (by decide) (hts _ hm_m_X5_shortenTold_2) (fun _ h9 => h9) rfl dX5_shortenTold_111 ?_
          refine lv_aload_n hx hb dX5_shortenTold_114 rfl (lv_at hl 3 rfl) ?_
          refine lv_aload_n hx hb dX5_shortenTold_115 rfl (lv_at hl 1 rfl) ?_
          refine lv_aload_n hx hb dX5_shortenTold_116 rfl (lv_at hl 4 rfl) ?_
          refine va_get (D := (dC, dI)) (ci := 5) (v := .ref (aO 9)) (C := RX5) (T := TX5) (N := 19) hx hb hts iwsMX5_shortenTold_in5 hown hK hP 0 rfl rfl 18 (by decide) (hts _ hm_m_X5_shortenTold_0) (fun _ h9 => h9) rfl dX5_shortenTold_117 ?_
          refine lv_iconst (v := 3) hx hb dX5_shortenTold_120 (by decide) ?_
          refine va_aldq (cA := kO 9) (n := 4) (f := fun q => some (hw (428 + q))) hx hb hK hP 10 9 rfl rfl (show ¬ ((3 : Int32) < 0 ∨ 4 ≤ (3 : Int32).toNatClampNeg) by decide) dX5_shortenTold_121 ?_
          obtain ⟨k46, hk46, b_k46⟩ : ∃ k9 : Nat, k9 = 428 + (3 : Int32).toNatClampNeg ∧ (428 ≤ k9 ∧ k9 < 432 ∧ (k9 : Int) = 428 + 3) := ⟨_, rfl, ald_k (x := (3 : Int32)) (o := 428) (n := 4) (by decide : (3 : Int32).toInt = 3) (by omega) (by omega)⟩
          refine W.eq (g2 := F0 m 122 ls [.ref (hw k46), .ref (hw l3_x40), .ref (hw l1_x40), .ref (hw 427)]) (by rw [hk46]; rfl) ?_
          clear hk46
          have p9 := cj_4_3 (WO hO aO kO hM hQ hw iO_answered iO_searched iO_searchedRelaxed iO_counted fO_countedCase gO_goalNumber gO_goalScale fO_start fO_column fO_chosen) (WM hM aM kM iM_stands iM_variables iM_rows iM_goals iM_differents iM_cases fM_from fM_to fM_whole fM_ways iM_plainRows fM_plainRow fM_kept fM_goalOver fM_goalUnder fM_goalMax fM_different) (WQ hQ aQ kQ hw fQ_inside fQ_outside fQ_shut iQ_rows iQ_allRows iQ_columns) (WW nW hw lw kw wl_45 wb_45 wG_45)
          have hPc := hP.mem (fun q h => p9.mem_iff.mpr (List.mem_append_left _ h))
          have hDc := (hD.perm p9).left
          have hKc : va_K (dC, dI) vwCl (tW kw) _ := hK.sub [24] rfl
          have hFc := freeG p9 hD hS hA
          refine va_callv (va_runV (As := [.ref (hw l1_x40), .ref (hw l3_x40), .ref (hw k46)]) (rest := []) ⟨hx, hb, hml, hown, hts⟩ (m_X8_divide l dC dI nW hw lw kw wl_45 wb_45 wG_45 427 l1_x40 l3_x40 k46 b_wl_45 b_wb_45 (by first | with_reducible assumption | omega | (rw [iI_t (by omega) (by omega)]; omega) | decide | assumption) (by first | with_reducible assumption | omega | (rw [iI_t (by omega) (by omega)]; omega) | decide | assumption) (by first | with_reducible assumption | omega | (rw [iI_t (by omega) (by omega)]; omega) | decide | assumption) (by first | with_reducible assumption | omega | (rw [iI_t (by omega) (by omega)]; omega) | decide | assumption) (by omega) H.size) (cwV 3 hts gwsMX5_shortenTold_1 rfl rfl rfl hd_yX8_divide_RX8 (by decide +kernel)) (fz_pre (va_recv hK hP (ci := 8) (q0 := 11 + (11 + (5 + (427)))) rfl (apR rfl (apR rfl (apR rfl (WW_o (by omega)))))) hPc hKc hDc) rfl rfl hl.1 rfl (lv_room (Nat.le_of_ble_eq_true rfl)) dX5_shortenTold_122 (by decide +kernel)) hS (fun q _ h => hFc q h) hFc (fun u t9_ H locs ht hvm hw9 hB9 hz1 hk1 hS => ?_)
          revert u hw9 hB9
          refine fz_p3 ?_
          intro wl_47 wb_47 wG_47 hw9 hB9
          try dsimp only at hw9 hB9
          revert hw9
          refine fz_a2 ?_
          intro b_wl_47 b_wb_47
          have p8 := cj_4_3 (WO hO aO kO hM hQ hw iO_answered iO_searched iO_searchedRelaxed iO_counted fO_countedCase gO_goalNumber gO_goalScale fO_start fO_column fO_chosen) (WM hM aM kM iM_stands iM_variables iM_rows iM_goals iM_differents iM_cases fM_from fM_to fM_whole fM_ways iM_plainRows fM_plainRow fM_kept fM_goalOver fM_goalUnder fM_goalMax fM_different) (WQ hQ aQ kQ hw fQ_inside fQ_outside fQ_shut iQ_rows iQ_allRows iQ_columns) (WW nW hw lw kw wl_47 wb_47 wG_47)
          obtain ⟨hP, hD⟩ := frameG p9 p8 hP hD hk1 hFc (fz_P ht hB9.1) hB9.2
          have hl : lv_has _ _ ([(4, .int l4_x40), (3, .ref (hw l3_x40)), (2, .ref (hw l2_x40)), (1, .ref (hw l1_x40)), (0, .ref (hO 0))]) := lv_sub hl [0, 1, 2, 3, 4] rfl
          exact join10 _ _ _ _ ⟨wl_47, wb_47, wG_47, b_wl_47, b_wb_47, rfl, hP, hD, hS, hl⟩
      · rintro H locs ls stk ⟨wl_j10, wb_j10, wG_j10, b_wl_j10, b_wb_j10, rfl, hP, hD, hS, hl⟩
        refine W.widen (k := 0) (n := 0) (by decide +kernel) (by decide +kernel) ?_
        exact W.vret hx hb hr (fun t9_ ht hW => ⟨⟨(wl_j10, wb_j10, wG_j10), rfl, ⟨b_wl_j10, b_wb_j10⟩, by rw [ht]; exact hP, hD⟩, hS.F ht⟩) hS.2.2 dX5_shortenTold_125
theorem dX5_countRows_0 : decode cX5_countRows 0 = .ok (.aload_n 0, 1) := dk_42 (by decide +kernel)
theorem dX5_countRows_1 : decode cX5_countRows 1 = .ok (.getfield 18, 3) := dk_180 (by decide +kernel)
theorem dX5_countRows_4 : decode cX5_countRows 4 = .ok (.iconst (-1), 1) := dk_2 (by decide +kernel)
theorem dX5_countRows_5 : decode cX5_countRows 5 = .ok (.if_icmp .eq 8, 3) := dk_159 (by decide +kernel)
theorem dX5_countRows_8 : decode cX5_countRows 8 = .ok (.aload_n 0, 1) := dk_42 (by decide +kernel)
theorem dX5_countRows_9 : decode cX5_countRows 9 = .ok (.getfield 18, 3) := dk_180 (by decide +kernel)
theorem dX5_countRows_12 : decode cX5_countRows 12 = .ok (.ireturn, 1) := dk_172 (by decide +kernel)
theorem dX5_countRows_13 : decode cX5_countRows 13 = .ok (.iconst 1, 1) := dk_4 (by decide +kernel)
theorem dX5_countRows_14 : decode cX5_countRows 14 = .ok (.istore_n 1, 1) := dk_60 (by decide +kernel)
theorem dX5_countRows_15 : decode cX5_countRows 15 = .ok (.iconst 0, 1) := dk_3 (by decide +kernel)
theorem dX5_countRows_16 : decode cX5_countRows 16 = .ok (.istore_n 2, 1) := dk_61 (by decide +kernel)
theorem dX5_countRows_17 : decode cX5_countRows 17 = .ok (.iload_n 2, 1) := dk_28 (by decide +kernel)
theorem dX5_countRows_18 : decode cX5_countRows 18 = .ok (.aload_n 0, 1) := dk_42 (by decide +kernel)
theorem dX5_countRows_19 : decode cX5_countRows 19 = .ok (.getfield 74, 3) := dk_180 (by decide +kernel)
theorem dX5_countRows_22 : decode cX5_countRows 22 = .ok (.getfield 112, 3) := dk_180 (by decide +kernel)
theorem dX5_countRows_25 : decode cX5_countRows 25 = .ok (.if_icmp .ge 36, 3) := dk_162 (by decide +kernel)
theorem dX5_countRows_28 : decode cX5_countRows 28 = .ok (.iload_n 1, 1) := dk_27 (by decide +kernel)
theorem dX5_countRows_29 : decode cX5_countRows 29 = .ok (.aload_n 0, 1) := dk_42 (by decide +kernel)
theorem dX5_countRows_30 : decode cX5_countRows 30 = .ok (.getfield 74, 3) := dk_180 (by decide +kernel)
theorem dX5_countRows_33 : decode cX5_countRows 33 = .ok (.getfield 143, 3) := dk_180 (by decide +kernel)
theorem dX5_countRows_36 : decode cX5_countRows 36 = .ok (.iload_n 2, 1) := dk_28 (by decide +kernel)
theorem dX5_countRows_37 : decode cX5_countRows 37 = .ok (.baload, 1) := dk_51 (by decide +kernel)
theorem dX5_countRows_38 : decode cX5_countRows 38 = .ok (.ifCond .eq 14, 3) := dk_153 (by decide +kernel)
theorem dX5_countRows_41 : decode cX5_countRows 41 = .ok (.aload_n 0, 1) := dk_42 (by decide +kernel)
theorem dX5_countRows_42 : decode cX5_countRows 42 = .ok (.getfield 74, 3) := dk_180 (by decide +kernel)
theorem dX5_countRows_45 : decode cX5_countRows 45 = .ok (.iload_n 2, 1) := dk_28 (by decide +kernel)
theorem dX5_countRows_46 : decode cX5_countRows 46 = .ok (.invokevirtual 146, 3) := dk_182 (by decide +kernel)
theorem dX5_countRows_49 : decode cX5_countRows 49 = .ok (.goto 4, 3) := dk_167 (by decide +kernel)
theorem dX5_countRows_52 : decode cX5_countRows 52 = .ok (.iconst 1, 1) := dk_4 (by decide +kernel)
theorem dX5_countRows_53 : decode cX5_countRows 53 = .ok (.imul, 1) := dk_104 (by decide +kernel)
theorem dX5_countRows_54 : decode cX5_countRows 54 = .ok (.istore_n 1, 1) := dk_60 (by decide +kernel)
theorem dX5_countRows_55 : decode cX5_countRows 55 = .ok (.iinc 2 1, 3) := dk_132 (by decide +kernel)
theorem dX5_countRows_58 : decode cX5_countRows 58 = .ok (.goto (-41), 3) := dk_167 (by decide +kernel)
theorem dX5_countRows_61 : decode cX5_countRows 61 = .ok (.iload_n 1, 1) := dk_27 (by decide +kernel)
theorem dX5_countRows_62 : decode cX5_countRows 62 = .ok (.ifCond .ne 7, 3) := dk_154 (by decide +kernel)
theorem dX5_countRows_65 : decode cX5_countRows 65 = .ok (.iconst 0, 1) := dk_3 (by decide +kernel)
theorem dX5_countRows_66 : decode cX5_countRows 66 = .ok (.goto 12, 3) := dk_167 (by decide +kernel)
theorem dX5_countRows_69 : decode cX5_countRows 69 = .ok (.aload_n 0, 1) := dk_42 (by decide +kernel)
theorem dX5_countRows_70 : decode cX5_countRows 70 = .ok (.getfield 74, 3) := dk_180 (by decide +kernel)
theorem dX5_countRows_73 : decode cX5_countRows 73 = .ok (.getfield 91, 3) := dk_180 (by decide +kernel)
theorem dX5_countRows_76 : decode cX5_countRows 76 = .ok (.iload_n 1, 1) := dk_27 (by decide +kernel)
theorem dX5_countRows_77 : decode cX5_countRows 77 = .ok (.idiv, 1) := dk_108 (by decide +kernel)
theorem dX5_countRows_78 : decode cX5_countRows 78 = .ok (.istore_n 2, 1) := dk_61 (by decide +kernel)
theorem dX5_countRows_79 : decode cX5_countRows 79 = .ok (.aload_n 0, 1) := dk_42 (by decide +kernel)
theorem dX5_countRows_80 : decode cX5_countRows 80 = .ok (.iconst 0, 1) := dk_3 (by decide +kernel)
theorem dX5_countRows_81 : decode cX5_countRows 81 = .ok (.putfield 18, 3) := dk_181 (by decide +kernel)
theorem dX5_countRows_84 : decode cX5_countRows 84 = .ok (.iconst 0, 1) := dk_3 (by decide +kernel)
theorem dX5_countRows_85 : decode cX5_countRows 85 = .ok (.istore_n 3, 1) := dk_62 (by decide +kernel)
theorem dX5_countRows_86 : decode cX5_countRows 86 = .ok (.iload_n 3, 1) := dk_29 (by decide +kernel)
theorem dX5_countRows_87 : decode cX5_countRows 87 = .ok (.iload_n 1, 1) := dk_27 (by decide +kernel)
theorem dX5_countRows_88 : decode cX5_countRows 88 = .ok (.if_icmp .ge 108, 3) := dk_162 (by decide +kernel)
theorem dX5_countRows_91 : decode cX5_countRows 91 = .ok (.aload_n 0, 1) := dk_42 (by decide +kernel)
theorem dX5_countRows_92 : decode cX5_countRows 92 = .ok (.getfield 18, 3) := dk_180 (by decide +kernel)
theorem dX5_countRows_95 : decode cX5_countRows 95 = .ok (.aload_n 0, 1) := dk_42 (by decide +kernel)
theorem dX5_countRows_96 : decode cX5_countRows 96 = .ok (.getfield 24, 3) := dk_180 (by decide +kernel)
theorem dX5_countRows_99 : decode cX5_countRows 99 = .ok (.arraylength, 1) := dk_190 (by decide +kernel)
theorem dX5_countRows_100 : decode cX5_countRows 100 = .ok (.if_icmp .ge 96, 3) := dk_162 (by decide +kernel)
theorem dX5_countRows_103 : decode cX5_countRows 103 = .ok (.iconst 0, 1) := dk_3 (by decide +kernel)
theorem dX5_countRows_104 : decode cX5_countRows 104 = .ok (.istore 4, 2) := dk_54 (by decide +kernel)
theorem dX5_countRows_106 : decode cX5_countRows 106 = .ok (.iconst 0, 1) := dk_3 (by decide +kernel)
theorem dX5_countRows_107 : decode cX5_countRows 107 = .ok (.istore 5, 2) := dk_54 (by decide +kernel)
theorem dX5_countRows_109 : decode cX5_countRows 109 = .ok (.iload 5, 2) := dk_21 (by decide +kernel)
theorem dX5_countRows_111 : decode cX5_countRows 111 = .ok (.iload_n 2, 1) := dk_28 (by decide +kernel)
theorem dX5_countRows_112 : decode cX5_countRows 112 = .ok (.if_icmp .ge 51, 3) := dk_162 (by decide +kernel)
theorem dX5_countRows_115 : decode cX5_countRows 115 = .ok (.iload 4, 2) := dk_21 (by decide +kernel)
theorem dX5_countRows_117 : decode cX5_countRows 117 = .ok (.ifCond .ne 46, 3) := dk_154 (by decide +kernel)
theorem dX5_countRows_120 : decode cX5_countRows 120 = .ok (.aload_n 0, 1) := dk_42 (by decide +kernel)
theorem dX5_countRows_121 : decode cX5_countRows 121 = .ok (.iload_n 3, 1) := dk_29 (by decide +kernel)
theorem dX5_countRows_122 : decode cX5_countRows 122 = .ok (.iload_n 2, 1) := dk_28 (by decide +kernel)
theorem dX5_countRows_123 : decode cX5_countRows 123 = .ok (.imul, 1) := dk_104 (by decide +kernel)
theorem dX5_countRows_124 : decode cX5_countRows 124 = .ok (.iload 5, 2) := dk_21 (by decide +kernel)
theorem dX5_countRows_126 : decode cX5_countRows 126 = .ok (.iadd, 1) := dk_96 (by decide +kernel)
theorem dX5_countRows_127 : decode cX5_countRows 127 = .ok (.invokevirtual 94, 3) := dk_182 (by decide +kernel)
theorem dX5_countRows_130 : decode cX5_countRows 130 = .ok (.ifCond .eq 24, 3) := dk_153 (by decide +kernel)
theorem dX5_countRows_133 : decode cX5_countRows 133 = .ok (.aload_n 0, 1) := dk_42 (by decide +kernel)
theorem dX5_countRows_134 : decode cX5_countRows 134 = .ok (.iconst 0, 1) := dk_3 (by decide +kernel)
theorem dX5_countRows_135 : decode cX5_countRows 135 = .ok (.iconst 0, 1) := dk_3 (by decide +kernel)
theorem dX5_countRows_136 : decode cX5_countRows 136 = .ok (.invokevirtual 101, 3) := dk_182 (by decide +kernel)
theorem dX5_countRows_139 : decode cX5_countRows 139 = .ok (.ifCond .eq 15, 3) := dk_153 (by decide +kernel)
theorem dX5_countRows_142 : decode cX5_countRows 142 = .ok (.aload_n 0, 1) := dk_42 (by decide +kernel)
theorem dX5_countRows_143 : decode cX5_countRows 143 = .ok (.iconst 0, 1) := dk_3 (by decide +kernel)
theorem dX5_countRows_144 : decode cX5_countRows 144 = .ok (.invokevirtual 105, 3) := dk_182 (by decide +kernel)
theorem dX5_countRows_147 : decode cX5_countRows 147 = .ok (.ifCond .eq 7, 3) := dk_153 (by decide +kernel)
theorem dX5_countRows_150 : decode cX5_countRows 150 = .ok (.iconst 1, 1) := dk_4 (by decide +kernel)
theorem dX5_countRows_151 : decode cX5_countRows 151 = .ok (.goto 4, 3) := dk_167 (by decide +kernel)
theorem dX5_countRows_154 : decode cX5_countRows 154 = .ok (.iconst 0, 1) := dk_3 (by decide +kernel)
theorem dX5_countRows_155 : decode cX5_countRows 155 = .ok (.istore 4, 2) := dk_54 (by decide +kernel)
theorem dX5_countRows_157 : decode cX5_countRows 157 = .ok (.iinc 5 1, 3) := dk_132 (by decide +kernel)
theorem dX5_countRows_160 : decode cX5_countRows 160 = .ok (.goto (-51), 3) := dk_167 (by decide +kernel)
theorem dX5_countRows_163 : decode cX5_countRows 163 = .ok (.iload 4, 2) := dk_21 (by decide +kernel)
theorem dX5_countRows_165 : decode cX5_countRows 165 = .ok (.ifCond .eq 25, 3) := dk_153 (by decide +kernel)
theorem dX5_countRows_168 : decode cX5_countRows 168 = .ok (.aload_n 0, 1) := dk_42 (by decide +kernel)
theorem dX5_countRows_169 : decode cX5_countRows 169 = .ok (.getfield 24, 3) := dk_180 (by decide +kernel)
theorem dX5_countRows_172 : decode cX5_countRows 172 = .ok (.aload_n 0, 1) := dk_42 (by decide +kernel)
theorem dX5_countRows_173 : decode cX5_countRows 173 = .ok (.getfield 18, 3) := dk_180 (by decide +kernel)
theorem dX5_countRows_176 : decode cX5_countRows 176 = .ok (.iload_n 3, 1) := dk_29 (by decide +kernel)
theorem dX5_countRows_177 : decode cX5_countRows 177 = .ok (.iload_n 2, 1) := dk_28 (by decide +kernel)
theorem dX5_countRows_178 : decode cX5_countRows 178 = .ok (.imul, 1) := dk_104 (by decide +kernel)
theorem dX5_countRows_179 : decode cX5_countRows 179 = .ok (.iastore, 1) := dk_79 (by decide +kernel)
theorem dX5_countRows_180 : decode cX5_countRows 180 = .ok (.aload_n 0, 1) := dk_42 (by decide +kernel)
theorem dX5_countRows_181 : decode cX5_countRows 181 = .ok (.dup, 1) := dk_89 (by decide +kernel)
theorem dX5_countRows_182 : decode cX5_countRows 182 = .ok (.getfield 18, 3) := dk_180 (by decide +kernel)
theorem dX5_countRows_185 : decode cX5_countRows 185 = .ok (.iconst 1, 1) := dk_4 (by decide +kernel)
theorem dX5_countRows_186 : decode cX5_countRows 186 = .ok (.iadd, 1) := dk_96 (by decide +kernel)
theorem dX5_countRows_187 : decode cX5_countRows 187 = .ok (.putfield 18, 3) := dk_181 (by decide +kernel)
theorem dX5_countRows_190 : decode cX5_countRows 190 = .ok (.iinc 3 1, 3) := dk_132 (by decide +kernel)
theorem dX5_countRows_193 : decode cX5_countRows 193 = .ok (.goto (-107), 3) := dk_167 (by decide +kernel)
theorem dX5_countRows_196 : decode cX5_countRows 196 = .ok (.aload_n 0, 1) := dk_42 (by decide +kernel)
theorem dX5_countRows_197 : decode cX5_countRows 197 = .ok (.getfield 18, 3) := dk_180 (by decide +kernel)
theorem dX5_countRows_200 : decode cX5_countRows 200 = .ok (.ireturn, 1) := dk_172 (by decide +kernel)
def wsMX5_countRows : List Cond := .code yX5_countRows cX5_countRows 6 (some .int) :: ([.fieldLink RX5 18 "OptimaWorks$Solver" "counted" "I", .fieldLink RX5 74 "OptimaWorks$Solver" "model" "LOptimaWorks$Model;", .fieldLink RX5 112 "OptimaWorks$Model" "variables" "I", .fieldLink RX5 143 "OptimaWorks$Model" "whole" "[Z", .fieldLink RX5 91 "OptimaWorks$Model" "cases" "I", .fieldLink RX5 24 "OptimaWorks$Solver" "countedCase" "[I"] ++ wsX10 ++ wsX50 ++ (wsV RX5 146 RX1 yX1_range wsMX1_range) ++ (wsV RX5 94 RX5 yX5_choose wsMX5_choose) ++ (wsV RX5 101 RX5 yX5_lay wsMX5_lay) ++ (wsV RX5 105 RX5 yX5_settle wsMX5_settle))
theorem iwsMX5_countRows_in1 : ∀ w ∈ wsX10, w ∈ wsMX5_countRows := fun _ h => List.mem_cons_of_mem _ (List.mem_append_left _ (List.mem_append_left _ (List.mem_append_left _ (List.mem_append_left _ (List.mem_append_left _ (List.mem_append_right _ h))))))
theorem iwsMX5_countRows_in5 : ∀ w ∈ wsX50, w ∈ wsMX5_countRows := fun _ h => List.mem_cons_of_mem _ (List.mem_append_left _ (List.mem_append_left _ (List.mem_append_left _ (List.mem_append_left _ (List.mem_append_right _ h)))))
theorem gwsMX5_countRows_0 : GoodIn wsMX5_countRows (wsV RX5 146 RX1 yX1_range wsMX1_range) := goodIn_sub (fun _ h => List.mem_cons_of_mem _ (List.mem_append_left _ (List.mem_append_left _ (List.mem_append_left _ (List.mem_append_right _ h))))) (gdV (by decide +kernel) gdwsMX1_range)
theorem gwsMX5_countRows_1 : GoodIn wsMX5_countRows (wsV RX5 94 RX5 yX5_choose wsMX5_choose) := goodIn_sub (fun _ h => List.mem_cons_of_mem _ (List.mem_append_left _ (List.mem_append_left _ (List.mem_append_right _ h)))) (gdV (by decide +kernel) gdwsMX5_choose)
theorem gwsMX5_countRows_2 : GoodIn wsMX5_countRows (wsV RX5 101 RX5 yX5_lay wsMX5_lay) := goodIn_sub (fun _ h => List.mem_cons_of_mem _ (List.mem_append_left _ (List.mem_append_right _ h))) (gdV (by decide +kernel) gdwsMX5_lay)
theorem gwsMX5_countRows_3 : GoodIn wsMX5_countRows (wsV RX5 105 RX5 yX5_settle wsMX5_settle) := goodIn_sub (fun _ h => List.mem_cons_of_mem _ (List.mem_append_right _ h)) (gdV (by decide +kernel) gdwsMX5_settle)
theorem gdwsMX5_countRows : wsMX5_countRows.all goodWord = true := gdC rfl (gdA (gdA (gdA (gdA (gdA (gdA (by decide +kernel : ([.fieldLink RX5 18 "OptimaWorks$Solver" "counted" "I", .fieldLink RX5 74 "OptimaWorks$Solver" "model" "LOptimaWorks$Model;", .fieldLink RX5 112 "OptimaWorks$Model" "variables" "I", .fieldLink RX5 143 "OptimaWorks$Model" "whole" "[Z", .fieldLink RX5 91 "OptimaWorks$Model" "cases" "I", .fieldLink RX5 24 "OptimaWorks$Solver" "countedCase" "[I"] : List Cond).all goodWord = true) gdwsX10) gdwsX50) (gdV (by decide +kernel) gdwsMX1_range)) (gdV (by decide +kernel) gdwsMX5_choose)) (gdV (by decide +kernel) gdwsMX5_lay)) (gdV (by decide +kernel) gdwsMX5_settle))
theorem hm_m_X5_countRows_0 : (.fieldLink RX5 18 "OptimaWorks$Solver" "counted" "I" : Cond) ∈ wsMX5_countRows := by decide +kernel
theorem hm_m_X5_countRows_1 : (.fieldLink RX5 74 "OptimaWorks$Solver" "model" "LOptimaWorks$Model;" : Cond) ∈ wsMX5_countRows := by decide +kernel
theorem hm_m_X5_countRows_2 : (.fieldLink RX5 24 "OptimaWorks$Solver" "countedCase" "[I" : Cond) ∈ wsMX5_countRows := by decide +kernel
set_option maxHeartbeats 4000000 in
set_option maxRecDepth 100000 in
/-- rows are counted -/
theorem m_X5_countRows (l : Launch) (dC : Nat → ClassId) (dI : Nat → Nat → Nat) (hO : Nat → Nat) (aO : Nat → Nat) (kO : Nat → ClassId) (hM : Nat → Nat) (hQ : Nat → Nat) (hw : Nat → Nat) (iO_answered : Int32) (iO_searched : Int32) (iO_searchedRelaxed : Int32) (iO_counted : Int32) (fO_countedCase : Nat → Int32) (gO_goalNumber : Nat → Int64) (gO_goalScale : Nat → Int64) (fO_start : Nat → Int32) (fO_column : Nat → Int32) (fO_chosen : Nat → Int32) (aM : Nat → Nat) (kM : Nat → ClassId) (iM_stands : Int32) (iM_variables : Int32) (iM_rows : Int32) (iM_goals : Int32) (iM_differents : Int32) (iM_cases : Int32) (fM_from : Nat → Int32) (fM_to : Nat → Int32) (fM_whole : Nat → Int32) (fM_ways : Nat → Int32) (iM_plainRows : Int32) (fM_plainRow : Nat → Int32) (fM_kept : Nat → Int32) (fM_goalOver : Nat → Int32) (fM_goalUnder : Nat → Int32) (fM_goalMax : Nat → Int32) (fM_different : Nat → Int32) (aQ : Nat → Nat) (kQ : Nat → ClassId) (fQ_inside : Nat → Int32) (fQ_outside : Nat → Int32) (fQ_shut : Nat → Int32) (iQ_rows : Int32) (iQ_allRows : Int32) (iQ_columns : Int32) (nW : Nat) (lw : Nat → Nat) (kw : ClassId) (wl : Nat → Int32) (wb : Nat → Int32) (wG : Nat → Nat → Int64) (b_iO_answered : 0 ≤ iO_answered.toInt ∧ iO_answered.toInt ≤ 1) (b_iO_searched : 0 ≤ iO_searched.toInt ∧ iO_searched.toInt ≤ 1) (b_iO_searchedRelaxed : 0 ≤ iO_searchedRelaxed.toInt ∧ iO_searchedRelaxed.toInt ≤ 1) (b_iO_counted : (-1) ≤ iO_counted.toInt ∧ iO_counted.toInt ≤ 64) (b_fO_countedCase : ∀ q : Nat, 0 ≤ (fO_countedCase q).toInt ∧ (fO_countedCase q).toInt ≤ 200000) (b_fO_column : ∀ q : Nat, (-1) ≤ (fO_column q).toInt ∧ (fO_column q).toInt ≤ 8) (b_fO_chosen : ∀ q : Nat, 0 ≤ (fO_chosen q).toInt ∧ (fO_chosen q).toInt ≤ 2) (b_iM_stands : 0 ≤ iM_stands.toInt ∧ iM_stands.toInt ≤ 1) (b_iM_variables : 0 ≤ iM_variables.toInt ∧ iM_variables.toInt ≤ 8) (b_iM_rows : 0 ≤ iM_rows.toInt ∧ iM_rows.toInt ≤ 12) (b_iM_goals : 0 ≤ iM_goals.toInt ∧ iM_goals.toInt ≤ 3) (b_iM_differents : 0 ≤ iM_differents.toInt ∧ iM_differents.toInt ≤ 8) (b_iM_cases : 0 ≤ iM_cases.toInt ∧ iM_cases.toInt ≤ 200000) (b_fM_ways : ∀ q : Nat, 0 ≤ (fM_ways q).toInt ∧ (fM_ways q).toInt ≤ 3) (b_iM_plainRows : 0 ≤ iM_plainRows.toInt ∧ iM_plainRows.toInt ≤ 12) (b_fM_plainRow : ∀ q : Nat, 0 ≤ (fM_plainRow q).toInt ∧ (fM_plainRow q).toInt ≤ 11) (b_pr : iM_plainRows.toInt ≤ iM_rows.toInt) (b_iQ_rows : 0 ≤ iQ_rows.toInt ∧ iQ_rows.toInt ≤ 40) (b_iQ_allRows : 0 ≤ iQ_allRows.toInt ∧ iQ_allRows.toInt ≤ 40) (b_iQ_columns : 0 ≤ iQ_columns.toInt ∧ iQ_columns.toInt ≤ 40) (b_tb : TbO iQ_rows iQ_allRows iQ_columns) (b_wl : ∀ q : Nat, 0 ≤ (wl q).toInt ∧ (wl q).toInt ≤ 14) (b_wb : ∀ q : Nat, 0 ≤ (wb q).toInt ∧ (wb q).toInt ≤ 1) (hnW : 432 ≤ nW) (sz : Nat) : Met l yX5_countRows wsMX5_countRows ({ frames := 7, cells := 0, slots := 0, locals := 178 }) (va_Pc [.ref (hO 0)] (fun U => U.heap.size = sz ∧ va_P (dC, dI) vwCl (WO hO aO kO hM hQ hw iO_answered iO_searched iO_searchedRelaxed iO_counted fO_countedCase gO_goalNumber gO_goalScale fO_start fO_column fO_chosen ++ (WM hM aM kM iM_stands iM_variables iM_rows iM_goals iM_differents iM_cases fM_from fM_to fM_whole fM_ways iM_plainRows fM_plainRow fM_kept fM_goalOver fM_goalUnder fM_goalMax fM_different ++ (WQ hQ aQ kQ hw fQ_inside fQ_outside fQ_shut iQ_rows iQ_allRows iQ_columns ++ (WW nW hw lw kw wl wb wG)))) U.heap ∧ va_K (dC, dI) vwCl (tO kO ++ (tM kM ++ (tQ kQ ++ (tW kw)))) U ∧ va_D (fun _ => True) (WO hO aO kO hM hQ hw iO_answered iO_searched iO_searchedRelaxed iO_counted fO_countedCase gO_goalNumber gO_goalScale fO_start fO_column fO_chosen ++ (WM hM aM kM iM_stands iM_variables iM_rows iM_goals iM_differents iM_cases fM_from fM_to fM_whole fM_ways iM_plainRows fM_plainRow fM_kept fM_goalOver fM_goalUnder fM_goalMax fM_different ++ (WQ hQ aQ kQ hw fQ_inside fQ_outside fQ_shut iQ_rows iQ_allRows iQ_columns ++ (WW nW hw lw kw wl wb wG)))))) (va_Qi (fun (r : Int32) (u : (Int32) × (Nat → Int32) × (Nat → Int32) × (Nat → Int32) × (Nat → Int32) × (Nat → Int32) × (Nat → Int32) × (Nat → Int32) × (Int32) × (Int32) × (Int32) × (Nat → Int32) × (Nat → Int32) × (Nat → Nat → Int64)) => ((-1) ≤ (u.1).toInt ∧ (u.1).toInt ≤ 64) ∧ (∀ q : Nat, 0 ≤ ((u.2.1) q).toInt ∧ ((u.2.1) q).toInt ≤ 200000) ∧ (∀ q : Nat, (-1) ≤ ((u.2.2.2.1) q).toInt ∧ ((u.2.2.2.1) q).toInt ≤ 8) ∧ (∀ q : Nat, 0 ≤ ((u.2.2.2.2.1) q).toInt ∧ ((u.2.2.2.2.1) q).toInt ≤ 2) ∧ (0 ≤ (u.2.2.2.2.2.2.2.2.1).toInt ∧ (u.2.2.2.2.2.2.2.2.1).toInt ≤ 40) ∧ (0 ≤ (u.2.2.2.2.2.2.2.2.2.1).toInt ∧ (u.2.2.2.2.2.2.2.2.2.1).toInt ≤ 40) ∧ (0 ≤ (u.2.2.2.2.2.2.2.2.2.2.1).toInt ∧ (u.2.2.2.2.2.2.2.2.2.2.1).toInt ≤ 40) ∧ (∀ q : Nat, 0 ≤ ((u.2.2.2.2.2.2.2.2.2.2.2.1) q).toInt ∧ ((u.2.2.2.2.2.2.2.2.2.2.2.1) q).toInt ≤ 14) ∧ (∀ q : Nat, 0 ≤ ((u.2.2.2.2.2.2.2.2.2.2.2.2.1) q).toInt ∧ ((u.2.2.2.2.2.2.2.2.2.2.2.2.1) q).toInt ≤ 1) ∧ (TbO (u.2.2.2.2.2.2.2.2.1) (u.2.2.2.2.2.2.2.2.2.1) (u.2.2.2.2.2.2.2.2.2.2.1)) ∧ ((-1) ≤ r.toInt ∧ r.toInt ≤ 64)) (fun (u : (Int32) × (Nat → Int32) × (Nat → Int32) × (Nat → Int32) × (Nat → Int32) × (Nat → Int32) × (Nat → Int32) × (Nat → Int32) × (Int32) × (Int32) × (Int32) × (Nat → Int32) × (Nat → Int32) × (Nat → Nat → Int64)) t => va_P (dC, dI) vwCl (WO hO aO kO hM hQ hw iO_answered iO_searched iO_searchedRelaxed (u.1) (u.2.1) gO_goalNumber gO_goalScale (u.2.2.1) (u.2.2.2.1) (u.2.2.2.2.1) ++ (WM hM aM kM iM_stands iM_variables iM_rows iM_goals iM_differents iM_cases fM_from fM_to fM_whole fM_ways iM_plainRows fM_plainRow fM_kept fM_goalOver fM_goalUnder fM_goalMax fM_different ++ (WQ hQ aQ kQ hw (u.2.2.2.2.2.1) (u.2.2.2.2.2.2.1) (u.2.2.2.2.2.2.2.1) (u.2.2.2.2.2.2.2.2.1) (u.2.2.2.2.2.2.2.2.2.1) (u.2.2.2.2.2.2.2.2.2.2.1) ++ (WW nW hw lw kw (u.2.2.2.2.2.2.2.2.2.2.2.1) (u.2.2.2.2.2.2.2.2.2.2.2.2.1) (u.2.2.2.2.2.2.2.2.2.2.2.2.2))))) t.heap ∧ va_D (va_A (WO hO aO kO hM hQ hw iO_answered iO_searched iO_searchedRelaxed iO_counted fO_countedCase gO_goalNumber gO_goalScale fO_start fO_column fO_chosen ++ (WM hM aM kM iM_stands iM_variables iM_rows iM_goals iM_differents iM_cases fM_from fM_to fM_whole fM_ways iM_plainRows fM_plainRow fM_kept fM_goalOver fM_goalUnder fM_goalMax fM_different ++ (WQ hQ aQ kQ hw fQ_inside fQ_outside fQ_shut iQ_rows iQ_allRows iQ_columns ++ (WW nW hw lw kw wl wb wG)))) sz) (WO hO aO kO hM hQ hw iO_answered iO_searched iO_searchedRelaxed (u.1) (u.2.1) gO_goalNumber gO_goalScale (u.2.2.1) (u.2.2.2.1) (u.2.2.2.2.1) ++ (WM hM aM kM iM_stands iM_variables iM_rows iM_goals iM_differents iM_cases fM_from fM_to fM_whole fM_ways iM_plainRows fM_plainRow fM_kept fM_goalOver fM_goalUnder fM_goalMax fM_different ++ (WQ hQ aQ kQ hw (u.2.2.2.2.2.1) (u.2.2.2.2.2.2.1) (u.2.2.2.2.2.2.2.1) (u.2.2.2.2.2.2.2.2.1) (u.2.2.2.2.2.2.2.2.2.1) (u.2.2.2.2.2.2.2.2.2.2.1) ++ (WW nW hw lw kw (u.2.2.2.2.2.2.2.2.2.2.2.1) (u.2.2.2.2.2.2.2.2.2.2.2.2.1) (u.2.2.2.2.2.2.2.2.2.2.2.2.2)))))) (va_A (WO hO aO kO hM hQ hw iO_answered iO_searched iO_searchedRelaxed iO_counted fO_countedCase gO_goalNumber gO_goalScale fO_start fO_column fO_chosen ++ (WM hM aM kM iM_stands iM_variables iM_rows iM_goals iM_differents iM_cases fM_from fM_to fM_whole fM_ways iM_plainRows fM_plainRow fM_kept fM_goalOver fM_goalUnder fM_goalMax fM_different ++ (WQ hQ aQ kQ hw fQ_inside fQ_outside fQ_shut iQ_rows iQ_allRows iQ_columns ++ (WW nW hw lw kw wl wb wG)))) sz)) 0 0 (va_A (WO hO aO kO hM hQ hw iO_answered iO_searched iO_searchedRelaxed iO_counted fO_countedCase gO_goalNumber gO_goalScale fO_start fO_column fO_chosen ++ (WM hM aM kM iM_stands iM_variables iM_rows iM_goals iM_differents iM_cases fM_from fM_to fM_whole fM_ways iM_plainRows fM_plainRow fM_kept fM_goalOver fM_goalUnder fM_goalMax fM_different ++ (WQ hQ aQ kQ hw fQ_inside fQ_outside fQ_shut iQ_rows iQ_allRows iQ_columns ++ (WW nW hw lw kw wl wb wG)))) sz) := by
  refine Met.ofW (cc := cX5_countRows) (maxL := 6) (ret := (some .int)) (by decide) rfl ?_
  intro p e s m args below meth c s₁ B hml hv
  obtain ⟨rfl, hsz, hP, hK, hD0⟩ := hv
  have hx := B.exec
  have hb := B.bytes
  have hr := B.returns
  have hts := atoms_spec (ws := wsMX5_countRows) B.pre
  have hown : s.vm.findClass RX5 = some m.cls := findClass_of_methodNamed B.named
  have hlocks := B.notSynchronized
  subst hsz
  have hD := hD0.self (sz := s.heap.size)
  generalize hAe : va_A (WO hO aO kO hM hQ hw iO_answered iO_searched iO_searchedRelaxed iO_counted fO_countedCase gO_goalNumber gO_goalScale fO_start fO_column fO_chosen ++ (WM hM aM kM iM_stands iM_variables iM_rows iM_goals iM_differents iM_cases fM_from fM_to fM_whole fM_ways iM_plainRows fM_plainRow fM_kept fM_goalOver fM_goalUnder fM_goalMax fM_different ++ (WQ hQ aQ kQ hw fQ_inside fQ_outside fQ_shut iQ_rows iQ_allRows iQ_columns ++ (WW nW hw lw kw wl wb wG)))) s.heap.size = A at hD ⊢
  have hA : ∀ q : Nat, s.heap.size ≤ q → A q := fun q h => by rw [← hAe]; exact Or.inr h
  have hS : va_S A s.heap s.heap [] := va_S.rf
  have hl := lv_entry ([.ref (hO 0)]) (n := 6) (Nat.le_of_ble_eq_true rfl)
  rw [lg_entry_eq]
  generalize (lg_sl ([.ref (hO 0)]) ++ List.replicate (6 - (lg_sl ([.ref (hO 0)])).length) Slot.unset).toArray = ls at hl ⊢
  have hl : lv_has ls 6 [(0, .ref (hO 0))] := hl
  refine lv_aload_n hx hb dX5_countRows_0 rfl (lv_at hl 0 rfl) ?_
  refine va_get (D := (dC, dI)) (ci := 5) (v := .int iO_counted) (C := RX5) (T := TX5) (N := 19) hx hb hts iwsMX5_countRows_in5 hown hK hP 0 rfl rfl 5 (by decide) (hts _ hm_m_X5_countRows_0) (fun _ h9 => h9) rfl dX5_countRows_1 ?_
  refine lv_iconst (v := (-1)) hx hb dX5_countRows_4 (by decide) ?_
  refine lv_icmp_eq (tgt := 13) hx hb dX5_countRows_5 (by decide) (fun c_5 => ?_) (fun c_5 => ?_)
  · have t_5 : iO_counted.toInt = (-1) := toI_eq c_5 rfl (by decide : ((-1) : Int32).toInt = (-1))
    refine lv_iconst (v := 1) hx hb dX5_countRows_13 (by decide) ?_
    refine lv_istore_n hx hb dX5_countRows_14 rfl hl (by decide) rfl (fun ls (hl : lv_has ls _ ([(1, .int 1), (0, .ref (hO 0))])) => ?_)
    refine lv_iconst (v := 0) hx hb dX5_countRows_15 (by decide) ?_
    refine lv_istore_n hx hb dX5_countRows_16 rfl hl (by decide) rfl (fun ls (hl : lv_has ls _ ([(2, .int 0), (1, .int 1), (0, .ref (hO 0))])) => ?_)
    have hl : lv_has _ _ ([(2, .int 0), (1, .int 1), (0, .ref (hO 0))]) := lv_sub hl [0, 1, 2] rfl
    refine (fun (loop : ∀ (n9 : Nat) (l2_x17 : Int32) (l1_x17 : Int32) (H : Heap) (locs : List Loc) (ls : Array Slot), (0 ≤ l2_x17.toInt ∧ l2_x17.toInt ≤ 8) → (8 - l2_x17.toInt < ((n9 : Nat) : Int)) → va_P (dC, dI) vwCl (WO hO aO kO hM hQ hw iO_answered iO_searched iO_searchedRelaxed iO_counted fO_countedCase gO_goalNumber gO_goalScale fO_start fO_column fO_chosen ++ (WM hM aM kM iM_stands iM_variables iM_rows iM_goals iM_differents iM_cases fM_from fM_to fM_whole fM_ways iM_plainRows fM_plainRow fM_kept fM_goalOver fM_goalUnder fM_goalMax fM_different ++ (WQ hQ aQ kQ hw fQ_inside fQ_outside fQ_shut iQ_rows iQ_allRows iQ_columns ++ (WW nW hw lw kw wl wb wG)))) H → va_D A (WO hO aO kO hM hQ hw iO_answered iO_searched iO_searchedRelaxed iO_counted fO_countedCase gO_goalNumber gO_goalScale fO_start fO_column fO_chosen ++ (WM hM aM kM iM_stands iM_variables iM_rows iM_goals iM_differents iM_cases fM_from fM_to fM_whole fM_ways iM_plainRows fM_plainRow fM_kept fM_goalOver fM_goalUnder fM_goalMax fM_different ++ (WQ hQ aQ kQ hw fQ_inside fQ_outside fQ_shut iQ_rows iQ_allRows iQ_columns ++ (WW nW hw lw kw wl wb wG)))) → va_S A s.heap H locs → lv_has ls 6 [(2, .int l2_x17), (1, .int l1_x17), (0, .ref (hO 0))] → W p l e _ s m _ below meth c H locs 0 0 _ (F0 m 17 ls [])) => loop (9) 0 1 _ _ _ (show 0 ≤ (0 : Int32).toInt ∧ (0 : Int32).toInt ≤ 8 from by decide) ((by have e9 : (0 : Int32).toInt = 0 := (by decide : (0 : Int32).toInt = 0); omega)) hP hD hS hl) ?_
    intro n9
    induction n9 with
    | zero => intro l2_x17 l1_x17 H locs ls b_l2_x17 hf9; exact False.elim (by omega)
    | succ n9 ihx17 =>
      intro l2_x17 l1_x17 H locs ls b_l2_x17 hfx17 hP hD hS hl
      refine lv_iload_n hx hb dX5_countRows_17 rfl (lv_at hl 0 rfl) ?_
      refine lv_aload_n hx hb dX5_countRows_18 rfl (lv_at hl 2 rfl) ?_
      refine va_get (D := (dC, dI)) (ci := 5) (v := .ref (hM 0)) (C := RX5) (T := TX5) (N := 19) hx hb hts iwsMX5_countRows_in5 hown hK hP 0 rfl rfl 0 (by decide) (hts _ hm_m_X5_countRows_1) (fun _ h9 => h9) rfl dX5_countRows_19 ?_
      refine va_get (D := (dC, dI)) (ci := 1) (v := .int iM_variables) (C := RX1) (T := TX1) (N := 17) hx hb hts iwsMX5_countRows_in1 hown hK hP 11 rfl rfl 1 (by decide) (hts (.fieldLink RX5 112 "OptimaWorks$Model" "variables" "I") (by decide +kernel)) (fun _ h9 => h9) rfl dX5_countRows_22 ?_
      refine lv_icmp_ge (tgt := 61) hx hb dX5_countRows_25 (by decide) (fun c_25 => ?_) (fun c_25 => ?_)
      · have t_25 : l2_x17.toInt ≥ iM_variables.toInt := toI_ge c_25 rfl rfl
        refine lv_iload_n hx hb dX5_countRows_61 rfl (lv_at hl 1 rfl) ?_
        refine W.cut (pc := 78) (fun H locs ls stk => ∃ (k0_j305 : Int32), (0 < l1_x17.toInt → 0 ≤ k0_j305.toInt ∧ k0_j305.toInt * l1_x17.toInt ≤ 200000) ∧  stk = [.int k0_j305] ∧ va_P (dC, dI) vwCl (WO hO aO kO hM hQ hw iO_answered iO_searched iO_searchedRelaxed iO_counted fO_countedCase gO_goalNumber gO_goalScale fO_start fO_column fO_chosen ++ (WM hM aM kM iM_stands iM_variables iM_rows iM_goals iM_differents iM_cases fM_from fM_to fM_whole fM_ways iM_plainRows fM_plainRow fM_kept fM_goalOver fM_goalUnder fM_goalMax fM_different ++ (WQ hQ aQ kQ hw fQ_inside fQ_outside fQ_shut iQ_rows iQ_allRows iQ_columns ++ (WW nW hw lw kw wl wb wG)))) H ∧ va_D A (WO hO aO kO hM hQ hw iO_answered iO_searched iO_searchedRelaxed iO_counted fO_countedCase gO_goalNumber gO_goalScale fO_start fO_column fO_chosen ++ (WM hM aM kM iM_stands iM_variables iM_rows iM_goals iM_differents iM_cases fM_from fM_to fM_whole fM_ways iM_plainRows fM_plainRow fM_kept fM_goalOver fM_goalUnder fM_goalMax fM_different ++ (WQ hQ aQ kQ hw fQ_inside fQ_outside fQ_shut iQ_rows iQ_allRows iQ_columns ++ (WW nW hw lw kw wl wb wG)))) ∧ va_S A s.heap H locs ∧ lv_has ls 6 [(2, .int l2_x17), (1, .int l1_x17), (0, .ref (hO 0))]) (fun join305 => ?_) ?_
        · refine lv_if_ne (tgt := 69) hx hb dX5_countRows_62 (by decide) (fun c_62 => ?_) (fun c_62 => ?_)
          · have t_62 : l1_x17.toInt ≠ 0 := toI_ne c_62 rfl (by decide : (0 : Int32).toInt = 0)
            refine lv_aload_n hx hb dX5_countRows_69 rfl (lv_at hl 2 rfl) ?_
            refine va_get (D := (dC, dI)) (ci := 5) (v := .ref (hM 0)) (C := RX5) (T := TX5) (N := 19) hx hb hts iwsMX5_countRows_in5 hown hK hP 0 rfl rfl 0 (by decide) (hts _ hm_m_X5_countRows_1) (fun _ h9 => h9) rfl dX5_countRows_70 ?_
            refine va_get (D := (dC, dI)) (ci := 1) (v := .int iM_cases) (C := RX1) (T := TX1) (N := 17) hx hb hts iwsMX5_countRows_in1 hown hK hP 11 rfl rfl 5 (by decide) (hts (.fieldLink RX5 91 "OptimaWorks$Model" "cases" "I") (by decide +kernel)) (fun _ h9 => h9) rfl dX5_countRows_73 ?_
            refine lv_iload_n hx hb dX5_countRows_76 rfl (lv_at hl 1 rfl) ?_
            refine lv_idiv hx hb dX5_countRows_77 (nz_i (x := l1_x17) rfl (by omega)) ?_
            refine lv_topi (fun v619 hv619 => ?_)
            have b_v619 : 0 < l1_x17.toInt → 0 ≤ v619.toInt ∧ v619.toInt * l1_x17.toInt ≤ iM_cases.toInt := by rw [hv619]; exact idiv_mul rfl rfl (by omega)
            clear hv619
            have hl : lv_has _ _ ([(2, .int l2_x17), (1, .int l1_x17), (0, .ref (hO 0))]) := lv_sub hl [0, 1, 2] rfl
            exact join305 _ _ _ _ ⟨v619, (show 0 < l1_x17.toInt → 0 ≤ v619.toInt ∧ v619.toInt * l1_x17.toInt ≤ 200000 from by first | (intro h9; exfalso; omega) | (intro h9; have h8 := b_v619 h9; exact ⟨h8.1, by omega⟩)), rfl, hP, hD, hS, hl⟩
          · have t_62 : l1_x17.toInt = 0 := toI_nne c_62 rfl (by decide : (0 : Int32).toInt = 0)
            refine lv_iconst (v := 0) hx hb dX5_countRows_65 (by decide) ?_
            refine lv_goto (tgt := 78) hx hb dX5_countRows_66 (by decide) ?_
            have hl : lv_has _ _ ([(2, .int l2_x17), (1, .int l1_x17), (0, .ref (hO 0))]) := lv_sub hl [0, 1, 2] rfl
            exact join305 _ _ _ _ ⟨0, (show 0 < l1_x17.toInt → 0 ≤ (0 : Int32).toInt ∧ (0 : Int32).toInt * l1_x17.toInt ≤ 200000 from by intro h9; exfalso; omega), rfl, hP, hD, hS, hl⟩
        · rintro H locs ls stk ⟨k0_j305, hcb, rfl, hP, hD, hS, hl⟩
          refine lv_istore_n hx hb dX5_countRows_78 rfl hl (by decide) rfl (fun ls (hl : lv_has ls _ ([(2, .int k0_j305), (1, .int l1_x17), (0, .ref (hO 0))])) => ?_)
          refine lv_aload_n hx hb dX5_countRows_79 rfl (lv_at hl 2 rfl) ?_
          refine lv_iconst (v := 0) hx hb dX5_countRows_80 (by decide) ?_
          refine va_put (D := (dC, dI)) (ci := 5) (v := .int 0) (ty := .int) (C := RX5) (T := TX5) (N := 19) hx hb hts iwsMX5_countRows_in5 tyX5 tyX5_ok nmX5 hown hK hP hD hS 0 rfl rfl 5 (by decide) (hts _ hm_m_X5_countRows_0) (fun _ h9 => h9) rfl (by decide +kernel) rfl rfl (Nat.le_of_ble_eq_true rfl) dX5_countRows_81 (fun H locs hP hD hS => ?_)
          have hP : va_P (dC, dI) vwCl (WO hO aO kO hM hQ hw iO_answered iO_searched iO_searchedRelaxed 0 fO_countedCase gO_goalNumber gO_goalScale fO_start fO_column fO_chosen ++ (WM hM aM kM iM_stands iM_variables iM_rows iM_goals iM_differents iM_cases fM_from fM_to fM_whole fM_ways iM_plainRows fM_plainRow fM_kept fM_goalOver fM_goalUnder fM_goalMax fM_different ++ (WQ hQ aQ kQ hw fQ_inside fQ_outside fQ_shut iQ_rows iQ_allRows iQ_columns ++ (WW nW hw lw kw wl wb wG)))) H := hP
          have hD := fz_sd hP (hD) rfl
          have w1_ := i32_r l1_x17
          have w2_ := i32_r k0_j305
          refine lv_iconst (v := 0) hx hb dX5_countRows_84 (by decide) ?_
          refine lv_istore_n hx hb dX5_countRows_85 rfl hl (by decide) rfl (fun ls (hl : lv_has ls _ ([(3, .int 0), (2, .int k0_j305), (1, .int l1_x17), (0, .ref (hO 0))])) => ?_)
          have hl : lv_has _ _ ([(3, .int 0), (2, .int k0_j305), (1, .int l1_x17), (0, .ref (hO 0))]) := lv_sub hl [0, 1, 2, 3] rfl
          refine (fun (loop : ∀ (n9 : Nat) (iO_counted_x86 : Int32) (fO_countedCase_x86 : Nat → Int32) (fO_start_x86 : Nat → Int32) (fO_column_x86 : Nat → Int32) (fO_chosen_x86 : Nat → Int32) (fQ_inside_x86 : Nat → Int32) (fQ_outside_x86 : Nat → Int32) (fQ_shut_x86 : Nat → Int32) (iQ_rows_x86 : Int32) (iQ_allRows_x86 : Int32) (iQ_columns_x86 : Int32) (wl_x86 : Nat → Int32) (wb_x86 : Nat → Int32) (wG_x86 : Nat → Nat → Int64) (l3_x86 : Int32) (H : Heap) (locs : List Loc) (ls : Array Slot), ((-1) ≤ iO_counted_x86.toInt ∧ iO_counted_x86.toInt ≤ 64) → (∀ q : Nat, 0 ≤ (fO_countedCase_x86 q).toInt ∧ (fO_countedCase_x86 q).toInt ≤ 200000) → (∀ q : Nat, (-1) ≤ (fO_column_x86 q).toInt ∧ (fO_column_x86 q).toInt ≤ 8) → (∀ q : Nat, 0 ≤ (fO_chosen_x86 q).toInt ∧ (fO_chosen_x86 q).toInt ≤ 2) → (0 ≤ iQ_rows_x86.toInt ∧ iQ_rows_x86.toInt ≤ 40) → (0 ≤ iQ_allRows_x86.toInt ∧ iQ_allRows_x86.toInt ≤ 40) → (0 ≤ iQ_columns_x86.toInt ∧ iQ_columns_x86.toInt ≤ 40) → (∀ q : Nat, 0 ≤ (wl_x86 q).toInt ∧ (wl_x86 q).toInt ≤ 14) → (∀ q : Nat, 0 ≤ (wb_x86 q).toInt ∧ (wb_x86 q).toInt ≤ 1) → (0 ≤ l3_x86.toInt ∧ l3_x86.toInt ≤ 2147483647) → (TbO iQ_rows_x86 iQ_allRows_x86 iQ_columns_x86) → (0 ≤ iO_counted_x86.toInt) → (2147483647 - l3_x86.toInt < ((n9 : Nat) : Int)) → va_P (dC, dI) vwCl (WO hO aO kO hM hQ hw iO_answered iO_searched iO_searchedRelaxed iO_counted_x86 fO_countedCase_x86 gO_goalNumber gO_goalScale fO_start_x86 fO_column_x86 fO_chosen_x86 ++ (WM hM aM kM iM_stands iM_variables iM_rows iM_goals iM_differents iM_cases fM_from fM_to fM_whole fM_ways iM_plainRows fM_plainRow fM_kept fM_goalOver fM_goalUnder fM_goalMax fM_different ++ (WQ hQ aQ kQ hw fQ_inside_x86 fQ_outside_x86 fQ_shut_x86 iQ_rows_x86 iQ_allRows_x86 iQ_columns_x86 ++ (WW nW hw lw kw wl_x86 wb_x86 wG_x86)))) H → va_D A (WO hO aO kO hM hQ hw iO_answered iO_searched iO_searchedRelaxed iO_counted_x86 fO_countedCase_x86 gO_goalNumber gO_goalScale fO_start_x86 fO_column_x86 fO_chosen_x86 ++ (WM hM aM kM iM_stands iM_variables iM_rows iM_goals iM_differents iM_cases fM_from fM_to fM_whole fM_ways iM_plainRows fM_plainRow fM_kept fM_goalOver fM_goalUnder fM_goalMax fM_different ++ (WQ hQ aQ kQ hw fQ_inside_x86 fQ_outside_x86 fQ_shut_x86 iQ_rows_x86 iQ_allRows_x86 iQ_columns_x86 ++ (WW nW hw lw kw wl_x86 wb_x86 wG_x86)))) → va_S A s.heap H locs → lv_has ls 6 [(3, .int l3_x86), (2, .int k0_j305), (1, .int l1_x17), (0, .ref (hO 0))] → W p l e _ s m _ below meth c H locs 0 0 _ (F0 m 86 ls [])) => loop (2147483648) 0 fO_countedCase fO_start fO_column fO_chosen fQ_inside fQ_outside fQ_shut iQ_rows iQ_allRows iQ_columns wl wb wG 0 _ _ _ (show (-1) ≤ (0 : Int32).toInt ∧ (0 : Int32).toInt ≤ 64 from by decide) b_fO_countedCase b_fO_column b_fO_chosen (b_iQ_rows) (b_iQ_allRows) (b_iQ_columns) b_wl b_wb (show 0 ≤ (0 : Int32).toInt ∧ (0 : Int32).toInt ≤ 2147483647 from by decide) (by first | with_reducible assumption | omega | assumption) (show 0 ≤ (0 : Int32).toInt from by first | decide | omega) ((by have e9 : (0 : Int32).toInt = 0 := (by decide : (0 : Int32).toInt = 0); omega)) hP hD hS hl) ?_
          intro n9
          induction n9 with
          | zero => intro iO_counted_x86 fO_countedCase_x86 fO_start_x86 fO_column_x86 fO_chosen_x86 fQ_inside_x86 fQ_outside_x86 fQ_shut_x86 iQ_rows_x86 iQ_allRows_x86 iQ_columns_x86 wl_x86 wb_x86 wG_x86 l3_x86 H locs ls b_iO_counted_x86 b_fO_countedCase_x86 b_fO_column_x86 b_fO_chosen_x86 b_iQ_rows_x86 b_iQ_allRows_x86 b_iQ_columns_x86 b_wl_x86 b_wb_x86 b_l3_x86 b_tb_x86 hc0 hf9; exact False.elim (by omega)
          | succ n9 ihx86 =>
            intro iO_counted_x86 fO_countedCase_x86 fO_start_x86 fO_column_x86 fO_chosen_x86 fQ_inside_x86 fQ_outside_x86 fQ_shut_x86 iQ_rows_x86 iQ_allRows_x86 iQ_columns_x86 wl_x86 wb_x86 wG_x86 l3_x86 H locs ls b_iO_counted_x86 b_fO_countedCase_x86 b_fO_column_x86 b_fO_chosen_x86 b_iQ_rows_x86 b_iQ_allRows_x86 b_iQ_columns_x86 b_wl_x86 b_wb_x86 b_l3_x86 b_tb_x86 hc0 hfx86 hP hD hS hl
            refine lv_iload_n hx hb dX5_countRows_86 rfl (lv_at hl 0 rfl) ?_
            refine lv_iload_n hx hb dX5_countRows_87 rfl (lv_at hl 2 rfl) ?_
            refine W.cut (pc := 196) (fun H locs ls stk =>  stk = [] ∧ va_P (dC, dI) vwCl (WO hO aO kO hM hQ hw iO_answered iO_searched iO_searchedRelaxed iO_counted_x86 fO_countedCase_x86 gO_goalNumber gO_goalScale fO_start_x86 fO_column_x86 fO_chosen_x86 ++ (WM hM aM kM iM_stands iM_variables iM_rows iM_goals iM_differents iM_cases fM_from fM_to fM_whole fM_ways iM_plainRows fM_plainRow fM_kept fM_goalOver fM_goalUnder fM_goalMax fM_different ++ (WQ hQ aQ kQ hw fQ_inside_x86 fQ_outside_x86 fQ_shut_x86 iQ_rows_x86 iQ_allRows_x86 iQ_columns_x86 ++ (WW nW hw lw kw wl_x86 wb_x86 wG_x86)))) H ∧ va_D A (WO hO aO kO hM hQ hw iO_answered iO_searched iO_searchedRelaxed iO_counted_x86 fO_countedCase_x86 gO_goalNumber gO_goalScale fO_start_x86 fO_column_x86 fO_chosen_x86 ++ (WM hM aM kM iM_stands iM_variables iM_rows iM_goals iM_differents iM_cases fM_from fM_to fM_whole fM_ways iM_plainRows fM_plainRow fM_kept fM_goalOver fM_goalUnder fM_goalMax fM_different ++ (WQ hQ aQ kQ hw fQ_inside_x86 fQ_outside_x86 fQ_shut_x86 iQ_rows_x86 iQ_allRows_x86 iQ_columns_x86 ++ (WW nW hw lw kw wl_x86 wb_x86 wG_x86)))) ∧ va_S A s.heap H locs ∧ lv_has ls 6 [(3, .int l3_x86), (2, .int k0_j305), (1, .int l1_x17), (0, .ref (hO 0))]) (fun join357 => ?_) ?_
            · refine lv_icmp_ge (tgt := 196) hx hb dX5_countRows_88 (by decide) (fun c_88 => ?_) (fun c_88 => ?_)
              · have t_88 : l3_x86.toInt ≥ l1_x17.toInt := toI_ge c_88 rfl rfl
                have hl : lv_has _ _ ([(3, .int l3_x86), (2, .int k0_j305), (1, .int l1_x17), (0, .ref (hO 0))]) := lv_sub hl [0, 1, 2, 3] rfl
                exact join357 _ _ _ _ ⟨rfl, hP, hD, hS, hl⟩
              · have t_88 : ¬ l3_x86.toInt ≥ l1_x17.toInt := toI_nge c_88 rfl rfl
                refine lv_aload_n hx hb dX5_countRows_91 rfl (lv_at hl 3 rfl) ?_
                refine va_get (D := (dC, dI)) (ci := 5) (v := .int iO_counted_x86) (C := RX5) (T := TX5) (N := 19) hx hb hts iwsMX5_countRows_in5 hown hK hP 0 rfl rfl 5 (by decide) (hts _ hm_m_X5_countRows_0) (fun _ h9 => h9) rfl dX5_countRows_92 ?_
                refine lv_aload_n hx hb dX5_countRows_95 rfl (lv_at hl 3 rfl) ?_
                refine va_get (D := (dC, dI)) (ci := 5) (v := .ref (aO 0)) (C := RX5) (T := TX5) (N := 19) hx hb hts iwsMX5_countRows_in5 hown hK hP 0 rfl rfl 6 (by decide) (hts _ hm_m_X5_countRows_2) (fun _ h9 => h9) rfl dX5_countRows_96 ?_
                refine va_alen hx hb hK hP 1 0 rfl rfl (v := 64) rfl dX5_countRows_99 ?_
                refine lv_icmp_ge (tgt := 196) hx hb dX5_countRows_100 (by decide) (fun c_100 => ?_) (fun c_100 => ?_)
                · have t_100 : iO_counted_x86.toInt ≥ 64 := toI_ge c_100 rfl (by decide : (64 : Int32).toInt = 64)
                  have hl : lv_has _ _ ([(3, .int l3_x86), (2, .int k0_j305), (1, .int l1_x17), (0, .ref (hO 0))]) := lv_sub hl [0, 1, 2, 3] rfl
                  exact join357 _ _ _ _ ⟨rfl, hP, hD, hS, hl⟩
                · have t_100 : ¬ iO_counted_x86.toInt ≥ 64 := toI_nge c_100 rfl (by decide : (64 : Int32).toInt = 64)
                  refine lv_iconst (v := 0) hx hb dX5_countRows_103 (by decide) ?_
                  refine lv_istore hx hb dX5_countRows_104 hl (by decide) rfl (fun ls (hl : lv_has ls _ ([(4, .int 0), (3, .int l3_x86), (2, .int k0_j305), (1, .int l1_x17), (0, .ref (hO 0))])) => ?_)
                  refine lv_iconst (v := 0) hx hb dX5_countRows_106 (by decide) ?_
                  refine lv_istore hx hb dX5_countRows_107 hl (by decide) rfl (fun ls (hl : lv_has ls _ ([(5, .int 0), (4, .int 0), (3, .int l3_x86), (2, .int k0_j305), (1, .int l1_x17), (0, .ref (hO 0))])) => ?_)
                  have hl : lv_has _ _ ([(5, .int 0), (4, .int 0), (3, .int l3_x86), (2, .int k0_j305), (1, .int l1_x17), (0, .ref (hO 0))]) := lv_sub hl [0, 1, 2, 3, 4, 5] rfl
                  refine (fun (loop : ∀ (n9 : Nat) (fO_start_x109 : Nat → Int32) (fO_column_x109 : Nat → Int32) (fO_chosen_x109 : Nat → Int32) (fQ_inside_x109 : Nat → Int32) (fQ_outside_x109 : Nat → Int32) (fQ_shut_x109 : Nat → Int32) (iQ_rows_x109 : Int32) (iQ_allRows_x109 : Int32) (iQ_columns_x109 : Int32) (wl_x109 : Nat → Int32) (wb_x109 : Nat → Int32) (wG_x109 : Nat → Nat → Int64) (l5_x109 : Int32) (l4_x109 : Int32) (H : Heap) (locs : List Loc) (ls : Array Slot), (∀ q : Nat, (-1) ≤ (fO_column_x109 q).toInt ∧ (fO_column_x109 q).toInt ≤ 8) → (∀ q : Nat, 0 ≤ (fO_chosen_x109 q).toInt ∧ (fO_chosen_x109 q).toInt ≤ 2) → (0 ≤ iQ_rows_x109.toInt ∧ iQ_rows_x109.toInt ≤ 40) → (0 ≤ iQ_allRows_x109.toInt ∧ iQ_allRows_x109.toInt ≤ 40) → (0 ≤ iQ_columns_x109.toInt ∧ iQ_columns_x109.toInt ≤ 40) → (∀ q : Nat, 0 ≤ (wl_x109 q).toInt ∧ (wl_x109 q).toInt ≤ 14) → (∀ q : Nat, 0 ≤ (wb_x109 q).toInt ∧ (wb_x109 q).toInt ≤ 1) → (0 ≤ l5_x109.toInt ∧ l5_x109.toInt ≤ 2147483647) → (0 ≤ l4_x109.toInt ∧ l4_x109.toInt ≤ 1) → (TbO iQ_rows_x109 iQ_allRows_x109 iQ_columns_x109) → (2147483647 - l5_x109.toInt < ((n9 : Nat) : Int)) → va_P (dC, dI) vwCl (WO hO aO kO hM hQ hw iO_answered iO_searched iO_searchedRelaxed iO_counted_x86 fO_countedCase_x86 gO_goalNumber gO_goalScale fO_start_x109 fO_column_x109 fO_chosen_x109 ++ (WM hM aM kM iM_stands iM_variables iM_rows iM_goals iM_differents iM_cases fM_from fM_to fM_whole fM_ways iM_plainRows fM_plainRow fM_kept fM_goalOver fM_goalUnder fM_goalMax fM_different ++ (WQ hQ aQ kQ hw fQ_inside_x109 fQ_outside_x109 fQ_shut_x109 iQ_rows_x109 iQ_allRows_x109 iQ_columns_x109 ++ (WW nW hw lw kw wl_x109 wb_x109 wG_x109)))) H → va_D A (WO hO aO kO hM hQ hw iO_answered iO_searched iO_searchedRelaxed iO_counted_x86 fO_countedCase_x86 gO_goalNumber gO_goalScale fO_start_x109 fO_column_x109 fO_chosen_x109 ++ (WM hM aM kM iM_stands iM_variables iM_rows iM_goals iM_differents iM_cases fM_from fM_to fM_whole fM_ways iM_plainRows fM_plainRow fM_kept fM_goalOver fM_goalUnder fM_goalMax fM_different ++ (WQ hQ aQ kQ hw fQ_inside_x109 fQ_outside_x109 fQ_shut_x109 iQ_rows_x109 iQ_allRows_x109 iQ_columns_x109 ++ (WW nW hw lw kw wl_x109 wb_x109 wG_x109)))) → va_S A s.heap H locs → lv_has ls 6 [(5, .int l5_x109), (4, .int l4_x109), (3, .int l3_x86), (2, .int k0_j305), (1, .int l1_x17), (0, .ref (hO 0))] → W p l e _ s m _ below meth c H locs 0 0 _ (F0 m 109 ls [])) => loop (2147483648) fO_start_x86 fO_column_x86 fO_chosen_x86 fQ_inside_x86 fQ_outside_x86 fQ_shut_x86 iQ_rows_x86 iQ_allRows_x86 iQ_columns_x86 wl_x86 wb_x86 wG_x86 0 0 _ _ _ b_fO_column_x86 b_fO_chosen_x86 (b_iQ_rows_x86) (b_iQ_allRows_x86) (b_iQ_columns_x86) b_wl_x86 b_wb_x86 (show 0 ≤ (0 : Int32).toInt ∧ (0 : Int32).toInt ≤ 2147483647 from by decide) (show 0 ≤ (0 : Int32).toInt ∧ (0 : Int32).toInt ≤ 1 from by decide) (by first | with_reducible assumption | omega | assumption) ((by have e9 : (0 : Int32).toInt = 0 := (by decide : (0 : Int32).toInt = 0); omega)) hP hD hS hl) ?_
                  intro n9
                  induction n9 with
                  | zero => intro fO_start_x109 fO_column_x109 fO_chosen_x109 fQ_inside_x109 fQ_outside_x109 fQ_shut_x109 iQ_rows_x109 iQ_allRows_x109 iQ_columns_x109 wl_x109 wb_x109 wG_x109 l5_x109 l4_x109 H locs ls b_fO_column_x109 b_fO_chosen_x109 b_iQ_rows_x109 b_iQ_allRows_x109 b_iQ_columns_x109 b_wl_x109 b_wb_x109 b_l5_x109 b_l4_x109 b_tb_x109 hf9; exact False.elim (by omega)
                  | succ n9 ihx109 =>
                    intro fO_start_x109 fO_column_x109 fO_chosen_x109 fQ_inside_x109 fQ_outside_x109 fQ_shut_x109 iQ_rows_x109 iQ_allRows_x109 iQ_columns_x109 wl_x109 wb_x109 wG_x109 l5_x109 l4_x109 H locs ls b_fO_column_x109 b_fO_chosen_x109 b_iQ_rows_x109 b_iQ_allRows_x109 b_iQ_columns_x109 b_wl_x109 b_wb_x109 b_l5_x109 b_l4_x109 b_tb_x109 hfx109 hP hD hS hl
                    refine lv_iload hx hb dX5_countRows_109 (lv_at hl 0 rfl) ?_
                    refine lv_iload_n hx hb dX5_countRows_111 rfl (lv_at hl 3 rfl) ?_
                    refine W.cut (pc := 163) (fun H locs ls stk =>  stk = [] ∧ va_P (dC, dI) vwCl (WO hO aO kO hM hQ hw iO_answered iO_searched iO_searchedRelaxed iO_counted_x86 fO_countedCase_x86 gO_goalNumber gO_goalScale fO_start_x109 fO_column_x109 fO_chosen_x109 ++ (WM hM aM kM iM_stands iM_variables iM_rows iM_goals iM_differents iM_cases fM_from fM_to fM_whole fM_ways iM_plainRows fM_plainRow fM_kept fM_goalOver fM_goalUnder fM_goalMax fM_different ++ (WQ hQ aQ kQ hw fQ_inside_x109 fQ_outside_x109 fQ_shut_x109 iQ_rows_x109 iQ_allRows_x109 iQ_columns_x109 ++ (WW nW hw lw kw wl_x109 wb_x109 wG_x109)))) H ∧ va_D A (WO hO aO kO hM hQ hw iO_answered iO_searched iO_searchedRelaxed iO_counted_x86 fO_countedCase_x86 gO_goalNumber gO_goalScale fO_start_x109 fO_column_x109 fO_chosen_x109 ++ (WM hM aM kM iM_stands iM_variables iM_rows iM_goals iM_differents iM_cases fM_from fM_to fM_whole fM_ways iM_plainRows fM_plainRow fM_kept fM_goalOver fM_goalUnder fM_goalMax fM_different ++ (WQ hQ aQ kQ hw fQ_inside_x109 fQ_outside_x109 fQ_shut_x109 iQ_rows_x109 iQ_allRows_x109 iQ_columns_x109 ++ (WW nW hw lw kw wl_x109 wb_x109 wG_x109)))) ∧ va_S A s.heap H locs ∧ lv_has ls 6 [(5, .int l5_x109), (4, .int l4_x109), (3, .int l3_x86), (2, .int k0_j305), (1, .int l1_x17), (0, .ref (hO 0))]) (fun join365 => ?_) ?_
                    · refine lv_icmp_ge (tgt := 163) hx hb dX5_countRows_112 (by decide) (fun c_112 => ?_) (fun c_112 => ?_)
                      · have t_112 : l5_x109.toInt ≥ k0_j305.toInt := toI_ge c_112 rfl rfl
                        have hl : lv_has _ _ ([(5, .int l5_x109), (4, .int l4_x109), (3, .int l3_x86), (2, .int k0_j305), (1, .int l1_x17), (0, .ref (hO 0))]) := lv_sub hl [0, 1, 2, 3, 4, 5] rfl
                        exact join365 _ _ _ _ ⟨rfl, hP, hD, hS, hl⟩
                      · have t_112 : ¬ l5_x109.toInt ≥ k0_j305.toInt := toI_nge c_112 rfl rfl
                        refine lv_iload hx hb dX5_countRows_115 (lv_at hl 1 rfl) ?_
                        refine lv_if_ne (tgt := 163) hx hb dX5_countRows_117 (by decide) (fun c_117 => ?_) (fun c_117 => ?_)
                        · have t_117 : l4_x109.toInt ≠ 0 := toI_ne c_117 rfl (by decide : (0 : Int32).toInt = 0)
                          have hl : lv_has _ _ ([(5, .int l5_x109), (4, .int l4_x109), (3, .int l3_x86), (2, .int k0_j305), (1, .int l1_x17), (0, .ref (hO 0))]) := lv_sub hl [0, 1, 2, 3, 4, 5] rfl
                          exact join365 _ _ _ _ ⟨rfl, hP, hD, hS, hl⟩
                        · have t_117 : l4_x109.toInt = 0 := toI_nne c_117 rfl (by decide : (0 : Int32).toInt = 0)
                          refine lv_aload_n hx hb dX5_countRows_120 rfl (lv_at hl 5 rfl) ?_
                          refine lv_iload_n hx hb dX5_countRows_121 rfl (lv_at hl 2 rfl) ?_
                          refine lv_iload_n hx hb dX5_countRows_122 rfl (lv_at hl 3 rfl) ?_
                          refine lv_imul hx hb dX5_countRows_123 ?_
                          refine lv_topi (fun y931 hy931 => ?_)
                          obtain rfl : (iI (l3_x86.toInt * k0_j305.toInt)) = y931 := (hy931.trans (iI_mul2 (iI_of _) (iI_of _))).symm
                          refine lv_iload hx hb dX5_countRows_124 (lv_at hl 0 rfl) ?_
                          refine lv_iadd hx hb dX5_countRows_126 ?_
                          refine lv_topi (fun y932 hy932 => ?_)
                          obtain rfl : (iI ((l3_x86.toInt * k0_j305.toInt) + l5_x109.toInt)) = y932 := (hy932.trans (iI_add2 rfl (iI_of _))).symm
                          have hFc := allFree hD hS hA
                          refine va_calli (va_runV (As := [.int (iI ((l3_x86.toInt * k0_j305.toInt) + l5_x109.toInt))]) (rest := []) ⟨hx, hb, hml, hown, hts⟩ (m_X5_choose l dC dI hO aO kO hM hQ hw iO_answered iO_searched iO_searchedRelaxed iO_counted_x86 fO_countedCase_x86 gO_goalNumber gO_goalScale fO_start_x109 fO_column_x109 fO_chosen_x109 aM kM iM_stands iM_variables iM_rows iM_goals iM_differents iM_cases fM_from fM_to fM_whole fM_ways iM_plainRows fM_plainRow fM_kept fM_goalOver fM_goalUnder fM_goalMax fM_different aQ kQ fQ_inside_x109 fQ_outside_x109 fQ_shut_x109 iQ_rows_x109 iQ_allRows_x109 iQ_columns_x109 nW lw kw wl_x109 wb_x109 wG_x109 (iI ((l3_x86.toInt * k0_j305.toInt) + l5_x109.toInt)) (b_iO_answered) (b_iO_searched) (b_iO_searchedRelaxed) (b_iO_counted_x86) b_fO_countedCase_x86 b_fO_column_x109 b_fO_chosen_x109 (b_iM_stands) (b_iM_variables) (b_iM_rows) (b_iM_goals) (b_iM_differents) (b_iM_cases) b_fM_ways (b_iM_plainRows) b_fM_plainRow (by first | with_reducible assumption | omega | assumption) (b_iQ_rows_x109) (b_iQ_allRows_x109) (b_iQ_columns_x109) (by first | with_reducible assumption | omega | assumption) b_wl_x109 b_wb_x109 ((by have h9 := cnt_ix (i := l3_x86.toInt) (j := l5_x109.toInt) (w := l1_x17.toInt) (c := k0_j305.toInt) hcb (by omega) (by omega) (by omega) (by omega); rw [iI_t (by omega) (by omega)]; exact h9)) (by omega) H.size) (cwV 1 hts gwsMX5_countRows_1 rfl rfl rfl hd_yX5_choose_RX5 (by decide +kernel)) (fz_pre (va_recv hK hP (ci := 5) (q0 := 0) rfl rfl) hP hK hD) rfl rfl hl.1 rfl (lv_room (Nat.le_of_ble_eq_true rfl)) dX5_countRows_127 (by decide +kernel)) hS (fun q _ h => hFc q h) hFc (fun r933 u t9_ H locs ht hvm hw9 hB9 hz1 hk1 hS => ?_)
                          revert u hw9 hB9
                          refine fz_p2 ?_
                          intro fO_start_933 fO_chosen_933 hw9 hB9
                          try dsimp only at hw9 hB9
                          revert hw9
                          refine fz_a2 ?_
                          intro b_fO_chosen_933 b_r933
                          have hP : va_P (dC, dI) vwCl (WO hO aO kO hM hQ hw iO_answered iO_searched iO_searchedRelaxed iO_counted_x86 fO_countedCase_x86 gO_goalNumber gO_goalScale fO_start_933 fO_column_x109 fO_chosen_933 ++ (WM hM aM kM iM_stands iM_variables iM_rows iM_goals iM_differents iM_cases fM_from fM_to fM_whole fM_ways iM_plainRows fM_plainRow fM_kept fM_goalOver fM_goalUnder fM_goalMax fM_different ++ (WQ hQ aQ kQ hw fQ_inside_x109 fQ_outside_x109 fQ_shut_x109 iQ_rows_x109 iQ_allRows_x109 iQ_columns_x109 ++ (WW nW hw lw kw wl_x109 wb_x109 wG_x109)))) H := fz_P ht hB9.1
                          have hD := fz_sd hP (hB9.2.weaken (fun _ q _ h => hFc q.1 h)) rfl
                          refine W.cut (pc := 155) (fun H locs ls stk => ∃ (fO_start_j366 : Nat → Int32) (fO_column_j366 : Nat → Int32) (fQ_inside_j366 : Nat → Int32) (fQ_outside_j366 : Nat → Int32) (fQ_shut_j366 : Nat → Int32) (iQ_rows_j366 : Int32) (iQ_allRows_j366 : Int32) (iQ_columns_j366 : Int32) (wl_j366 : Nat → Int32) (wb_j366 : Nat → Int32) (wG_j366 : Nat → Nat → Int64) (k0_j366 : Int32), (∀ q : Nat, (-1) ≤ (fO_column_j366 q).toInt ∧ (fO_column_j366 q).toInt ≤ 8) ∧ (0 ≤ iQ_rows_j366.toInt ∧ iQ_rows_j366.toInt ≤ 40) ∧ (0 ≤ iQ_allRows_j366.toInt ∧ iQ_allRows_j366.toInt ≤ 40) ∧ (0 ≤ iQ_columns_j366.toInt ∧ iQ_columns_j366.toInt ≤ 40) ∧ (∀ q : Nat, 0 ≤ (wl_j366 q).toInt ∧ (wl_j366 q).toInt ≤ 14) ∧ (∀ q : Nat, 0 ≤ (wb_j366 q).toInt ∧ (wb_j366 q).toInt ≤ 1) ∧ (TbO iQ_rows_j366 iQ_allRows_j366 iQ_columns_j366) ∧ (0 ≤ k0_j366.toInt ∧ k0_j366.toInt ≤ 1) ∧  stk = [.int k0_j366] ∧ va_P (dC, dI) vwCl (WO hO aO kO hM hQ hw iO_answered iO_searched iO_searchedRelaxed iO_counted_x86 fO_countedCase_x86 gO_goalNumber gO_goalScale fO_start_j366 fO_column_j366 fO_chosen_933 ++ (WM hM aM kM iM_stands iM_variables iM_rows iM_goals iM_differents iM_cases fM_from fM_to fM_whole fM_ways iM_plainRows fM_plainRow fM_kept fM_goalOver fM_goalUnder fM_goalMax fM_different ++ (WQ hQ aQ kQ hw fQ_inside_j366 fQ_outside_j366 fQ_shut_j366 iQ_rows_j366 iQ_allRows_j366 iQ_columns_j366 ++ (WW nW hw lw kw wl_j366 wb_j366 wG_j366)))) H ∧ va_D A (WO hO aO kO hM hQ hw iO_answered iO_searched iO_searchedRelaxed iO_counted_x86 fO_countedCase_x86 gO_goalNumber gO_goalScale fO_start_j366 fO_column_j366 fO_chosen_933 ++ (WM hM aM kM iM_stands iM_variables iM_rows iM_goals iM_differents iM_cases fM_from fM_to fM_whole fM_ways iM_plainRows fM_plainRow fM_kept fM_goalOver fM_goalUnder fM_goalMax fM_different ++ (WQ hQ aQ kQ hw fQ_inside_j366 fQ_outside_j366 fQ_shut_j366 iQ_rows_j366 iQ_allRows_j366 iQ_columns_j366 ++ (WW nW hw lw kw wl_j366 wb_j366 wG_j366)))) ∧ va_S A s.heap H locs ∧ lv_has ls 6 [(5, .int l5_x109), (4, .int l4_x109), (3, .int l3_x86), (2, .int k0_j305), (1, .int l1_x17), (0, .ref (hO 0))]) (fun join366 => ?_) ?_
                          · refine lv_if_eq (tgt := 154) hx hb dX5_countRows_130 (by decide) (fun c_130 => ?_) (fun c_130 => ?_)
                            · have t_130 : r933.toInt = 0 := toI_eq c_130 rfl (by decide : (0 : Int32).toInt = 0)
                              refine lv_iconst (v := 0) hx hb dX5_countRows_154 (by decide) ?_
                              have hl : lv_has _ _ ([(5, .int l5_x109), (4, .int l4_x109), (3, .int l3_x86), (2, .int k0_j305), (1, .int l1_x17), (0, .ref (hO 0))]) := lv_sub hl [0, 1, 2, 3, 4, 5] rfl
                              exact join366 _ _ _ _ ⟨fO_start_933, fO_column_x109, fQ_inside_x109, fQ_outside_x109, fQ_shut_x109, iQ_rows_x109, iQ_allRows_x109, iQ_columns_x109, wl_x109, wb_x109, wG_x109, 0, b_fO_column_x109, (b_iQ_rows_x109), (b_iQ_allRows_x109), (b_iQ_columns_x109), b_wl_x109, b_wb_x109, (by first | with_reducible assumption | omega | assumption), (show 0 ≤ (0 : Int32).toInt ∧ (0 : Int32).toInt ≤ 1 from by decide), rfl, hP, hD, hS, hl⟩
                            · have t_130 : ¬ r933.toInt = 0 := toI_neq c_130 rfl (by decide : (0 : Int32).toInt = 0)
                              refine lv_aload_n hx hb dX5_countRows_133 rfl (lv_at hl 5 rfl) ?_
                              refine lv_iconst (v := 0) hx hb dX5_countRows_134 (by decide) ?_
                              refine lv_iconst (v := 0) hx hb dX5_countRows_135 (by decide) ?_
                              have hFc := allFree hD hS hA
                              refine va_calli (va_runV (As := [.int 0, .int 0]) (rest := []) ⟨hx, hb, hml, hown, hts⟩ (m_X5_lay l dC dI hO aO kO hM hQ hw iO_answered iO_searched iO_searchedRelaxed iO_counted_x86 fO_countedCase_x86 gO_goalNumber gO_goalScale fO_start_933 fO_column_x109 fO_chosen_933 aM kM iM_stands iM_variables iM_rows iM_goals iM_differents iM_cases fM_from fM_to fM_whole fM_ways iM_plainRows fM_plainRow fM_kept fM_goalOver fM_goalUnder fM_goalMax fM_different aQ kQ fQ_inside_x109 fQ_outside_x109 fQ_shut_x109 iQ_rows_x109 iQ_allRows_x109 iQ_columns_x109 nW lw kw wl_x109 wb_x109 wG_x109 0 0 (b_iO_answered) (b_iO_searched) (b_iO_searchedRelaxed) (b_iO_counted_x86) b_fO_countedCase_x86 b_fO_column_x109 b_fO_chosen_933 (b_iM_stands) (b_iM_variables) (b_iM_rows) (b_iM_goals) (b_iM_differents) (b_iM_cases) b_fM_ways (b_iM_plainRows) b_fM_plainRow (by first | with_reducible assumption | omega | assumption) (b_iQ_rows_x109) (b_iQ_allRows_x109) (b_iQ_columns_x109) (by first | with_reducible assumption | omega | assumption) b_wl_x109 b_wb_x109 (show 0 ≤ (0 : Int32).toInt ∧ (0 : Int32).toInt ≤ 3 from by decide) (by omega) H.size) (cwV 2 hts gwsMX5_countRows_2 rfl rfl rfl hd_yX5_lay_RX5 (by decide +kernel)) (fz_pre (va_recv hK hP (ci := 5) (q0 := 0) rfl rfl) hP hK hD) rfl rfl hl.1 rfl (lv_room (Nat.le_of_ble_eq_true rfl)) dX5_countRows_136 (by decide +kernel)) hS (fun q _ h => hFc q h) hFc (fun r936 u t9_ H locs ht hvm hw9 hB9 hz1 hk1 hS => ?_)
                              revert u hw9 hB9
                              refine fz_p11 ?_
                              intro fO_start_936 fO_column_936 fQ_inside_936 fQ_outside_936 fQ_shut_936 iQ_rows_936 iQ_allRows_936 iQ_columns_936 wl_936 wb_936 wG_936 hw9 hB9
                              try dsimp only at hw9 hB9
                              revert hw9
                              refine fz_a10 ?_
                              intro b_fO_column_936 b_iQ_rows_936 b_iQ_allRows_936 b_iQ_columns_936 b_wl_936 b_wb_936 b_tb_936 b_r936 f936_0 f936_1
                              have hP : va_P (dC, dI) vwCl (WO hO aO kO hM hQ hw iO_answered iO_searched iO_searchedRelaxed iO_counted_x86 fO_countedCase_x86 gO_goalNumber gO_goalScale fO_start_936 fO_column_936 fO_chosen_933 ++ (WM hM aM kM iM_stands iM_variables iM_rows iM_goals iM_differents iM_cases fM_from fM_to fM_whole fM_ways iM_plainRows fM_plainRow fM_kept fM_goalOver fM_goalUnder fM_goalMax fM_different ++ (WQ hQ aQ kQ hw fQ_inside_936 fQ_outside_936 fQ_shut_936 iQ_rows_936 iQ_allRows_936 iQ_columns_936 ++ (WW nW hw lw kw wl_936 wb_936 wG_936)))) H := fz_P ht hB9.1
                              have hD := fz_sd hP (hB9.2.weaken (fun _ q _ h => hFc q.1 h)) rfl
                              refine lv_if_eq (tgt := 154) hx hb dX5_countRows_139 (by decide) (fun c_139 => ?_) (fun c_139 => ?_)
                              · have t_139 : r936.toInt = 0 := toI_eq c_139 rfl (by decide : (0 : Int32).toInt = 0)
                                refine lv_iconst (v := 0) hx hb dX5_countRows_154 (by decide) ?_
                                have hl : lv_has _ _ ([(5, .int l5_x109), (4, .int l4_x109), (3, .int l3_x86), (2, .int k0_j305), (1, .int l1_x17), (0, .ref (hO 0))]) := lv_sub hl [0, 1, 2, 3, 4, 5] rfl
                                exact join366 _ _ _ _ ⟨fO_start_936, fO_column_936, fQ_inside_936, fQ_outside_936, fQ_shut_936, iQ_rows_936, iQ_allRows_936, iQ_columns_936, wl_936, wb_936, wG_936, 0, b_fO_column_936, (b_iQ_rows_936), (b_iQ_allRows_936), (b_iQ_columns_936), b_wl_936, b_wb_936, (by first | with_reducible assumption | omega | assumption), (show 0 ≤ (0 : Int32).toInt ∧ (0 : Int32).toInt ≤ 1 from by decide), rfl, hP, hD, hS, hl⟩
                              · have t_139 : ¬ r936.toInt = 0 := toI_neq c_139 rfl (by decide : (0 : Int32).toInt = 0)
                                refine lv_aload_n hx hb dX5_countRows_142 rfl (lv_at hl 5 rfl) ?_
                                refine lv_iconst (v := 0) hx hb dX5_countRows_143 (by decide) ?_
                                have hFc := allFree hD hS hA
                                refine va_calli (va_runV (As := [.int 0]) (rest := []) ⟨hx, hb, hml, hown, hts⟩ (m_X5_settle l dC dI hO aO kO hM hQ hw iO_answered iO_searched iO_searchedRelaxed iO_counted_x86 fO_countedCase_x86 gO_goalNumber gO_goalScale fO_start_936 fO_column_936 fO_chosen_933 aM kM iM_stands iM_variables iM_rows iM_goals iM_differents iM_cases fM_from fM_to fM_whole fM_ways iM_plainRows fM_plainRow fM_kept fM_goalOver fM_goalUnder fM_goalMax fM_different aQ kQ fQ_inside_936 fQ_outside_936 fQ_shut_936 iQ_rows_936 iQ_allRows_936 iQ_columns_936 nW lw kw wl_936 wb_936 wG_936 0 (b_iO_answered) (b_iO_searched) (b_iO_searchedRelaxed) (b_iO_counted_x86) b_fO_countedCase_x86 b_fO_column_936 b_fO_chosen_933 (b_iM_stands) (b_iM_variables) (b_iM_rows) (b_iM_goals) (b_iM_differents) (b_iM_cases) b_fM_ways (b_iM_plainRows) b_fM_plainRow (by first | with_reducible assumption | omega | assumption) (b_iQ_rows_936) (b_iQ_allRows_936) (b_iQ_columns_936) (by first | with_reducible assumption | omega | assumption) b_wl_936 b_wb_936 (by omega) (by omega) H.size) (cwV 1 hts gwsMX5_countRows_3 rfl rfl rfl hd_yX5_settle_RX5 (by decide +kernel)) (fz_pre (va_recv hK hP (ci := 5) (q0 := 0) rfl rfl) hP hK hD) rfl rfl hl.1 rfl (lv_room (Nat.le_of_ble_eq_true rfl)) dX5_countRows_144 (by decide +kernel)) hS (fun q _ h => hFc q h) hFc (fun r937 u t9_ H locs ht hvm hw9 hB9 hz1 hk1 hS => ?_)
                                revert u hw9 hB9
                                refine fz_p6 ?_
                                intro fQ_inside_937 fQ_outside_937 fQ_shut_937 wl_937 wb_937 wG_937 hw9 hB9
                                try dsimp only at hw9 hB9
                                revert hw9
                                refine fz_a3 ?_
                                intro b_wl_937 b_wb_937 b_r937
                                have hP : va_P (dC, dI) vwCl (WO hO aO kO hM hQ hw iO_answered iO_searched iO_searchedRelaxed iO_counted_x86 fO_countedCase_x86 gO_goalNumber gO_goalScale fO_start_936 fO_column_936 fO_chosen_933 ++ (WM hM aM kM iM_stands iM_variables iM_rows iM_goals iM_differents iM_cases fM_from fM_to fM_whole fM_ways iM_plainRows fM_plainRow fM_kept fM_goalOver fM_goalUnder fM_goalMax fM_different ++ (WQ hQ aQ kQ hw fQ_inside_937 fQ_outside_937 fQ_shut_937 iQ_rows_936 iQ_allRows_936 iQ_columns_936 ++ (WW nW hw lw kw wl_937 wb_937 wG_937)))) H := fz_P ht hB9.1
                                have hD := fz_sd hP (hB9.2.weaken (fun _ q _ h => hFc q.1 h)) rfl
                                refine lv_if_eq (tgt := 154) hx hb dX5_countRows_147 (by decide) (fun c_147 => ?_) (fun c_147 => ?_)
                                · have t_147 : r937.toInt = 0 := toI_eq c_147 rfl (by decide : (0 : Int32).toInt = 0)
                                  refine lv_iconst (v := 0) hx hb dX5_countRows_154 (by decide) ?_
                                  have hl : lv_has _ _ ([(5, .int l5_x109), (4, .int l4_x109), (3, .int l3_x86), (2, .int k0_j305), (1, .int l1_x17), (0, .ref (hO 0))]) := lv_sub hl [0, 1, 2, 3, 4, 5] rfl
                                  exact join366 _ _ _ _ ⟨fO_start_936, fO_column_936, fQ_inside_937, fQ_outside_937, fQ_shut_937, iQ_rows_936, iQ_allRows_936, iQ_columns_936, wl_937, wb_937, wG_937, 0, b_fO_column_936, (b_iQ_rows_936), (b_iQ_allRows_936), (b_iQ_columns_936), b_wl_937, b_wb_937, (by first | with_reducible assumption | omega | assumption), (show 0 ≤ (0 : Int32).toInt ∧ (0 : Int32).toInt ≤ 1 from by decide), rfl, hP, hD, hS, hl⟩
                                · have t_147 : ¬ r937.toInt = 0 := toI_neq c_147 rfl (by decide : (0 : Int32).toInt = 0)
                                  refine lv_iconst (v := 1) hx hb dX5_countRows_150 (by decide) ?_
                                  refine lv_goto (tgt := 155) hx hb dX5_countRows_151 (by decide) ?_
                                  have hl : lv_has _ _ ([(5, .int l5_x109), (4, .int l4_x109), (3, .int l3_x86), (2, .int k0_j305), (1, .int l1_x17), (0, .ref (hO 0))]) := lv_sub hl [0, 1, 2, 3, 4, 5] rfl
                                  exact join366 _ _ _ _ ⟨fO_start_936, fO_column_936, fQ_inside_937, fQ_outside_937, fQ_shut_937, iQ_rows_936, iQ_allRows_936, iQ_columns_936, wl_937, wb_937, wG_937, 1, b_fO_column_936, (b_iQ_rows_936), (b_iQ_allRows_936), (b_iQ_columns_936), b_wl_937, b_wb_937, (by first | with_reducible assumption | omega | assumption), (show 0 ≤ (1 : Int32).toInt ∧ (1 : Int32).toInt ≤ 1 from by decide), rfl, hP, hD, hS, hl⟩
                          · rintro H locs ls stk ⟨fO_start_j366, fO_column_j366, fQ_inside_j366, fQ_outside_j366, fQ_shut_j366, iQ_rows_j366, iQ_allRows_j366, iQ_columns_j366, wl_j366, wb_j366, wG_j366, k0_j366, b_fO_column_j366, b_iQ_rows_j366, b_iQ_allRows_j366, b_iQ_columns_j366, b_wl_j366, b_wb_j366, b_tb_j366, b_k0_j366, rfl, hP, hD, hS, hl⟩
                            refine lv_istore hx hb dX5_countRows_155 hl (by decide) rfl (fun ls (hl : lv_has ls _ ([(4, .int k0_j366), (5, .int l5_x109), (3, .int l3_x86), (2, .int k0_j305), (1, .int l1_x17), (0, .ref (hO 0))])) => ?_)
                            refine lv_iinc (v := (iI (l5_x109.toInt + 1))) hx hb dX5_countRows_157 hl (k := 1) rfl (iI_add2 (iI_of _) (by decide : (1 : Int32) = iI 1)) (by decide) rfl (fun ls (hl : lv_has ls _ ([(5, .int (iI (l5_x109.toInt + 1))), (4, .int k0_j366), (3, .int l3_x86), (2, .int k0_j305), (1, .int l1_x17), (0, .ref (hO 0))])) => ?_)
                            refine lv_goto (tgt := 109) hx hb dX5_countRows_160 (by decide) ?_
                            have hl : lv_has _ _ ([(5, .int (iI (l5_x109.toInt + 1))), (4, .int k0_j366), (3, .int l3_x86), (2, .int k0_j305), (1, .int l1_x17), (0, .ref (hO 0))]) := lv_sub hl [0, 1, 2, 3, 4, 5] rfl
                            exact ihx109 fO_start_j366 fO_column_j366 fO_chosen_933 fQ_inside_j366 fQ_outside_j366 fQ_shut_j366 iQ_rows_j366 iQ_allRows_j366 iQ_columns_j366 wl_j366 wb_j366 wG_j366 (iI (l5_x109.toInt + 1)) k0_j366 _ _ _ b_fO_column_j366 b_fO_chosen_933 (b_iQ_rows_j366) (b_iQ_allRows_j366) (b_iQ_columns_j366) b_wl_j366 b_wb_j366 (iI_rng (Int.le_trans (by decide) (Int.add_le_add (b_l5_x109.1) (Int.le_refl _))) (by omega) (by decide) (by decide)) (b_k0_j366) (by first | with_reducible assumption | omega | assumption) (by have e9 : ((iI (l5_x109.toInt + 1))).toInt = (l5_x109.toInt + 1) := (iI_t (Int.le_trans (by decide) (Int.add_le_add (b_l5_x109.1) (Int.le_refl _))) (by omega)); omega) hP hD hS hl
                    · rintro H locs ls stk ⟨rfl, hP, hD, hS, hl⟩
                      refine lv_iload hx hb dX5_countRows_163 (lv_at hl 1 rfl) ?_
                      refine W.cut (pc := 190) (fun H locs ls stk => ∃ (iO_counted_j367 : Int32) (fO_countedCase_j367 : Nat → Int32), ((-1) ≤ iO_counted_j367.toInt ∧ iO_counted_j367.toInt ≤ 64) ∧ (∀ q : Nat, 0 ≤ (fO_countedCase_j367 q).toInt ∧ (fO_countedCase_j367 q).toInt ≤ 200000) ∧ (0 ≤ iO_counted_j367.toInt) ∧  stk = [] ∧ va_P (dC, dI) vwCl (WO hO aO kO hM hQ hw iO_answered iO_searched iO_searchedRelaxed iO_counted_j367 fO_countedCase_j367 gO_goalNumber gO_goalScale fO_start_x109 fO_column_x109 fO_chosen_x109 ++ (WM hM aM kM iM_stands iM_variables iM_rows iM_goals iM_differents iM_cases fM_from fM_to fM_whole fM_ways iM_plainRows fM_plainRow fM_kept fM_goalOver fM_goalUnder fM_goalMax fM_different ++ (WQ hQ aQ kQ hw fQ_inside_x109 fQ_outside_x109 fQ_shut_x109 iQ_rows_x109 iQ_allRows_x109 iQ_columns_x109 ++ (WW nW hw lw kw wl_x109 wb_x109 wG_x109)))) H ∧ va_D A (WO hO aO kO hM hQ hw iO_answered iO_searched iO_searchedRelaxed iO_counted_j367 fO_countedCase_j367 gO_goalNumber gO_goalScale fO_start_x109 fO_column_x109 fO_chosen_x109 ++ (WM hM aM kM iM_stands iM_variables iM_rows iM_goals iM_differents iM_cases fM_from fM_to fM_whole fM_ways iM_plainRows fM_plainRow fM_kept fM_goalOver fM_goalUnder fM_goalMax fM_different ++ (WQ hQ aQ kQ hw fQ_inside_x109 fQ_outside_x109 fQ_shut_x109 iQ_rows_x109 iQ_allRows_x109 iQ_columns_x109 ++ (WW nW hw lw kw wl_x109 wb_x109 wG_x109)))) ∧ va_S A s.heap H locs ∧ lv_has ls 6 [(5, .int l5_x109), (4, .int l4_x109), (3, .int l3_x86), (2, .int k0_j305), (1, .int l1_x17), (0, .ref (hO 0))]) (fun join367 => ?_) ?_
                      · refine lv_if_eq (tgt := 190) hx hb dX5_countRows_165 (by decide) (fun c_165 => ?_) (fun c_165 => ?_)
                        · have t_165 : l4_x109.toInt = 0 := toI_eq c_165 rfl (by decide : (0 : Int32).toInt = 0)
                          have hl : lv_has _ _ ([(5, .int l5_x109), (4, .int l4_x109), (3, .int l3_x86), (2, .int k0_j305), (1, .int l1_x17), (0, .ref (hO 0))]) := lv_sub hl [0, 1, 2, 3, 4, 5] rfl
                          exact join367 _ _ _ _ ⟨iO_counted_x86, fO_countedCase_x86, (b_iO_counted_x86), b_fO_countedCase_x86, (show 0 ≤ iO_counted_x86.toInt from by (try rw [iI_t (by omega) (by omega)]); omega), rfl, hP, hD, hS, hl⟩
                        · have t_165 : ¬ l4_x109.toInt = 0 := toI_neq c_165 rfl (by decide : (0 : Int32).toInt = 0)
                          refine lv_aload_n hx hb dX5_countRows_168 rfl (lv_at hl 5 rfl) ?_
                          refine va_get (D := (dC, dI)) (ci := 5) (v := .ref (aO 0)) (C := RX5) (T := TX5) (N := 19) hx hb hts iwsMX5_countRows_in5 hown hK hP 0 rfl rfl 6 (by decide) (hts _ hm_m_X5_countRows_2) (fun _ h9 => h9) rfl dX5_countRows_169 ?_
                          refine lv_aload_n hx hb dX5_countRows_172 rfl (lv_at hl 5 rfl) ?_
                          refine va_get (D := (dC, dI)) (ci := 5) (v := .int iO_counted_x86) (C := RX5) (T := TX5) (N := 19) hx hb hts iwsMX5_countRows_in5 hown hK hP 0 rfl rfl 5 (by decide) (hts _ hm_m_X5_countRows_0) (fun _ h9 => h9) rfl dX5_countRows_173 ?_
                          refine lv_iload_n hx hb dX5_countRows_176 rfl (lv_at hl 2 rfl) ?_
                          refine lv_iload_n hx hb dX5_countRows_177 rfl (lv_at hl 3 rfl) ?_
                          refine lv_imul hx hb dX5_countRows_178 ?_
                          refine lv_topi (fun y941 hy941 => ?_)
                          obtain rfl : (iI (l3_x86.toInt * k0_j305.toInt)) = y941 := (hy941.trans (iI_mul2 (iI_of _) (iI_of _))).symm
                          refine va_iast (cA := kO 0) (n := 64) (f := fO_countedCase_x86) hx hb hK hP hD hS 1 0 rfl rfl (vp_in_iff.mpr ⟨(by omega), (by omega)⟩) dX5_countRows_179 (fun H locs hP hD hS => ?_)
                          obtain ⟨u942, hu942⟩ : ∃ f9, f9 = upd fO_countedCase_x86 (iO_counted_x86).toNatClampNeg (iI (l3_x86.toInt * k0_j305.toInt)) := ⟨_, rfl⟩
                          have hP : va_P (dC, dI) vwCl (WO hO aO kO hM hQ hw iO_answered iO_searched iO_searchedRelaxed iO_counted_x86 u942 gO_goalNumber gO_goalScale fO_start_x109 fO_column_x109 fO_chosen_x109 ++ (WM hM aM kM iM_stands iM_variables iM_rows iM_goals iM_differents iM_cases fM_from fM_to fM_whole fM_ways iM_plainRows fM_plainRow fM_kept fM_goalOver fM_goalUnder fM_goalMax fM_different ++ (WQ hQ aQ kQ hw fQ_inside_x109 fQ_outside_x109 fQ_shut_x109 iQ_rows_x109 iQ_allRows_x109 iQ_columns_x109 ++ (WW nW hw lw kw wl_x109 wb_x109 wG_x109)))) H := by rw [hu942]; exact hP
                          have hD : va_D A (WO hO aO kO hM hQ hw iO_answered iO_searched iO_searchedRelaxed iO_counted_x86 u942 gO_goalNumber gO_goalScale fO_start_x109 fO_column_x109 fO_chosen_x109 ++ (WM hM aM kM iM_stands iM_variables iM_rows iM_goals iM_differents iM_cases fM_from fM_to fM_whole fM_ways iM_plainRows fM_plainRow fM_kept fM_goalOver fM_goalUnder fM_goalMax fM_different ++ (WQ hQ aQ kQ hw fQ_inside_x109 fQ_outside_x109 fQ_shut_x109 iQ_rows_x109 iQ_allRows_x109 iQ_columns_x109 ++ (WW nW hw lw kw wl_x109 wb_x109 wG_x109)))) := by rw [hu942]; exact hD
                          have b_u942 : ∀ q : Nat, 0 ≤ (u942 q).toInt ∧ (u942 q).toInt ≤ 200000 := by rw [hu942]; exact upd_r b_fO_countedCase_x86 (by have h9 := cnt_ix0 (i := l3_x86.toInt) (w := l1_x17.toInt) (c := k0_j305.toInt) hcb (by omega) (by omega); rw [iI_t (by omega) (by omega)]; exact h9)
                          clear hu942
                          refine lv_aload_n hx hb dX5_countRows_180 rfl (lv_at hl 5 rfl) ?_
                          refine lv_dup hx hb dX5_countRows_181 rfl ?_
                          refine va_get (D := (dC, dI)) (ci := 5) (v := .int iO_counted_x86) (C := RX5) (T := TX5) (N := 19) hx hb hts iwsMX5_countRows_in5 hown hK hP 0 rfl rfl 5 (by decide) (hts _ hm_m_X5_countRows_0) (fun _ h9 => h9) rfl dX5_countRows_182 ?_
                          refine lv_iconst (v := 1) hx hb dX5_countRows_185 (by decide) ?_
                          refine lv_iadd hx hb dX5_countRows_186 ?_
                          refine lv_topi (fun y943 hy943 => ?_)
                          obtain rfl : (iI (iO_counted_x86.toInt + 1)) = y943 := (hy943.trans (iI_add2 (iI_of _) (by decide : (1 : Int32) = iI 1))).symm
                          refine va_put (D := (dC, dI)) (ci := 5) (v := .int (iI (iO_counted_x86.toInt + 1))) (ty := .int) (C := RX5) (T := TX5) (N := 19) hx hb hts iwsMX5_countRows_in5 tyX5 tyX5_ok nmX5 hown hK hP hD hS 0 rfl rfl 5 (by decide) (hts _ hm_m_X5_countRows_0) (fun _ h9 => h9) rfl (by decide +kernel) rfl rfl (Nat.le_of_ble_eq_true rfl) dX5_countRows_187 (fun H locs hP hD hS => ?_)
                          have hP : va_P (dC, dI) vwCl (WO hO aO kO hM hQ hw iO_answered iO_searched iO_searchedRelaxed (iI (iO_counted_x86.toInt + 1)) u942 gO_goalNumber gO_goalScale fO_start_x109 fO_column_x109 fO_chosen_x109 ++ (WM hM aM kM iM_stands iM_variables iM_rows iM_goals iM_differents iM_cases fM_from fM_to fM_whole fM_ways iM_plainRows fM_plainRow fM_kept fM_goalOver fM_goalUnder fM_goalMax fM_different ++ (WQ hQ aQ kQ hw fQ_inside_x109 fQ_outside_x109 fQ_shut_x109 iQ_rows_x109 iQ_allRows_x109 iQ_columns_x109 ++ (WW nW hw lw kw wl_x109 wb_x109 wG_x109)))) H := hP
                          have hD := fz_sd hP (hD) rfl
                          have hl : lv_has _ _ ([(5, .int l5_x109), (4, .int l4_x109), (3, .int l3_x86), (2, .int k0_j305), (1, .int l1_x17), (0, .ref (hO 0))]) := lv_sub hl [0, 1, 2, 3, 4, 5] rfl
                          exact join367 _ _ _ _ ⟨(iI (iO_counted_x86.toInt + 1)), u942, (iI_rng (Int.le_trans (by decide) (Int.add_le_add (b_iO_counted_x86.1) (Int.le_refl _))) (by omega) (by decide) (by decide)), b_u942, (show 0 ≤ (iI (iO_counted_x86.toInt + 1)).toInt from by (try rw [iI_t (by omega) (by omega)]); omega), rfl, hP, hD, hS, hl⟩
                      · rintro H locs ls stk ⟨iO_counted_j367, fO_countedCase_j367, b_iO_counted_j367, b_fO_countedCase_j367, hc1, rfl, hP, hD, hS, hl⟩
                        refine lv_iinc (v := (iI (l3_x86.toInt + 1))) hx hb dX5_countRows_190 hl (k := 2) rfl (iI_add2 (iI_of _) (by decide : (1 : Int32) = iI 1)) (by decide) rfl (fun ls (hl : lv_has ls _ ([(3, .int (iI (l3_x86.toInt + 1))), (5, .int l5_x109), (4, .int l4_x109), (2, .int k0_j305), (1, .int l1_x17), (0, .ref (hO 0))])) => ?_)
                        refine lv_goto (tgt := 86) hx hb dX5_countRows_193 (by decide) ?_
                        have hl : lv_has _ _ ([(3, .int (iI (l3_x86.toInt + 1))), (2, .int k0_j305), (1, .int l1_x17), (0, .ref (hO 0))]) := lv_sub hl [0, 3, 4, 5] rfl
                        exact ihx86 iO_counted_j367 fO_countedCase_j367 fO_start_x109 fO_column_x109 fO_chosen_x109 fQ_inside_x109 fQ_outside_x109 fQ_shut_x109 iQ_rows_x109 iQ_allRows_x109 iQ_columns_x109 wl_x109 wb_x109 wG_x109 (iI (l3_x86.toInt + 1)) _ _ _ (b_iO_counted_j367) b_fO_countedCase_j367 b_fO_column_x109 b_fO_chosen_x109 (b_iQ_rows_x109) (b_iQ_allRows_x109) (b_iQ_columns_x109) b_wl_x109 b_wb_x109 (iI_rng (Int.le_trans (by decide) (Int.add_le_add (b_l3_x86.1) (Int.le_refl _))) (by omega) (by decide) (by decide)) (by first | with_reducible assumption | omega | assumption) (show 0 ≤ iO_counted_j367.toInt from by (try rw [iI_t (by omega) (by omega)]); omega) (by have e9 : ((iI (l3_x86.toInt + 1))).toInt = (l3_x86.toInt + 1) := (iI_t (Int.le_trans (by decide) (Int.add_le_add (b_l3_x86.1) (Int.le_refl _))) (by omega)); omega) hP hD hS hl
            · rintro H locs ls stk ⟨rfl, hP, hD, hS, hl⟩
              refine lv_aload_n hx hb dX5_countRows_196 rfl (lv_at hl 3 rfl) ?_
              refine va_get (D := (dC, dI)) (ci := 5) (v := .int iO_counted_x86) (C := RX5) (T := TX5) (N := 19) hx hb hts iwsMX5_countRows_in5 hown hK hP 0 rfl rfl 5 (by decide) (hts _ hm_m_X5_countRows_0) (fun _ h9 => h9) rfl dX5_countRows_197 ?_
              refine W.widen (k := 0) (n := 0) (by decide +kernel) (by decide +kernel) ?_
              exact W.iret (v := iO_counted_x86) hx hb hr (fun t9_ ht hW => ⟨⟨iO_counted_x86, (iO_counted_x86, fO_countedCase_x86, fO_start_x86, fO_column_x86, fO_chosen_x86, fQ_inside_x86, fQ_outside_x86, fQ_shut_x86, iQ_rows_x86, iQ_allRows_x86, iQ_columns_x86, wl_x86, wb_x86, wG_x86), rfl, ⟨b_iO_counted_x86, b_fO_countedCase_x86, b_fO_column_x86, b_fO_chosen_x86, b_iQ_rows_x86, b_iQ_allRows_x86, b_iQ_columns_x86, b_wl_x86, b_wb_x86, (by (try dsimp only); exact (by first | with_reducible assumption | omega | assumption)), (b_iO_counted_x86)⟩, by rw [ht]; exact hP, hD⟩, hS.F ht⟩) hS.2.2 dX5_countRows_200
      · have t_25 : ¬ l2_x17.toInt ≥ iM_variables.toInt := toI_nge c_25 rfl rfl
        refine lv_iload_n hx hb dX5_countRows_28 rfl (lv_at hl 1 rfl) ?_
        refine lv_aload_n hx hb dX5_countRows_29 rfl (lv_at hl 2 rfl) ?_
        refine va_get (D := (dC, dI)) (ci := 5) (v := .ref (hM 0)) (C := RX5) (T := TX5) (N := 19) hx hb hts iwsMX5_countRows_in5 hown hK hP 0 rfl rfl 0 (by decide) (hts _ hm_m_X5_countRows_1) (fun _ h9 => h9) rfl dX5_countRows_30 ?_
        refine va_get (D := (dC, dI)) (ci := 1) (v := .ref (aM 2)) (C := RX1) (T := TX1) (N := 17) hx hb hts iwsMX5_countRows_in1 hown hK hP 11 rfl rfl 8 (by decide) (hts (.fieldLink RX5 143 "OptimaWorks$Model" "whole" "[Z") (by decide +kernel)) (fun _ h9 => h9) rfl dX5_countRows_33 ?_
        refine lv_iload_n hx hb dX5_countRows_36 rfl (lv_at hl 0 rfl) ?_
        refine va_zald (cA := kM 2) (n := 8) (f := fM_whole) hx hb hK hP 14 12 rfl rfl (vp_in_iff.mpr ⟨b_l2_x17.1, (Int.lt_of_lt_of_le (Int.not_le.mp t_25) (Int.le_trans b_iM_variables.2 (by decide)))⟩) dX5_countRows_37 ?_
        refine lv_topi (fun v944 hv944 => ?_)
        clear hv944
        refine W.cut (pc := 53) (fun H locs ls stk => ∃ (k0_j368 : Int32),  stk = [.int k0_j368, .int l1_x17] ∧ va_P (dC, dI) vwCl (WO hO aO kO hM hQ hw iO_answered iO_searched iO_searchedRelaxed iO_counted fO_countedCase gO_goalNumber gO_goalScale fO_start fO_column fO_chosen ++ (WM hM aM kM iM_stands iM_variables iM_rows iM_goals iM_differents iM_cases fM_from fM_to fM_whole fM_ways iM_plainRows fM_plainRow fM_kept fM_goalOver fM_goalUnder fM_goalMax fM_different ++ (WQ hQ aQ kQ hw fQ_inside fQ_outside fQ_shut iQ_rows iQ_allRows iQ_columns ++ (WW nW hw lw kw wl wb wG)))) H ∧ va_D A (WO hO aO kO hM hQ hw iO_answered iO_searched iO_searchedRelaxed iO_counted fO_countedCase gO_goalNumber gO_goalScale fO_start fO_column fO_chosen ++ (WM hM aM kM iM_stands iM_variables iM_rows iM_goals iM_differents iM_cases fM_from fM_to fM_whole fM_ways iM_plainRows fM_plainRow fM_kept fM_goalOver fM_goalUnder fM_goalMax fM_different ++ (WQ hQ aQ kQ hw fQ_inside fQ_outside fQ_shut iQ_rows iQ_allRows iQ_columns ++ (WW nW hw lw kw wl wb wG)))) ∧ va_S A s.heap H locs ∧ lv_has ls 6 [(2, .int l2_x17), (1, .int l1_x17), (0, .ref (hO 0))]) (fun join368 => ?_) ?_
        · refine lv_if_eq (tgt := 52) hx hb dX5_countRows_38 (by decide) (fun c_38 => ?_) (fun c_38 => ?_)
          · have t_38 : v944.toInt = 0 := toI_eq c_38 rfl (by decide : (0 : Int32).toInt = 0)
            refine lv_iconst (v := 1) hx hb dX5_countRows_52 (by decide) ?_
            have hl : lv_has _ _ ([(2, .int l2_x17), (1, .int l1_x17), (0, .ref (hO 0))]) := lv_sub hl [0, 1, 2] rfl
            exact join368 _ _ _ _ ⟨1, rfl, hP, hD, hS, hl⟩
          · have t_38 : ¬ v944.toInt = 0 := toI_neq c_38 rfl (by decide : (0 : Int32).toInt = 0)
            refine lv_aload_n hx hb dX5_countRows_41 rfl (lv_at hl 2 rfl) ?_
            refine va_get (D := (dC, dI)) (ci := 5) (v := .ref (hM 0)) (C := RX5) (T := TX5) (N := 19) hx hb hts iwsMX5_countRows_in5 hown hK hP 0 rfl rfl 0 (by decide) (hts _ hm_m_X5_countRows_1) (fun _ h9 => h9) rfl dX5_countRows_42 ?_
            refine lv_iload_n hx hb dX5_countRows_45 rfl (lv_at hl 0 rfl) ?_
            have p9 := cj_4_1 (WO hO aO kO hM hQ hw iO_answered iO_searched iO_searchedRelaxed iO_counted fO_countedCase gO_goalNumber gO_goalScale fO_start fO_column fO_chosen) (WM hM aM kM iM_stands iM_variables iM_rows iM_goals iM_differents iM_cases fM_from fM_to fM_whole fM_ways iM_plainRows fM_plainRow fM_kept fM_goalOver fM_goalUnder fM_goalMax fM_different) (WQ hQ aQ kQ hw fQ_inside fQ_outside fQ_shut iQ_rows iQ_allRows iQ_columns) (WW nW hw lw kw wl wb wG)
            have hPc := hP.mem (fun q h => p9.mem_iff.mpr (List.mem_append_left _ h))
            have hDc := (hD.perm p9).left
            have hKc : va_K (dC, dI) vwCl (tM kM) _ := hK.sub [10, 11, 12, 13, 14, 15, 16, 17, 18, 19] rfl
            have hFc := freeG p9 hD hS hA
            refine va_calli (va_runV (As := [.int l2_x17]) (rest := [.int l1_x17]) ⟨hx, hb, hml, hown, hts⟩ (m_X1_range l dC dI hM aM kM iM_stands iM_variables iM_rows iM_goals iM_differents iM_cases fM_from fM_to fM_whole fM_ways iM_plainRows fM_plainRow fM_kept fM_goalOver fM_goalUnder fM_goalMax fM_different l2_x17 (b_iM_stands) (b_iM_variables) (b_iM_rows) (b_iM_goals) (b_iM_differents) (b_iM_cases) b_fM_ways (b_iM_plainRows) b_fM_plainRow (by first | with_reducible assumption | omega | assumption) (by first | exact b_l2_x17 | with_reducible assumption | exact ⟨by omega, by omega⟩ | assumption) H.size) (cwV 1 hts gwsMX5_countRows_0 rfl rfl rfl hd_yX1_range_RX1 (by decide +kernel)) (fz_pre (va_recv hK hP (ci := 1) (q0 := 11) rfl rfl) hPc hKc hDc) rfl rfl hl.1 rfl (lv_room (Nat.le_of_ble_eq_true rfl)) dX5_countRows_46 (by decide +kernel)) hS (fun q _ h => hFc q h) hFc (fun r946 u t9_ H locs ht hvm hw9 hB9 hz1 hk1 hS => ?_)
            clear hw9
            have p8 := p9
            obtain ⟨hP, hD⟩ := frameG p9 p8 hP hD hk1 hFc (fz_P ht hB9.1) hB9.2
            refine lv_goto (tgt := 53) hx hb dX5_countRows_49 (by decide) ?_
            have hl : lv_has _ _ ([(2, .int l2_x17), (1, .int l1_x17), (0, .ref (hO 0))]) := lv_sub hl [0, 1, 2] rfl
            exact join368 _ _ _ _ ⟨r946, rfl, hP, hD, hS, hl⟩
        · rintro H locs ls stk ⟨k0_j368, rfl, hP, hD, hS, hl⟩
          refine lv_imul hx hb dX5_countRows_53 ?_
          refine lv_topi (fun y947 hy947 => ?_)
          obtain rfl : (iI (l1_x17.toInt * k0_j368.toInt)) = y947 := (hy947.trans (iI_mul2 (iI_of _) (iI_of _))).symm
          refine lv_istore_n hx hb dX5_countRows_54 rfl hl (by decide) rfl (fun ls (hl : lv_has ls _ ([(1, .int (iI (l1_x17.toInt * k0_j368.toInt))), (2, .int l2_x17), (0, .ref (hO 0))])) => ?_)
          refine lv_iinc (v := (iI (l2_x17.toInt + 1))) hx hb dX5_countRows_55 hl (k := 1) rfl (iI_add2 (iI_of _) (by decide : (1 : Int32) = iI 1)) (by decide) rfl (fun ls (hl : lv_has ls _ ([(2, .int (iI (l2_x17.toInt + 1))), (1, .int (iI (l1_x17.toInt * k0_j368.toInt))), (0, .ref (hO 0))])) => ?_)
          refine lv_goto (tgt := 17) hx hb dX5_countRows_58 (by decide) ?_
          have hl : lv_has _ _ ([(2, .int (iI (l2_x17.toInt + 1))), (1, .int (iI (l1_x17.toInt * k0_j368.toInt))), (0, .ref (hO 0))]) := lv_sub hl [0, 1, 2] rfl
          exact ihx17 (iI (l2_x17.toInt + 1)) (iI (l1_x17.toInt * k0_j368.toInt)) _ _ _ (iI_rng (Int.le_trans (by decide) (Int.add_le_add (b_l2_x17.1) (Int.le_refl _))) (by omega) (by decide) (by decide)) (by have e9 : ((iI (l2_x17.toInt + 1))).toInt = (l2_x17.toInt + 1) := (iI_t (Int.le_trans (by decide) (Int.add_le_add (b_l2_x17.1) (Int.le_refl _))) (Int.le_trans (Int.add_le_add (b_l2_x17.2) (Int.le_refl _)) (by decide))); omega) hP hD hS hl
  · have t_5 : ¬ iO_counted.toInt = (-1) := toI_neq c_5 rfl (by decide : ((-1) : Int32).toInt = (-1))
    refine lv_aload_n hx hb dX5_countRows_8 rfl (lv_at hl 0 rfl) ?_
    refine va_get (D := (dC, dI)) (ci := 5) (v := .int iO_counted) (C := RX5) (T := TX5) (N := 19) hx hb hts iwsMX5_countRows_in5 hown hK hP 0 rfl rfl 5 (by decide) (hts _ hm_m_X5_countRows_0) (fun _ h9 => h9) rfl dX5_countRows_9 ?_
    refine W.widen (k := 0) (n := 0) (by decide +kernel) (by decide +kernel) ?_
    exact W.iret (v := iO_counted) hx hb hr (fun t9_ ht hW => ⟨⟨iO_counted, (iO_counted, fO_countedCase, fO_start, fO_column, fO_chosen, fQ_inside, fQ_outside, fQ_shut, iQ_rows, iQ_allRows, iQ_columns, wl, wb, wG), rfl, ⟨b_iO_counted, b_fO_countedCase, b_fO_column, b_fO_chosen, b_iQ_rows, b_iQ_allRows, b_iQ_columns, b_wl, b_wb, (by (try dsimp only); exact (by first | with_reducible assumption | omega | assumption)), (b_iO_counted)⟩, by rw [ht]; exact hP, hD⟩, hS.F ht⟩) hS.2.2 dX5_countRows_12
theorem dX5_countedNumber_0 : decode cX5_countedNumber 0 = .ok (.aload_n 0, 1) := dk_42 (by decide +kernel)
theorem dX5_countedNumber_1 : decode cX5_countedNumber 1 = .ok (.aload_n 0, 1) := dk_42 (by decide +kernel)
theorem dX5_countedNumber_2 : decode cX5_countedNumber 2 = .ok (.getfield 24, 3) := dk_180 (by decide +kernel)
theorem dX5_countedNumber_5 : decode cX5_countedNumber 5 = .ok (.iload_n 1, 1) := dk_27 (by decide +kernel)
theorem dX5_countedNumber_6 : decode cX5_countedNumber 6 = .ok (.iaload, 1) := dk_46 (by decide +kernel)
theorem dX5_countedNumber_7 : decode cX5_countedNumber 7 = .ok (.invokevirtual 94, 3) := dk_182 (by decide +kernel)
theorem dX5_countedNumber_10 : decode cX5_countedNumber 10 = .ok (.pop, 1) := dk_87 (by decide +kernel)
theorem dX5_countedNumber_11 : decode cX5_countedNumber 11 = .ok (.aload_n 0, 1) := dk_42 (by decide +kernel)
theorem dX5_countedNumber_12 : decode cX5_countedNumber 12 = .ok (.getfield 35, 3) := dk_180 (by decide +kernel)
theorem dX5_countedNumber_15 : decode cX5_countedNumber 15 = .ok (.iload_n 2, 1) := dk_28 (by decide +kernel)
theorem dX5_countedNumber_16 : decode cX5_countedNumber 16 = .ok (.iaload, 1) := dk_46 (by decide +kernel)
theorem dX5_countedNumber_17 : decode cX5_countedNumber 17 = .ok (.ireturn, 1) := dk_172 (by decide +kernel)
def wsMX5_countedNumber : List Cond := .code yX5_countedNumber cX5_countedNumber 3 (some .int) :: ([.fieldLink RX5 24 "OptimaWorks$Solver" "countedCase" "[I", .fieldLink RX5 35 "OptimaWorks$Solver" "start" "[I"] ++ wsX50 ++ (wsV RX5 94 RX5 yX5_choose wsMX5_choose))
theorem iwsMX5_countedNumber_in5 : ∀ w ∈ wsX50, w ∈ wsMX5_countedNumber := fun _ h => List.mem_cons_of_mem _ (List.mem_append_left _ (List.mem_append_right _ h))
theorem gwsMX5_countedNumber_0 : GoodIn wsMX5_countedNumber (wsV RX5 94 RX5 yX5_choose wsMX5_choose) := goodIn_sub (fun _ h => List.mem_cons_of_mem _ (List.mem_append_right _ h)) (gdV (by decide +kernel) gdwsMX5_choose)
theorem gdwsMX5_countedNumber : wsMX5_countedNumber.all goodWord = true := gdC rfl (gdA (gdA (by decide +kernel : ([.fieldLink RX5 24 "OptimaWorks$Solver" "countedCase" "[I", .fieldLink RX5 35 "OptimaWorks$Solver" "start" "[I"] : List Cond).all goodWord = true) gdwsX50) (gdV (by decide +kernel) gdwsMX5_choose))
set_option maxHeartbeats 4000000 in
set_option maxRecDepth 100000 in
/-- a number of a counted row -/
theorem m_X5_countedNumber (l : Launch) (dC : Nat → ClassId) (dI : Nat → Nat → Nat) (hO : Nat → Nat) (aO : Nat → Nat) (kO : Nat → ClassId) (hM : Nat → Nat) (hQ : Nat → Nat) (hw : Nat → Nat) (iO_answered : Int32) (iO_searched : Int32) (iO_searchedRelaxed : Int32) (iO_counted : Int32) (fO_countedCase : Nat → Int32) (gO_goalNumber : Nat → Int64) (gO_goalScale : Nat → Int64) (fO_start : Nat → Int32) (fO_column : Nat → Int32) (fO_chosen : Nat → Int32) (aM : Nat → Nat) (kM : Nat → ClassId) (iM_stands : Int32) (iM_variables : Int32) (iM_rows : Int32) (iM_goals : Int32) (iM_differents : Int32) (iM_cases : Int32) (fM_from : Nat → Int32) (fM_to : Nat → Int32) (fM_whole : Nat → Int32) (fM_ways : Nat → Int32) (iM_plainRows : Int32) (fM_plainRow : Nat → Int32) (fM_kept : Nat → Int32) (fM_goalOver : Nat → Int32) (fM_goalUnder : Nat → Int32) (fM_goalMax : Nat → Int32) (fM_different : Nat → Int32) (aQ : Nat → Nat) (kQ : Nat → ClassId) (fQ_inside : Nat → Int32) (fQ_outside : Nat → Int32) (fQ_shut : Nat → Int32) (iQ_rows : Int32) (iQ_allRows : Int32) (iQ_columns : Int32) (nW : Nat) (lw : Nat → Nat) (kw : ClassId) (wl : Nat → Int32) (wb : Nat → Int32) (wG : Nat → Nat → Int64) (p1 : Int32) (p2 : Int32) (b_iO_answered : 0 ≤ iO_answered.toInt ∧ iO_answered.toInt ≤ 1) (b_iO_searched : 0 ≤ iO_searched.toInt ∧ iO_searched.toInt ≤ 1) (b_iO_searchedRelaxed : 0 ≤ iO_searchedRelaxed.toInt ∧ iO_searchedRelaxed.toInt ≤ 1) (b_iO_counted : (-1) ≤ iO_counted.toInt ∧ iO_counted.toInt ≤ 64) (b_fO_countedCase : ∀ q : Nat, 0 ≤ (fO_countedCase q).toInt ∧ (fO_countedCase q).toInt ≤ 200000) (b_fO_column : ∀ q : Nat, (-1) ≤ (fO_column q).toInt ∧ (fO_column q).toInt ≤ 8) (b_fO_chosen : ∀ q : Nat, 0 ≤ (fO_chosen q).toInt ∧ (fO_chosen q).toInt ≤ 2) (b_iM_stands : 0 ≤ iM_stands.toInt ∧ iM_stands.toInt ≤ 1) (b_iM_variables : 0 ≤ iM_variables.toInt ∧ iM_variables.toInt ≤ 8) (b_iM_rows : 0 ≤ iM_rows.toInt ∧ iM_rows.toInt ≤ 12) (b_iM_goals : 0 ≤ iM_goals.toInt ∧ iM_goals.toInt ≤ 3) (b_iM_differents : 0 ≤ iM_differents.toInt ∧ iM_differents.toInt ≤ 8) (b_iM_cases : 0 ≤ iM_cases.toInt ∧ iM_cases.toInt ≤ 200000) (b_fM_ways : ∀ q : Nat, 0 ≤ (fM_ways q).toInt ∧ (fM_ways q).toInt ≤ 3) (b_iM_plainRows : 0 ≤ iM_plainRows.toInt ∧ iM_plainRows.toInt ≤ 12) (b_fM_plainRow : ∀ q : Nat, 0 ≤ (fM_plainRow q).toInt ∧ (fM_plainRow q).toInt ≤ 11) (b_pr : iM_plainRows.toInt ≤ iM_rows.toInt) (b_iQ_rows : 0 ≤ iQ_rows.toInt ∧ iQ_rows.toInt ≤ 40) (b_iQ_allRows : 0 ≤ iQ_allRows.toInt ∧ iQ_allRows.toInt ≤ 40) (b_iQ_columns : 0 ≤ iQ_columns.toInt ∧ iQ_columns.toInt ≤ 40) (b_tb : TbO iQ_rows iQ_allRows iQ_columns) (b_wl : ∀ q : Nat, 0 ≤ (wl q).toInt ∧ (wl q).toInt ≤ 14) (b_wb : ∀ q : Nat, 0 ≤ (wb q).toInt ∧ (wb q).toInt ≤ 1) (b_p1 : 0 ≤ p1.toInt ∧ p1.toInt ≤ 63) (b_p2 : 0 ≤ p2.toInt ∧ p2.toInt ≤ 7) (hnW : 432 ≤ nW) (sz : Nat) : Met l yX5_countedNumber wsMX5_countedNumber ({ frames := 3, cells := 0, slots := 0, locals := 68 }) (va_Pc [.ref (hO 0), .int p1, .int p2] (fun U => U.heap.size = sz ∧ va_P (dC, dI) vwCl (WO hO aO kO hM hQ hw iO_answered iO_searched iO_searchedRelaxed iO_counted fO_countedCase gO_goalNumber gO_goalScale fO_start fO_column fO_chosen ++ (WM hM aM kM iM_stands iM_variables iM_rows iM_goals iM_differents iM_cases fM_from fM_to fM_whole fM_ways iM_plainRows fM_plainRow fM_kept fM_goalOver fM_goalUnder fM_goalMax fM_different ++ (WQ hQ aQ kQ hw fQ_inside fQ_outside fQ_shut iQ_rows iQ_allRows iQ_columns ++ (WW nW hw lw kw wl wb wG)))) U.heap ∧ va_K (dC, dI) vwCl (tO kO ++ (tM kM ++ (tQ kQ ++ (tW kw)))) U ∧ va_D (fun _ => True) (WO hO aO kO hM hQ hw iO_answered iO_searched iO_searchedRelaxed iO_counted fO_countedCase gO_goalNumber gO_goalScale fO_start fO_column fO_chosen ++ (WM hM aM kM iM_stands iM_variables iM_rows iM_goals iM_differents iM_cases fM_from fM_to fM_whole fM_ways iM_plainRows fM_plainRow fM_kept fM_goalOver fM_goalUnder fM_goalMax fM_different ++ (WQ hQ aQ kQ hw fQ_inside fQ_outside fQ_shut iQ_rows iQ_allRows iQ_columns ++ (WW nW hw lw kw wl wb wG)))))) (va_Qi (fun (r : Int32) (u : (Nat → Int32) × (Nat → Int32)) => (∀ q : Nat, 0 ≤ ((u.2) q).toInt ∧ ((u.2) q).toInt ≤ 2)) (fun (u : (Nat → Int32) × (Nat → Int32)) t => va_P (dC, dI) vwCl (WO hO aO kO hM hQ hw iO_answered iO_searched iO_searchedRelaxed iO_counted fO_countedCase gO_goalNumber gO_goalScale (u.1) fO_column (u.2) ++ (WM hM aM kM iM_stands iM_variables iM_rows iM_goals iM_differents iM_cases fM_from fM_to fM_whole fM_ways iM_plainRows fM_plainRow fM_kept fM_goalOver fM_goalUnder fM_goalMax fM_different ++ (WQ hQ aQ kQ hw fQ_inside fQ_outside fQ_shut iQ_rows iQ_allRows iQ_columns ++ (WW nW hw lw kw wl wb wG)))) t.heap ∧ va_D (va_A (WO hO aO kO hM hQ hw iO_answered iO_searched iO_searchedRelaxed iO_counted fO_countedCase gO_goalNumber gO_goalScale fO_start fO_column fO_chosen ++ (WM hM aM kM iM_stands iM_variables iM_rows iM_goals iM_differents iM_cases fM_from fM_to fM_whole fM_ways iM_plainRows fM_plainRow fM_kept fM_goalOver fM_goalUnder fM_goalMax fM_different ++ (WQ hQ aQ kQ hw fQ_inside fQ_outside fQ_shut iQ_rows iQ_allRows iQ_columns ++ (WW nW hw lw kw wl wb wG)))) sz) (WO hO aO kO hM hQ hw iO_answered iO_searched iO_searchedRelaxed iO_counted fO_countedCase gO_goalNumber gO_goalScale (u.1) fO_column (u.2) ++ (WM hM aM kM iM_stands iM_variables iM_rows iM_goals iM_differents iM_cases fM_from fM_to fM_whole fM_ways iM_plainRows fM_plainRow fM_kept fM_goalOver fM_goalUnder fM_goalMax fM_different ++ (WQ hQ aQ kQ hw fQ_inside fQ_outside fQ_shut iQ_rows iQ_allRows iQ_columns ++ (WW nW hw lw kw wl wb wG))))) (va_A (WO hO aO kO hM hQ hw iO_answered iO_searched iO_searchedRelaxed iO_counted fO_countedCase gO_goalNumber gO_goalScale fO_start fO_column fO_chosen ++ (WM hM aM kM iM_stands iM_variables iM_rows iM_goals iM_differents iM_cases fM_from fM_to fM_whole fM_ways iM_plainRows fM_plainRow fM_kept fM_goalOver fM_goalUnder fM_goalMax fM_different ++ (WQ hQ aQ kQ hw fQ_inside fQ_outside fQ_shut iQ_rows iQ_allRows iQ_columns ++ (WW nW hw lw kw wl wb wG)))) sz)) 0 0 (va_A (WO hO aO kO hM hQ hw iO_answered iO_searched iO_searchedRelaxed iO_counted fO_countedCase gO_goalNumber gO_goalScale fO_start fO_column fO_chosen ++ (WM hM aM kM iM_stands iM_variables iM_rows iM_goals iM_differents iM_cases fM_from fM_to fM_whole fM_ways iM_plainRows fM_plainRow fM_kept fM_goalOver fM_goalUnder fM_goalMax fM_different ++ (WQ hQ aQ kQ hw fQ_inside fQ_outside fQ_shut iQ_rows iQ_allRows iQ_columns ++ (WW nW hw lw kw wl wb wG)))) sz) := by
  refine Met.ofW (cc := cX5_countedNumber) (maxL := 3) (ret := (some .int)) (by decide) rfl ?_
  intro p e s m args below meth c s₁ B hml hv
  obtain ⟨rfl, hsz, hP, hK, hD0⟩ := hv
  have hx := B.exec
  have hb := B.bytes
  have hr := B.returns
  have hts := atoms_spec (ws := wsMX5_countedNumber) B.pre
  have hown : s.vm.findClass RX5 = some m.cls := findClass_of_methodNamed B.named
  have hlocks := B.notSynchronized
  subst hsz
  have hD := hD0.self (sz := s.heap.size)
  generalize hAe : va_A (WO hO aO kO hM hQ hw iO_answered iO_searched iO_searchedRelaxed iO_counted fO_countedCase gO_goalNumber gO_goalScale fO_start fO_column fO_chosen ++ (WM hM aM kM iM_stands iM_variables iM_rows iM_goals iM_differents iM_cases fM_from fM_to fM_whole fM_ways iM_plainRows fM_plainRow fM_kept fM_goalOver fM_goalUnder fM_goalMax fM_different ++ (WQ hQ aQ kQ hw fQ_inside fQ_outside fQ_shut iQ_rows iQ_allRows iQ_columns ++ (WW nW hw lw kw wl wb wG)))) s.heap.size = A at hD ⊢
  have hA : ∀ q : Nat, s.heap.size ≤ q → A q := fun q h => by rw [← hAe]; exact Or.inr h
  have hS : va_S A s.heap s.heap [] := va_S.rf
  have hl := lv_entry ([.ref (hO 0), .int p1, .int p2]) (n := 3) (Nat.le_of_ble_eq_true rfl)
  rw [lg_entry_eq]
  generalize (lg_sl ([.ref (hO 0), .int p1, .int p2]) ++ List.replicate (3 - (lg_sl ([.ref (hO 0), .int p1, .int p2])).length) Slot.unset).toArray = ls at hl ⊢
  have hl : lv_has ls 3 [(0, .ref (hO 0)), (1, .int p1), (2, .int p2)] := hl
  refine lv_aload_n hx hb dX5_countedNumber_0 rfl (lv_at hl 0 rfl) ?_
  refine lv_aload_n hx hb dX5_countedNumber_1 rfl (lv_at hl 0 rfl) ?_
  refine va_get (D := (dC, dI)) (ci := 5) (v := .ref (aO 0)) (C := RX5) (T := TX5) (N := 19) hx hb hts iwsMX5_countedNumber_in5 hown hK hP 0 rfl rfl 6 (by decide) (hts (.fieldLink RX5 24 "OptimaWorks$Solver" "countedCase" "[I") (by decide +kernel)) (fun _ h9 => h9) rfl dX5_countedNumber_2 ?_
  refine lv_iload_n hx hb dX5_countedNumber_5 rfl (lv_at hl 1 rfl) ?_
  refine va_iald (cA := kO 0) (n := 64) (f := fO_countedCase) hx hb hK hP 1 0 rfl rfl (vp_in_iff.mpr ⟨b_p1.1, (Int.lt_of_le_of_lt (b_p1.2) (by decide))⟩) dX5_countedNumber_6 ?_
  refine lv_topi (fun v1 hv1 => ?_)
  have b_v1 : 0 ≤ v1.toInt ∧ v1.toInt ≤ 200000 := by rw [hv1]; exact b_fO_countedCase _
  clear hv1
  have hFc := allFree hD hS hA
  refine va_calli (va_runV (As := [.int v1]) (rest := []) ⟨hx, hb, hml, hown, hts⟩ (m_X5_choose l dC dI hO aO kO hM hQ hw iO_answered iO_searched iO_searchedRelaxed iO_counted fO_countedCase gO_goalNumber gO_goalScale fO_start fO_column fO_chosen aM kM iM_stands iM_variables iM_rows iM_goals iM_differents iM_cases fM_from fM_to fM_whole fM_ways iM_plainRows fM_plainRow fM_kept fM_goalOver fM_goalUnder fM_goalMax fM_different aQ kQ fQ_inside fQ_outside fQ_shut iQ_rows iQ_allRows iQ_columns nW lw kw wl wb wG v1 (b_iO_answered) (b_iO_searched) (b_iO_searchedRelaxed) (b_iO_counted) b_fO_countedCase b_fO_column b_fO_chosen (b_iM_stands) (b_iM_variables) (b_iM_rows) (b_iM_goals) (b_iM_differents) (b_iM_cases) b_fM_ways (b_iM_plainRows) b_fM_plainRow (by first | with_reducible assumption | omega | assumption) (b_iQ_rows) (b_iQ_allRows) (b_iQ_columns) (by first | with_reducible assumption | omega | assumption) b_wl b_wb (b_v1) (by omega) s.heap.size) (cwV 1 hts gwsMX5_countedNumber_0 rfl rfl rfl hd_yX5_choose_RX5 (by decide +kernel)) (fz_pre (va_recv hK hP (ci := 5) (q0 := 0) rfl rfl) hP hK hD) rfl rfl hl.1 rfl (lv_room (Nat.le_of_ble_eq_true rfl)) dX5_countedNumber_7 (by decide +kernel)) hS (fun q _ h => hFc q h) hFc (fun r2 u t9_ H locs ht hvm hw9 hB9 hz1 hk1 hS => ?_)
  revert u hw9 hB9
  refine fz_p2 ?_
  intro fO_start_2 fO_chosen_2 hw9 hB9
  try dsimp only at hw9 hB9
  revert hw9
  refine fz_a2 ?_
  intro b_fO_chosen_2 b_r2
  have hP : va_P (dC, dI) vwCl (WO hO aO kO hM hQ hw iO_answered iO_searched iO_searchedRelaxed iO_counted fO_countedCase gO_goalNumber gO_goalScale fO_start_2 fO_column fO_chosen_2 ++ (WM hM aM kM iM_stands iM_variables iM_rows iM_goals iM_differents iM_cases fM_from fM_to fM_whole fM_ways iM_plainRows fM_plainRow fM_kept fM_goalOver fM_goalUnder fM_goalMax fM_different ++ (WQ hQ aQ kQ hw fQ_inside fQ_outside fQ_shut iQ_rows iQ_allRows iQ_columns ++ (WW nW hw lw kw wl wb wG)))) H := fz_P ht hB9.1
  have hD := fz_sd hP (hB9.2.weaken (fun _ q _ h => hFc q.1 h)) rfl
  refine lv_pop hx hb dX5_countedNumber_10 rfl ?_
  refine lv_aload_n hx hb dX5_countedNumber_11 rfl (lv_at hl 0 rfl) ?_
  refine va_get (D := (dC, dI)) (ci := 5) (v := .ref (aO 3)) (C := RX5) (T := TX5) (N := 19) hx hb hts iwsMX5_countedNumber_in5 hown hK hP 0 rfl rfl 9 (by decide) (hts (.fieldLink RX5 35 "OptimaWorks$Solver" "start" "[I") (by decide +kernel)) (fun _ h9 => h9) rfl dX5_countedNumber_12 ?_
  refine lv_iload_n hx hb dX5_countedNumber_15 rfl (lv_at hl 2 rfl) ?_
  refine va_iald (cA := kO 3) (n := 8) (f := fO_start_2) hx hb hK hP 4 3 rfl rfl (vp_in_iff.mpr ⟨b_p2.1, (Int.lt_of_le_of_lt (b_p2.2) (by decide))⟩) dX5_countedNumber_16 ?_
  refine lv_topi (fun v3 hv3 => ?_)
  clear hv3
  refine W.widen (k := 0) (n := 0) (by decide +kernel) (by decide +kernel) ?_
  exact W.iret (v := v3) hx hb hr (fun t9_ ht hW => ⟨⟨v3, (fO_start_2, fO_chosen_2), rfl, b_fO_chosen_2, by rw [ht]; exact hP, hD⟩, hS.F ht⟩) hS.2.2 dX5_countedNumber_17
end
section
/-! the prover's measures -/
theorem ix9 {i j c : Int} (h0 : 0 ≤ i) (h1 : i ≤ 39) (h2 : 0 ≤ c) (h3 : c ≤ 9) (h4 : 0 ≤ j) (h5 : j ≤ 9) : 0 ≤ i * (c + 1) + j ∧ i * (c + 1) + j < 400 := by
  have h : i * (c + 1) ≤ i * 10 := Int.mul_le_mul_of_nonneg_left (by omega) h0
  have h9 : 0 ≤ i * (c + 1) := Int.mul_nonneg h0 (by omega)
  omega
/-- the needs of the columns are needs -/
def NdOc (f : Nat → Int32) (c n : Int) : Prop := ∀ j : Nat, (j : Int) < c → 0 ≤ (f j).toInt ∧ (f j).toInt < n
theorem NdOc.push {f f' : Nat → Int32} {c c' x : Int32} {n : Int} (h : NdOc f c.toInt n) (hf : f' = upd f c.toNatClampNeg x) (hx : 0 ≤ x.toInt) (hx2 : x.toInt < n) (h0 : 0 ≤ c.toInt) (hc : c'.toInt = c.toInt + 1) : NdOc f' c'.toInt n := fun q hq => by
  have hc2 : c.toNatClampNeg = c.toInt.toNat := rfl
  rw [hf, hc2]
  by_cases e : q = c.toInt.toNat
  · rw [e, pk_us]; exact ⟨hx, hx2⟩
  · rw [pk_un e]; exact h q (by omega)
theorem NdOc.at {f : Nat → Int32} {c n : Int} {i : Int32} (h : NdOc f c n) (h0 : 0 ≤ i.toInt) (h1 : i.toInt < c) : 0 ≤ (f i.toNatClampNeg).toInt ∧ (f i.toNatClampNeg).toInt < n := h i.toInt.toNat (by omega)
theorem NdOc.zero {f : Nat → Int32} {n : Int} : NdOc f (0 : Int32).toInt n := fun q hq => by have h9 : (0 : Int32).toInt = 0 := (by decide); omega
theorem mul9 {X C : Int} (h0 : 0 ≤ X) (h1 : X ≤ 9) (h2 : 0 ≤ C) (h3 : C ≤ 40) : (X + (0 : Int32).toInt) * (C + 1) ≤ 400 := by
  rw [show (0 : Int32).toInt = 0 by decide, Int.add_zero]
  have h : X * (C + 1) ≤ X * 41 := Int.mul_le_mul_of_nonneg_left (by omega) h0
  omega
theorem mul49 {X C : Int} (h0 : 0 ≤ X) (h1 : X ≤ 40) (h2 : 0 ≤ C) (h3 : C ≤ 9) : (X + (0 : Int32).toInt) * (C + 1) ≤ 400 := by
  rw [show (0 : Int32).toInt = 0 by decide, Int.add_zero]
  have h : X * (C + 1) ≤ X * 10 := Int.mul_le_mul_of_nonneg_left (by omega) h0
  omega
end

section
theorem hd_yX10_number_RX10 : yX10_number.cls = RX10 ∧ yX10_number.cls ≠ "java/lang/invoke/MethodHandle" ∧ yX10_number.cls ≠ "java/lang/invoke/VarHandle" ∧ (parseMethodDescriptor yX10_number.desc).map (fun d => d.parameters.length) = some 2 := by decide +kernel
theorem hd_yX10_farEnd_RX10 : yX10_farEnd.cls = RX10 ∧ yX10_farEnd.cls ≠ "java/lang/invoke/MethodHandle" ∧ yX10_farEnd.cls ≠ "java/lang/invoke/VarHandle" ∧ (parseMethodDescriptor yX10_farEnd.desc).map (fun d => d.parameters.length) = some 1 := by decide +kernel
theorem hd_yX10_multiplyCases_RX10 : yX10_multiplyCases.cls = RX10 ∧ yX10_multiplyCases.cls ≠ "java/lang/invoke/MethodHandle" ∧ yX10_multiplyCases.cls ≠ "java/lang/invoke/VarHandle" ∧ (parseMethodDescriptor yX10_multiplyCases.desc).map (fun d => d.parameters.length) = some 1 := by decide +kernel
theorem hd_yX10_boundMembers_RX10 : yX10_boundMembers.cls = RX10 ∧ yX10_boundMembers.cls ≠ "java/lang/invoke/MethodHandle" ∧ yX10_boundMembers.cls ≠ "java/lang/invoke/VarHandle" ∧ (parseMethodDescriptor yX10_boundMembers.desc).map (fun d => d.parameters.length) = some 1 := by decide +kernel
theorem hd_yX10_bind_RX10 : yX10_bind.cls = RX10 ∧ yX10_bind.cls ≠ "java/lang/invoke/MethodHandle" ∧ yX10_bind.cls ≠ "java/lang/invoke/VarHandle" ∧ (parseMethodDescriptor yX10_bind.desc).map (fun d => d.parameters.length) = some 2 := by decide +kernel
theorem hd_yX1_addRow_RX1 : yX1_addRow.cls = RX1 ∧ yX1_addRow.cls ≠ "java/lang/invoke/MethodHandle" ∧ yX1_addRow.cls ≠ "java/lang/invoke/VarHandle" ∧ (parseMethodDescriptor yX1_addRow.desc).map (fun d => d.parameters.length) = some 1 := by decide +kernel
theorem hd_yX10_linear_RX10 : yX10_linear.cls = RX10 ∧ yX10_linear.cls ≠ "java/lang/invoke/MethodHandle" ∧ yX10_linear.cls ≠ "java/lang/invoke/VarHandle" ∧ (parseMethodDescriptor yX10_linear.desc).map (fun d => d.parameters.length) = some 2 := by decide +kernel
theorem hd_yX10_keepWay_RX10 : yX10_keepWay.cls = RX10 ∧ yX10_keepWay.cls ≠ "java/lang/invoke/MethodHandle" ∧ yX10_keepWay.cls ≠ "java/lang/invoke/VarHandle" ∧ (parseMethodDescriptor yX10_keepWay.desc).map (fun d => d.parameters.length) = some 3 := by decide +kernel
theorem hd_yX10_anyHolds_RX10 : yX10_anyHolds.cls = RX10 ∧ yX10_anyHolds.cls ≠ "java/lang/invoke/MethodHandle" ∧ yX10_anyHolds.cls ≠ "java/lang/invoke/VarHandle" ∧ (parseMethodDescriptor yX10_anyHolds.desc).map (fun d => d.parameters.length) = some 2 := by decide +kernel
theorem dX10_doParam_0 : decode cX10_doParam 0 = .ok (.iload_n 1, 1) := dk_27 (by decide +kernel)
theorem dX10_doParam_1 : decode cX10_doParam 1 = .ok (.istore_n 2, 1) := dk_61 (by decide +kernel)
theorem dX10_doParam_2 : decode cX10_doParam 2 = .ok (.iconst 0, 1) := dk_3 (by decide +kernel)
theorem dX10_doParam_3 : decode cX10_doParam 3 = .ok (.istore_n 3, 1) := dk_62 (by decide +kernel)
theorem dX10_doParam_4 : decode cX10_doParam 4 = .ok (.iload_n 3, 1) := dk_29 (by decide +kernel)
theorem dX10_doParam_5 : decode cX10_doParam 5 = .ok (.aload_n 0, 1) := dk_42 (by decide +kernel)
theorem dX10_doParam_6 : decode cX10_doParam 6 = .ok (.getfield 30, 3) := dk_180 (by decide +kernel)
theorem dX10_doParam_9 : decode cX10_doParam 9 = .ok (.arraylength, 1) := dk_190 (by decide +kernel)
theorem dX10_doParam_10 : decode cX10_doParam 10 = .ok (.if_icmp .ge 83, 3) := dk_162 (by decide +kernel)
theorem dX10_doParam_13 : decode cX10_doParam 13 = .ok (.iload_n 2, 1) := dk_28 (by decide +kernel)
theorem dX10_doParam_14 : decode cX10_doParam 14 = .ok (.ifCond .eq 79, 3) := dk_153 (by decide +kernel)
theorem dX10_doParam_17 : decode cX10_doParam 17 = .ok (.aload_n 0, 1) := dk_42 (by decide +kernel)
theorem dX10_doParam_18 : decode cX10_doParam 18 = .ok (.iload_n 2, 1) := dk_28 (by decide +kernel)
theorem dX10_doParam_19 : decode cX10_doParam 19 = .ok (.iconst 0, 1) := dk_3 (by decide +kernel)
theorem dX10_doParam_20 : decode cX10_doParam 20 = .ok (.invokevirtual 80, 3) := dk_182 (by decide +kernel)
theorem dX10_doParam_23 : decode cX10_doParam 23 = .ok (.aload_n 0, 1) := dk_42 (by decide +kernel)
theorem dX10_doParam_24 : decode cX10_doParam 24 = .ok (.getfield 62, 3) := dk_180 (by decide +kernel)
theorem dX10_doParam_27 : decode cX10_doParam 27 = .ok (.aload_n 0, 1) := dk_42 (by decide +kernel)
theorem dX10_doParam_28 : decode cX10_doParam 28 = .ok (.getfield 30, 3) := dk_180 (by decide +kernel)
theorem dX10_doParam_31 : decode cX10_doParam 31 = .ok (.arraylength, 1) := dk_190 (by decide +kernel)
theorem dX10_doParam_32 : decode cX10_doParam 32 = .ok (.if_icmp .ge 45, 3) := dk_162 (by decide +kernel)
theorem dX10_doParam_35 : decode cX10_doParam 35 = .ok (.aload_n 0, 1) := dk_42 (by decide +kernel)
theorem dX10_doParam_36 : decode cX10_doParam 36 = .ok (.getfield 30, 3) := dk_180 (by decide +kernel)
theorem dX10_doParam_39 : decode cX10_doParam 39 = .ok (.aload_n 0, 1) := dk_42 (by decide +kernel)
theorem dX10_doParam_40 : decode cX10_doParam 40 = .ok (.getfield 62, 3) := dk_180 (by decide +kernel)
theorem dX10_doParam_43 : decode cX10_doParam 43 = .ok (.aload_n 0, 1) := dk_42 (by decide +kernel)
theorem dX10_doParam_44 : decode cX10_doParam 44 = .ok (.getfield 36, 3) := dk_180 (by decide +kernel)
theorem dX10_doParam_47 : decode cX10_doParam 47 = .ok (.iconst 0, 1) := dk_3 (by decide +kernel)
theorem dX10_doParam_48 : decode cX10_doParam 48 = .ok (.laload, 1) := dk_47 (by decide +kernel)
theorem dX10_doParam_49 : decode cX10_doParam 49 = .ok (.l2i, 1) := dk_136 (by decide +kernel)
theorem dX10_doParam_50 : decode cX10_doParam 50 = .ok (.iastore, 1) := dk_79 (by decide +kernel)
theorem dX10_doParam_51 : decode cX10_doParam 51 = .ok (.aload_n 0, 1) := dk_42 (by decide +kernel)
theorem dX10_doParam_52 : decode cX10_doParam 52 = .ok (.getfield 33, 3) := dk_180 (by decide +kernel)
theorem dX10_doParam_55 : decode cX10_doParam 55 = .ok (.aload_n 0, 1) := dk_42 (by decide +kernel)
theorem dX10_doParam_56 : decode cX10_doParam 56 = .ok (.getfield 62, 3) := dk_180 (by decide +kernel)
theorem dX10_doParam_59 : decode cX10_doParam 59 = .ok (.aload_n 0, 1) := dk_42 (by decide +kernel)
theorem dX10_doParam_60 : decode cX10_doParam 60 = .ok (.getfield 39, 3) := dk_180 (by decide +kernel)
theorem dX10_doParam_63 : decode cX10_doParam 63 = .ok (.iconst 0, 1) := dk_3 (by decide +kernel)
theorem dX10_doParam_64 : decode cX10_doParam 64 = .ok (.laload, 1) := dk_47 (by decide +kernel)
theorem dX10_doParam_65 : decode cX10_doParam 65 = .ok (.l2i, 1) := dk_136 (by decide +kernel)
theorem dX10_doParam_66 : decode cX10_doParam 66 = .ok (.iastore, 1) := dk_79 (by decide +kernel)
theorem dX10_doParam_67 : decode cX10_doParam 67 = .ok (.aload_n 0, 1) := dk_42 (by decide +kernel)
theorem dX10_doParam_68 : decode cX10_doParam 68 = .ok (.dup, 1) := dk_89 (by decide +kernel)
theorem dX10_doParam_69 : decode cX10_doParam 69 = .ok (.getfield 62, 3) := dk_180 (by decide +kernel)
theorem dX10_doParam_72 : decode cX10_doParam 72 = .ok (.iconst 1, 1) := dk_4 (by decide +kernel)
theorem dX10_doParam_73 : decode cX10_doParam 73 = .ok (.iadd, 1) := dk_96 (by decide +kernel)
theorem dX10_doParam_74 : decode cX10_doParam 74 = .ok (.putfield 62, 3) := dk_181 (by decide +kernel)
theorem dX10_doParam_77 : decode cX10_doParam 77 = .ok (.aload_n 0, 1) := dk_42 (by decide +kernel)
theorem dX10_doParam_78 : decode cX10_doParam 78 = .ok (.getfield 55, 3) := dk_180 (by decide +kernel)
theorem dX10_doParam_81 : decode cX10_doParam 81 = .ok (.iload_n 2, 1) := dk_28 (by decide +kernel)
theorem dX10_doParam_82 : decode cX10_doParam 82 = .ok (.bipush 6, 2) := dk_16 (by decide +kernel)
theorem dX10_doParam_84 : decode cX10_doParam 84 = .ok (.iadd, 1) := dk_96 (by decide +kernel)
theorem dX10_doParam_85 : decode cX10_doParam 85 = .ok (.iaload, 1) := dk_46 (by decide +kernel)
theorem dX10_doParam_86 : decode cX10_doParam 86 = .ok (.istore_n 2, 1) := dk_61 (by decide +kernel)
theorem dX10_doParam_87 : decode cX10_doParam 87 = .ok (.iinc 3 1, 3) := dk_132 (by decide +kernel)
theorem dX10_doParam_90 : decode cX10_doParam 90 = .ok (.goto (-86), 3) := dk_167 (by decide +kernel)
theorem dX10_doParam_93 : decode cX10_doParam 93 = .ok (.return_, 1) := dk_177 (by decide +kernel)
def wsMX10_doParam : List Cond := .code yX10_doParam cX10_doParam 4 none :: ([.fieldLink RX10 30 "OptimaWorks$Worker" "paramOver" "[I", .fieldLink RX10 62 "OptimaWorks$Worker" "params" "I", .fieldLink RX10 36 "OptimaWorks$Worker" "over" "[J", .fieldLink RX10 33 "OptimaWorks$Worker" "paramUnder" "[I", .fieldLink RX10 39 "OptimaWorks$Worker" "under" "[J", .fieldLink RX10 55 "OptimaWorks$Worker" "tree" "[I"] ++ wsX100 ++ (wsV RX10 80 RX10 yX10_number wsMX10_number))
theorem iwsMX10_doParam_in10 : ∀ w ∈ wsX100, w ∈ wsMX10_doParam := fun _ h => List.mem_cons_of_mem _ (List.mem_append_left _ (List.mem_append_right _ h))
theorem gwsMX10_doParam_0 : GoodIn wsMX10_doParam (wsV RX10 80 RX10 yX10_number wsMX10_number) := goodIn_sub (fun _ h => List.mem_cons_of_mem _ (List.mem_append_right _ h)) (gdV (by decide +kernel) gdwsMX10_number)
theorem gdwsMX10_doParam : wsMX10_doParam.all goodWord = true := gdC rfl (gdA (gdA (by decide +kernel : ([.fieldLink RX10 30 "OptimaWorks$Worker" "paramOver" "[I", .fieldLink RX10 62 "OptimaWorks$Worker" "params" "I", .fieldLink RX10 36 "OptimaWorks$Worker" "over" "[J", .fieldLink RX10 33 "OptimaWorks$Worker" "paramUnder" "[I", .fieldLink RX10 39 "OptimaWorks$Worker" "under" "[J", .fieldLink RX10 55 "OptimaWorks$Worker" "tree" "[I"] : List Cond).all goodWord = true) gdwsX100) (gdV (by decide +kernel) gdwsMX10_number))
theorem hm_m_X10_doParam_0 : (.fieldLink RX10 30 "OptimaWorks$Worker" "paramOver" "[I" : Cond) ∈ wsMX10_doParam := by decide +kernel
theorem hm_m_X10_doParam_1 : (.fieldLink RX10 62 "OptimaWorks$Worker" "params" "I" : Cond) ∈ wsMX10_doParam := by decide +kernel
set_option maxHeartbeats 4000000 in
set_option maxRecDepth 100000 in
/-- a param is done -/
theorem m_X10_doParam (l : Launch) (hst : l.stackTraces = false) (dC : Nat → ClassId) (dI : Nat → Nat → Nat) (hL : Nat → Nat) (aL : Nat → Nat) (kL : Nat → ClassId) (hT : Nat → Nat) (hM : Nat → Nat) (iL_names : Int32) (gL_key : Nat → Int64) (fL_kind : Nat → Int32) (fL_one : Nat → Int32) (fL_two : Nat → Int32) (fL_base : Nat → Int32) (iL_params : Int32) (fL_paramOver : Nat → Int32) (dL_paramOver : Nat) (nL_params : Nat) (fL_paramUnder : Nat → Int32) (dL_paramUnder : Nat) (nL_pu : Nat) (gL_over : Nat → Int64) (gL_under : Nat → Int64) (fL_bound : Nat → Int32) (iL_nameAt : Int32) (iL_startAt : Int32) (iL_steps : Int32) (jL_scaleOver : Int64) (jL_scaleUnder : Int64) (hF : Nat → Nat) (aF : Nat → Nat) (kF : Nat → ClassId) (dF_tree : Nat) (nF_tree : Nat) (fF_tree : Nat → Int32) (aT : Nat → Nat) (kT : Nat → ClassId) (fT_tape : Nat → Int32) (dT_tape : Nat) (nT_tape : Nat) (iT_length : Int32) (iT_fault : Int32) (iT_place : Int32) (iT_kind : Int32) (iT_at : Int32) (iT_number : Int32) (jT_name : Int64) (iT_next : Int32) (aM : Nat → Nat) (kM : Nat → ClassId) (iM_stands : Int32) (iM_variables : Int32) (iM_rows : Int32) (iM_goals : Int32) (iM_differents : Int32) (iM_cases : Int32) (fM_from : Nat → Int32) (fM_to : Nat → Int32) (fM_whole : Nat → Int32) (fM_ways : Nat → Int32) (iM_plainRows : Int32) (fM_plainRow : Nat → Int32) (fM_kept : Nat → Int32) (fM_goalOver : Nat → Int32) (fM_goalUnder : Nat → Int32) (fM_goalMax : Nat → Int32) (fM_different : Nat → Int32) (V : Int → Nat → Nat → Prop) (lo : Int) (cm : Nat) (p1 : Int32) (b_iL_names : 0 ≤ iL_names.toInt ∧ iL_names.toInt ≤ 40) (b_fL_kind : ∀ q : Nat, 0 ≤ (fL_kind q).toInt ∧ (fL_kind q).toInt ≤ 5) (b_fL_two : ∀ q : Nat, (-1) ≤ (fL_two q).toInt ∧ (fL_two q).toInt ≤ 39) (b_fL_base : ∀ q : Nat, 0 ≤ (fL_base q).toInt ∧ (fL_base q).toInt ≤ 2560) (b_iL_params : 0 ≤ iL_params.toInt ∧ iL_params.toInt ≤ 2560) (b_nL_params : 0 ≤ nL_params ∧ nL_params ≤ 2560) (b_nm : NmL iL_names fL_kind fL_one fL_two fL_base nL_params) (b_pm : iL_params.toInt ≤ ((nL_params : Nat) : Int)) (b_pu : nL_pu = nL_params) (b_nF_tree : 7 ≤ nF_tree ∧ nF_tree ≤ 72200) (b_fT_tape : ∀ q : Nat, (-128) ≤ (fT_tape q).toInt ∧ (fT_tape q).toInt ≤ 127) (b_nT_tape : 64 ≤ nT_tape ∧ nT_tape ≤ 2560) (b_iT_length : 0 ≤ iT_length.toInt ∧ iT_length.toInt ≤ 1280) (b_iT_at : 0 ≤ iT_at.toInt ∧ iT_at.toInt ≤ 1282) (b_iT_number : 0 ≤ iT_number.toInt ∧ iT_number.toInt ≤ 999999) (b_iT_next : 0 ≤ iT_next.toInt ∧ iT_next.toInt ≤ 1282) (b_len : iT_length.toInt ≤ ((nT_tape : Nat) : Int)) (b_iM_stands : 0 ≤ iM_stands.toInt ∧ iM_stands.toInt ≤ 1) (b_iM_variables : 0 ≤ iM_variables.toInt ∧ iM_variables.toInt ≤ 8) (b_iM_rows : 0 ≤ iM_rows.toInt ∧ iM_rows.toInt ≤ 12) (b_iM_goals : 0 ≤ iM_goals.toInt ∧ iM_goals.toInt ≤ 3) (b_iM_differents : 0 ≤ iM_differents.toInt ∧ iM_differents.toInt ≤ 8) (b_iM_cases : 0 ≤ iM_cases.toInt ∧ iM_cases.toInt ≤ 200000) (b_fM_ways : ∀ q : Nat, 0 ≤ (fM_ways q).toInt ∧ (fM_ways q).toInt ≤ 3) (b_iM_plainRows : 0 ≤ iM_plainRows.toInt ∧ iM_plainRows.toInt ≤ 12) (b_fM_plainRow : ∀ q : Nat, 0 ≤ (fM_plainRow q).toInt ∧ (fM_plainRow q).toInt ≤ 11) (b_pr : iM_plainRows.toInt ≤ iM_rows.toInt) (hV : TrL V fF_tree fL_kind fL_one fL_two iL_names.toInt lo ((nF_tree : Nat) : Int)) (hch : ChL V fF_tree p1.toInt cm) (hpr : iL_params.toInt + (cm : Int) ≤ ((nL_params : Nat) : Int)) (sz : Nat) : vx_Met l yX10_doParam wsMX10_doParam ({ frames := 314, cells := 1, slots := 6, locals := 18369 }) (va_Pc [.ref (hL 0), .int p1] (fun U => U.heap.size = sz ∧ va_P (dC, dI) vwCl (WL hL aL kL hT hM (.ref dF_tree) iL_names gL_key fL_kind fL_one fL_two fL_base iL_params fL_paramOver dL_paramOver nL_params fL_paramUnder dL_paramUnder nL_pu gL_over gL_under fL_bound iL_nameAt iL_startAt iL_steps jL_scaleOver jL_scaleUnder ++ (WF hF aF kF dF_tree nF_tree fF_tree ++ (WT hT aT kT fT_tape dT_tape nT_tape iT_length iT_fault iT_place iT_kind iT_at iT_number jT_name iT_next ++ (WM hM aM kM iM_stands iM_variables iM_rows iM_goals iM_differents iM_cases fM_from fM_to fM_whole fM_ways iM_plainRows fM_plainRow fM_kept fM_goalOver fM_goalUnder fM_goalMax fM_different)))) U.heap ∧ va_K (dC, dI) vwCl (tL kL ++ (tF kF ++ (tT kT ++ (tM kM)))) U ∧ va_D (fun _ => True) (WL hL aL kL hT hM (.ref dF_tree) iL_names gL_key fL_kind fL_one fL_two fL_base iL_params fL_paramOver dL_paramOver nL_params fL_paramUnder dL_paramUnder nL_pu gL_over gL_under fL_bound iL_nameAt iL_startAt iL_steps jL_scaleOver jL_scaleUnder ++ (WF hF aF kF dF_tree nF_tree fF_tree ++ (WT hT aT kT fT_tape dT_tape nT_tape iT_length iT_fault iT_place iT_kind iT_at iT_number jT_name iT_next ++ (WM hM aM kM iM_stands iM_variables iM_rows iM_goals iM_differents iM_cases fM_from fM_to fM_whole fM_ways iM_plainRows fM_plainRow fM_kept fM_goalOver fM_goalUnder fM_goalMax fM_different)))) ∧ CE (va_A (WL hL aL kL hT hM (.ref dF_tree) iL_names gL_key fL_kind fL_one fL_two fL_base iL_params fL_paramOver dL_paramOver nL_params fL_paramUnder dL_paramUnder nL_pu gL_over gL_under fL_bound iL_nameAt iL_startAt iL_steps jL_scaleOver jL_scaleUnder ++ (WF hF aF kF dF_tree nF_tree fF_tree ++ (WT hT aT kT fT_tape dT_tape nT_tape iT_length iT_fault iT_place iT_kind iT_at iT_number jT_name iT_next ++ (WM hM aM kM iM_stands iM_variables iM_rows iM_goals iM_differents iM_cases fM_from fM_to fM_whole fM_ways iM_plainRows fM_plainRow fM_kept fM_goalOver fM_goalUnder fM_goalMax fM_different)))) sz) U U.heap)) (va_Qv (fun (u : (Int32) × (Nat → Int32) × (Nat → Int32) × (Nat → Int64) × (Nat → Int64) × (Nat → Int32) × (Int32) × (Int32) × (Int32)) => (0 ≤ (u.1).toInt ∧ (u.1).toInt ≤ 2560) ∧ ((u.1).toInt ≤ ((nL_params : Nat) : Int)) ∧ ((u.1).toInt = iL_params.toInt + (cm : Int))) (fun (u : (Int32) × (Nat → Int32) × (Nat → Int32) × (Nat → Int64) × (Nat → Int64) × (Nat → Int32) × (Int32) × (Int32) × (Int32)) t => va_P (dC, dI) vwCl (WL hL aL kL hT hM (.ref dF_tree) iL_names gL_key fL_kind fL_one fL_two fL_base (u.1) (u.2.1) dL_paramOver nL_params (u.2.2.1) dL_paramUnder nL_pu (u.2.2.2.1) (u.2.2.2.2.1) (u.2.2.2.2.2.1) iL_nameAt iL_startAt (u.2.2.2.2.2.2.1) jL_scaleOver jL_scaleUnder ++ (WF hF aF kF dF_tree nF_tree fF_tree ++ (WT hT aT kT fT_tape dT_tape nT_tape iT_length (u.2.2.2.2.2.2.2.1) (u.2.2.2.2.2.2.2.2) iT_kind iT_at iT_number jT_name iT_next ++ (WM hM aM kM iM_stands iM_variables iM_rows iM_goals iM_differents iM_cases fM_from fM_to fM_whole fM_ways iM_plainRows fM_plainRow fM_kept fM_goalOver fM_goalUnder fM_goalMax fM_different)))) t.heap ∧ va_D (va_A (WL hL aL kL hT hM (.ref dF_tree) iL_names gL_key fL_kind fL_one fL_two fL_base iL_params fL_paramOver dL_paramOver nL_params fL_paramUnder dL_paramUnder nL_pu gL_over gL_under fL_bound iL_nameAt iL_startAt iL_steps jL_scaleOver jL_scaleUnder ++ (WF hF aF kF dF_tree nF_tree fF_tree ++ (WT hT aT kT fT_tape dT_tape nT_tape iT_length iT_fault iT_place iT_kind iT_at iT_number jT_name iT_next ++ (WM hM aM kM iM_stands iM_variables iM_rows iM_goals iM_differents iM_cases fM_from fM_to fM_whole fM_ways iM_plainRows fM_plainRow fM_kept fM_goalOver fM_goalUnder fM_goalMax fM_different)))) sz) (WL hL aL kL hT hM (.ref dF_tree) iL_names gL_key fL_kind fL_one fL_two fL_base (u.1) (u.2.1) dL_paramOver nL_params (u.2.2.1) dL_paramUnder nL_pu (u.2.2.2.1) (u.2.2.2.2.1) (u.2.2.2.2.2.1) iL_nameAt iL_startAt (u.2.2.2.2.2.2.1) jL_scaleOver jL_scaleUnder ++ (WF hF aF kF dF_tree nF_tree fF_tree ++ (WT hT aT kT fT_tape dT_tape nT_tape iT_length (u.2.2.2.2.2.2.2.1) (u.2.2.2.2.2.2.2.2) iT_kind iT_at iT_number jT_name iT_next ++ (WM hM aM kM iM_stands iM_variables iM_rows iM_goals iM_differents iM_cases fM_from fM_to fM_whole fM_ways iM_plainRows fM_plainRow fM_kept fM_goalOver fM_goalUnder fM_goalMax fM_different)))) ∧ t.heap.size = sz) (va_A (WL hL aL kL hT hM (.ref dF_tree) iL_names gL_key fL_kind fL_one fL_two fL_base iL_params fL_paramOver dL_paramOver nL_params fL_paramUnder dL_paramUnder nL_pu gL_over gL_under fL_bound iL_nameAt iL_startAt iL_steps jL_scaleOver jL_scaleUnder ++ (WF hF aF kF dF_tree nF_tree fF_tree ++ (WT hT aT kT fT_tape dT_tape nT_tape iT_length iT_fault iT_place iT_kind iT_at iT_number jT_name iT_next ++ (WM hM aM kM iM_stands iM_variables iM_rows iM_goals iM_differents iM_cases fM_from fM_to fM_whole fM_ways iM_plainRows fM_plainRow fM_kept fM_goalOver fM_goalUnder fM_goalMax fM_different)))) sz)) (vx_X (fun (u : (Int32) × (Nat → Int32) × (Nat → Int32) × (Nat → Int64) × (Nat → Int64) × (Nat → Int32) × (Int32) × (Int32) × (Int32)) => (0 ≤ (u.1).toInt ∧ (u.1).toInt ≤ 2560) ∧ ((u.1).toInt ≤ ((nL_params : Nat) : Int))) (fun E (u : (Int32) × (Nat → Int32) × (Nat → Int32) × (Nat → Int64) × (Nat → Int64) × (Nat → Int32) × (Int32) × (Int32) × (Int32)) t => (E = "java/lang/IllegalArgumentException") ∧ va_P (dC, dI) vwCl (WL hL aL kL hT hM (.ref dF_tree) iL_names gL_key fL_kind fL_one fL_two fL_base (u.1) (u.2.1) dL_paramOver nL_params (u.2.2.1) dL_paramUnder nL_pu (u.2.2.2.1) (u.2.2.2.2.1) (u.2.2.2.2.2.1) iL_nameAt iL_startAt (u.2.2.2.2.2.2.1) jL_scaleOver jL_scaleUnder ++ (WF hF aF kF dF_tree nF_tree fF_tree ++ (WT hT aT kT fT_tape dT_tape nT_tape iT_length (u.2.2.2.2.2.2.2.1) (u.2.2.2.2.2.2.2.2) iT_kind iT_at iT_number jT_name iT_next ++ (WM hM aM kM iM_stands iM_variables iM_rows iM_goals iM_differents iM_cases fM_from fM_to fM_whole fM_ways iM_plainRows fM_plainRow fM_kept fM_goalOver fM_goalUnder fM_goalMax fM_different)))) t.heap ∧ va_D (va_A (WL hL aL kL hT hM (.ref dF_tree) iL_names gL_key fL_kind fL_one fL_two fL_base iL_params fL_paramOver dL_paramOver nL_params fL_paramUnder dL_paramUnder nL_pu gL_over gL_under fL_bound iL_nameAt iL_startAt iL_steps jL_scaleOver jL_scaleUnder ++ (WF hF aF kF dF_tree nF_tree fF_tree ++ (WT hT aT kT fT_tape dT_tape nT_tape iT_length iT_fault iT_place iT_kind iT_at iT_number jT_name iT_next ++ (WM hM aM kM iM_stands iM_variables iM_rows iM_goals iM_differents iM_cases fM_from fM_to fM_whole fM_ways iM_plainRows fM_plainRow fM_kept fM_goalOver fM_goalUnder fM_goalMax fM_different)))) sz) (WL hL aL kL hT hM (.ref dF_tree) iL_names gL_key fL_kind fL_one fL_two fL_base (u.1) (u.2.1) dL_paramOver nL_params (u.2.2.1) dL_paramUnder nL_pu (u.2.2.2.1) (u.2.2.2.2.1) (u.2.2.2.2.2.1) iL_nameAt iL_startAt (u.2.2.2.2.2.2.1) jL_scaleOver jL_scaleUnder ++ (WF hF aF kF dF_tree nF_tree fF_tree ++ (WT hT aT kT fT_tape dT_tape nT_tape iT_length (u.2.2.2.2.2.2.2.1) (u.2.2.2.2.2.2.2.2) iT_kind iT_at iT_number jT_name iT_next ++ (WM hM aM kM iM_stands iM_variables iM_rows iM_goals iM_differents iM_cases fM_from fM_to fM_whole fM_ways iM_plainRows fM_plainRow fM_kept fM_goalOver fM_goalUnder fM_goalMax fM_different))))) (va_A (WL hL aL kL hT hM (.ref dF_tree) iL_names gL_key fL_kind fL_one fL_two fL_base iL_params fL_paramOver dL_paramOver nL_params fL_paramUnder dL_paramUnder nL_pu gL_over gL_under fL_bound iL_nameAt iL_startAt iL_steps jL_scaleOver jL_scaleUnder ++ (WF hF aF kF dF_tree nF_tree fF_tree ++ (WT hT aT kT fT_tape dT_tape nT_tape iT_length iT_fault iT_place iT_kind iT_at iT_number jT_name iT_next ++ (WM hM aM kM iM_stands iM_variables iM_rows iM_goals iM_differents iM_cases fM_from fM_to fM_whole fM_ways iM_plainRows fM_plainRow fM_kept fM_goalOver fM_goalUnder fM_goalMax fM_different)))) sz)) 1 6 (va_A (WL hL aL kL hT hM (.ref dF_tree) iL_names gL_key fL_kind fL_one fL_two fL_base iL_params fL_paramOver dL_paramOver nL_params fL_paramUnder dL_paramUnder nL_pu gL_over gL_under fL_bound iL_nameAt iL_startAt iL_steps jL_scaleOver jL_scaleUnder ++ (WF hF aF kF dF_tree nF_tree fF_tree ++ (WT hT aT kT fT_tape dT_tape nT_tape iT_length iT_fault iT_place iT_kind iT_at iT_number jT_name iT_next ++ (WM hM aM kM iM_stands iM_variables iM_rows iM_goals iM_differents iM_cases fM_from fM_to fM_whole fM_ways iM_plainRows fM_plainRow fM_kept fM_goalOver fM_goalUnder fM_goalMax fM_different)))) sz) := by
  refine vx_ofW (cc := cX10_doParam) (maxL := 4) (ret := none) (by decide) rfl ?_
  intro p e s m args below meth c s₁ B hml htab hv
  obtain ⟨rfl, hsz, hP, hK, hD0, hE⟩ := hv
  have hx := B.exec
  have hb := B.bytes
  have hr := B.returns
  have hts := atoms_spec (ws := wsMX10_doParam) B.pre
  have hown : s.vm.findClass RX10 = some m.cls := findClass_of_methodNamed B.named
  have hlocks := B.notSynchronized
  subst hsz
  have hD := hD0.self (sz := s.heap.size)
  generalize hAe : va_A (WL hL aL kL hT hM (.ref dF_tree) iL_names gL_key fL_kind fL_one fL_two fL_base iL_params fL_paramOver dL_paramOver nL_params fL_paramUnder dL_paramUnder nL_pu gL_over gL_under fL_bound iL_nameAt iL_startAt iL_steps jL_scaleOver jL_scaleUnder ++ (WF hF aF kF dF_tree nF_tree fF_tree ++ (WT hT aT kT fT_tape dT_tape nT_tape iT_length iT_fault iT_place iT_kind iT_at iT_number jT_name iT_next ++ (WM hM aM kM iM_stands iM_variables iM_rows iM_goals iM_differents iM_cases fM_from fM_to fM_whole fM_ways iM_plainRows fM_plainRow fM_kept fM_goalOver fM_goalUnder fM_goalMax fM_different)))) s.heap.size = A at hD hE ⊢
  have hA : ∀ q : Nat, s.heap.size ≤ q → A q := fun q h => by rw [← hAe]; exact Or.inr h
  have hS : va_S A s.heap s.heap [] := va_S.rf
  have hl := lv_entry ([.ref (hL 0), .int p1]) (n := 4) (Nat.le_of_ble_eq_true rfl)
  rw [lg_entry_eq]
  generalize (lg_sl ([.ref (hL 0), .int p1]) ++ List.replicate (4 - (lg_sl ([.ref (hL 0), .int p1])).length) Slot.unset).toArray = ls at hl ⊢
  have hl : lv_has ls 4 [(0, .ref (hL 0)), (1, .int p1)] := hl
  refine lv_iload_n hx hb dX10_doParam_0 rfl (lv_at hl 1 rfl) ?_
  refine lv_istore_n hx hb dX10_doParam_1 rfl hl (by decide) rfl (fun ls (hl : lv_has ls _ ([(2, .int p1), (0, .ref (hL 0)), (1, .int p1)])) => ?_)
  refine lv_iconst (v := 0) hx hb dX10_doParam_2 (by decide) ?_
  refine lv_istore_n hx hb dX10_doParam_3 rfl hl (by decide) rfl (fun ls (hl : lv_has ls _ ([(3, .int 0), (2, .int p1), (0, .ref (hL 0)), (1, .int p1)])) => ?_)
  have hl : lv_has _ _ ([(3, .int 0), (2, .int p1), (0, .ref (hL 0)), (1, .int p1)]) := lv_sub hl [0, 1, 2, 3] rfl
  refine (fun (loop : ∀ (n9 : Nat) (iL_params_x4 : Int32) (fL_paramOver_x4 : Nat → Int32) (fL_paramUnder_x4 : Nat → Int32) (gL_over_x4 : Nat → Int64) (gL_under_x4 : Nat → Int64) (fL_bound_x4 : Nat → Int32) (iL_steps_x4 : Int32) (iT_fault_x4 : Int32) (iT_place_x4 : Int32) (l3_x4 : Int32) (l2_x4 : Int32) (H : Heap) (locs : List Loc) (ls : Array Slot), (0 ≤ iL_params_x4.toInt ∧ iL_params_x4.toInt ≤ 2560) → (0 ≤ l3_x4.toInt ∧ l3_x4.toInt ≤ 2560) → (iL_params_x4.toInt ≤ ((nL_params : Nat) : Int)) → (l2_x4.toInt = NxL fF_tree p1.toInt l3_x4.toInt.toNat) → (iL_params_x4.toInt = iL_params.toInt + l3_x4.toInt) → (l3_x4.toInt ≤ (cm : Int)) → (2560 - l3_x4.toInt < ((n9 : Nat) : Int)) → va_P (dC, dI) vwCl (WL hL aL kL hT hM (.ref dF_tree) iL_names gL_key fL_kind fL_one fL_two fL_base iL_params_x4 fL_paramOver_x4 dL_paramOver nL_params fL_paramUnder_x4 dL_paramUnder nL_pu gL_over_x4 gL_under_x4 fL_bound_x4 iL_nameAt iL_startAt iL_steps_x4 jL_scaleOver jL_scaleUnder ++ (WF hF aF kF dF_tree nF_tree fF_tree ++ (WT hT aT kT fT_tape dT_tape nT_tape iT_length iT_fault_x4 iT_place_x4 iT_kind iT_at iT_number jT_name iT_next ++ (WM hM aM kM iM_stands iM_variables iM_rows iM_goals iM_differents iM_cases fM_from fM_to fM_whole fM_ways iM_plainRows fM_plainRow fM_kept fM_goalOver fM_goalUnder fM_goalMax fM_different)))) H → va_D A (WL hL aL kL hT hM (.ref dF_tree) iL_names gL_key fL_kind fL_one fL_two fL_base iL_params_x4 fL_paramOver_x4 dL_paramOver nL_params fL_paramUnder_x4 dL_paramUnder nL_pu gL_over_x4 gL_under_x4 fL_bound_x4 iL_nameAt iL_startAt iL_steps_x4 jL_scaleOver jL_scaleUnder ++ (WF hF aF kF dF_tree nF_tree fF_tree ++ (WT hT aT kT fT_tape dT_tape nT_tape iT_length iT_fault_x4 iT_place_x4 iT_kind iT_at iT_number jT_name iT_next ++ (WM hM aM kM iM_stands iM_variables iM_rows iM_goals iM_differents iM_cases fM_from fM_to fM_whole fM_ways iM_plainRows fM_plainRow fM_kept fM_goalOver fM_goalUnder fM_goalMax fM_different)))) → va_S A s.heap H locs → lv_has ls 4 [(3, .int l3_x4), (2, .int l2_x4), (0, .ref (hL 0)), (1, .int p1)] → W p l e _ s m _ below meth c H locs 0 0 _ (F0 m 4 ls [])) => loop (2561) iL_params fL_paramOver fL_paramUnder gL_over gL_under fL_bound iL_steps iT_fault iT_place 0 p1 _ _ _ (b_iL_params) (show 0 ≤ (0 : Int32).toInt ∧ (0 : Int32).toInt ≤ 2560 from by decide) (by first | with_reducible assumption | omega | (rw [iI_t (by omega) (by omega)]; omega) | assumption) (show p1.toInt = NxL fF_tree p1.toInt (0 : Int32).toInt.toNat from rfl) (show iL_params.toInt = iL_params.toInt + (0 : Int32).toInt from by have h8 : (0 : Int32).toInt = 0 := (by decide); omega) (show (0 : Int32).toInt ≤ (cm : Int) from by have h8 : (0 : Int32).toInt = 0 := (by decide); omega) ((by have e9 : (0 : Int32).toInt = 0 := (by decide : (0 : Int32).toInt = 0); omega)) hP hD hS hl) ?_
  intro n9
  induction n9 with
  | zero => intro iL_params_x4 fL_paramOver_x4 fL_paramUnder_x4 gL_over_x4 gL_under_x4 fL_bound_x4 iL_steps_x4 iT_fault_x4 iT_place_x4 l3_x4 l2_x4 H locs ls b_iL_params_x4 b_l3_x4 b_pm_x4 hnx hip hil hf9; exact False.elim (by omega)
  | succ n9 ihx4 =>
    intro iL_params_x4 fL_paramOver_x4 fL_paramUnder_x4 gL_over_x4 gL_under_x4 fL_bound_x4 iL_steps_x4 iT_fault_x4 iT_place_x4 l3_x4 l2_x4 H locs ls b_iL_params_x4 b_l3_x4 b_pm_x4 hnx hip hil hfx4 hP hD hS hl
    refine lv_iload_n hx hb dX10_doParam_4 rfl (lv_at hl 0 rfl) ?_
    refine lv_aload_n hx hb dX10_doParam_5 rfl (lv_at hl 2 rfl) ?_
    refine va_get (D := (dC, dI)) (ci := 10) (v := .ref dL_paramOver) (C := RX10) (T := TX10) (N := 20) hx hb hts iwsMX10_doParam_in10 hown hK hP 0 rfl rfl 10 (by decide) (hts _ hm_m_X10_doParam_0) (fun _ h9 => h9) rfl dX10_doParam_6 ?_
    refine va_alen hx hb hK hP 6 5 rfl rfl (v := (iI ((nL_params : Nat) : Int))) (iI_nat _) dX10_doParam_9 ?_
    refine lv_icmp_ge (tgt := 93) hx hb dX10_doParam_10 (by decide) (fun c_10 => ?_) (fun c_10 => ?_)
    · first | (have t_10 : l3_x4.toInt ≥ ((nL_params : Nat) : Int) := toI_ge c_10 rfl (iI_t (by omega) (by omega))) | skip
      have hen : l3_x4.toInt = (cm : Int) := by first | omega | exact ChL.end hV hch hnx b_l3_x4.1 hil t_14
      refine vx_ret ?_
      refine W.known (fun hz9 _ => ?_)
      refine W.widen (k := 1) (n := 6) (by decide +kernel) (by decide +kernel) ?_
      exact W.vret hx hb hr (fun t9_ ht hW => ⟨⟨(iL_params_x4, fL_paramOver_x4, fL_paramUnder_x4, gL_over_x4, gL_under_x4, fL_bound_x4, iL_steps_x4, iT_fault_x4, iT_place_x4), rfl, ⟨b_iL_params_x4, (by (try dsimp only); exact (by first | with_reducible assumption | omega | (rw [iI_t (by omega) (by omega)]; omega) | assumption)), (by (try dsimp only); omega)⟩, by rw [ht]; exact hP, hD, by rw [ht]; first | done | exact Nat.le_antisymm hz9 hS.1⟩, hS.F ht⟩) hS.2.2 dX10_doParam_93
    · first | (have t_10 : ¬ l3_x4.toInt ≥ ((nL_params : Nat) : Int) := toI_nge c_10 rfl (iI_t (by omega) (by omega))) | skip
      refine lv_iload_n hx hb dX10_doParam_13 rfl (lv_at hl 1 rfl) ?_
      refine lv_if_eq (tgt := 93) hx hb dX10_doParam_14 (by decide) (fun c_14 => ?_) (fun c_14 => ?_)
      · have t_14 : l2_x4.toInt = 0 := toI_eq c_14 rfl (by decide : (0 : Int32).toInt = 0)
        have hen : l3_x4.toInt = (cm : Int) := by first | omega | exact ChL.end hV hch hnx b_l3_x4.1 hil t_14
        refine vx_ret ?_
        refine W.known (fun hz9 _ => ?_)
        refine W.widen (k := 1) (n := 6) (by decide +kernel) (by decide +kernel) ?_
        exact W.vret hx hb hr (fun t9_ ht hW => ⟨⟨(iL_params_x4, fL_paramOver_x4, fL_paramUnder_x4, gL_over_x4, gL_under_x4, fL_bound_x4, iL_steps_x4, iT_fault_x4, iT_place_x4), rfl, ⟨b_iL_params_x4, (by (try dsimp only); exact (by first | with_reducible assumption | omega | (rw [iI_t (by omega) (by omega)]; omega) | assumption)), (by (try dsimp only); omega)⟩, by rw [ht]; exact hP, hD, by rw [ht]; first | done | exact Nat.le_antisymm hz9 hS.1⟩, hS.F ht⟩) hS.2.2 dX10_doParam_93
      · have t_14 : ¬ l2_x4.toInt = 0 := toI_neq c_14 rfl (by decide : (0 : Int32).toInt = 0)
        have hlt := ChL.lt hch hnx b_l3_x4.1 hil t_14
        have hpv := ChL.v hch hnx b_l3_x4.1 hlt
        have hr1 := TrL.rng hV hpv
        refine lv_aload_n hx hb dX10_doParam_17 rfl (lv_at hl 2 rfl) ?_
        refine lv_iload_n hx hb dX10_doParam_18 rfl (lv_at hl 1 rfl) ?_
        refine lv_iconst (v := 0) hx hb dX10_doParam_19 (by decide) ?_
        refine W.known (fun hz0 _ => ?_)
        have hFc := allFree hD hS hA
        refine vx_callv (vx_runV (As := [.int l2_x4, .int 0]) (rest := []) ⟨hx, hb, hml, hown, hts⟩ (mt_X10_number l hst dC dI hL aL kL hT hM iL_names gL_key fL_kind fL_one fL_two fL_base iL_params_x4 fL_paramOver_x4 dL_paramOver nL_params fL_paramUnder_x4 dL_paramUnder nL_pu gL_over_x4 gL_under_x4 fL_bound_x4 iL_nameAt iL_startAt iL_steps_x4 jL_scaleOver jL_scaleUnder hF aF kF dF_tree nF_tree fF_tree aT kT fT_tape dT_tape nT_tape iT_length iT_fault_x4 iT_place_x4 iT_kind iT_at iT_number jT_name iT_next aM kM iM_stands iM_variables iM_rows iM_goals iM_differents iM_cases fM_from fM_to fM_whole fM_ways iM_plainRows fM_plainRow fM_kept fM_goalOver fM_goalUnder fM_goalMax fM_different V lo 1 l2_x4 0 (b_iL_names) b_fL_kind b_fL_two b_fL_base (b_iL_params_x4) (by first | exact b_nL_params | with_reducible assumption | exact ⟨by omega, by omega⟩ | assumption) (by first | with_reducible assumption | omega | (rw [iI_t (by omega) (by omega)]; omega) | assumption) (by first | with_reducible assumption | omega | (rw [iI_t (by omega) (by omega)]; omega) | assumption) (by first | with_reducible assumption | omega | (rw [iI_t (by omega) (by omega)]; omega) | assumption) (by first | exact b_nF_tree | with_reducible assumption | exact ⟨by omega, by omega⟩ | assumption) b_fT_tape (by first | exact b_nT_tape | with_reducible assumption | exact ⟨by omega, by omega⟩ | assumption) (b_iT_length) (b_iT_at) (b_iT_number) (b_iT_next) (by first | with_reducible assumption | omega | assumption) (b_iM_stands) (b_iM_variables) (b_iM_rows) (b_iM_goals) (b_iM_differents) (b_iM_cases) b_fM_ways (b_iM_plainRows) b_fM_plainRow (by first | with_reducible assumption | omega | assumption) (show 0 ≤ (0 : Int32).toInt ∧ (0 : Int32).toInt ≤ 38 from by decide) (by first | with_reducible assumption | omega | (rw [iI_t (by omega) (by omega)]; omega) | decide | assumption) (by first | with_reducible assumption | omega | (rw [iI_t (by omega) (by omega)]; omega) | decide | assumption) (by first | with_reducible assumption | omega | (rw [iI_t (by omega) (by omega)]; omega) | decide | assumption) (by first | with_reducible assumption | omega | (rw [iI_t (by omega) (by omega)]; omega) | decide | assumption) H.size) (cwV 2 hts gwsMX10_doParam_0 rfl rfl rfl hd_yX10_number_RX10 (by decide +kernel)) (fz_preE (va_recv hK hP (ci := 10) (q0 := 0) rfl rfl) hP hK hD (fun a U g mk qE => qE.call) (fun U hU9 hW => by rw [hU9]; exact (((hE : CE A s s.heap).kept hS.2.1).narrow (fun q h => hFc q h)).warm hW)) rfl rfl hl.1 rfl (lv_room (Nat.le_of_ble_eq_true rfl)) dX10_doParam_20 (by decide +kernel)) hS (fun q _ h => hFc q h) hFc (fun q _ h => hFc q h) (fun E ce q9 u t9_ H locs ht hvm hw9 hB9 hz1 hk1 hS hc1 hc2 hc3 => ?_) (fun u t9_ H locs ht hvm hw9 hB9 hz1 hk1 hS => ?_)
        · revert u hw9 hB9
          refine fz_p6 ?_
          intro gL_over_21 gL_under_21 fL_bound_21 iL_steps_21 iT_fault_21 iT_place_21 hw9 hB9
          try dsimp only at hw9 hB9
          revert hB9
          refine fz_a2 ?_
          intro hEx hB9
          clear hw9
          have hP : va_P (dC, dI) vwCl (WL hL aL kL hT hM (.ref dF_tree) iL_names gL_key fL_kind fL_one fL_two fL_base iL_params_x4 fL_paramOver_x4 dL_paramOver nL_params fL_paramUnder_x4 dL_paramUnder nL_pu gL_over_21 gL_under_21 fL_bound_21 iL_nameAt iL_startAt iL_steps_21 jL_scaleOver jL_scaleUnder ++ (WF hF aF kF dF_tree nF_tree fF_tree ++ (WT hT aT kT fT_tape dT_tape nT_tape iT_length iT_fault_21 iT_place_21 iT_kind iT_at iT_number jT_name iT_next ++ (WM hM aM kM iM_stands iM_variables iM_rows iM_goals iM_differents iM_cases fM_from fM_to fM_whole fM_ways iM_plainRows fM_plainRow fM_kept fM_goalOver fM_goalUnder fM_goalMax fM_different)))) H := fz_P ht hB9.1
          have hD := fz_sd hP (hB9.2.weaken (fun _ q _ h => hFc q.1 h)) rfl
          exact vx_out (fun x hx9 => (htab x hx9).elim) hlocks hc1 hc2 hc3 (fun t9_ ht hvm => ⟨(iL_params_x4, fL_paramOver_x4, fL_paramUnder_x4, gL_over_21, gL_under_21, fL_bound_21, iL_steps_21, iT_fault_21, iT_place_21), ⟨(b_iL_params_x4), (by (try dsimp only); exact (by first | with_reducible assumption | omega | (rw [iI_t (by omega) (by omega)]; omega) | assumption))⟩, ⟨(by have h9 := hEx; exact h9), by rw [ht]; exact hP, hD⟩, hS.F ht⟩) hS.2.2 (by decide +kernel) (by decide +kernel)
        revert u hw9 hB9
        refine fz_p6 ?_
        intro gL_over_21 gL_under_21 fL_bound_21 iL_steps_21 iT_fault_21 iT_place_21 hw9 hB9
        try dsimp only at hw9 hB9
        clear hw9
        have hz8 := hB9.2.2
        rw [ht] at hz8
        have hz9 : H.size ≤ s.heap.size + 0 := by rw [hz8]; exact hz0
        refine W.tight (cells2 := 0) (slots2 := 0) hz9 (nS_0 hz9) ?_
        clear hz8 hz9
        have hP : va_P (dC, dI) vwCl (WL hL aL kL hT hM (.ref dF_tree) iL_names gL_key fL_kind fL_one fL_two fL_base iL_params_x4 fL_paramOver_x4 dL_paramOver nL_params fL_paramUnder_x4 dL_paramUnder nL_pu gL_over_21 gL_under_21 fL_bound_21 iL_nameAt iL_startAt iL_steps_21 jL_scaleOver jL_scaleUnder ++ (WF hF aF kF dF_tree nF_tree fF_tree ++ (WT hT aT kT fT_tape dT_tape nT_tape iT_length iT_fault_21 iT_place_21 iT_kind iT_at iT_number jT_name iT_next ++ (WM hM aM kM iM_stands iM_variables iM_rows iM_goals iM_differents iM_cases fM_from fM_to fM_whole fM_ways iM_plainRows fM_plainRow fM_kept fM_goalOver fM_goalUnder fM_goalMax fM_different)))) H := fz_P ht hB9.1
        have hD := fz_sd hP (hB9.2.1.weaken (fun _ q _ h => hFc q.1 h)) rfl
        refine lv_aload_n hx hb dX10_doParam_23 rfl (lv_at hl 2 rfl) ?_
        refine va_get (D := (dC, dI)) (ci := 10) (v := .int iL_params_x4) (C := RX10) (T := TX10) (N := 20) hx hb hts iwsMX10_doParam_in10 hown hK hP 0 rfl rfl 9 (by decide) (hts _ hm_m_X10_doParam_1) (fun _ h9 => h9) rfl dX10_doParam_24 ?_
        refine lv_aload_n hx hb dX10_doParam_27 rfl (lv_at hl 2 rfl) ?_
        refine va_get (D := (dC, dI)) (ci := 10) (v := .ref dL_paramOver) (C := RX10) (T := TX10) (N := 20) hx hb hts iwsMX10_doParam_in10 hown hK hP 0 rfl rfl 10 (by decide) (hts _ hm_m_X10_doParam_0) (fun _ h9 => h9) rfl dX10_doParam_28 ?_
        refine va_alen hx hb hK hP 6 5 rfl rfl (v := (iI ((nL_params : Nat) : Int))) (iI_nat _) dX10_doParam_31 ?_
        refine lv_icmp_ge (tgt := 77) hx hb dX10_doParam_32 (by decide) (fun c9 => False.elim (by have t9 : iL_params_x4.toInt ≥ ((nL_params : Nat) : Int) := toI_ge c9 rfl (iI_t (by omega) (by omega)); omega)) (fun c_32 => ?_)
        first | (have t_32 : ¬ iL_params_x4.toInt ≥ ((nL_params : Nat) : Int) := toI_nge c_32 rfl (iI_t (by omega) (by omega))) | skip
        refine lv_aload_n hx hb dX10_doParam_35 rfl (lv_at hl 2 rfl) ?_
        refine va_get (D := (dC, dI)) (ci := 10) (v := .ref dL_paramOver) (C := RX10) (T := TX10) (N := 20) hx hb hts iwsMX10_doParam_in10 hown hK hP 0 rfl rfl 10 (by decide) (hts _ hm_m_X10_doParam_0) (fun _ h9 => h9) rfl dX10_doParam_36 ?_
        refine lv_aload_n hx hb dX10_doParam_39 rfl (lv_at hl 2 rfl) ?_
        refine va_get (D := (dC, dI)) (ci := 10) (v := .int iL_params_x4) (C := RX10) (T := TX10) (N := 20) hx hb hts iwsMX10_doParam_in10 hown hK hP 0 rfl rfl 9 (by decide) (hts _ hm_m_X10_doParam_1) (fun _ h9 => h9) rfl dX10_doParam_40 ?_
        refine lv_aload_n hx hb dX10_doParam_43 rfl (lv_at hl 2 rfl) ?_
        refine va_get (D := (dC, dI)) (ci := 10) (v := .ref (aL 7)) (C := RX10) (T := TX10) (N := 20) hx hb hts iwsMX10_doParam_in10 hown hK hP 0 rfl rfl 12 (by decide) (hts (.fieldLink RX10 36 "OptimaWorks$Worker" "over" "[J") (by decide +kernel)) (fun _ h9 => h9) rfl dX10_doParam_44 ?_
        refine lv_iconst (v := 0) hx hb dX10_doParam_47 (by decide) ?_
        refine va_lald (cA := kL 7) (n := 360) (f := gL_over_21) hx hb hK hP 8 7 rfl rfl (show ¬ ((0 : Int32) < 0 ∨ 360 ≤ (0 : Int32).toNatClampNeg) by decide) dX10_doParam_48 ?_
        refine lv_topl (fun v22 hv22 => ?_)
        clear hv22
        refine lv_l2i hx hb dX10_doParam_49 rfl ?_
        refine lv_topi (fun v23 hv23 => ?_)
        clear hv23
        refine va_iast (cA := kL 5) (n := nL_params) (f := fL_paramOver_x4) hx hb hK hP hD hS 6 5 rfl rfl (vp_in_iff.mpr ⟨b_iL_params_x4.1, (by omega)⟩) dX10_doParam_50 (fun H locs hP hD hS => ?_)
        obtain ⟨u24, hu24⟩ : ∃ f9, f9 = upd fL_paramOver_x4 (iL_params_x4).toNatClampNeg v23 := ⟨_, rfl⟩
        have hP : va_P (dC, dI) vwCl (WL hL aL kL hT hM (.ref dF_tree) iL_names gL_key fL_kind fL_one fL_two fL_base iL_params_x4 u24 dL_paramOver nL_params fL_paramUnder_x4 dL_paramUnder nL_pu gL_over_21 gL_under_21 fL_bound_21 iL_nameAt iL_startAt iL_steps_21 jL_scaleOver jL_scaleUnder ++ (WF hF aF kF dF_tree nF_tree fF_tree ++ (WT hT aT kT fT_tape dT_tape nT_tape iT_length iT_fault_21 iT_place_21 iT_kind iT_at iT_number jT_name iT_next ++ (WM hM aM kM iM_stands iM_variables iM_rows iM_goals iM_differents iM_cases fM_from fM_to fM_whole fM_ways iM_plainRows fM_plainRow fM_kept fM_goalOver fM_goalUnder fM_goalMax fM_different)))) H := by rw [hu24]; exact hP
        have hD : va_D A (WL hL aL kL hT hM (.ref dF_tree) iL_names gL_key fL_kind fL_one fL_two fL_base iL_params_x4 u24 dL_paramOver nL_params fL_paramUnder_x4 dL_paramUnder nL_pu gL_over_21 gL_under_21 fL_bound_21 iL_nameAt iL_startAt iL_steps_21 jL_scaleOver jL_scaleUnder ++ (WF hF aF kF dF_tree nF_tree fF_tree ++ (WT hT aT kT fT_tape dT_tape nT_tape iT_length iT_fault_21 iT_place_21 iT_kind iT_at iT_number jT_name iT_next ++ (WM hM aM kM iM_stands iM_variables iM_rows iM_goals iM_differents iM_cases fM_from fM_to fM_whole fM_ways iM_plainRows fM_plainRow fM_kept fM_goalOver fM_goalUnder fM_goalMax fM_different)))) := by rw [hu24]; exact hD
        clear hu24
        refine lv_aload_n hx hb dX10_doParam_51 rfl (lv_at hl 2 rfl) ?_
        refine va_get (D := (dC, dI)) (ci := 10) (v := .ref dL_paramUnder) (C := RX10) (T := TX10) (N := 20) hx hb hts iwsMX10_doParam_in10 hown hK hP 0 rfl rfl 11 (by decide) (hts (.fieldLink RX10 33 "OptimaWorks$Worker" "paramUnder" "[I") (by decide +kernel)) (fun _ h9 => h9) rfl dX10_doParam_52 ?_
        refine lv_aload_n hx hb dX10_doParam_55 rfl (lv_at hl 2 rfl) ?_
        refine va_get (D := (dC, dI)) (ci := 10) (v := .int iL_params_x4) (C := RX10) (T := TX10) (N := 20) hx hb hts iwsMX10_doParam_in10 hown hK hP 0 rfl rfl 9 (by decide) (hts _ hm_m_X10_doParam_1) (fun _ h9 => h9) rfl dX10_doParam_56 ?_
        refine lv_aload_n hx hb dX10_doParam_59 rfl (lv_at hl 2 rfl) ?_
        refine va_get (D := (dC, dI)) (ci := 10) (v := .ref (aL 8)) (C := RX10) (T := TX10) (N := 20) hx hb hts iwsMX10_doParam_in10 hown hK hP 0 rfl rfl 13 (by decide) (hts (.fieldLink RX10 39 "OptimaWorks$Worker" "under" "[J") (by decide +kernel)) (fun _ h9 => h9) rfl dX10_doParam_60 ?_
        refine lv_iconst (v := 0) hx hb dX10_doParam_63 (by decide) ?_
        refine va_lald (cA := kL 8) (n := 360) (f := gL_under_21) hx hb hK hP 9 8 rfl rfl (show ¬ ((0 : Int32) < 0 ∨ 360 ≤ (0 : Int32).toNatClampNeg) by decide) dX10_doParam_64 ?_
        refine lv_topl (fun v25 hv25 => ?_)
        clear hv25
        refine lv_l2i hx hb dX10_doParam_65 rfl ?_
        refine lv_topi (fun v26 hv26 => ?_)
        clear hv26
        refine va_iast (cA := kL 6) (n := nL_pu) (f := fL_paramUnder_x4) hx hb hK hP hD hS 7 6 rfl rfl (vp_in_iff.mpr ⟨b_iL_params_x4.1, (by omega)⟩) dX10_doParam_66 (fun H locs hP hD hS => ?_)
        obtain ⟨u27, hu27⟩ : ∃ f9, f9 = upd fL_paramUnder_x4 (iL_params_x4).toNatClampNeg v26 := ⟨_, rfl⟩
        have hP : va_P (dC, dI) vwCl (WL hL aL kL hT hM (.ref dF_tree) iL_names gL_key fL_kind fL_one fL_two fL_base iL_params_x4 u24 dL_paramOver nL_params u27 dL_paramUnder nL_pu gL_over_21 gL_under_21 fL_bound_21 iL_nameAt iL_startAt iL_steps_21 jL_scaleOver jL_scaleUnder ++ (WF hF aF kF dF_tree nF_tree fF_tree ++ (WT hT aT kT fT_tape dT_tape nT_tape iT_length iT_fault_21 iT_place_21 iT_kind iT_at iT_number jT_name iT_next ++ (WM hM aM kM iM_stands iM_variables iM_rows iM_goals iM_differents iM_cases fM_from fM_to fM_whole fM_ways iM_plainRows fM_plainRow fM_kept fM_goalOver fM_goalUnder fM_goalMax fM_different)))) H := by rw [hu27]; exact hP
        have hD : va_D A (WL hL aL kL hT hM (.ref dF_tree) iL_names gL_key fL_kind fL_one fL_two fL_base iL_params_x4 u24 dL_paramOver nL_params u27 dL_paramUnder nL_pu gL_over_21 gL_under_21 fL_bound_21 iL_nameAt iL_startAt iL_steps_21 jL_scaleOver jL_scaleUnder ++ (WF hF aF kF dF_tree nF_tree fF_tree ++ (WT hT aT kT fT_tape dT_tape nT_tape iT_length iT_fault_21 iT_place_21 iT_kind iT_at iT_number jT_name iT_next ++ (WM hM aM kM iM_stands iM_variables iM_rows iM_goals iM_differents iM_cases fM_from fM_to fM_whole fM_ways iM_plainRows fM_plainRow fM_kept fM_goalOver fM_goalUnder fM_goalMax fM_different)))) := by rw [hu27]; exact hD
        clear hu27
        refine lv_aload_n hx hb dX10_doParam_67 rfl (lv_at hl 2 rfl) ?_
        refine lv_dup hx hb dX10_doParam_68 rfl ?_
        refine va_get (D := (dC, dI)) (ci := 10) (v := .int iL_params_x4) (C := RX10) (T := TX10) (N := 20) hx hb hts iwsMX10_doParam_in10 hown hK hP 0 rfl rfl 9 (by decide) (hts _ hm_m_X10_doParam_1) (fun _ h9 => h9) rfl dX10_doParam_69 ?_
        refine lv_iconst (v := 1) hx hb dX10_doParam_72 (by decide) ?_
        refine lv_iadd hx hb dX10_doParam_73 ?_
        refine lv_topi (fun y28 hy28 => ?_)
        obtain rfl : (iI (iL_params_x4.toInt + 1)) = y28 := (hy28.trans (iI_add2 (iI_of _) (by decide : (1 : Int32) = iI 1))).symm
        refine va_put (D := (dC, dI)) (ci := 10) (v := .int (iI (iL_params_x4.toInt + 1))) (ty := .int) (C := RX10) (T := TX10) (N := 20) hx hb hts iwsMX10_doParam_in10 tyX10 tyX10_ok nmX10 hown hK hP hD hS 0 rfl rfl 9 (by decide) (hts _ hm_m_X10_doParam_1) (fun _ h9 => h9) rfl (by decide +kernel) rfl rfl (Nat.le_of_ble_eq_true rfl) dX10_doParam_74 (fun H locs hP hD hS => ?_)
        have hP : va_P (dC, dI) vwCl (WL hL aL kL hT hM (.ref dF_tree) iL_names gL_key fL_kind fL_one fL_two fL_base (iI (iL_params_x4.toInt + 1)) u24 dL_paramOver nL_params u27 dL_paramUnder nL_pu gL_over_21 gL_under_21 fL_bound_21 iL_nameAt iL_startAt iL_steps_21 jL_scaleOver jL_scaleUnder ++ (WF hF aF kF dF_tree nF_tree fF_tree ++ (WT hT aT kT fT_tape dT_tape nT_tape iT_length iT_fault_21 iT_place_21 iT_kind iT_at iT_number jT_name iT_next ++ (WM hM aM kM iM_stands iM_variables iM_rows iM_goals iM_differents iM_cases fM_from fM_to fM_whole fM_ways iM_plainRows fM_plainRow fM_kept fM_goalOver fM_goalUnder fM_goalMax fM_different)))) H := hP
        have hD := fz_sd hP (hD) rfl
        refine lv_aload_n hx hb dX10_doParam_77 rfl (lv_at hl 2 rfl) ?_
        refine va_get (D := (dC, dI)) (ci := 10) (v := .ref dF_tree) (C := RX10) (T := TX10) (N := 20) hx hb hts iwsMX10_doParam_in10 hown hK hP 0 rfl rfl 2 (by decide) (hts (.fieldLink RX10 55 "OptimaWorks$Worker" "tree" "[I") (by decide +kernel)) (fun _ h9 => h9) rfl dX10_doParam_78 ?_
        refine lv_iload_n hx hb dX10_doParam_81 rfl (lv_at hl 1 rfl) ?_
        refine lv_bipush (v := 6) hx hb dX10_doParam_82 (by decide) ?_
        refine lv_iadd hx hb dX10_doParam_84 ?_
        refine lv_topi (fun y29 hy29 => ?_)
        obtain rfl : (iI (l2_x4.toInt + 6)) = y29 := (hy29.trans (iI_add2 (iI_of _) (by decide : (6 : Int32) = iI 6))).symm
        refine va_iald (cA := kF 0) (n := nF_tree) (f := fF_tree) hx hb hK hP 11 10 rfl rfl (vp_iI (by omega) (by omega) (by omega)) dX10_doParam_85 ?_
        refine lv_topi (fun v30 hv30 => ?_)
        have b_v30 : v30.toInt = twL fF_tree (l2_x4.toInt + 6) := by rw [hv30]; exact tw_i (by omega) (by omega)
        clear hv30
        refine lv_istore_n hx hb dX10_doParam_86 rfl hl (by decide) rfl (fun ls (hl : lv_has ls _ ([(2, .int v30), (3, .int l3_x4), (0, .ref (hL 0)), (1, .int p1)])) => ?_)
        refine lv_iinc (v := (iI (l3_x4.toInt + 1))) hx hb dX10_doParam_87 hl (k := 1) rfl (iI_add2 (iI_of _) (by decide : (1 : Int32) = iI 1)) (by decide) rfl (fun ls (hl : lv_has ls _ ([(3, .int (iI (l3_x4.toInt + 1))), (2, .int v30), (0, .ref (hL 0)), (1, .int p1)])) => ?_)
        refine lv_goto (tgt := 4) hx hb dX10_doParam_90 (by decide) ?_
        have hl : lv_has _ _ ([(3, .int (iI (l3_x4.toInt + 1))), (2, .int v30), (0, .ref (hL 0)), (1, .int p1)]) := lv_sub hl [0, 1, 2, 3] rfl
        exact ihx4 (iI (iL_params_x4.toInt + 1)) u24 u27 gL_over_21 gL_under_21 fL_bound_21 iL_steps_21 iT_fault_21 iT_place_21 (iI (l3_x4.toInt + 1)) v30 _ _ _ (iI_rng (Int.le_trans (by decide) (Int.add_le_add (b_iL_params_x4.1) (Int.le_refl _))) (by omega) (by decide) (by decide)) (iI_rng (Int.le_trans (by decide) (Int.add_le_add (b_l3_x4.1) (Int.le_refl _))) (by omega) (by decide) (by decide)) (by first | with_reducible assumption | omega | (rw [iI_t (by omega) (by omega)]; omega) | assumption) (show v30.toInt = NxL fF_tree p1.toInt (iI (l3_x4.toInt + 1)).toInt.toNat from by rw [iI_t (by omega) (by omega)]; exact NxL.s hnx (by omega) (by assumption)) (show (iI (iL_params_x4.toInt + 1)).toInt = iL_params.toInt + (iI (l3_x4.toInt + 1)).toInt from by rw [iI_t (by omega) (by omega), iI_t (by omega) (by omega)]; omega) (show (iI (l3_x4.toInt + 1)).toInt ≤ (cm : Int) from by rw [iI_t (by omega) (by omega)]; omega) (by have e9 : ((iI (l3_x4.toInt + 1))).toInt = (l3_x4.toInt + 1) := (iI_t (Int.le_trans (by decide) (Int.add_le_add (b_l3_x4.1) (Int.le_refl _))) (Int.le_trans (Int.add_le_add (b_l3_x4.2) (Int.le_refl _)) (by decide))); omega) hP hD hS hl
theorem dX10_doVar_0 : decode cX10_doVar 0 = .ok (.aload_n 0, 1) := dk_42 (by decide +kernel)
theorem dX10_doVar_1 : decode cX10_doVar 1 = .ok (.iload_n 1, 1) := dk_27 (by decide +kernel)
theorem dX10_doVar_2 : decode cX10_doVar 2 = .ok (.iconst 0, 1) := dk_3 (by decide +kernel)
theorem dX10_doVar_3 : decode cX10_doVar 3 = .ok (.invokevirtual 80, 3) := dk_182 (by decide +kernel)
theorem dX10_doVar_6 : decode cX10_doVar 6 = .ok (.aload_n 0, 1) := dk_42 (by decide +kernel)
theorem dX10_doVar_7 : decode cX10_doVar 7 = .ok (.iload_n 1, 1) := dk_27 (by decide +kernel)
theorem dX10_doVar_8 : decode cX10_doVar 8 = .ok (.invokevirtual 84, 3) := dk_182 (by decide +kernel)
theorem dX10_doVar_11 : decode cX10_doVar 11 = .ok (.istore 5, 2) := dk_54 (by decide +kernel)
theorem dX10_doVar_13 : decode cX10_doVar 13 = .ok (.aload_n 0, 1) := dk_42 (by decide +kernel)
theorem dX10_doVar_14 : decode cX10_doVar 14 = .ok (.iload_n 2, 1) := dk_28 (by decide +kernel)
theorem dX10_doVar_15 : decode cX10_doVar 15 = .ok (.iconst 0, 1) := dk_3 (by decide +kernel)
theorem dX10_doVar_16 : decode cX10_doVar 16 = .ok (.invokevirtual 80, 3) := dk_182 (by decide +kernel)
theorem dX10_doVar_19 : decode cX10_doVar 19 = .ok (.aload_n 0, 1) := dk_42 (by decide +kernel)
theorem dX10_doVar_20 : decode cX10_doVar 20 = .ok (.iload_n 2, 1) := dk_28 (by decide +kernel)
theorem dX10_doVar_21 : decode cX10_doVar 21 = .ok (.invokevirtual 84, 3) := dk_182 (by decide +kernel)
theorem dX10_doVar_24 : decode cX10_doVar 24 = .ok (.istore 6, 2) := dk_54 (by decide +kernel)
theorem dX10_doVar_26 : decode cX10_doVar 26 = .ok (.iload 6, 2) := dk_21 (by decide +kernel)
theorem dX10_doVar_28 : decode cX10_doVar 28 = .ok (.iload 5, 2) := dk_21 (by decide +kernel)
theorem dX10_doVar_30 : decode cX10_doVar 30 = .ok (.if_icmp .ge 20, 3) := dk_162 (by decide +kernel)
theorem dX10_doVar_33 : decode cX10_doVar 33 = .ok (.aload_n 0, 1) := dk_42 (by decide +kernel)
theorem dX10_doVar_34 : decode cX10_doVar 34 = .ok (.getfield 47, 3) := dk_180 (by decide +kernel)
theorem dX10_doVar_37 : decode cX10_doVar 37 = .ok (.bipush 9, 2) := dk_16 (by decide +kernel)
theorem dX10_doVar_39 : decode cX10_doVar 39 = .ok (.aload_n 0, 1) := dk_42 (by decide +kernel)
theorem dX10_doVar_40 : decode cX10_doVar 40 = .ok (.getfield 55, 3) := dk_180 (by decide +kernel)
theorem dX10_doVar_43 : decode cX10_doVar 43 = .ok (.iload_n 2, 1) := dk_28 (by decide +kernel)
theorem dX10_doVar_44 : decode cX10_doVar 44 = .ok (.iconst 1, 1) := dk_4 (by decide +kernel)
theorem dX10_doVar_45 : decode cX10_doVar 45 = .ok (.iadd, 1) := dk_96 (by decide +kernel)
theorem dX10_doVar_46 : decode cX10_doVar 46 = .ok (.iaload, 1) := dk_46 (by decide +kernel)
theorem dX10_doVar_47 : decode cX10_doVar 47 = .ok (.invokevirtual 90, 3) := dk_182 (by decide +kernel)
theorem dX10_doVar_50 : decode cX10_doVar 50 = .ok (.iconst 0, 1) := dk_3 (by decide +kernel)
theorem dX10_doVar_51 : decode cX10_doVar 51 = .ok (.istore 7, 2) := dk_54 (by decide +kernel)
theorem dX10_doVar_53 : decode cX10_doVar 53 = .ok (.iload 7, 2) := dk_21 (by decide +kernel)
theorem dX10_doVar_55 : decode cX10_doVar 55 = .ok (.iload_n 3, 1) := dk_29 (by decide +kernel)
theorem dX10_doVar_56 : decode cX10_doVar 56 = .ok (.if_icmp .ge 108, 3) := dk_162 (by decide +kernel)
theorem dX10_doVar_59 : decode cX10_doVar 59 = .ok (.aload_n 0, 1) := dk_42 (by decide +kernel)
theorem dX10_doVar_60 : decode cX10_doVar 60 = .ok (.getfield 51, 3) := dk_180 (by decide +kernel)
theorem dX10_doVar_63 : decode cX10_doVar 63 = .ok (.getfield 93, 3) := dk_180 (by decide +kernel)
theorem dX10_doVar_66 : decode cX10_doVar 66 = .ok (.bipush 8, 2) := dk_16 (by decide +kernel)
theorem dX10_doVar_68 : decode cX10_doVar 68 = .ok (.if_icmp .lt 16, 3) := dk_161 (by decide +kernel)
theorem dX10_doVar_71 : decode cX10_doVar 71 = .ok (.aload_n 0, 1) := dk_42 (by decide +kernel)
theorem dX10_doVar_72 : decode cX10_doVar 72 = .ok (.getfield 47, 3) := dk_180 (by decide +kernel)
theorem dX10_doVar_75 : decode cX10_doVar 75 = .ok (.bipush 11, 2) := dk_16 (by decide +kernel)
theorem dX10_doVar_77 : decode cX10_doVar 77 = .ok (.aload_n 0, 1) := dk_42 (by decide +kernel)
theorem dX10_doVar_78 : decode cX10_doVar 78 = .ok (.getfield 74, 3) := dk_180 (by decide +kernel)
theorem dX10_doVar_81 : decode cX10_doVar 81 = .ok (.invokevirtual 90, 3) := dk_182 (by decide +kernel)
theorem dX10_doVar_84 : decode cX10_doVar 84 = .ok (.iload 4, 2) := dk_21 (by decide +kernel)
theorem dX10_doVar_86 : decode cX10_doVar 86 = .ok (.ifCond .eq 14, 3) := dk_153 (by decide +kernel)
theorem dX10_doVar_89 : decode cX10_doVar 89 = .ok (.aload_n 0, 1) := dk_42 (by decide +kernel)
theorem dX10_doVar_90 : decode cX10_doVar 90 = .ok (.iload 6, 2) := dk_21 (by decide +kernel)
theorem dX10_doVar_92 : decode cX10_doVar 92 = .ok (.iload 5, 2) := dk_21 (by decide +kernel)
theorem dX10_doVar_94 : decode cX10_doVar 94 = .ok (.isub, 1) := dk_100 (by decide +kernel)
theorem dX10_doVar_95 : decode cX10_doVar 95 = .ok (.iconst 1, 1) := dk_4 (by decide +kernel)
theorem dX10_doVar_96 : decode cX10_doVar 96 = .ok (.iadd, 1) := dk_96 (by decide +kernel)
theorem dX10_doVar_97 : decode cX10_doVar 97 = .ok (.invokevirtual 96, 3) := dk_182 (by decide +kernel)
theorem dX10_doVar_100 : decode cX10_doVar 100 = .ok (.aload_n 0, 1) := dk_42 (by decide +kernel)
theorem dX10_doVar_101 : decode cX10_doVar 101 = .ok (.getfield 51, 3) := dk_180 (by decide +kernel)
theorem dX10_doVar_104 : decode cX10_doVar 104 = .ok (.getfield 93, 3) := dk_180 (by decide +kernel)
theorem dX10_doVar_107 : decode cX10_doVar 107 = .ok (.istore 8, 2) := dk_54 (by decide +kernel)
theorem dX10_doVar_109 : decode cX10_doVar 109 = .ok (.aload_n 0, 1) := dk_42 (by decide +kernel)
theorem dX10_doVar_110 : decode cX10_doVar 110 = .ok (.getfield 51, 3) := dk_180 (by decide +kernel)
theorem dX10_doVar_113 : decode cX10_doVar 113 = .ok (.getfield 100, 3) := dk_180 (by decide +kernel)
theorem dX10_doVar_116 : decode cX10_doVar 116 = .ok (.iload 8, 2) := dk_21 (by decide +kernel)
theorem dX10_doVar_118 : decode cX10_doVar 118 = .ok (.iload 5, 2) := dk_21 (by decide +kernel)
theorem dX10_doVar_120 : decode cX10_doVar 120 = .ok (.iastore, 1) := dk_79 (by decide +kernel)
theorem dX10_doVar_121 : decode cX10_doVar 121 = .ok (.aload_n 0, 1) := dk_42 (by decide +kernel)
theorem dX10_doVar_122 : decode cX10_doVar 122 = .ok (.getfield 51, 3) := dk_180 (by decide +kernel)
theorem dX10_doVar_125 : decode cX10_doVar 125 = .ok (.getfield 103, 3) := dk_180 (by decide +kernel)
theorem dX10_doVar_128 : decode cX10_doVar 128 = .ok (.iload 8, 2) := dk_21 (by decide +kernel)
theorem dX10_doVar_130 : decode cX10_doVar 130 = .ok (.iload 6, 2) := dk_21 (by decide +kernel)
theorem dX10_doVar_132 : decode cX10_doVar 132 = .ok (.iastore, 1) := dk_79 (by decide +kernel)
theorem dX10_doVar_133 : decode cX10_doVar 133 = .ok (.aload_n 0, 1) := dk_42 (by decide +kernel)
theorem dX10_doVar_134 : decode cX10_doVar 134 = .ok (.getfield 51, 3) := dk_180 (by decide +kernel)
theorem dX10_doVar_137 : decode cX10_doVar 137 = .ok (.getfield 106, 3) := dk_180 (by decide +kernel)
theorem dX10_doVar_140 : decode cX10_doVar 140 = .ok (.iload 8, 2) := dk_21 (by decide +kernel)
theorem dX10_doVar_142 : decode cX10_doVar 142 = .ok (.iload 4, 2) := dk_21 (by decide +kernel)
theorem dX10_doVar_144 : decode cX10_doVar 144 = .ok (.bastore, 1) := dk_84 (by decide +kernel)
theorem dX10_doVar_145 : decode cX10_doVar 145 = .ok (.aload_n 0, 1) := dk_42 (by decide +kernel)
theorem dX10_doVar_146 : decode cX10_doVar 146 = .ok (.getfield 51, 3) := dk_180 (by decide +kernel)
theorem dX10_doVar_149 : decode cX10_doVar 149 = .ok (.dup, 1) := dk_89 (by decide +kernel)
theorem dX10_doVar_150 : decode cX10_doVar 150 = .ok (.getfield 93, 3) := dk_180 (by decide +kernel)
theorem dX10_doVar_153 : decode cX10_doVar 153 = .ok (.iconst 1, 1) := dk_4 (by decide +kernel)
theorem dX10_doVar_154 : decode cX10_doVar 154 = .ok (.iadd, 1) := dk_96 (by decide +kernel)
theorem dX10_doVar_155 : decode cX10_doVar 155 = .ok (.putfield 93, 3) := dk_181 (by decide +kernel)
theorem dX10_doVar_158 : decode cX10_doVar 158 = .ok (.iinc 7 1, 3) := dk_132 (by decide +kernel)
theorem dX10_doVar_161 : decode cX10_doVar 161 = .ok (.goto (-108), 3) := dk_167 (by decide +kernel)
theorem dX10_doVar_164 : decode cX10_doVar 164 = .ok (.return_, 1) := dk_177 (by decide +kernel)
def wsMX10_doVar : List Cond := .code yX10_doVar cX10_doVar 9 none :: ([.fieldLink RX10 47 "OptimaWorks$Worker" "words" "LOptimaWorks$Words;", .fieldLink RX10 55 "OptimaWorks$Worker" "tree" "[I", .fieldLink RX10 51 "OptimaWorks$Worker" "model" "LOptimaWorks$Model;", .fieldLink RX10 93 "OptimaWorks$Model" "variables" "I", .fieldLink RX10 74 "OptimaWorks$Worker" "nameAt" "I", .fieldLink RX10 100 "OptimaWorks$Model" "from" "[I", .fieldLink RX10 103 "OptimaWorks$Model" "to" "[I", .fieldLink RX10 106 "OptimaWorks$Model" "whole" "[Z"] ++ wsX10 ++ wsX100 ++ (wsV RX10 80 RX10 yX10_number wsMX10_number) ++ (wsV RX10 84 RX10 yX10_farEnd wsMX10_farEnd) ++ (wsV RX10 90 RX9 yX9_fail wsMX9_fail) ++ (wsV RX10 96 RX10 yX10_multiplyCases wsMX10_multiplyCases))
theorem iwsMX10_doVar_in1 : ∀ w ∈ wsX10, w ∈ wsMX10_doVar := fun _ h => List.mem_cons_of_mem _ (List.mem_append_left _ (List.mem_append_left _ (List.mem_append_left _ (List.mem_append_left _ (List.mem_append_left _ (List.mem_append_right _ h))))))
theorem iwsMX10_doVar_in10 : ∀ w ∈ wsX100, w ∈ wsMX10_doVar := fun _ h => List.mem_cons_of_mem _ (List.mem_append_left _ (List.mem_append_left _ (List.mem_append_left _ (List.mem_append_left _ (List.mem_append_right _ h)))))
theorem gwsMX10_doVar_0 : GoodIn wsMX10_doVar (wsV RX10 80 RX10 yX10_number wsMX10_number) := goodIn_sub (fun _ h => List.mem_cons_of_mem _ (List.mem_append_left _ (List.mem_append_left _ (List.mem_append_left _ (List.mem_append_right _ h))))) (gdV (by decide +kernel) gdwsMX10_number)
theorem gwsMX10_doVar_1 : GoodIn wsMX10_doVar (wsV RX10 84 RX10 yX10_farEnd wsMX10_farEnd) := goodIn_sub (fun _ h => List.mem_cons_of_mem _ (List.mem_append_left _ (List.mem_append_left _ (List.mem_append_right _ h)))) (gdV (by decide +kernel) gdwsMX10_farEnd)
theorem gwsMX10_doVar_2 : GoodIn wsMX10_doVar (wsV RX10 90 RX9 yX9_fail wsMX9_fail) := goodIn_sub (fun _ h => List.mem_cons_of_mem _ (List.mem_append_left _ (List.mem_append_right _ h))) (gdV (by decide +kernel) gdwsMX9_fail)
theorem gwsMX10_doVar_3 : GoodIn wsMX10_doVar (wsV RX10 96 RX10 yX10_multiplyCases wsMX10_multiplyCases) := goodIn_sub (fun _ h => List.mem_cons_of_mem _ (List.mem_append_right _ h)) (gdV (by decide +kernel) gdwsMX10_multiplyCases)
theorem gdwsMX10_doVar : wsMX10_doVar.all goodWord = true := gdC rfl (gdA (gdA (gdA (gdA (gdA (gdA (by decide +kernel : ([.fieldLink RX10 47 "OptimaWorks$Worker" "words" "LOptimaWorks$Words;", .fieldLink RX10 55 "OptimaWorks$Worker" "tree" "[I", .fieldLink RX10 51 "OptimaWorks$Worker" "model" "LOptimaWorks$Model;", .fieldLink RX10 93 "OptimaWorks$Model" "variables" "I", .fieldLink RX10 74 "OptimaWorks$Worker" "nameAt" "I", .fieldLink RX10 100 "OptimaWorks$Model" "from" "[I", .fieldLink RX10 103 "OptimaWorks$Model" "to" "[I", .fieldLink RX10 106 "OptimaWorks$Model" "whole" "[Z"] : List Cond).all goodWord = true) gdwsX10) gdwsX100) (gdV (by decide +kernel) gdwsMX10_number)) (gdV (by decide +kernel) gdwsMX10_farEnd)) (gdV (by decide +kernel) gdwsMX9_fail)) (gdV (by decide +kernel) gdwsMX10_multiplyCases))
theorem hm_m_X10_doVar_0 : (.fieldLink RX10 51 "OptimaWorks$Worker" "model" "LOptimaWorks$Model;" : Cond) ∈ wsMX10_doVar := by decide +kernel
theorem hm_m_X10_doVar_1 : (.fieldLink RX10 93 "OptimaWorks$Model" "variables" "I" : Cond) ∈ wsMX10_doVar := by decide +kernel
theorem hm_m_X10_doVar_2 : (.fieldLink RX10 47 "OptimaWorks$Worker" "words" "LOptimaWorks$Words;" : Cond) ∈ wsMX10_doVar := by decide +kernel
set_option maxHeartbeats 4000000 in
set_option maxRecDepth 100000 in
/-- a var is done -/
theorem m_X10_doVar (l : Launch) (hst : l.stackTraces = false) (dC : Nat → ClassId) (dI : Nat → Nat → Nat) (hL : Nat → Nat) (aL : Nat → Nat) (kL : Nat → ClassId) (hT : Nat → Nat) (hM : Nat → Nat) (iL_names : Int32) (gL_key : Nat → Int64) (fL_kind : Nat → Int32) (fL_one : Nat → Int32) (fL_two : Nat → Int32) (fL_base : Nat → Int32) (iL_params : Int32) (fL_paramOver : Nat → Int32) (dL_paramOver : Nat) (nL_params : Nat) (fL_paramUnder : Nat → Int32) (dL_paramUnder : Nat) (nL_pu : Nat) (gL_over : Nat → Int64) (gL_under : Nat → Int64) (fL_bound : Nat → Int32) (iL_nameAt : Int32) (iL_startAt : Int32) (iL_steps : Int32) (jL_scaleOver : Int64) (jL_scaleUnder : Int64) (hF : Nat → Nat) (aF : Nat → Nat) (kF : Nat → ClassId) (dF_tree : Nat) (nF_tree : Nat) (fF_tree : Nat → Int32) (aT : Nat → Nat) (kT : Nat → ClassId) (fT_tape : Nat → Int32) (dT_tape : Nat) (nT_tape : Nat) (iT_length : Int32) (iT_fault : Int32) (iT_place : Int32) (iT_kind : Int32) (iT_at : Int32) (iT_number : Int32) (jT_name : Int64) (iT_next : Int32) (aM : Nat → Nat) (kM : Nat → ClassId) (iM_stands : Int32) (iM_variables : Int32) (iM_rows : Int32) (iM_goals : Int32) (iM_differents : Int32) (iM_cases : Int32) (fM_from : Nat → Int32) (fM_to : Nat → Int32) (fM_whole : Nat → Int32) (fM_ways : Nat → Int32) (iM_plainRows : Int32) (fM_plainRow : Nat → Int32) (fM_kept : Nat → Int32) (fM_goalOver : Nat → Int32) (fM_goalUnder : Nat → Int32) (fM_goalMax : Nat → Int32) (fM_different : Nat → Int32) (V : Int → Nat → Nat → Prop) (lo : Int) (p1 : Int32) (p2 : Int32) (p3 : Int32) (p4 : Int32) (b_iL_names : 0 ≤ iL_names.toInt ∧ iL_names.toInt ≤ 40) (b_fL_kind : ∀ q : Nat, 0 ≤ (fL_kind q).toInt ∧ (fL_kind q).toInt ≤ 5) (b_fL_two : ∀ q : Nat, (-1) ≤ (fL_two q).toInt ∧ (fL_two q).toInt ≤ 39) (b_fL_base : ∀ q : Nat, 0 ≤ (fL_base q).toInt ∧ (fL_base q).toInt ≤ 2560) (b_iL_params : 0 ≤ iL_params.toInt ∧ iL_params.toInt ≤ 2560) (b_nL_params : 0 ≤ nL_params ∧ nL_params ≤ 2560) (b_nm : NmL iL_names fL_kind fL_one fL_two fL_base nL_params) (b_pm : iL_params.toInt ≤ ((nL_params : Nat) : Int)) (b_pu : nL_pu = nL_params) (b_nF_tree : 7 ≤ nF_tree ∧ nF_tree ≤ 72200) (b_fT_tape : ∀ q : Nat, (-128) ≤ (fT_tape q).toInt ∧ (fT_tape q).toInt ≤ 127) (b_nT_tape : 64 ≤ nT_tape ∧ nT_tape ≤ 2560) (b_iT_length : 0 ≤ iT_length.toInt ∧ iT_length.toInt ≤ 1280) (b_iT_at : 0 ≤ iT_at.toInt ∧ iT_at.toInt ≤ 1282) (b_iT_number : 0 ≤ iT_number.toInt ∧ iT_number.toInt ≤ 999999) (b_iT_next : 0 ≤ iT_next.toInt ∧ iT_next.toInt ≤ 1282) (b_len : iT_length.toInt ≤ ((nT_tape : Nat) : Int)) (b_iM_stands : 0 ≤ iM_stands.toInt ∧ iM_stands.toInt ≤ 1) (b_iM_variables : 0 ≤ iM_variables.toInt ∧ iM_variables.toInt ≤ 8) (b_iM_rows : 0 ≤ iM_rows.toInt ∧ iM_rows.toInt ≤ 12) (b_iM_goals : 0 ≤ iM_goals.toInt ∧ iM_goals.toInt ≤ 3) (b_iM_differents : 0 ≤ iM_differents.toInt ∧ iM_differents.toInt ≤ 8) (b_iM_cases : 0 ≤ iM_cases.toInt ∧ iM_cases.toInt ≤ 200000) (b_fM_ways : ∀ q : Nat, 0 ≤ (fM_ways q).toInt ∧ (fM_ways q).toInt ≤ 3) (b_iM_plainRows : 0 ≤ iM_plainRows.toInt ∧ iM_plainRows.toInt ≤ 12) (b_fM_plainRow : ∀ q : Nat, 0 ≤ (fM_plainRow q).toInt ∧ (fM_plainRow q).toInt ≤ 11) (b_pr : iM_plainRows.toInt ≤ iM_rows.toInt) (b_p3 : 1 ≤ p3.toInt ∧ p3.toInt ≤ 144) (b_p4 : 0 ≤ p4.toInt ∧ p4.toInt ≤ 1) (hV : TrL V fF_tree fL_kind fL_one fL_two iL_names.toInt lo ((nF_tree : Nat) : Int)) (hn1 : V p1.toInt 1 1) (hn2 : V p2.toInt 1 1) (hc64 : iM_cases.toInt ≤ 64) (sz : Nat) : vx_Met l yX10_doVar wsMX10_doVar ({ frames := 314, cells := 1, slots := 6, locals := 18369 }) (va_Pc [.ref (hL 0), .int p1, .int p2, .int p3, .int p4] (fun U => U.heap.size = sz ∧ va_P (dC, dI) vwCl (WL hL aL kL hT hM (.ref dF_tree) iL_names gL_key fL_kind fL_one fL_two fL_base iL_params fL_paramOver dL_paramOver nL_params fL_paramUnder dL_paramUnder nL_pu gL_over gL_under fL_bound iL_nameAt iL_startAt iL_steps jL_scaleOver jL_scaleUnder ++ (WF hF aF kF dF_tree nF_tree fF_tree ++ (WT hT aT kT fT_tape dT_tape nT_tape iT_length iT_fault iT_place iT_kind iT_at iT_number jT_name iT_next ++ (WM hM aM kM iM_stands iM_variables iM_rows iM_goals iM_differents iM_cases fM_from fM_to fM_whole fM_ways iM_plainRows fM_plainRow fM_kept fM_goalOver fM_goalUnder fM_goalMax fM_different)))) U.heap ∧ va_K (dC, dI) vwCl (tL kL ++ (tF kF ++ (tT kT ++ (tM kM)))) U ∧ va_D (fun _ => True) (WL hL aL kL hT hM (.ref dF_tree) iL_names gL_key fL_kind fL_one fL_two fL_base iL_params fL_paramOver dL_paramOver nL_params fL_paramUnder dL_paramUnder nL_pu gL_over gL_under fL_bound iL_nameAt iL_startAt iL_steps jL_scaleOver jL_scaleUnder ++ (WF hF aF kF dF_tree nF_tree fF_tree ++ (WT hT aT kT fT_tape dT_tape nT_tape iT_length iT_fault iT_place iT_kind iT_at iT_number jT_name iT_next ++ (WM hM aM kM iM_stands iM_variables iM_rows iM_goals iM_differents iM_cases fM_from fM_to fM_whole fM_ways iM_plainRows fM_plainRow fM_kept fM_goalOver fM_goalUnder fM_goalMax fM_different)))) ∧ CE (va_A (WL hL aL kL hT hM (.ref dF_tree) iL_names gL_key fL_kind fL_one fL_two fL_base iL_params fL_paramOver dL_paramOver nL_params fL_paramUnder dL_paramUnder nL_pu gL_over gL_under fL_bound iL_nameAt iL_startAt iL_steps jL_scaleOver jL_scaleUnder ++ (WF hF aF kF dF_tree nF_tree fF_tree ++ (WT hT aT kT fT_tape dT_tape nT_tape iT_length iT_fault iT_place iT_kind iT_at iT_number jT_name iT_next ++ (WM hM aM kM iM_stands iM_variables iM_rows iM_goals iM_differents iM_cases fM_from fM_to fM_whole fM_ways iM_plainRows fM_plainRow fM_kept fM_goalOver fM_goalUnder fM_goalMax fM_different)))) sz) U U.heap)) (va_Qv (fun (u : (Nat → Int64) × (Nat → Int64) × (Nat → Int32) × (Int32) × (Int32) × (Int32) × (Int32) × (Int32) × (Nat → Int32) × (Nat → Int32) × (Nat → Int32)) => (0 ≤ (u.2.2.2.2.2.2.1).toInt ∧ (u.2.2.2.2.2.2.1).toInt ≤ 8) ∧ (0 ≤ (u.2.2.2.2.2.2.2.1).toInt ∧ (u.2.2.2.2.2.2.2.1).toInt ≤ 200000) ∧ ((u.2.2.2.2.2.2.1).toInt = iM_variables.toInt + p3.toInt) ∧ ((u.2.2.2.2.2.2.2.1).toInt ≤ 64)) (fun (u : (Nat → Int64) × (Nat → Int64) × (Nat → Int32) × (Int32) × (Int32) × (Int32) × (Int32) × (Int32) × (Nat → Int32) × (Nat → Int32) × (Nat → Int32)) t => va_P (dC, dI) vwCl (WL hL aL kL hT hM (.ref dF_tree) iL_names gL_key fL_kind fL_one fL_two fL_base iL_params fL_paramOver dL_paramOver nL_params fL_paramUnder dL_paramUnder nL_pu (u.1) (u.2.1) (u.2.2.1) iL_nameAt iL_startAt (u.2.2.2.1) jL_scaleOver jL_scaleUnder ++ (WF hF aF kF dF_tree nF_tree fF_tree ++ (WT hT aT kT fT_tape dT_tape nT_tape iT_length (u.2.2.2.2.1) (u.2.2.2.2.2.1) iT_kind iT_at iT_number jT_name iT_next ++ (WM hM aM kM iM_stands (u.2.2.2.2.2.2.1) iM_rows iM_goals iM_differents (u.2.2.2.2.2.2.2.1) (u.2.2.2.2.2.2.2.2.1) (u.2.2.2.2.2.2.2.2.2.1) (u.2.2.2.2.2.2.2.2.2.2) fM_ways iM_plainRows fM_plainRow fM_kept fM_goalOver fM_goalUnder fM_goalMax fM_different)))) t.heap ∧ va_D (va_A (WL hL aL kL hT hM (.ref dF_tree) iL_names gL_key fL_kind fL_one fL_two fL_base iL_params fL_paramOver dL_paramOver nL_params fL_paramUnder dL_paramUnder nL_pu gL_over gL_under fL_bound iL_nameAt iL_startAt iL_steps jL_scaleOver jL_scaleUnder ++ (WF hF aF kF dF_tree nF_tree fF_tree ++ (WT hT aT kT fT_tape dT_tape nT_tape iT_length iT_fault iT_place iT_kind iT_at iT_number jT_name iT_next ++ (WM hM aM kM iM_stands iM_variables iM_rows iM_goals iM_differents iM_cases fM_from fM_to fM_whole fM_ways iM_plainRows fM_plainRow fM_kept fM_goalOver fM_goalUnder fM_goalMax fM_different)))) sz) (WL hL aL kL hT hM (.ref dF_tree) iL_names gL_key fL_kind fL_one fL_two fL_base iL_params fL_paramOver dL_paramOver nL_params fL_paramUnder dL_paramUnder nL_pu (u.1) (u.2.1) (u.2.2.1) iL_nameAt iL_startAt (u.2.2.2.1) jL_scaleOver jL_scaleUnder ++ (WF hF aF kF dF_tree nF_tree fF_tree ++ (WT hT aT kT fT_tape dT_tape nT_tape iT_length (u.2.2.2.2.1) (u.2.2.2.2.2.1) iT_kind iT_at iT_number jT_name iT_next ++ (WM hM aM kM iM_stands (u.2.2.2.2.2.2.1) iM_rows iM_goals iM_differents (u.2.2.2.2.2.2.2.1) (u.2.2.2.2.2.2.2.2.1) (u.2.2.2.2.2.2.2.2.2.1) (u.2.2.2.2.2.2.2.2.2.2) fM_ways iM_plainRows fM_plainRow fM_kept fM_goalOver fM_goalUnder fM_goalMax fM_different)))) ∧ t.heap.size = sz) (va_A (WL hL aL kL hT hM (.ref dF_tree) iL_names gL_key fL_kind fL_one fL_two fL_base iL_params fL_paramOver dL_paramOver nL_params fL_paramUnder dL_paramUnder nL_pu gL_over gL_under fL_bound iL_nameAt iL_startAt iL_steps jL_scaleOver jL_scaleUnder ++ (WF hF aF kF dF_tree nF_tree fF_tree ++ (WT hT aT kT fT_tape dT_tape nT_tape iT_length iT_fault iT_place iT_kind iT_at iT_number jT_name iT_next ++ (WM hM aM kM iM_stands iM_variables iM_rows iM_goals iM_differents iM_cases fM_from fM_to fM_whole fM_ways iM_plainRows fM_plainRow fM_kept fM_goalOver fM_goalUnder fM_goalMax fM_different)))) sz)) (vx_X (fun (u : (Nat → Int64) × (Nat → Int64) × (Nat → Int32) × (Int32) × (Int32) × (Int32) × (Int32) × (Int32) × (Nat → Int32) × (Nat → Int32) × (Nat → Int32)) => (0 ≤ (u.2.2.2.2.2.2.1).toInt ∧ (u.2.2.2.2.2.2.1).toInt ≤ 8) ∧ (0 ≤ (u.2.2.2.2.2.2.2.1).toInt ∧ (u.2.2.2.2.2.2.2.1).toInt ≤ 200000)) (fun E (u : (Nat → Int64) × (Nat → Int64) × (Nat → Int32) × (Int32) × (Int32) × (Int32) × (Int32) × (Int32) × (Nat → Int32) × (Nat → Int32) × (Nat → Int32)) t => (E = "java/lang/IllegalArgumentException") ∧ va_P (dC, dI) vwCl (WL hL aL kL hT hM (.ref dF_tree) iL_names gL_key fL_kind fL_one fL_two fL_base iL_params fL_paramOver dL_paramOver nL_params fL_paramUnder dL_paramUnder nL_pu (u.1) (u.2.1) (u.2.2.1) iL_nameAt iL_startAt (u.2.2.2.1) jL_scaleOver jL_scaleUnder ++ (WF hF aF kF dF_tree nF_tree fF_tree ++ (WT hT aT kT fT_tape dT_tape nT_tape iT_length (u.2.2.2.2.1) (u.2.2.2.2.2.1) iT_kind iT_at iT_number jT_name iT_next ++ (WM hM aM kM iM_stands (u.2.2.2.2.2.2.1) iM_rows iM_goals iM_differents (u.2.2.2.2.2.2.2.1) (u.2.2.2.2.2.2.2.2.1) (u.2.2.2.2.2.2.2.2.2.1) (u.2.2.2.2.2.2.2.2.2.2) fM_ways iM_plainRows fM_plainRow fM_kept fM_goalOver fM_goalUnder fM_goalMax fM_different)))) t.heap ∧ va_D (va_A (WL hL aL kL hT hM (.ref dF_tree) iL_names gL_key fL_kind fL_one fL_two fL_base iL_params fL_paramOver dL_paramOver nL_params fL_paramUnder dL_paramUnder nL_pu gL_over gL_under fL_bound iL_nameAt iL_startAt iL_steps jL_scaleOver jL_scaleUnder ++ (WF hF aF kF dF_tree nF_tree fF_tree ++ (WT hT aT kT fT_tape dT_tape nT_tape iT_length iT_fault iT_place iT_kind iT_at iT_number jT_name iT_next ++ (WM hM aM kM iM_stands iM_variables iM_rows iM_goals iM_differents iM_cases fM_from fM_to fM_whole fM_ways iM_plainRows fM_plainRow fM_kept fM_goalOver fM_goalUnder fM_goalMax fM_different)))) sz) (WL hL aL kL hT hM (.ref dF_tree) iL_names gL_key fL_kind fL_one fL_two fL_base iL_params fL_paramOver dL_paramOver nL_params fL_paramUnder dL_paramUnder nL_pu (u.1) (u.2.1) (u.2.2.1) iL_nameAt iL_startAt (u.2.2.2.1) jL_scaleOver jL_scaleUnder ++ (WF hF aF kF dF_tree nF_tree fF_tree ++ (WT hT aT kT fT_tape dT_tape nT_tape iT_length (u.2.2.2.2.1) (u.2.2.2.2.2.1) iT_kind iT_at iT_number jT_name iT_next ++ (WM hM aM kM iM_stands (u.2.2.2.2.2.2.1) iM_rows iM_goals iM_differents (u.2.2.2.2.2.2.2.1) (u.2.2.2.2.2.2.2.2.1) (u.2.2.2.2.2.2.2.2.2.1) (u.2.2.2.2.2.2.2.2.2.2) fM_ways iM_plainRows fM_plainRow fM_kept fM_goalOver fM_goalUnder fM_goalMax fM_different))))) (va_A (WL hL aL kL hT hM (.ref dF_tree) iL_names gL_key fL_kind fL_one fL_two fL_base iL_params fL_paramOver dL_paramOver nL_params fL_paramUnder dL_paramUnder nL_pu gL_over gL_under fL_bound iL_nameAt iL_startAt iL_steps jL_scaleOver jL_scaleUnder ++ (WF hF aF kF dF_tree nF_tree fF_tree ++ (WT hT aT kT fT_tape dT_tape nT_tape iT_length iT_fault iT_place iT_kind iT_at iT_number jT_name iT_next ++ (WM hM aM kM iM_stands iM_variables iM_rows iM_goals iM_differents iM_cases fM_from fM_to fM_whole fM_ways iM_plainRows fM_plainRow fM_kept fM_goalOver fM_goalUnder fM_goalMax fM_different)))) sz)) 1 6 (va_A (WL hL aL kL hT hM (.ref dF_tree) iL_names gL_key fL_kind fL_one fL_two fL_base iL_params fL_paramOver dL_paramOver nL_params fL_paramUnder dL_paramUnder nL_pu gL_over gL_under fL_bound iL_nameAt iL_startAt iL_steps jL_scaleOver jL_scaleUnder ++ (WF hF aF kF dF_tree nF_tree fF_tree ++ (WT hT aT kT fT_tape dT_tape nT_tape iT_length iT_fault iT_place iT_kind iT_at iT_number jT_name iT_next ++ (WM hM aM kM iM_stands iM_variables iM_rows iM_goals iM_differents iM_cases fM_from fM_to fM_whole fM_ways iM_plainRows fM_plainRow fM_kept fM_goalOver fM_goalUnder fM_goalMax fM_different)))) sz) := by
  refine vx_ofW (cc := cX10_doVar) (maxL := 9) (ret := none) (by decide) rfl ?_
  intro p e s m args below meth c s₁ B hml htab hv
  obtain ⟨rfl, hsz, hP, hK, hD0, hE⟩ := hv
  have hx := B.exec
  have hb := B.bytes
  have hr := B.returns
  have hts := atoms_spec (ws := wsMX10_doVar) B.pre
  have hown : s.vm.findClass RX10 = some m.cls := findClass_of_methodNamed B.named
  have hlocks := B.notSynchronized
  subst hsz
  have hD := hD0.self (sz := s.heap.size)
  generalize hAe : va_A (WL hL aL kL hT hM (.ref dF_tree) iL_names gL_key fL_kind fL_one fL_two fL_base iL_params fL_paramOver dL_paramOver nL_params fL_paramUnder dL_paramUnder nL_pu gL_over gL_under fL_bound iL_nameAt iL_startAt iL_steps jL_scaleOver jL_scaleUnder ++ (WF hF aF kF dF_tree nF_tree fF_tree ++ (WT hT aT kT fT_tape dT_tape nT_tape iT_length iT_fault iT_place iT_kind iT_at iT_number jT_name iT_next ++ (WM hM aM kM iM_stands iM_variables iM_rows iM_goals iM_differents iM_cases fM_from fM_to fM_whole fM_ways iM_plainRows fM_plainRow fM_kept fM_goalOver fM_goalUnder fM_goalMax fM_different)))) s.heap.size = A at hD hE ⊢
  have hA : ∀ q : Nat, s.heap.size ≤ q → A q := fun q h => by rw [← hAe]; exact Or.inr h
  have hS : va_S A s.heap s.heap [] := va_S.rf
  have hl := lv_entry ([.ref (hL 0), .int p1, .int p2, .int p3, .int p4]) (n := 9) (Nat.le_of_ble_eq_true rfl)
  rw [lg_entry_eq]
  generalize (lg_sl ([.ref (hL 0), .int p1, .int p2, .int p3, .int p4]) ++ List.replicate (9 - (lg_sl ([.ref (hL 0), .int p1, .int p2, .int p3, .int p4])).length) Slot.unset).toArray = ls at hl ⊢
  have hl : lv_has ls 9 [(0, .ref (hL 0)), (1, .int p1), (2, .int p2), (3, .int p3), (4, .int p4)] := hl
  have hr1 := TrL.rng hV hn1
  have hr2 := TrL.rng hV hn2
  refine lv_aload_n hx hb dX10_doVar_0 rfl (lv_at hl 0 rfl) ?_
  refine lv_iload_n hx hb dX10_doVar_1 rfl (lv_at hl 1 rfl) ?_
  refine lv_iconst (v := 0) hx hb dX10_doVar_2 (by decide) ?_
  refine W.known (fun hz0 _ => ?_)
  have hFc := allFree hD hS hA
  refine vx_callv (vx_runV (As := [.int p1, .int 0]) (rest := []) ⟨hx, hb, hml, hown, hts⟩ (mt_X10_number l hst dC dI hL aL kL hT hM iL_names gL_key fL_kind fL_one fL_two fL_base iL_params fL_paramOver dL_paramOver nL_params fL_paramUnder dL_paramUnder nL_pu gL_over gL_under fL_bound iL_nameAt iL_startAt iL_steps jL_scaleOver jL_scaleUnder hF aF kF dF_tree nF_tree fF_tree aT kT fT_tape dT_tape nT_tape iT_length iT_fault iT_place iT_kind iT_at iT_number jT_name iT_next aM kM iM_stands iM_variables iM_rows iM_goals iM_differents iM_cases fM_from fM_to fM_whole fM_ways iM_plainRows fM_plainRow fM_kept fM_goalOver fM_goalUnder fM_goalMax fM_different V lo 1 p1 0 (b_iL_names) b_fL_kind b_fL_two b_fL_base (b_iL_params) (by first | exact b_nL_params | with_reducible assumption | exact ⟨by omega, by omega⟩ | assumption) (by first | with_reducible assumption | omega | (rw [iI_t (by omega) (by omega)]; omega) | assumption) (by first | with_reducible assumption | omega | (rw [iI_t (by omega) (by omega)]; omega) | assumption) (by first | with_reducible assumption | omega | (rw [iI_t (by omega) (by omega)]; omega) | assumption) (by first | exact b_nF_tree | with_reducible assumption | exact ⟨by omega, by omega⟩ | assumption) b_fT_tape (by first | exact b_nT_tape | with_reducible assumption | exact ⟨by omega, by omega⟩ | assumption) (b_iT_length) (b_iT_at) (b_iT_number) (b_iT_next) (by first | with_reducible assumption | omega | assumption) (b_iM_stands) (b_iM_variables) (b_iM_rows) (b_iM_goals) (b_iM_differents) (b_iM_cases) b_fM_ways (b_iM_plainRows) b_fM_plainRow (by first | with_reducible assumption | omega | assumption) (show 0 ≤ (0 : Int32).toInt ∧ (0 : Int32).toInt ≤ 38 from by decide) (by first | with_reducible assumption | omega | (rw [iI_t (by omega) (by omega)]; omega) | decide | assumption) (by first | with_reducible assumption | omega | (rw [iI_t (by omega) (by omega)]; omega) | decide | assumption) (by first | with_reducible assumption | omega | (rw [iI_t (by omega) (by omega)]; omega) | decide | assumption) (by first | with_reducible assumption | omega | (rw [iI_t (by omega) (by omega)]; omega) | decide | assumption) s.heap.size) (cwV 2 hts gwsMX10_doVar_0 rfl rfl rfl hd_yX10_number_RX10 (by decide +kernel)) (fz_preE (va_recv hK hP (ci := 10) (q0 := 0) rfl rfl) hP hK hD (fun a U g mk qE => qE.call) (fun U hU9 hW => by rw [hU9]; exact (((hE : CE A s s.heap).kept hS.2.1).narrow (fun q h => hFc q h)).warm hW)) rfl rfl hl.1 rfl (lv_room (Nat.le_of_ble_eq_true rfl)) dX10_doVar_3 (by decide +kernel)) hS (fun q _ h => hFc q h) hFc (fun q _ h => hFc q h) (fun E ce q9 u t9_ H locs ht hvm hw9 hB9 hz1 hk1 hS hc1 hc2 hc3 => ?_) (fun u t9_ H locs ht hvm hw9 hB9 hz1 hk1 hS => ?_)
  · revert u hw9 hB9
    refine fz_p6 ?_
    intro gL_over_1 gL_under_1 fL_bound_1 iL_steps_1 iT_fault_1 iT_place_1 hw9 hB9
    try dsimp only at hw9 hB9
    revert hB9
    refine fz_a2 ?_
    intro hEx hB9
    clear hw9
    have hP : va_P (dC, dI) vwCl (WL hL aL kL hT hM (.ref dF_tree) iL_names gL_key fL_kind fL_one fL_two fL_base iL_params fL_paramOver dL_paramOver nL_params fL_paramUnder dL_paramUnder nL_pu gL_over_1 gL_under_1 fL_bound_1 iL_nameAt iL_startAt iL_steps_1 jL_scaleOver jL_scaleUnder ++ (WF hF aF kF dF_tree nF_tree fF_tree ++ (WT hT aT kT fT_tape dT_tape nT_tape iT_length iT_fault_1 iT_place_1 iT_kind iT_at iT_number jT_name iT_next ++ (WM hM aM kM iM_stands iM_variables iM_rows iM_goals iM_differents iM_cases fM_from fM_to fM_whole fM_ways iM_plainRows fM_plainRow fM_kept fM_goalOver fM_goalUnder fM_goalMax fM_different)))) H := fz_P ht hB9.1
    have hD := fz_sd hP (hB9.2.weaken (fun _ q _ h => hFc q.1 h)) rfl
    exact vx_out (fun x hx9 => (htab x hx9).elim) hlocks hc1 hc2 hc3 (fun t9_ ht hvm => ⟨(gL_over_1, gL_under_1, fL_bound_1, iL_steps_1, iT_fault_1, iT_place_1, iM_variables, iM_cases, fM_from, fM_to, fM_whole), ⟨(b_iM_variables), (b_iM_cases)⟩, ⟨(by have h9 := hEx; exact h9), by rw [ht]; exact hP, hD⟩, hS.F ht⟩) hS.2.2 (by decide +kernel) (by decide +kernel)
  revert u hw9 hB9
  refine fz_p6 ?_
  intro gL_over_1 gL_under_1 fL_bound_1 iL_steps_1 iT_fault_1 iT_place_1 hw9 hB9
  try dsimp only at hw9 hB9
  clear hw9
  have hz8 := hB9.2.2
  rw [ht] at hz8
  have hz9 : H.size ≤ s.heap.size + 0 := by rw [hz8]; exact hz0
  refine W.tight (cells2 := 0) (slots2 := 0) hz9 (nS_0 hz9) ?_
  clear hz8 hz9
  have hP : va_P (dC, dI) vwCl (WL hL aL kL hT hM (.ref dF_tree) iL_names gL_key fL_kind fL_one fL_two fL_base iL_params fL_paramOver dL_paramOver nL_params fL_paramUnder dL_paramUnder nL_pu gL_over_1 gL_under_1 fL_bound_1 iL_nameAt iL_startAt iL_steps_1 jL_scaleOver jL_scaleUnder ++ (WF hF aF kF dF_tree nF_tree fF_tree ++ (WT hT aT kT fT_tape dT_tape nT_tape iT_length iT_fault_1 iT_place_1 iT_kind iT_at iT_number jT_name iT_next ++ (WM hM aM kM iM_stands iM_variables iM_rows iM_goals iM_differents iM_cases fM_from fM_to fM_whole fM_ways iM_plainRows fM_plainRow fM_kept fM_goalOver fM_goalUnder fM_goalMax fM_different)))) H := fz_P ht hB9.1
  have hD := fz_sd hP (hB9.2.1.weaken (fun _ q _ h => hFc q.1 h)) rfl
  refine lv_aload_n hx hb dX10_doVar_6 rfl (lv_at hl 0 rfl) ?_
  refine lv_iload_n hx hb dX10_doVar_7 rfl (lv_at hl 1 rfl) ?_
  refine W.known (fun hz0 _ => ?_)
  have p9 := cj_4_0_1_2 (WL hL aL kL hT hM (.ref dF_tree) iL_names gL_key fL_kind fL_one fL_two fL_base iL_params fL_paramOver dL_paramOver nL_params fL_paramUnder dL_paramUnder nL_pu gL_over_1 gL_under_1 fL_bound_1 iL_nameAt iL_startAt iL_steps_1 jL_scaleOver jL_scaleUnder) (WF hF aF kF dF_tree nF_tree fF_tree) (WT hT aT kT fT_tape dT_tape nT_tape iT_length iT_fault_1 iT_place_1 iT_kind iT_at iT_number jT_name iT_next) (WM hM aM kM iM_stands iM_variables iM_rows iM_goals iM_differents iM_cases fM_from fM_to fM_whole fM_ways iM_plainRows fM_plainRow fM_kept fM_goalOver fM_goalUnder fM_goalMax fM_different)
  have hPc := hP.mem (fun q h => p9.mem_iff.mpr (List.mem_append_left _ h))
  have hDc := (hD.perm p9).left
  have hKc : va_K (dC, dI) vwCl (tL kL ++ (tF kF ++ (tT kT))) _ := hK.sub [0, 1, 2, 3, 4, 5, 6, 7, 8, 9, 10, 11] rfl
  have hFc := freeG p9 hD hS hA
  refine vx_calli (vx_runV (As := [.int p1]) (rest := []) ⟨hx, hb, hml, hown, hts⟩ (m_X10_farEnd l hst dC dI hL aL kL hT hM iL_names gL_key fL_kind fL_one fL_two fL_base iL_params fL_paramOver dL_paramOver nL_params fL_paramUnder dL_paramUnder nL_pu gL_over_1 gL_under_1 fL_bound_1 iL_nameAt iL_startAt iL_steps_1 jL_scaleOver jL_scaleUnder hF aF kF dF_tree nF_tree fF_tree aT kT fT_tape dT_tape nT_tape iT_length iT_fault_1 iT_place_1 iT_kind iT_at iT_number jT_name iT_next p1 (b_iL_names) b_fL_kind b_fL_two b_fL_base (b_iL_params) (by first | exact b_nL_params | with_reducible assumption | exact ⟨by omega, by omega⟩ | assumption) (by first | with_reducible assumption | omega | (rw [iI_t (by omega) (by omega)]; omega) | assumption) (by first | with_reducible assumption | omega | (rw [iI_t (by omega) (by omega)]; omega) | assumption) (by first | with_reducible assumption | omega | (rw [iI_t (by omega) (by omega)]; omega) | assumption) (by first | exact b_nF_tree | with_reducible assumption | exact ⟨by omega, by omega⟩ | assumption) b_fT_tape (by first | exact b_nT_tape | with_reducible assumption | exact ⟨by omega, by omega⟩ | assumption) (b_iT_length) (b_iT_at) (b_iT_number) (b_iT_next) (by first | with_reducible assumption | omega | assumption) (by first | with_reducible assumption | omega | (rw [iI_t (by omega) (by omega)]; omega) | decide | assumption) H.size) (cwV 1 hts gwsMX10_doVar_1 rfl rfl rfl hd_yX10_farEnd_RX10 (by decide +kernel)) (fz_preE (va_recv hK hP (ci := 10) (q0 := 0) rfl rfl) hPc hKc hDc (fun a U g mk qE => qE.call) (fun U hU9 hW => by rw [hU9]; exact (((hE : CE A s s.heap).kept hS.2.1).narrow (fun q h => hFc q h)).warm hW)) rfl rfl hl.1 rfl (lv_room (Nat.le_of_ble_eq_true rfl)) dX10_doVar_8 (by decide +kernel)) hS (fun q _ h => hFc q h) hFc (fun q _ h => hFc q h) (fun E ce q9 u t9_ H locs ht hvm hw9 hB9 hz1 hk1 hS hc1 hc2 hc3 => ?_) (fun r2 u t9_ H locs ht hvm hw9 hB9 hz1 hk1 hS => ?_)
  · revert u hw9 hB9
    refine fz_p2 ?_
    intro iT_fault_2 iT_place_2 hw9 hB9
    try dsimp only at hw9 hB9
    revert hB9
    refine fz_a2 ?_
    intro hEx hB9
    clear hw9
    have p8 := cj_4_0_1_2 (WL hL aL kL hT hM (.ref dF_tree) iL_names gL_key fL_kind fL_one fL_two fL_base iL_params fL_paramOver dL_paramOver nL_params fL_paramUnder dL_paramUnder nL_pu gL_over_1 gL_under_1 fL_bound_1 iL_nameAt iL_startAt iL_steps_1 jL_scaleOver jL_scaleUnder) (WF hF aF kF dF_tree nF_tree fF_tree) (WT hT aT kT fT_tape dT_tape nT_tape iT_length iT_fault_2 iT_place_2 iT_kind iT_at iT_number jT_name iT_next) (WM hM aM kM iM_stands iM_variables iM_rows iM_goals iM_differents iM_cases fM_from fM_to fM_whole fM_ways iM_plainRows fM_plainRow fM_kept fM_goalOver fM_goalUnder fM_goalMax fM_different)
    obtain ⟨hP, hD⟩ := frameG p9 p8 hP hD hk1 hFc (fz_P ht hB9.1) hB9.2
    exact vx_out (fun x hx9 => (htab x hx9).elim) hlocks hc1 hc2 hc3 (fun t9_ ht hvm => ⟨(gL_over_1, gL_under_1, fL_bound_1, iL_steps_1, iT_fault_2, iT_place_2, iM_variables, iM_cases, fM_from, fM_to, fM_whole), ⟨(b_iM_variables), (b_iM_cases)⟩, ⟨(by have h9 := hEx; exact h9), by rw [ht]; exact hP, hD⟩, hS.F ht⟩) hS.2.2 (by decide +kernel) (by decide +kernel)
  revert u hw9 hB9
  refine fz_p2 ?_
  intro iT_fault_2 iT_place_2 hw9 hB9
  try dsimp only at hw9 hB9
  have b_r2 := hw9
  try dsimp only at b_r2
  have hz8 := hB9.2.2
  rw [ht] at hz8
  have hz9 : H.size ≤ s.heap.size + 0 := by rw [hz8]; exact hz0
  refine W.tight (cells2 := 0) (slots2 := 0) hz9 (nS_0 hz9) ?_
  clear hz8 hz9
  have p8 := cj_4_0_1_2 (WL hL aL kL hT hM (.ref dF_tree) iL_names gL_key fL_kind fL_one fL_two fL_base iL_params fL_paramOver dL_paramOver nL_params fL_paramUnder dL_paramUnder nL_pu gL_over_1 gL_under_1 fL_bound_1 iL_nameAt iL_startAt iL_steps_1 jL_scaleOver jL_scaleUnder) (WF hF aF kF dF_tree nF_tree fF_tree) (WT hT aT kT fT_tape dT_tape nT_tape iT_length iT_fault_2 iT_place_2 iT_kind iT_at iT_number jT_name iT_next) (WM hM aM kM iM_stands iM_variables iM_rows iM_goals iM_differents iM_cases fM_from fM_to fM_whole fM_ways iM_plainRows fM_plainRow fM_kept fM_goalOver fM_goalUnder fM_goalMax fM_different)
  obtain ⟨hP, hD⟩ := frameG p9 p8 hP hD hk1 hFc (fz_P ht hB9.1) hB9.2.1
  refine lv_istore hx hb dX10_doVar_11 hl (by decide) rfl (fun ls (hl : lv_has ls _ ([(5, .int r2), (0, .ref (hL 0)), (1, .int p1), (2, .int p2), (3, .int p3), (4, .int p4)])) => ?_)
  refine lv_aload_n hx hb dX10_doVar_13 rfl (lv_at hl 1 rfl) ?_
  refine lv_iload_n hx hb dX10_doVar_14 rfl (lv_at hl 3 rfl) ?_
  refine lv_iconst (v := 0) hx hb dX10_doVar_15 (by decide) ?_
  refine W.known (fun hz0 _ => ?_)
  have hFc := allFree hD hS hA
  refine vx_callv (vx_runV (As := [.int p2, .int 0]) (rest := []) ⟨hx, hb, hml, hown, hts⟩ (mt_X10_number l hst dC dI hL aL kL hT hM iL_names gL_key fL_kind fL_one fL_two fL_base iL_params fL_paramOver dL_paramOver nL_params fL_paramUnder dL_paramUnder nL_pu gL_over_1 gL_under_1 fL_bound_1 iL_nameAt iL_startAt iL_steps_1 jL_scaleOver jL_scaleUnder hF aF kF dF_tree nF_tree fF_tree aT kT fT_tape dT_tape nT_tape iT_length iT_fault_2 iT_place_2 iT_kind iT_at iT_number jT_name iT_next aM kM iM_stands iM_variables iM_rows iM_goals iM_differents iM_cases fM_from fM_to fM_whole fM_ways iM_plainRows fM_plainRow fM_kept fM_goalOver fM_goalUnder fM_goalMax fM_different V lo 1 p2 0 (b_iL_names) b_fL_kind b_fL_two b_fL_base (b_iL_params) (by first | exact b_nL_params | with_reducible assumption | exact ⟨by omega, by omega⟩ | assumption) (by first | with_reducible assumption | omega | (rw [iI_t (by omega) (by omega)]; omega) | assumption) (by first | with_reducible assumption | omega | (rw [iI_t (by omega) (by omega)]; omega) | assumption) (by first | with_reducible assumption | omega | (rw [iI_t (by omega) (by omega)]; omega) | assumption) (by first | exact b_nF_tree | with_reducible assumption | exact ⟨by omega, by omega⟩ | assumption) b_fT_tape (by first | exact b_nT_tape | with_reducible assumption | exact ⟨by omega, by omega⟩ | assumption) (b_iT_length) (b_iT_at) (b_iT_number) (b_iT_next) (by first | with_reducible assumption | omega | assumption) (b_iM_stands) (b_iM_variables) (b_iM_rows) (b_iM_goals) (b_iM_differents) (b_iM_cases) b_fM_ways (b_iM_plainRows) b_fM_plainRow (by first | with_reducible assumption | omega | assumption) (show 0 ≤ (0 : Int32).toInt ∧ (0 : Int32).toInt ≤ 38 from by decide) (by first | with_reducible assumption | omega | (rw [iI_t (by omega) (by omega)]; omega) | decide | assumption) (by first | with_reducible assumption | omega | (rw [iI_t (by omega) (by omega)]; omega) | decide | assumption) (by first | with_reducible assumption | omega | (rw [iI_t (by omega) (by omega)]; omega) | decide | assumption) (by first | with_reducible assumption | omega | (rw [iI_t (by omega) (by omega)]; omega) | decide | assumption) H.size) (cwV 2 hts gwsMX10_doVar_0 rfl rfl rfl hd_yX10_number_RX10 (by decide +kernel)) (fz_preE (va_recv hK hP (ci := 10) (q0 := 0) rfl rfl) hP hK hD (fun a U g mk qE => qE.call) (fun U hU9 hW => by rw [hU9]; exact (((hE : CE A s s.heap).kept hS.2.1).narrow (fun q h => hFc q h)).warm hW)) rfl rfl hl.1 rfl (lv_room (Nat.le_of_ble_eq_true rfl)) dX10_doVar_16 (by decide +kernel)) hS (fun q _ h => hFc q h) hFc (fun q _ h => hFc q h) (fun E ce q9 u t9_ H locs ht hvm hw9 hB9 hz1 hk1 hS hc1 hc2 hc3 => ?_) (fun u t9_ H locs ht hvm hw9 hB9 hz1 hk1 hS => ?_)
  · revert u hw9 hB9
    refine fz_p6 ?_
    intro gL_over_3 gL_under_3 fL_bound_3 iL_steps_3 iT_fault_3 iT_place_3 hw9 hB9
    try dsimp only at hw9 hB9
    revert hB9
    refine fz_a2 ?_
    intro hEx hB9
    clear hw9
    have hP : va_P (dC, dI) vwCl (WL hL aL kL hT hM (.ref dF_tree) iL_names gL_key fL_kind fL_one fL_two fL_base iL_params fL_paramOver dL_paramOver nL_params fL_paramUnder dL_paramUnder nL_pu gL_over_3 gL_under_3 fL_bound_3 iL_nameAt iL_startAt iL_steps_3 jL_scaleOver jL_scaleUnder ++ (WF hF aF kF dF_tree nF_tree fF_tree ++ (WT hT aT kT fT_tape dT_tape nT_tape iT_length iT_fault_3 iT_place_3 iT_kind iT_at iT_number jT_name iT_next ++ (WM hM aM kM iM_stands iM_variables iM_rows iM_goals iM_differents iM_cases fM_from fM_to fM_whole fM_ways iM_plainRows fM_plainRow fM_kept fM_goalOver fM_goalUnder fM_goalMax fM_different)))) H := fz_P ht hB9.1
    have hD := fz_sd hP (hB9.2.weaken (fun _ q _ h => hFc q.1 h)) rfl
    exact vx_out (fun x hx9 => (htab x hx9).elim) hlocks hc1 hc2 hc3 (fun t9_ ht hvm => ⟨(gL_over_3, gL_under_3, fL_bound_3, iL_steps_3, iT_fault_3, iT_place_3, iM_variables, iM_cases, fM_from, fM_to, fM_whole), ⟨(b_iM_variables), (b_iM_cases)⟩, ⟨(by have h9 := hEx; exact h9), by rw [ht]; exact hP, hD⟩, hS.F ht⟩) hS.2.2 (by decide +kernel) (by decide +kernel)
  revert u hw9 hB9
  refine fz_p6 ?_
  intro gL_over_3 gL_under_3 fL_bound_3 iL_steps_3 iT_fault_3 iT_place_3 hw9 hB9
  try dsimp only at hw9 hB9
  clear hw9
  have hz8 := hB9.2.2
  rw [ht] at hz8
  have hz9 : H.size ≤ s.heap.size + 0 := by rw [hz8]; exact hz0
  refine W.tight (cells2 := 0) (slots2 := 0) hz9 (nS_0 hz9) ?_
  clear hz8 hz9
  have hP : va_P (dC, dI) vwCl (WL hL aL kL hT hM (.ref dF_tree) iL_names gL_key fL_kind fL_one fL_two fL_base iL_params fL_paramOver dL_paramOver nL_params fL_paramUnder dL_paramUnder nL_pu gL_over_3 gL_under_3 fL_bound_3 iL_nameAt iL_startAt iL_steps_3 jL_scaleOver jL_scaleUnder ++ (WF hF aF kF dF_tree nF_tree fF_tree ++ (WT hT aT kT fT_tape dT_tape nT_tape iT_length iT_fault_3 iT_place_3 iT_kind iT_at iT_number jT_name iT_next ++ (WM hM aM kM iM_stands iM_variables iM_rows iM_goals iM_differents iM_cases fM_from fM_to fM_whole fM_ways iM_plainRows fM_plainRow fM_kept fM_goalOver fM_goalUnder fM_goalMax fM_different)))) H := fz_P ht hB9.1
  have hD := fz_sd hP (hB9.2.1.weaken (fun _ q _ h => hFc q.1 h)) rfl
  refine lv_aload_n hx hb dX10_doVar_19 rfl (lv_at hl 1 rfl) ?_
  refine lv_iload_n hx hb dX10_doVar_20 rfl (lv_at hl 3 rfl) ?_
  refine W.known (fun hz0 _ => ?_)
  have p9 := cj_4_0_1_2 (WL hL aL kL hT hM (.ref dF_tree) iL_names gL_key fL_kind fL_one fL_two fL_base iL_params fL_paramOver dL_paramOver nL_params fL_paramUnder dL_paramUnder nL_pu gL_over_3 gL_under_3 fL_bound_3 iL_nameAt iL_startAt iL_steps_3 jL_scaleOver jL_scaleUnder) (WF hF aF kF dF_tree nF_tree fF_tree) (WT hT aT kT fT_tape dT_tape nT_tape iT_length iT_fault_3 iT_place_3 iT_kind iT_at iT_number jT_name iT_next) (WM hM aM kM iM_stands iM_variables iM_rows iM_goals iM_differents iM_cases fM_from fM_to fM_whole fM_ways iM_plainRows fM_plainRow fM_kept fM_goalOver fM_goalUnder fM_goalMax fM_different)
  have hPc := hP.mem (fun q h => p9.mem_iff.mpr (List.mem_append_left _ h))
  have hDc := (hD.perm p9).left
  have hKc : va_K (dC, dI) vwCl (tL kL ++ (tF kF ++ (tT kT))) _ := hK.sub [0, 1, 2, 3, 4, 5, 6, 7, 8, 9, 10, 11] rfl
  have hFc := freeG p9 hD hS hA
  refine vx_calli (vx_runV (As := [.int p2]) (rest := []) ⟨hx, hb, hml, hown, hts⟩ (m_X10_farEnd l hst dC dI hL aL kL hT hM iL_names gL_key fL_kind fL_one fL_two fL_base iL_params fL_paramOver dL_paramOver nL_params fL_paramUnder dL_paramUnder nL_pu gL_over_3 gL_under_3 fL_bound_3 iL_nameAt iL_startAt iL_steps_3 jL_scaleOver jL_scaleUnder hF aF kF dF_tree nF_tree fF_tree aT kT fT_tape dT_tape nT_tape iT_length iT_fault_3 iT_place_3 iT_kind iT_at iT_number jT_name iT_next p2 (b_iL_names) b_fL_kind b_fL_two b_fL_base (b_iL_params) (by first | exact b_nL_params | with_reducible assumption | exact ⟨by omega, by omega⟩ | assumption) (by first | with_reducible assumption | omega | (rw [iI_t (by omega) (by omega)]; omega) | assumption) (by first | with_reducible assumption | omega | (rw [iI_t (by omega) (by omega)]; omega) | assumption) (by first | with_reducible assumption | omega | (rw [iI_t (by omega) (by omega)]; omega) | assumption) (by first | exact b_nF_tree | with_reducible assumption | exact ⟨by omega, by omega⟩ | assumption) b_fT_tape (by first | exact b_nT_tape | with_reducible assumption | exact ⟨by omega, by omega⟩ | assumption) (b_iT_length) (b_iT_at) (b_iT_number) (b_iT_next) (by first | with_reducible assumption | omega | assumption) (by first | with_reducible assumption | omega | (rw [iI_t (by omega) (by omega)]; omega) | decide | assumption) H.size) (cwV 1 hts gwsMX10_doVar_1 rfl rfl rfl hd_yX10_farEnd_RX10 (by decide +kernel)) (fz_preE (va_recv hK hP (ci := 10) (q0 := 0) rfl rfl) hPc hKc hDc (fun a U g mk qE => qE.call) (fun U hU9 hW => by rw [hU9]; exact (((hE : CE A s s.heap).kept hS.2.1).narrow (fun q h => hFc q h)).warm hW)) rfl rfl hl.1 rfl (lv_room (Nat.le_of_ble_eq_true rfl)) dX10_doVar_21 (by decide +kernel)) hS (fun q _ h => hFc q h) hFc (fun q _ h => hFc q h) (fun E ce q9 u t9_ H locs ht hvm hw9 hB9 hz1 hk1 hS hc1 hc2 hc3 => ?_) (fun r4 u t9_ H locs ht hvm hw9 hB9 hz1 hk1 hS => ?_)
  · revert u hw9 hB9
    refine fz_p2 ?_
    intro iT_fault_4 iT_place_4 hw9 hB9
    try dsimp only at hw9 hB9
    revert hB9
    refine fz_a2 ?_
    intro hEx hB9
    clear hw9
    have p8 := cj_4_0_1_2 (WL hL aL kL hT hM (.ref dF_tree) iL_names gL_key fL_kind fL_one fL_two fL_base iL_params fL_paramOver dL_paramOver nL_params fL_paramUnder dL_paramUnder nL_pu gL_over_3 gL_under_3 fL_bound_3 iL_nameAt iL_startAt iL_steps_3 jL_scaleOver jL_scaleUnder) (WF hF aF kF dF_tree nF_tree fF_tree) (WT hT aT kT fT_tape dT_tape nT_tape iT_length iT_fault_4 iT_place_4 iT_kind iT_at iT_number jT_name iT_next) (WM hM aM kM iM_stands iM_variables iM_rows iM_goals iM_differents iM_cases fM_from fM_to fM_whole fM_ways iM_plainRows fM_plainRow fM_kept fM_goalOver fM_goalUnder fM_goalMax fM_different)
    obtain ⟨hP, hD⟩ := frameG p9 p8 hP hD hk1 hFc (fz_P ht hB9.1) hB9.2
    exact vx_out (fun x hx9 => (htab x hx9).elim) hlocks hc1 hc2 hc3 (fun t9_ ht hvm => ⟨(gL_over_3, gL_under_3, fL_bound_3, iL_steps_3, iT_fault_4, iT_place_4, iM_variables, iM_cases, fM_from, fM_to, fM_whole), ⟨(b_iM_variables), (b_iM_cases)⟩, ⟨(by have h9 := hEx; exact h9), by rw [ht]; exact hP, hD⟩, hS.F ht⟩) hS.2.2 (by decide +kernel) (by decide +kernel)
  revert u hw9 hB9
  refine fz_p2 ?_
  intro iT_fault_4 iT_place_4 hw9 hB9
  try dsimp only at hw9 hB9
  have b_r4 := hw9
  try dsimp only at b_r4
  have hz8 := hB9.2.2
  rw [ht] at hz8
  have hz9 : H.size ≤ s.heap.size + 0 := by rw [hz8]; exact hz0
  refine W.tight (cells2 := 0) (slots2 := 0) hz9 (nS_0 hz9) ?_
  clear hz8 hz9
  have p8 := cj_4_0_1_2 (WL hL aL kL hT hM (.ref dF_tree) iL_names gL_key fL_kind fL_one fL_two fL_base iL_params fL_paramOver dL_paramOver nL_params fL_paramUnder dL_paramUnder nL_pu gL_over_3 gL_under_3 fL_bound_3 iL_nameAt iL_startAt iL_steps_3 jL_scaleOver jL_scaleUnder) (WF hF aF kF dF_tree nF_tree fF_tree) (WT hT aT kT fT_tape dT_tape nT_tape iT_length iT_fault_4 iT_place_4 iT_kind iT_at iT_number jT_name iT_next) (WM hM aM kM iM_stands iM_variables iM_rows iM_goals iM_differents iM_cases fM_from fM_to fM_whole fM_ways iM_plainRows fM_plainRow fM_kept fM_goalOver fM_goalUnder fM_goalMax fM_different)
  obtain ⟨hP, hD⟩ := frameG p9 p8 hP hD hk1 hFc (fz_P ht hB9.1) hB9.2.1
  refine lv_istore hx hb dX10_doVar_24 hl (by decide) rfl (fun ls (hl : lv_has ls _ ([(6, .int r4), (5, .int r2), (0, .ref (hL 0)), (1, .int p1), (2, .int p2), (3, .int p3), (4, .int p4)])) => ?_)
  refine lv_iload hx hb dX10_doVar_26 (lv_at hl 0 rfl) ?_
  refine lv_iload hx hb dX10_doVar_28 (lv_at hl 1 rfl) ?_
  refine lv_icmp_ge (tgt := 50) hx hb dX10_doVar_30 (by decide) (fun c_30 => ?_) (fun c_30 => ?_)
  · have t_30 : r4.toInt ≥ r2.toInt := toI_ge c_30 rfl rfl
    refine lv_iconst (v := 0) hx hb dX10_doVar_50 (by decide) ?_
    refine lv_istore hx hb dX10_doVar_51 hl (by decide) rfl (fun ls (hl : lv_has ls _ ([(7, .int 0), (6, .int r4), (5, .int r2), (0, .ref (hL 0)), (1, .int p1), (2, .int p2), (3, .int p3), (4, .int p4)])) => ?_)
    have hl : lv_has _ _ ([(7, .int 0), (6, .int r4), (5, .int r2), (0, .ref (hL 0)), (1, .int p1), (2, .int p2), (3, .int p3), (4, .int p4)]) := lv_sub hl [0, 1, 2, 3, 4, 5, 6, 7] rfl
    refine (fun (loop : ∀ (n9 : Nat) (iT_fault_x53 : Int32) (iT_place_x53 : Int32) (iM_variables_x53 : Int32) (iM_cases_x53 : Int32) (fM_from_x53 : Nat → Int32) (fM_to_x53 : Nat → Int32) (fM_whole_x53 : Nat → Int32) (l7_x53 : Int32) (H : Heap) (locs : List Loc) (ls : Array Slot), (0 ≤ iM_variables_x53.toInt ∧ iM_variables_x53.toInt ≤ 8) → (0 ≤ iM_cases_x53.toInt ∧ iM_cases_x53.toInt ≤ 200000) → (0 ≤ l7_x53.toInt ∧ l7_x53.toInt ≤ 144) → (iM_variables_x53.toInt = iM_variables.toInt + l7_x53.toInt) → (iM_cases_x53.toInt ≤ 64) → (l7_x53.toInt ≤ p3.toInt) → (144 - l7_x53.toInt < ((n9 : Nat) : Int)) → va_P (dC, dI) vwCl (WL hL aL kL hT hM (.ref dF_tree) iL_names gL_key fL_kind fL_one fL_two fL_base iL_params fL_paramOver dL_paramOver nL_params fL_paramUnder dL_paramUnder nL_pu gL_over_3 gL_under_3 fL_bound_3 iL_nameAt iL_startAt iL_steps_3 jL_scaleOver jL_scaleUnder ++ (WF hF aF kF dF_tree nF_tree fF_tree ++ (WT hT aT kT fT_tape dT_tape nT_tape iT_length iT_fault_x53 iT_place_x53 iT_kind iT_at iT_number jT_name iT_next ++ (WM hM aM kM iM_stands iM_variables_x53 iM_rows iM_goals iM_differents iM_cases_x53 fM_from_x53 fM_to_x53 fM_whole_x53 fM_ways iM_plainRows fM_plainRow fM_kept fM_goalOver fM_goalUnder fM_goalMax fM_different)))) H → va_D A (WL hL aL kL hT hM (.ref dF_tree) iL_names gL_key fL_kind fL_one fL_two fL_base iL_params fL_paramOver dL_paramOver nL_params fL_paramUnder dL_paramUnder nL_pu gL_over_3 gL_under_3 fL_bound_3 iL_nameAt iL_startAt iL_steps_3 jL_scaleOver jL_scaleUnder ++ (WF hF aF kF dF_tree nF_tree fF_tree ++ (WT hT aT kT fT_tape dT_tape nT_tape iT_length iT_fault_x53 iT_place_x53 iT_kind iT_at iT_number jT_name iT_next ++ (WM hM aM kM iM_stands iM_variables_x53 iM_rows iM_goals iM_differents iM_cases_x53 fM_from_x53 fM_to_x53 fM_whole_x53 fM_ways iM_plainRows fM_plainRow fM_kept fM_goalOver fM_goalUnder fM_goalMax fM_different)))) → va_S A s.heap H locs → lv_has ls 9 [(7, .int l7_x53), (6, .int r4), (5, .int r2), (0, .ref (hL 0)), (1, .int p1), (2, .int p2), (3, .int p3), (4, .int p4)] → W p l e _ s m _ below meth c H locs 0 0 _ (F0 m 53 ls [])) => loop (145) iT_fault_4 iT_place_4 iM_variables iM_cases fM_from fM_to fM_whole 0 _ _ _ (b_iM_variables) (b_iM_cases) (show 0 ≤ (0 : Int32).toInt ∧ (0 : Int32).toInt ≤ 144 from by decide) (show iM_variables.toInt = iM_variables.toInt + (0 : Int32).toInt from by have h8 : (0 : Int32).toInt = 0 := (by decide); omega) (show iM_cases.toInt ≤ 64 from by omega) (show (0 : Int32).toInt ≤ p3.toInt from by have h8 : (0 : Int32).toInt = 0 := (by decide); omega) ((by have e9 : (0 : Int32).toInt = 0 := (by decide : (0 : Int32).toInt = 0); omega)) hP hD hS hl) ?_
    intro n9
    induction n9 with
    | zero => intro iT_fault_x53 iT_place_x53 iM_variables_x53 iM_cases_x53 fM_from_x53 fM_to_x53 fM_whole_x53 l7_x53 H locs ls b_iM_variables_x53 b_iM_cases_x53 b_l7_x53 hiv hic hi3 hf9; exact False.elim (by omega)
    | succ n9 ihx53 =>
      intro iT_fault_x53 iT_place_x53 iM_variables_x53 iM_cases_x53 fM_from_x53 fM_to_x53 fM_whole_x53 l7_x53 H locs ls b_iM_variables_x53 b_iM_cases_x53 b_l7_x53 hiv hic hi3 hfx53 hP hD hS hl
      refine lv_iload hx hb dX10_doVar_53 (lv_at hl 0 rfl) ?_
      refine lv_iload_n hx hb dX10_doVar_55 rfl (lv_at hl 6 rfl) ?_
      refine lv_icmp_ge (tgt := 164) hx hb dX10_doVar_56 (by decide) (fun c_56 => ?_) (fun c_56 => ?_)
      · have t_56 : l7_x53.toInt ≥ p3.toInt := toI_ge c_56 rfl rfl
        refine vx_ret ?_
        refine W.known (fun hz9 _ => ?_)
        refine W.widen (k := 1) (n := 6) (by decide +kernel) (by decide +kernel) ?_
        exact W.vret hx hb hr (fun t9_ ht hW => ⟨⟨(gL_over_3, gL_under_3, fL_bound_3, iL_steps_3, iT_fault_x53, iT_place_x53, iM_variables_x53, iM_cases_x53, fM_from_x53, fM_to_x53, fM_whole_x53), rfl, ⟨b_iM_variables_x53, b_iM_cases_x53, (by (try dsimp only); omega), (by (try dsimp only); omega)⟩, by rw [ht]; exact hP, hD, by rw [ht]; first | done | exact Nat.le_antisymm hz9 hS.1⟩, hS.F ht⟩) hS.2.2 dX10_doVar_164
      · have t_56 : ¬ l7_x53.toInt ≥ p3.toInt := toI_nge c_56 rfl rfl
        refine lv_aload_n hx hb dX10_doVar_59 rfl (lv_at hl 3 rfl) ?_
        refine va_get (D := (dC, dI)) (ci := 10) (v := .ref (hM 0)) (C := RX10) (T := TX10) (N := 20) hx hb hts iwsMX10_doVar_in10 hown hK hP 0 rfl rfl 1 (by decide) (hts _ hm_m_X10_doVar_0) (fun _ h9 => h9) rfl dX10_doVar_60 ?_
        refine va_get (D := (dC, dI)) (ci := 1) (v := .int iM_variables_x53) (C := RX1) (T := TX1) (N := 17) hx hb hts iwsMX10_doVar_in1 hown hK hP 14 rfl rfl 1 (by decide) (hts _ hm_m_X10_doVar_1) (fun _ h9 => h9) rfl dX10_doVar_63 ?_
        refine lv_bipush (v := 8) hx hb dX10_doVar_66 (by decide) ?_
        refine lv_icmp_lt (tgt := 84) hx hb dX10_doVar_68 (by decide) (fun c_68 => ?_) (fun c_68 => ?_)
        · have t_68 : iM_variables_x53.toInt < 8 := toI_lt c_68 rfl (by decide : (8 : Int32).toInt = 8)
          refine lv_iload hx hb dX10_doVar_84 (lv_at hl 7 rfl) ?_
          refine W.cut (pc := 100) (fun H locs ls stk => ∃ (iT_fault_j12 : Int32) (iT_place_j12 : Int32) (iM_cases_j12 : Int32), (0 ≤ iM_cases_j12.toInt ∧ iM_cases_j12.toInt ≤ 200000) ∧ (iM_cases_j12.toInt ≤ 64) ∧  stk = [] ∧ va_P (dC, dI) vwCl (WL hL aL kL hT hM (.ref dF_tree) iL_names gL_key fL_kind fL_one fL_two fL_base iL_params fL_paramOver dL_paramOver nL_params fL_paramUnder dL_paramUnder nL_pu gL_over_3 gL_under_3 fL_bound_3 iL_nameAt iL_startAt iL_steps_3 jL_scaleOver jL_scaleUnder ++ (WF hF aF kF dF_tree nF_tree fF_tree ++ (WT hT aT kT fT_tape dT_tape nT_tape iT_length iT_fault_j12 iT_place_j12 iT_kind iT_at iT_number jT_name iT_next ++ (WM hM aM kM iM_stands iM_variables_x53 iM_rows iM_goals iM_differents iM_cases_j12 fM_from_x53 fM_to_x53 fM_whole_x53 fM_ways iM_plainRows fM_plainRow fM_kept fM_goalOver fM_goalUnder fM_goalMax fM_different)))) H ∧ va_D A (WL hL aL kL hT hM (.ref dF_tree) iL_names gL_key fL_kind fL_one fL_two fL_base iL_params fL_paramOver dL_paramOver nL_params fL_paramUnder dL_paramUnder nL_pu gL_over_3 gL_under_3 fL_bound_3 iL_nameAt iL_startAt iL_steps_3 jL_scaleOver jL_scaleUnder ++ (WF hF aF kF dF_tree nF_tree fF_tree ++ (WT hT aT kT fT_tape dT_tape nT_tape iT_length iT_fault_j12 iT_place_j12 iT_kind iT_at iT_number jT_name iT_next ++ (WM hM aM kM iM_stands iM_variables_x53 iM_rows iM_goals iM_differents iM_cases_j12 fM_from_x53 fM_to_x53 fM_whole_x53 fM_ways iM_plainRows fM_plainRow fM_kept fM_goalOver fM_goalUnder fM_goalMax fM_different)))) ∧ va_S A s.heap H locs ∧ lv_has ls 9 [(7, .int l7_x53), (6, .int r4), (5, .int r2), (0, .ref (hL 0)), (1, .int p1), (2, .int p2), (3, .int p3), (4, .int p4)]) (fun join12 => ?_) ?_
          · refine lv_if_eq (tgt := 100) hx hb dX10_doVar_86 (by decide) (fun c_86 => ?_) (fun c_86 => ?_)
            · have t_86 : p4.toInt = 0 := toI_eq c_86 rfl (by decide : (0 : Int32).toInt = 0)
              have hl : lv_has _ _ ([(7, .int l7_x53), (6, .int r4), (5, .int r2), (0, .ref (hL 0)), (1, .int p1), (2, .int p2), (3, .int p3), (4, .int p4)]) := lv_sub hl [0, 1, 2, 3, 4, 5, 6, 7] rfl
              exact join12 _ _ _ _ ⟨iT_fault_x53, iT_place_x53, iM_cases_x53, (b_iM_cases_x53), (show iM_cases_x53.toInt ≤ 64 from by omega), rfl, hP, hD, hS, hl⟩
            · have t_86 : ¬ p4.toInt = 0 := toI_neq c_86 rfl (by decide : (0 : Int32).toInt = 0)
              refine lv_aload_n hx hb dX10_doVar_89 rfl (lv_at hl 3 rfl) ?_
              refine lv_iload hx hb dX10_doVar_90 (lv_at hl 1 rfl) ?_
              refine lv_iload hx hb dX10_doVar_92 (lv_at hl 2 rfl) ?_
              refine lv_isub hx hb dX10_doVar_94 ?_
              refine lv_topi (fun y72 hy72 => ?_)
              obtain rfl : (iI (r4.toInt - r2.toInt)) = y72 := (hy72.trans (iI_sub2 (iI_of _) (iI_of _))).symm
              refine lv_iconst (v := 1) hx hb dX10_doVar_95 (by decide) ?_
              refine lv_iadd hx hb dX10_doVar_96 ?_
              refine lv_topi (fun y73 hy73 => ?_)
              obtain rfl : (iI ((r4.toInt - r2.toInt) + 1)) = y73 := (hy73.trans (iI_add2 rfl (by decide : (1 : Int32) = iI 1))).symm
              refine W.known (fun hz0 _ => ?_)
              have p9 := cj_4_0_2_3 (WL hL aL kL hT hM (.ref dF_tree) iL_names gL_key fL_kind fL_one fL_two fL_base iL_params fL_paramOver dL_paramOver nL_params fL_paramUnder dL_paramUnder nL_pu gL_over_3 gL_under_3 fL_bound_3 iL_nameAt iL_startAt iL_steps_3 jL_scaleOver jL_scaleUnder) (WF hF aF kF dF_tree nF_tree fF_tree) (WT hT aT kT fT_tape dT_tape nT_tape iT_length iT_fault_x53 iT_place_x53 iT_kind iT_at iT_number jT_name iT_next) (WM hM aM kM iM_stands iM_variables_x53 iM_rows iM_goals iM_differents iM_cases_x53 fM_from_x53 fM_to_x53 fM_whole_x53 fM_ways iM_plainRows fM_plainRow fM_kept fM_goalOver fM_goalUnder fM_goalMax fM_different)
              have hPc := hP.mem (fun q h => p9.mem_iff.mpr (List.mem_append_left _ h))
              have hDc := (hD.perm p9).left
              have hKc : va_K (dC, dI) vwCl (tL kL ++ (tT kT ++ (tM kM))) _ := hK.sub [0, 1, 2, 3, 4, 5, 6, 7, 8, 9, 11, 12, 13, 14, 15, 16, 17, 18, 19, 20, 21] rfl
              have hFc := freeG p9 hD hS hA
              refine vx_callv (vx_runV (As := [.int (iI ((r4.toInt - r2.toInt) + 1))]) (rest := []) ⟨hx, hb, hml, hown, hts⟩ (m_X10_multiplyCases l hst dC dI hL aL kL hT hM (.ref dF_tree) iL_names gL_key fL_kind fL_one fL_two fL_base iL_params fL_paramOver dL_paramOver nL_params fL_paramUnder dL_paramUnder nL_pu gL_over_3 gL_under_3 fL_bound_3 iL_nameAt iL_startAt iL_steps_3 jL_scaleOver jL_scaleUnder aT kT fT_tape dT_tape nT_tape iT_length iT_fault_x53 iT_place_x53 iT_kind iT_at iT_number jT_name iT_next aM kM iM_stands iM_variables_x53 iM_rows iM_goals iM_differents iM_cases_x53 fM_from_x53 fM_to_x53 fM_whole_x53 fM_ways iM_plainRows fM_plainRow fM_kept fM_goalOver fM_goalUnder fM_goalMax fM_different (iI ((r4.toInt - r2.toInt) + 1)) (b_iL_names) b_fL_kind b_fL_two b_fL_base (b_iL_params) (by first | exact b_nL_params | with_reducible assumption | exact ⟨by omega, by omega⟩ | assumption) (by first | with_reducible assumption | omega | (rw [iI_t (by omega) (by omega)]; omega) | assumption) (by first | with_reducible assumption | omega | (rw [iI_t (by omega) (by omega)]; omega) | assumption) (by first | with_reducible assumption | omega | (rw [iI_t (by omega) (by omega)]; omega) | assumption) b_fT_tape (by first | exact b_nT_tape | with_reducible assumption | exact ⟨by omega, by omega⟩ | assumption) (b_iT_length) (b_iT_at) (b_iT_number) (b_iT_next) (by first | with_reducible assumption | omega | assumption) (b_iM_stands) (b_iM_variables_x53) (b_iM_rows) (b_iM_goals) (b_iM_differents) (b_iM_cases_x53) b_fM_ways (b_iM_plainRows) b_fM_plainRow (by first | with_reducible assumption | omega | assumption) (iI_rng (by omega) (by omega) (by decide) (by decide)) (by first | with_reducible assumption | omega | (rw [iI_t (by omega) (by omega)]; omega) | decide | assumption) H.size) (cwV 1 hts gwsMX10_doVar_3 rfl rfl rfl hd_yX10_multiplyCases_RX10 (by decide +kernel)) (fz_preE (va_recv hK hP (ci := 10) (q0 := 0) rfl rfl) hPc hKc hDc (fun a U g mk qE => qE.call) (fun U hU9 hW => by rw [hU9]; exact (((hE : CE A s s.heap).kept hS.2.1).narrow (fun q h => hFc q h)).warm hW)) rfl rfl hl.1 rfl (lv_room (Nat.le_of_ble_eq_true rfl)) dX10_doVar_97 (by decide +kernel)) hS (fun q _ h => hFc q h) hFc (fun q _ h => hFc q h) (fun E ce q9 u t9_ H locs ht hvm hw9 hB9 hz1 hk1 hS hc1 hc2 hc3 => ?_) (fun u t9_ H locs ht hvm hw9 hB9 hz1 hk1 hS => ?_)
              · revert u hw9 hB9
                refine fz_p3 ?_
                intro iT_fault_74 iT_place_74 iM_cases_74 hw9 hB9
                try dsimp only at hw9 hB9
                revert hB9
                refine fz_a2 ?_
                intro hEx hB9
                have b_iM_cases_74 := hw9
                try dsimp only at b_iM_cases_74
                have p8 := cj_4_0_2_3 (WL hL aL kL hT hM (.ref dF_tree) iL_names gL_key fL_kind fL_one fL_two fL_base iL_params fL_paramOver dL_paramOver nL_params fL_paramUnder dL_paramUnder nL_pu gL_over_3 gL_under_3 fL_bound_3 iL_nameAt iL_startAt iL_steps_3 jL_scaleOver jL_scaleUnder) (WF hF aF kF dF_tree nF_tree fF_tree) (WT hT aT kT fT_tape dT_tape nT_tape iT_length iT_fault_74 iT_place_74 iT_kind iT_at iT_number jT_name iT_next) (WM hM aM kM iM_stands iM_variables_x53 iM_rows iM_goals iM_differents iM_cases_74 fM_from_x53 fM_to_x53 fM_whole_x53 fM_ways iM_plainRows fM_plainRow fM_kept fM_goalOver fM_goalUnder fM_goalMax fM_different)
                obtain ⟨hP, hD⟩ := frameG p9 p8 hP hD hk1 hFc (fz_P ht hB9.1) hB9.2
                exact vx_out (fun x hx9 => (htab x hx9).elim) hlocks hc1 hc2 hc3 (fun t9_ ht hvm => ⟨(gL_over_3, gL_under_3, fL_bound_3, iL_steps_3, iT_fault_74, iT_place_74, iM_variables_x53, iM_cases_74, fM_from_x53, fM_to_x53, fM_whole_x53), ⟨(b_iM_variables_x53), (by first | exact b_iM_cases_74 | with_reducible assumption | exact ⟨by omega, by omega⟩ | assumption)⟩, ⟨(by have h9 := hEx; exact h9), by rw [ht]; exact hP, hD⟩, hS.F ht⟩) hS.2.2 (by decide +kernel) (by decide +kernel)
              revert u hw9 hB9
              refine fz_p3 ?_
              intro iT_fault_74 iT_place_74 iM_cases_74 hw9 hB9
              try dsimp only at hw9 hB9
              revert hw9
              refine fz_a2 ?_
              intro b_iM_cases_74 f74_0
              have hz8 := hB9.2.2
              rw [ht] at hz8
              have hz9 : H.size ≤ s.heap.size + 0 := by rw [hz8]; exact hz0
              refine W.tight (cells2 := 0) (slots2 := 0) hz9 (nS_0 hz9) ?_
              clear hz8 hz9
              have p8 := cj_4_0_2_3 (WL hL aL kL hT hM (.ref dF_tree) iL_names gL_key fL_kind fL_one fL_two fL_base iL_params fL_paramOver dL_paramOver nL_params fL_paramUnder dL_paramUnder nL_pu gL_over_3 gL_under_3 fL_bound_3 iL_nameAt iL_startAt iL_steps_3 jL_scaleOver jL_scaleUnder) (WF hF aF kF dF_tree nF_tree fF_tree) (WT hT aT kT fT_tape dT_tape nT_tape iT_length iT_fault_74 iT_place_74 iT_kind iT_at iT_number jT_name iT_next) (WM hM aM kM iM_stands iM_variables_x53 iM_rows iM_goals iM_differents iM_cases_74 fM_from_x53 fM_to_x53 fM_whole_x53 fM_ways iM_plainRows fM_plainRow fM_kept fM_goalOver fM_goalUnder fM_goalMax fM_different)
              obtain ⟨hP, hD⟩ := frameG p9 p8 hP hD hk1 hFc (fz_P ht hB9.1) hB9.2.1
              have hl : lv_has _ _ ([(7, .int l7_x53), (6, .int r4), (5, .int r2), (0, .ref (hL 0)), (1, .int p1), (2, .int p2), (3, .int p3), (4, .int p4)]) := lv_sub hl [0, 1, 2, 3, 4, 5, 6, 7] rfl
              exact join12 _ _ _ _ ⟨iT_fault_74, iT_place_74, iM_cases_74, (b_iM_cases_74), (show iM_cases_74.toInt ≤ 64 from by omega), rfl, hP, hD, hS, hl⟩
          · rintro H locs ls stk ⟨iT_fault_j12, iT_place_j12, iM_cases_j12, b_iM_cases_j12, hjc, rfl, hP, hD, hS, hl⟩
            refine lv_aload_n hx hb dX10_doVar_100 rfl (lv_at hl 3 rfl) ?_
            refine va_get (D := (dC, dI)) (ci := 10) (v := .ref (hM 0)) (C := RX10) (T := TX10) (N := 20) hx hb hts iwsMX10_doVar_in10 hown hK hP 0 rfl rfl 1 (by decide) (hts _ hm_m_X10_doVar_0) (fun _ h9 => h9) rfl dX10_doVar_101 ?_
            refine va_get (D := (dC, dI)) (ci := 1) (v := .int iM_variables_x53) (C := RX1) (T := TX1) (N := 17) hx hb hts iwsMX10_doVar_in1 hown hK hP 14 rfl rfl 1 (by decide) (hts _ hm_m_X10_doVar_1) (fun _ h9 => h9) rfl dX10_doVar_104 ?_
            refine lv_istore hx hb dX10_doVar_107 hl (by decide) rfl (fun ls (hl : lv_has ls _ ([(8, .int iM_variables_x53), (7, .int l7_x53), (6, .int r4), (5, .int r2), (0, .ref (hL 0)), (1, .int p1), (2, .int p2), (3, .int p3), (4, .int p4)])) => ?_)
            refine lv_aload_n hx hb dX10_doVar_109 rfl (lv_at hl 4 rfl) ?_
            refine va_get (D := (dC, dI)) (ci := 10) (v := .ref (hM 0)) (C := RX10) (T := TX10) (N := 20) hx hb hts iwsMX10_doVar_in10 hown hK hP 0 rfl rfl 1 (by decide) (hts _ hm_m_X10_doVar_0) (fun _ h9 => h9) rfl dX10_doVar_110 ?_
            refine va_get (D := (dC, dI)) (ci := 1) (v := .ref (aM 0)) (C := RX1) (T := TX1) (N := 17) hx hb hts iwsMX10_doVar_in1 hown hK hP 14 rfl rfl 6 (by decide) (hts (.fieldLink RX10 100 "OptimaWorks$Model" "from" "[I") (by decide +kernel)) (fun _ h9 => h9) rfl dX10_doVar_113 ?_
            refine lv_iload hx hb dX10_doVar_116 (lv_at hl 0 rfl) ?_
            refine lv_iload hx hb dX10_doVar_118 (lv_at hl 3 rfl) ?_
            refine va_iast (cA := kM 0) (n := 8) (f := fM_from_x53) hx hb hK hP hD hS 15 12 rfl rfl (vp_in_iff.mpr ⟨b_iM_variables_x53.1, (by omega)⟩) dX10_doVar_120 (fun H locs hP hD hS => ?_)
            obtain ⟨u75, hu75⟩ : ∃ f9, f9 = upd fM_from_x53 (iM_variables_x53).toNatClampNeg r2 := ⟨_, rfl⟩
            have hP : va_P (dC, dI) vwCl (WL hL aL kL hT hM (.ref dF_tree) iL_names gL_key fL_kind fL_one fL_two fL_base iL_params fL_paramOver dL_paramOver nL_params fL_paramUnder dL_paramUnder nL_pu gL_over_3 gL_under_3 fL_bound_3 iL_nameAt iL_startAt iL_steps_3 jL_scaleOver jL_scaleUnder ++ (WF hF aF kF dF_tree nF_tree fF_tree ++ (WT hT aT kT fT_tape dT_tape nT_tape iT_length iT_fault_j12 iT_place_j12 iT_kind iT_at iT_number jT_name iT_next ++ (WM hM aM kM iM_stands iM_variables_x53 iM_rows iM_goals iM_differents iM_cases_j12 u75 fM_to_x53 fM_whole_x53 fM_ways iM_plainRows fM_plainRow fM_kept fM_goalOver fM_goalUnder fM_goalMax fM_different)))) H := by rw [hu75]; exact hP
            have hD : va_D A (WL hL aL kL hT hM (.ref dF_tree) iL_names gL_key fL_kind fL_one fL_two fL_base iL_params fL_paramOver dL_paramOver nL_params fL_paramUnder dL_paramUnder nL_pu gL_over_3 gL_under_3 fL_bound_3 iL_nameAt iL_startAt iL_steps_3 jL_scaleOver jL_scaleUnder ++ (WF hF aF kF dF_tree nF_tree fF_tree ++ (WT hT aT kT fT_tape dT_tape nT_tape iT_length iT_fault_j12 iT_place_j12 iT_kind iT_at iT_number jT_name iT_next ++ (WM hM aM kM iM_stands iM_variables_x53 iM_rows iM_goals iM_differents iM_cases_j12 u75 fM_to_x53 fM_whole_x53 fM_ways iM_plainRows fM_plainRow fM_kept fM_goalOver fM_goalUnder fM_goalMax fM_different)))) := by rw [hu75]; exact hD
            clear hu75
            refine lv_aload_n hx hb dX10_doVar_121 rfl (lv_at hl 4 rfl) ?_
            refine va_get (D := (dC, dI)) (ci := 10) (v := .ref (hM 0)) (C := RX10) (T := TX10) (N := 20) hx hb hts iwsMX10_doVar_in10 hown hK hP 0 rfl rfl 1 (by decide) (hts _ hm_m_X10_doVar_0) (fun _ h9 => h9) rfl dX10_doVar_122 ?_
            refine va_get (D := (dC, dI)) (ci := 1) (v := .ref (aM 1)) (C := RX1) (T := TX1) (N := 17) hx hb hts iwsMX10_doVar_in1 hown hK hP 14 rfl rfl 7 (by decide) (hts (.fieldLink RX10 103 "OptimaWorks$Model" "to" "[I") (by decide +kernel)) (fun _ h9 => h9) rfl dX10_doVar_125 ?_
            refine lv_iload hx hb dX10_doVar_128 (lv_at hl 0 rfl) ?_
            refine lv_iload hx hb dX10_doVar_130 (lv_at hl 2 rfl) ?_
            refine va_iast (cA := kM 1) (n := 8) (f := fM_to_x53) hx hb hK hP hD hS 16 13 rfl rfl (vp_in_iff.mpr ⟨b_iM_variables_x53.1, (by omega)⟩) dX10_doVar_132 (fun H locs hP hD hS => ?_)
            obtain ⟨u76, hu76⟩ : ∃ f9, f9 = upd fM_to_x53 (iM_variables_x53).toNatClampNeg r4 := ⟨_, rfl⟩
            have hP : va_P (dC, dI) vwCl (WL hL aL kL hT hM (.ref dF_tree) iL_names gL_key fL_kind fL_one fL_two fL_base iL_params fL_paramOver dL_paramOver nL_params fL_paramUnder dL_paramUnder nL_pu gL_over_3 gL_under_3 fL_bound_3 iL_nameAt iL_startAt iL_steps_3 jL_scaleOver jL_scaleUnder ++ (WF hF aF kF dF_tree nF_tree fF_tree ++ (WT hT aT kT fT_tape dT_tape nT_tape iT_length iT_fault_j12 iT_place_j12 iT_kind iT_at iT_number jT_name iT_next ++ (WM hM aM kM iM_stands iM_variables_x53 iM_rows iM_goals iM_differents iM_cases_j12 u75 u76 fM_whole_x53 fM_ways iM_plainRows fM_plainRow fM_kept fM_goalOver fM_goalUnder fM_goalMax fM_different)))) H := by rw [hu76]; exact hP
            have hD : va_D A (WL hL aL kL hT hM (.ref dF_tree) iL_names gL_key fL_kind fL_one fL_two fL_base iL_params fL_paramOver dL_paramOver nL_params fL_paramUnder dL_paramUnder nL_pu gL_over_3 gL_under_3 fL_bound_3 iL_nameAt iL_startAt iL_steps_3 jL_scaleOver jL_scaleUnder ++ (WF hF aF kF dF_tree nF_tree fF_tree ++ (WT hT aT kT fT_tape dT_tape nT_tape iT_length iT_fault_j12 iT_place_j12 iT_kind iT_at iT_number jT_name iT_next ++ (WM hM aM kM iM_stands iM_variables_x53 iM_rows iM_goals iM_differents iM_cases_j12 u75 u76 fM_whole_x53 fM_ways iM_plainRows fM_plainRow fM_kept fM_goalOver fM_goalUnder fM_goalMax fM_different)))) := by rw [hu76]; exact hD
            clear hu76
            refine lv_aload_n hx hb dX10_doVar_133 rfl (lv_at hl 4 rfl) ?_
            refine va_get (D := (dC, dI)) (ci := 10) (v := .ref (hM 0)) (C := RX10) (T := TX10) (N := 20) hx hb hts iwsMX10_doVar_in10 hown hK hP 0 rfl rfl 1 (by decide) (hts _ hm_m_X10_doVar_0) (fun _ h9 => h9) rfl dX10_doVar_134 ?_
            refine va_get (D := (dC, dI)) (ci := 1) (v := .ref (aM 2)) (C := RX1) (T := TX1) (N := 17) hx hb hts iwsMX10_doVar_in1 hown hK hP 14 rfl rfl 8 (by decide) (hts (.fieldLink RX10 106 "OptimaWorks$Model" "whole" "[Z") (by decide +kernel)) (fun _ h9 => h9) rfl dX10_doVar_137 ?_
            refine lv_iload hx hb dX10_doVar_140 (lv_at hl 0 rfl) ?_
            refine lv_iload hx hb dX10_doVar_142 (lv_at hl 8 rfl) ?_
            refine va_zast (cA := kM 2) (n := 8) (f := fM_whole_x53) hx hb hK hP hD hS 17 14 rfl rfl (vp_in_iff.mpr ⟨b_iM_variables_x53.1, (by omega)⟩) dX10_doVar_144 (fun H locs hP hD hS => ?_)
            obtain ⟨u77, hu77⟩ : ∃ f9, f9 = upd fM_whole_x53 (iM_variables_x53).toNatClampNeg (vp_nar FieldType.boolean p4) := ⟨_, rfl⟩
            have hP : va_P (dC, dI) vwCl (WL hL aL kL hT hM (.ref dF_tree) iL_names gL_key fL_kind fL_one fL_two fL_base iL_params fL_paramOver dL_paramOver nL_params fL_paramUnder dL_paramUnder nL_pu gL_over_3 gL_under_3 fL_bound_3 iL_nameAt iL_startAt iL_steps_3 jL_scaleOver jL_scaleUnder ++ (WF hF aF kF dF_tree nF_tree fF_tree ++ (WT hT aT kT fT_tape dT_tape nT_tape iT_length iT_fault_j12 iT_place_j12 iT_kind iT_at iT_number jT_name iT_next ++ (WM hM aM kM iM_stands iM_variables_x53 iM_rows iM_goals iM_differents iM_cases_j12 u75 u76 u77 fM_ways iM_plainRows fM_plainRow fM_kept fM_goalOver fM_goalUnder fM_goalMax fM_different)))) H := by rw [hu77]; exact hP
            have hD : va_D A (WL hL aL kL hT hM (.ref dF_tree) iL_names gL_key fL_kind fL_one fL_two fL_base iL_params fL_paramOver dL_paramOver nL_params fL_paramUnder dL_paramUnder nL_pu gL_over_3 gL_under_3 fL_bound_3 iL_nameAt iL_startAt iL_steps_3 jL_scaleOver jL_scaleUnder ++ (WF hF aF kF dF_tree nF_tree fF_tree ++ (WT hT aT kT fT_tape dT_tape nT_tape iT_length iT_fault_j12 iT_place_j12 iT_kind iT_at iT_number jT_name iT_next ++ (WM hM aM kM iM_stands iM_variables_x53 iM_rows iM_goals iM_differents iM_cases_j12 u75 u76 u77 fM_ways iM_plainRows fM_plainRow fM_kept fM_goalOver fM_goalUnder fM_goalMax fM_different)))) := by rw [hu77]; exact hD
            clear hu77
            refine lv_aload_n hx hb dX10_doVar_145 rfl (lv_at hl 4 rfl) ?_
            refine va_get (D := (dC, dI)) (ci := 10) (v := .ref (hM 0)) (C := RX10) (T := TX10) (N := 20) hx hb hts iwsMX10_doVar_in10 hown hK hP 0 rfl rfl 1 (by decide) (hts _ hm_m_X10_doVar_0) (fun _ h9 => h9) rfl dX10_doVar_146 ?_
            refine lv_dup hx hb dX10_doVar_149 rfl ?_
            refine va_get (D := (dC, dI)) (ci := 1) (v := .int iM_variables_x53) (C := RX1) (T := TX1) (N := 17) hx hb hts iwsMX10_doVar_in1 hown hK hP 14 rfl rfl 1 (by decide) (hts _ hm_m_X10_doVar_1) (fun _ h9 => h9) rfl dX10_doVar_150 ?_
            refine lv_iconst (v := 1) hx hb dX10_doVar_153 (by decide) ?_
            refine lv_iadd hx hb dX10_doVar_154 ?_
            refine lv_topi (fun y78 hy78 => ?_)
            obtain rfl : (iI (iM_variables_x53.toInt + 1)) = y78 := (hy78.trans (iI_add2 (iI_of _) (by decide : (1 : Int32) = iI 1))).symm
            refine va_put (D := (dC, dI)) (ci := 1) (v := .int (iI (iM_variables_x53.toInt + 1))) (ty := .int) (C := RX1) (T := TX1) (N := 17) hx hb hts iwsMX10_doVar_in1 tyX1 tyX1_ok nmX1 hown hK hP hD hS 14 rfl rfl 1 (by decide) (hts _ hm_m_X10_doVar_1) (fun _ h9 => h9) rfl (by decide +kernel) rfl rfl (Nat.le_of_ble_eq_true rfl) dX10_doVar_155 (fun H locs hP hD hS => ?_)
            have hP : va_P (dC, dI) vwCl (WL hL aL kL hT hM (.ref dF_tree) iL_names gL_key fL_kind fL_one fL_two fL_base iL_params fL_paramOver dL_paramOver nL_params fL_paramUnder dL_paramUnder nL_pu gL_over_3 gL_under_3 fL_bound_3 iL_nameAt iL_startAt iL_steps_3 jL_scaleOver jL_scaleUnder ++ (WF hF aF kF dF_tree nF_tree fF_tree ++ (WT hT aT kT fT_tape dT_tape nT_tape iT_length iT_fault_j12 iT_place_j12 iT_kind iT_at iT_number jT_name iT_next ++ (WM hM aM kM iM_stands (iI (iM_variables_x53.toInt + 1)) iM_rows iM_goals iM_differents iM_cases_j12 u75 u76 u77 fM_ways iM_plainRows fM_plainRow fM_kept fM_goalOver fM_goalUnder fM_goalMax fM_different)))) H := hP
            have hD := fz_sd hP (hD) rfl
            refine lv_iinc (v := (iI (l7_x53.toInt + 1))) hx hb dX10_doVar_158 hl (k := 1) rfl (iI_add2 (iI_of _) (by decide : (1 : Int32) = iI 1)) (by decide) rfl (fun ls (hl : lv_has ls _ ([(7, .int (iI (l7_x53.toInt + 1))), (8, .int iM_variables_x53), (6, .int r4), (5, .int r2), (0, .ref (hL 0)), (1, .int p1), (2, .int p2), (3, .int p3), (4, .int p4)])) => ?_)
            refine lv_goto (tgt := 53) hx hb dX10_doVar_161 (by decide) ?_
            have hl : lv_has _ _ ([(7, .int (iI (l7_x53.toInt + 1))), (6, .int r4), (5, .int r2), (0, .ref (hL 0)), (1, .int p1), (2, .int p2), (3, .int p3), (4, .int p4)]) := lv_sub hl [0, 2, 3, 4, 5, 6, 7, 8] rfl
            exact ihx53 iT_fault_j12 iT_place_j12 (iI (iM_variables_x53.toInt + 1)) iM_cases_j12 u75 u76 u77 (iI (l7_x53.toInt + 1)) _ _ _ (iI_rng (Int.le_trans (by decide) (Int.add_le_add (b_iM_variables_x53.1) (Int.le_refl _))) (by omega) (by decide) (by decide)) (b_iM_cases_j12) (iI_rng (Int.le_trans (by decide) (Int.add_le_add (b_l7_x53.1) (Int.le_refl _))) (by omega) (by decide) (by decide)) (show (iI (iM_variables_x53.toInt + 1)).toInt = iM_variables.toInt + (iI (l7_x53.toInt + 1)).toInt from by rw [iI_t (by omega) (by omega), iI_t (by omega) (by omega)]; omega) (show iM_cases_j12.toInt ≤ 64 from by omega) (show (iI (l7_x53.toInt + 1)).toInt ≤ p3.toInt from by rw [iI_t (by omega) (by omega)]; omega) (by have e9 : ((iI (l7_x53.toInt + 1))).toInt = (l7_x53.toInt + 1) := (iI_t (Int.le_trans (by decide) (Int.add_le_add (b_l7_x53.1) (Int.le_refl _))) (Int.le_trans (Int.add_le_add (b_l7_x53.2) (Int.le_refl _)) (by decide))); omega) hP hD hS hl
        · have t_68 : ¬ iM_variables_x53.toInt < 8 := toI_nlt c_68 rfl (by decide : (8 : Int32).toInt = 8)
          refine lv_aload_n hx hb dX10_doVar_71 rfl (lv_at hl 3 rfl) ?_
          refine va_get (D := (dC, dI)) (ci := 10) (v := .ref (hT 0)) (C := RX10) (T := TX10) (N := 20) hx hb hts iwsMX10_doVar_in10 hown hK hP 0 rfl rfl 0 (by decide) (hts _ hm_m_X10_doVar_2) (fun _ h9 => h9) rfl dX10_doVar_72 ?_
          refine lv_bipush (v := 11) hx hb dX10_doVar_75 (by decide) ?_
          refine lv_aload_n hx hb dX10_doVar_77 rfl (lv_at hl 3 rfl) ?_
          refine va_get (D := (dC, dI)) (ci := 10) (v := .int iL_nameAt) (C := RX10) (T := TX10) (N := 20) hx hb hts iwsMX10_doVar_in10 hown hK hP 0 rfl rfl 15 (by decide) (hts (.fieldLink RX10 74 "OptimaWorks$Worker" "nameAt" "I") (by decide +kernel)) (fun _ h9 => h9) rfl dX10_doVar_78 ?_
          have p9 := cj_4_2 (WL hL aL kL hT hM (.ref dF_tree) iL_names gL_key fL_kind fL_one fL_two fL_base iL_params fL_paramOver dL_paramOver nL_params fL_paramUnder dL_paramUnder nL_pu gL_over_3 gL_under_3 fL_bound_3 iL_nameAt iL_startAt iL_steps_3 jL_scaleOver jL_scaleUnder) (WF hF aF kF dF_tree nF_tree fF_tree) (WT hT aT kT fT_tape dT_tape nT_tape iT_length iT_fault_x53 iT_place_x53 iT_kind iT_at iT_number jT_name iT_next) (WM hM aM kM iM_stands iM_variables_x53 iM_rows iM_goals iM_differents iM_cases_x53 fM_from_x53 fM_to_x53 fM_whole_x53 fM_ways iM_plainRows fM_plainRow fM_kept fM_goalOver fM_goalUnder fM_goalMax fM_different)
          have hPc := hP.mem (fun q h => p9.mem_iff.mpr (List.mem_append_left _ h))
          have hDc := (hD.perm p9).left
          have hKc : va_K (dC, dI) vwCl (tT kT) _ := hK.sub [11] rfl
          have hFc := freeG p9 hD hS hA
          refine vx_callv (vx_runV (As := [.int 11, .int iL_nameAt]) (rest := []) ⟨hx, hb, hml, hown, hts⟩ (m_X9_fail l hst dC dI hT aT kT fT_tape dT_tape nT_tape iT_length iT_fault_x53 iT_place_x53 iT_kind iT_at iT_number jT_name iT_next 11 iL_nameAt b_fT_tape (by first | exact b_nT_tape | with_reducible assumption | exact ⟨by omega, by omega⟩ | assumption) (b_iT_length) (b_iT_at) (b_iT_number) (b_iT_next) (by first | with_reducible assumption | omega | assumption) H.size) (cwV 2 hts gwsMX10_doVar_2 rfl rfl rfl hd_yX9_fail_RX9 (by decide +kernel)) (fz_preE (va_recv hK hP (ci := 9) (q0 := 12) rfl rfl) hPc hKc hDc (fun a U g mk qE => qE.call) (fun U hU9 hW => by rw [hU9]; exact (((hE : CE A s s.heap).kept hS.2.1).narrow (fun q h => hFc q h)).warm hW)) rfl rfl hl.1 rfl (lv_room (Nat.le_of_ble_eq_true rfl)) dX10_doVar_81 (by decide +kernel)) hS (fun q _ h => hFc q h) hFc (fun q _ h => hFc q h) (fun E ce q9 u t9_ H locs ht hvm hw9 hB9 hz1 hk1 hS hc1 hc2 hc3 => ?_) (fun u t9_ H1 locs ht hvm hw9 hB9 hz1 hk1 hS => ?_)
          · revert u hw9 hB9
            refine fz_p2 ?_
            intro iT_fault_79 iT_place_79 hw9 hB9
            try dsimp only at hw9 hB9
            revert hB9
            refine fz_a2 ?_
            intro hEx hB9
            clear hw9
            have p8 := cj_4_2 (WL hL aL kL hT hM (.ref dF_tree) iL_names gL_key fL_kind fL_one fL_two fL_base iL_params fL_paramOver dL_paramOver nL_params fL_paramUnder dL_paramUnder nL_pu gL_over_3 gL_under_3 fL_bound_3 iL_nameAt iL_startAt iL_steps_3 jL_scaleOver jL_scaleUnder) (WF hF aF kF dF_tree nF_tree fF_tree) (WT hT aT kT fT_tape dT_tape nT_tape iT_length iT_fault_79 iT_place_79 iT_kind iT_at iT_number jT_name iT_next) (WM hM aM kM iM_stands iM_variables_x53 iM_rows iM_goals iM_differents iM_cases_x53 fM_from_x53 fM_to_x53 fM_whole_x53 fM_ways iM_plainRows fM_plainRow fM_kept fM_goalOver fM_goalUnder fM_goalMax fM_different)
            obtain ⟨hP, hD⟩ := frameG p9 p8 hP hD hk1 hFc (fz_P ht hB9.1) hB9.2
            exact vx_out (fun x hx9 => (htab x hx9).elim) hlocks hc1 hc2 hc3 (fun t9_ ht hvm => ⟨(gL_over_3, gL_under_3, fL_bound_3, iL_steps_3, iT_fault_79, iT_place_79, iM_variables_x53, iM_cases_x53, fM_from_x53, fM_to_x53, fM_whole_x53), ⟨(b_iM_variables_x53), (b_iM_cases_x53)⟩, ⟨(by have h9 := hEx; exact h9), by rw [ht]; exact hP, hD⟩, hS.F ht⟩) hS.2.2 (by decide +kernel) (by decide +kernel)
          exact False.elim hw9
  · have t_30 : ¬ r4.toInt ≥ r2.toInt := toI_nge c_30 rfl rfl
    refine lv_aload_n hx hb dX10_doVar_33 rfl (lv_at hl 2 rfl) ?_
    refine va_get (D := (dC, dI)) (ci := 10) (v := .ref (hT 0)) (C := RX10) (T := TX10) (N := 20) hx hb hts iwsMX10_doVar_in10 hown hK hP 0 rfl rfl 0 (by decide) (hts _ hm_m_X10_doVar_2) (fun _ h9 => h9) rfl dX10_doVar_34 ?_
    refine lv_bipush (v := 9) hx hb dX10_doVar_37 (by decide) ?_
    refine lv_aload_n hx hb dX10_doVar_39 rfl (lv_at hl 2 rfl) ?_
    refine va_get (D := (dC, dI)) (ci := 10) (v := .ref dF_tree) (C := RX10) (T := TX10) (N := 20) hx hb hts iwsMX10_doVar_in10 hown hK hP 0 rfl rfl 2 (by decide) (hts (.fieldLink RX10 55 "OptimaWorks$Worker" "tree" "[I") (by decide +kernel)) (fun _ h9 => h9) rfl dX10_doVar_40 ?_
    refine lv_iload_n hx hb dX10_doVar_43 rfl (lv_at hl 4 rfl) ?_
    refine lv_iconst (v := 1) hx hb dX10_doVar_44 (by decide) ?_
    refine lv_iadd hx hb dX10_doVar_45 ?_
    refine lv_topi (fun y80 hy80 => ?_)
    obtain rfl : (iI (p2.toInt + 1)) = y80 := (hy80.trans (iI_add2 (iI_of _) (by decide : (1 : Int32) = iI 1))).symm
    refine va_iald (cA := kF 0) (n := nF_tree) (f := fF_tree) hx hb hK hP 11 10 rfl rfl (vp_iI (by omega) (by omega) (by omega)) dX10_doVar_46 ?_
    refine lv_topi (fun v81 hv81 => ?_)
    have b_v81 : v81.toInt = twL fF_tree (p2.toInt + 1) := by rw [hv81]; exact tw_i (by omega) (by omega)
    clear hv81
    have p9 := cj_4_2 (WL hL aL kL hT hM (.ref dF_tree) iL_names gL_key fL_kind fL_one fL_two fL_base iL_params fL_paramOver dL_paramOver nL_params fL_paramUnder dL_paramUnder nL_pu gL_over_3 gL_under_3 fL_bound_3 iL_nameAt iL_startAt iL_steps_3 jL_scaleOver jL_scaleUnder) (WF hF aF kF dF_tree nF_tree fF_tree) (WT hT aT kT fT_tape dT_tape nT_tape iT_length iT_fault_4 iT_place_4 iT_kind iT_at iT_number jT_name iT_next) (WM hM aM kM iM_stands iM_variables iM_rows iM_goals iM_differents iM_cases fM_from fM_to fM_whole fM_ways iM_plainRows fM_plainRow fM_kept fM_goalOver fM_goalUnder fM_goalMax fM_different)
    have hPc := hP.mem (fun q h => p9.mem_iff.mpr (List.mem_append_left _ h))
    have hDc := (hD.perm p9).left
    have hKc : va_K (dC, dI) vwCl (tT kT) _ := hK.sub [11] rfl
    have hFc := freeG p9 hD hS hA
    refine vx_callv (vx_runV (As := [.int 9, .int v81]) (rest := []) ⟨hx, hb, hml, hown, hts⟩ (m_X9_fail l hst dC dI hT aT kT fT_tape dT_tape nT_tape iT_length iT_fault_4 iT_place_4 iT_kind iT_at iT_number jT_name iT_next 9 v81 b_fT_tape (by first | exact b_nT_tape | with_reducible assumption | exact ⟨by omega, by omega⟩ | assumption) (b_iT_length) (b_iT_at) (b_iT_number) (b_iT_next) (by first | with_reducible assumption | omega | assumption) H.size) (cwV 2 hts gwsMX10_doVar_2 rfl rfl rfl hd_yX9_fail_RX9 (by decide +kernel)) (fz_preE (va_recv hK hP (ci := 9) (q0 := 12) rfl rfl) hPc hKc hDc (fun a U g mk qE => qE.call) (fun U hU9 hW => by rw [hU9]; exact (((hE : CE A s s.heap).kept hS.2.1).narrow (fun q h => hFc q h)).warm hW)) rfl rfl hl.1 rfl (lv_room (Nat.le_of_ble_eq_true rfl)) dX10_doVar_47 (by decide +kernel)) hS (fun q _ h => hFc q h) hFc (fun q _ h => hFc q h) (fun E ce q9 u t9_ H locs ht hvm hw9 hB9 hz1 hk1 hS hc1 hc2 hc3 => ?_) (fun u t9_ H1 locs ht hvm hw9 hB9 hz1 hk1 hS => ?_)
    · revert u hw9 hB9
      refine fz_p2 ?_
      intro iT_fault_82 iT_place_82 hw9 hB9
      try dsimp only at hw9 hB9
      revert hB9
      refine fz_a2 ?_
      intro hEx hB9
      clear hw9
      have p8 := cj_4_2 (WL hL aL kL hT hM (.ref dF_tree) iL_names gL_key fL_kind fL_one fL_two fL_base iL_params fL_paramOver dL_paramOver nL_params fL_paramUnder dL_paramUnder nL_pu gL_over_3 gL_under_3 fL_bound_3 iL_nameAt iL_startAt iL_steps_3 jL_scaleOver jL_scaleUnder) (WF hF aF kF dF_tree nF_tree fF_tree) (WT hT aT kT fT_tape dT_tape nT_tape iT_length iT_fault_82 iT_place_82 iT_kind iT_at iT_number jT_name iT_next) (WM hM aM kM iM_stands iM_variables iM_rows iM_goals iM_differents iM_cases fM_from fM_to fM_whole fM_ways iM_plainRows fM_plainRow fM_kept fM_goalOver fM_goalUnder fM_goalMax fM_different)
      obtain ⟨hP, hD⟩ := frameG p9 p8 hP hD hk1 hFc (fz_P ht hB9.1) hB9.2
      exact vx_out (fun x hx9 => (htab x hx9).elim) hlocks hc1 hc2 hc3 (fun t9_ ht hvm => ⟨(gL_over_3, gL_under_3, fL_bound_3, iL_steps_3, iT_fault_82, iT_place_82, iM_variables, iM_cases, fM_from, fM_to, fM_whole), ⟨(b_iM_variables), (b_iM_cases)⟩, ⟨(by have h9 := hEx; exact h9), by rw [ht]; exact hP, hD⟩, hS.F ht⟩) hS.2.2 (by decide +kernel) (by decide +kernel)
    exact False.elim hw9
theorem dX10_doRows_0 : decode cX10_doRows 0 = .ok (.iload_n 1, 1) := dk_27 (by decide +kernel)
theorem dX10_doRows_1 : decode cX10_doRows 1 = .ok (.ifCond .ne 7, 3) := dk_154 (by decide +kernel)
theorem dX10_doRows_4 : decode cX10_doRows 4 = .ok (.iconst 1, 1) := dk_4 (by decide +kernel)
theorem dX10_doRows_5 : decode cX10_doRows 5 = .ok (.goto 8, 3) := dk_167 (by decide +kernel)
theorem dX10_doRows_8 : decode cX10_doRows 8 = .ok (.aload_n 0, 1) := dk_42 (by decide +kernel)
theorem dX10_doRows_9 : decode cX10_doRows 9 = .ok (.iload_n 1, 1) := dk_27 (by decide +kernel)
theorem dX10_doRows_10 : decode cX10_doRows 10 = .ok (.invokevirtual 117, 3) := dk_182 (by decide +kernel)
theorem dX10_doRows_13 : decode cX10_doRows 13 = .ok (.istore 5, 2) := dk_54 (by decide +kernel)
theorem dX10_doRows_15 : decode cX10_doRows 15 = .ok (.iconst 0, 1) := dk_3 (by decide +kernel)
theorem dX10_doRows_16 : decode cX10_doRows 16 = .ok (.istore 6, 2) := dk_54 (by decide +kernel)
theorem dX10_doRows_18 : decode cX10_doRows 18 = .ok (.iload 6, 2) := dk_21 (by decide +kernel)
theorem dX10_doRows_20 : decode cX10_doRows 20 = .ok (.iload 5, 2) := dk_21 (by decide +kernel)
theorem dX10_doRows_22 : decode cX10_doRows 22 = .ok (.if_icmp .ge 154, 3) := dk_162 (by decide +kernel)
theorem dX10_doRows_25 : decode cX10_doRows 25 = .ok (.iload_n 1, 1) := dk_27 (by decide +kernel)
theorem dX10_doRows_26 : decode cX10_doRows 26 = .ok (.ifCond .eq 10, 3) := dk_153 (by decide +kernel)
theorem dX10_doRows_29 : decode cX10_doRows 29 = .ok (.aload_n 0, 1) := dk_42 (by decide +kernel)
theorem dX10_doRows_30 : decode cX10_doRows 30 = .ok (.iload_n 1, 1) := dk_27 (by decide +kernel)
theorem dX10_doRows_31 : decode cX10_doRows 31 = .ok (.iload 6, 2) := dk_21 (by decide +kernel)
theorem dX10_doRows_33 : decode cX10_doRows 33 = .ok (.invokevirtual 120, 3) := dk_182 (by decide +kernel)
theorem dX10_doRows_36 : decode cX10_doRows 36 = .ok (.iload_n 2, 1) := dk_28 (by decide +kernel)
theorem dX10_doRows_37 : decode cX10_doRows 37 = .ok (.ifCond .eq 15, 3) := dk_153 (by decide +kernel)
theorem dX10_doRows_40 : decode cX10_doRows 40 = .ok (.aload_n 0, 1) := dk_42 (by decide +kernel)
theorem dX10_doRows_41 : decode cX10_doRows 41 = .ok (.iload_n 2, 1) := dk_28 (by decide +kernel)
theorem dX10_doRows_42 : decode cX10_doRows 42 = .ok (.iconst 0, 1) := dk_3 (by decide +kernel)
theorem dX10_doRows_43 : decode cX10_doRows 43 = .ok (.invokevirtual 123, 3) := dk_182 (by decide +kernel)
theorem dX10_doRows_46 : decode cX10_doRows 46 = .ok (.ifCond .ne 6, 3) := dk_154 (by decide +kernel)
theorem dX10_doRows_49 : decode cX10_doRows 49 = .ok (.goto 121, 3) := dk_167 (by decide +kernel)
theorem dX10_doRows_52 : decode cX10_doRows 52 = .ok (.aload_n 0, 1) := dk_42 (by decide +kernel)
theorem dX10_doRows_53 : decode cX10_doRows 53 = .ok (.getfield 51, 3) := dk_180 (by decide +kernel)
theorem dX10_doRows_56 : decode cX10_doRows 56 = .ok (.getfield 127, 3) := dk_180 (by decide +kernel)
theorem dX10_doRows_59 : decode cX10_doRows 59 = .ok (.istore 7, 2) := dk_54 (by decide +kernel)
theorem dX10_doRows_61 : decode cX10_doRows 61 = .ok (.iload 7, 2) := dk_21 (by decide +kernel)
theorem dX10_doRows_63 : decode cX10_doRows 63 = .ok (.bipush 12, 2) := dk_16 (by decide +kernel)
theorem dX10_doRows_65 : decode cX10_doRows 65 = .ok (.if_icmp .lt 16, 3) := dk_161 (by decide +kernel)
theorem dX10_doRows_68 : decode cX10_doRows 68 = .ok (.aload_n 0, 1) := dk_42 (by decide +kernel)
theorem dX10_doRows_69 : decode cX10_doRows 69 = .ok (.getfield 47, 3) := dk_180 (by decide +kernel)
theorem dX10_doRows_72 : decode cX10_doRows 72 = .ok (.bipush 11, 2) := dk_16 (by decide +kernel)
theorem dX10_doRows_74 : decode cX10_doRows 74 = .ok (.aload_n 0, 1) := dk_42 (by decide +kernel)
theorem dX10_doRows_75 : decode cX10_doRows 75 = .ok (.getfield 74, 3) := dk_180 (by decide +kernel)
theorem dX10_doRows_78 : decode cX10_doRows 78 = .ok (.invokevirtual 90, 3) := dk_182 (by decide +kernel)
theorem dX10_doRows_81 : decode cX10_doRows 81 = .ok (.aload_n 0, 1) := dk_42 (by decide +kernel)
theorem dX10_doRows_82 : decode cX10_doRows 82 = .ok (.iload 4, 2) := dk_21 (by decide +kernel)
theorem dX10_doRows_84 : decode cX10_doRows 84 = .ok (.invokevirtual 96, 3) := dk_182 (by decide +kernel)
theorem dX10_doRows_87 : decode cX10_doRows 87 = .ok (.aload_n 0, 1) := dk_42 (by decide +kernel)
theorem dX10_doRows_88 : decode cX10_doRows 88 = .ok (.getfield 51, 3) := dk_180 (by decide +kernel)
theorem dX10_doRows_91 : decode cX10_doRows 91 = .ok (.iload 4, 2) := dk_21 (by decide +kernel)
theorem dX10_doRows_93 : decode cX10_doRows 93 = .ok (.invokevirtual 130, 3) := dk_182 (by decide +kernel)
theorem dX10_doRows_96 : decode cX10_doRows 96 = .ok (.iload_n 3, 1) := dk_29 (by decide +kernel)
theorem dX10_doRows_97 : decode cX10_doRows 97 = .ok (.istore 8, 2) := dk_54 (by decide +kernel)
theorem dX10_doRows_99 : decode cX10_doRows 99 = .ok (.iconst 0, 1) := dk_3 (by decide +kernel)
theorem dX10_doRows_100 : decode cX10_doRows 100 = .ok (.istore 9, 2) := dk_54 (by decide +kernel)
theorem dX10_doRows_102 : decode cX10_doRows 102 = .ok (.iload 9, 2) := dk_21 (by decide +kernel)
theorem dX10_doRows_104 : decode cX10_doRows 104 = .ok (.iload 4, 2) := dk_21 (by decide +kernel)
theorem dX10_doRows_106 : decode cX10_doRows 106 = .ok (.if_icmp .ge 64, 3) := dk_162 (by decide +kernel)
theorem dX10_doRows_109 : decode cX10_doRows 109 = .ok (.iload 8, 2) := dk_21 (by decide +kernel)
theorem dX10_doRows_111 : decode cX10_doRows 111 = .ok (.ifCond .eq 59, 3) := dk_153 (by decide +kernel)
theorem dX10_doRows_114 : decode cX10_doRows 114 = .ok (.aload_n 0, 1) := dk_42 (by decide +kernel)
theorem dX10_doRows_115 : decode cX10_doRows 115 = .ok (.aload_n 0, 1) := dk_42 (by decide +kernel)
theorem dX10_doRows_116 : decode cX10_doRows 116 = .ok (.getfield 55, 3) := dk_180 (by decide +kernel)
theorem dX10_doRows_119 : decode cX10_doRows 119 = .ok (.iload 8, 2) := dk_21 (by decide +kernel)
theorem dX10_doRows_121 : decode cX10_doRows 121 = .ok (.iconst 3, 1) := dk_6 (by decide +kernel)
theorem dX10_doRows_122 : decode cX10_doRows 122 = .ok (.iadd, 1) := dk_96 (by decide +kernel)
theorem dX10_doRows_123 : decode cX10_doRows 123 = .ok (.iaload, 1) := dk_46 (by decide +kernel)
theorem dX10_doRows_124 : decode cX10_doRows 124 = .ok (.iconst 0, 1) := dk_3 (by decide +kernel)
theorem dX10_doRows_125 : decode cX10_doRows 125 = .ok (.invokevirtual 133, 3) := dk_182 (by decide +kernel)
theorem dX10_doRows_128 : decode cX10_doRows 128 = .ok (.aload_n 0, 1) := dk_42 (by decide +kernel)
theorem dX10_doRows_129 : decode cX10_doRows 129 = .ok (.aload_n 0, 1) := dk_42 (by decide +kernel)
theorem dX10_doRows_130 : decode cX10_doRows 130 = .ok (.getfield 55, 3) := dk_180 (by decide +kernel)
theorem dX10_doRows_133 : decode cX10_doRows 133 = .ok (.iload 8, 2) := dk_21 (by decide +kernel)
theorem dX10_doRows_135 : decode cX10_doRows 135 = .ok (.iconst 4, 1) := dk_7 (by decide +kernel)
theorem dX10_doRows_136 : decode cX10_doRows 136 = .ok (.iadd, 1) := dk_96 (by decide +kernel)
theorem dX10_doRows_137 : decode cX10_doRows 137 = .ok (.iaload, 1) := dk_46 (by decide +kernel)
theorem dX10_doRows_138 : decode cX10_doRows 138 = .ok (.iconst 1, 1) := dk_4 (by decide +kernel)
theorem dX10_doRows_139 : decode cX10_doRows 139 = .ok (.invokevirtual 133, 3) := dk_182 (by decide +kernel)
theorem dX10_doRows_142 : decode cX10_doRows 142 = .ok (.aload_n 0, 1) := dk_42 (by decide +kernel)
theorem dX10_doRows_143 : decode cX10_doRows 143 = .ok (.iload 7, 2) := dk_21 (by decide +kernel)
theorem dX10_doRows_145 : decode cX10_doRows 145 = .ok (.iload 9, 2) := dk_21 (by decide +kernel)
theorem dX10_doRows_147 : decode cX10_doRows 147 = .ok (.iload 8, 2) := dk_21 (by decide +kernel)
theorem dX10_doRows_149 : decode cX10_doRows 149 = .ok (.invokevirtual 136, 3) := dk_182 (by decide +kernel)
theorem dX10_doRows_152 : decode cX10_doRows 152 = .ok (.aload_n 0, 1) := dk_42 (by decide +kernel)
theorem dX10_doRows_153 : decode cX10_doRows 153 = .ok (.getfield 55, 3) := dk_180 (by decide +kernel)
theorem dX10_doRows_156 : decode cX10_doRows 156 = .ok (.iload 8, 2) := dk_21 (by decide +kernel)
theorem dX10_doRows_158 : decode cX10_doRows 158 = .ok (.bipush 6, 2) := dk_16 (by decide +kernel)
theorem dX10_doRows_160 : decode cX10_doRows 160 = .ok (.iadd, 1) := dk_96 (by decide +kernel)
theorem dX10_doRows_161 : decode cX10_doRows 161 = .ok (.iaload, 1) := dk_46 (by decide +kernel)
theorem dX10_doRows_162 : decode cX10_doRows 162 = .ok (.istore 8, 2) := dk_54 (by decide +kernel)
theorem dX10_doRows_164 : decode cX10_doRows 164 = .ok (.iinc 9 1, 3) := dk_132 (by decide +kernel)
theorem dX10_doRows_167 : decode cX10_doRows 167 = .ok (.goto (-65), 3) := dk_167 (by decide +kernel)
theorem dX10_doRows_170 : decode cX10_doRows 170 = .ok (.iinc 6 1, 3) := dk_132 (by decide +kernel)
theorem dX10_doRows_173 : decode cX10_doRows 173 = .ok (.goto (-155), 3) := dk_167 (by decide +kernel)
theorem dX10_doRows_176 : decode cX10_doRows 176 = .ok (.return_, 1) := dk_177 (by decide +kernel)
def wsMX10_doRows : List Cond := .code yX10_doRows cX10_doRows 10 none :: ([.fieldLink RX10 51 "OptimaWorks$Worker" "model" "LOptimaWorks$Model;", .fieldLink RX10 127 "OptimaWorks$Model" "rows" "I", .fieldLink RX10 47 "OptimaWorks$Worker" "words" "LOptimaWorks$Words;", .fieldLink RX10 74 "OptimaWorks$Worker" "nameAt" "I", .fieldLink RX10 55 "OptimaWorks$Worker" "tree" "[I"] ++ wsX10 ++ wsX100 ++ (wsV RX10 117 RX10 yX10_boundMembers wsMX10_boundMembers) ++ (wsV RX10 120 RX10 yX10_bind wsMX10_bind) ++ (wsV RX10 90 RX9 yX9_fail wsMX9_fail) ++ (wsV RX10 96 RX10 yX10_multiplyCases wsMX10_multiplyCases) ++ (wsV RX10 130 RX1 yX1_addRow wsMX1_addRow) ++ (wsV RX10 133 RX10 yX10_linear wsMX10_linear) ++ (wsV RX10 136 RX10 yX10_keepWay wsMX10_keepWay) ++ (wsV RX10 123 RX10 yX10_anyHolds wsMX10_anyHolds))
theorem iwsMX10_doRows_in1 : ∀ w ∈ wsX10, w ∈ wsMX10_doRows := fun _ h => List.mem_cons_of_mem _ (List.mem_append_left _ (List.mem_append_left _ (List.mem_append_left _ (List.mem_append_left _ (List.mem_append_left _ (List.mem_append_left _ (List.mem_append_left _ (List.mem_append_left _ (List.mem_append_left _ (List.mem_append_right _ h))))))))))
theorem iwsMX10_doRows_in10 : ∀ w ∈ wsX100, w ∈ wsMX10_doRows := fun _ h => List.mem_cons_of_mem _ (List.mem_append_left _ (List.mem_append_left _ (List.mem_append_left _ (List.mem_append_left _ (List.mem_append_left _ (List.mem_append_left _ (List.mem_append_left _ (List.mem_append_left _ (List.mem_append_right _ h)))))))))
theorem gwsMX10_doRows_0 : GoodIn wsMX10_doRows (wsV RX10 117 RX10 yX10_boundMembers wsMX10_boundMembers) := goodIn_sub (fun _ h => List.mem_cons_of_mem _ (List.mem_append_left _ (List.mem_append_left _ (List.mem_append_left _ (List.mem_append_left _ (List.mem_append_left _ (List.mem_append_left _ (List.mem_append_left _ (List.mem_append_right _ h))))))))) (gdV (by decide +kernel) gdwsMX10_boundMembers)
theorem gwsMX10_doRows_1 : GoodIn wsMX10_doRows (wsV RX10 120 RX10 yX10_bind wsMX10_bind) := goodIn_sub (fun _ h => List.mem_cons_of_mem _ (List.mem_append_left _ (List.mem_append_left _ (List.mem_append_left _ (List.mem_append_left _ (List.mem_append_left _ (List.mem_append_left _ (List.mem_append_right _ h)))))))) (gdV (by decide +kernel) gdwsMX10_bind)
theorem gwsMX10_doRows_2 : GoodIn wsMX10_doRows (wsV RX10 90 RX9 yX9_fail wsMX9_fail) := goodIn_sub (fun _ h => List.mem_cons_of_mem _ (List.mem_append_left _ (List.mem_append_left _ (List.mem_append_left _ (List.mem_append_left _ (List.mem_append_left _ (List.mem_append_right _ h))))))) (gdV (by decide +kernel) gdwsMX9_fail)
theorem gwsMX10_doRows_3 : GoodIn wsMX10_doRows (wsV RX10 96 RX10 yX10_multiplyCases wsMX10_multiplyCases) := goodIn_sub (fun _ h => List.mem_cons_of_mem _ (List.mem_append_left _ (List.mem_append_left _ (List.mem_append_left _ (List.mem_append_left _ (List.mem_append_right _ h)))))) (gdV (by decide +kernel) gdwsMX10_multiplyCases)
theorem gwsMX10_doRows_4 : GoodIn wsMX10_doRows (wsV RX10 130 RX1 yX1_addRow wsMX1_addRow) := goodIn_sub (fun _ h => List.mem_cons_of_mem _ (List.mem_append_left _ (List.mem_append_left _ (List.mem_append_left _ (List.mem_append_right _ h))))) (gdV (by decide +kernel) gdwsMX1_addRow)
theorem gwsMX10_doRows_5 : GoodIn wsMX10_doRows (wsV RX10 133 RX10 yX10_linear wsMX10_linear) := goodIn_sub (fun _ h => List.mem_cons_of_mem _ (List.mem_append_left _ (List.mem_append_left _ (List.mem_append_right _ h)))) (gdV (by decide +kernel) gdwsMX10_linear)
theorem gwsMX10_doRows_6 : GoodIn wsMX10_doRows (wsV RX10 136 RX10 yX10_keepWay wsMX10_keepWay) := goodIn_sub (fun _ h => List.mem_cons_of_mem _ (List.mem_append_left _ (List.mem_append_right _ h))) (gdV (by decide +kernel) gdwsMX10_keepWay)
theorem gwsMX10_doRows_7 : GoodIn wsMX10_doRows (wsV RX10 123 RX10 yX10_anyHolds wsMX10_anyHolds) := goodIn_sub (fun _ h => List.mem_cons_of_mem _ (List.mem_append_right _ h)) (gdV (by decide +kernel) gdwsMX10_anyHolds)
theorem gdwsMX10_doRows : wsMX10_doRows.all goodWord = true := gdC rfl (gdA (gdA (gdA (gdA (gdA (gdA (gdA (gdA (gdA (gdA (by decide +kernel : ([.fieldLink RX10 51 "OptimaWorks$Worker" "model" "LOptimaWorks$Model;", .fieldLink RX10 127 "OptimaWorks$Model" "rows" "I", .fieldLink RX10 47 "OptimaWorks$Worker" "words" "LOptimaWorks$Words;", .fieldLink RX10 74 "OptimaWorks$Worker" "nameAt" "I", .fieldLink RX10 55 "OptimaWorks$Worker" "tree" "[I"] : List Cond).all goodWord = true) gdwsX10) gdwsX100) (gdV (by decide +kernel) gdwsMX10_boundMembers)) (gdV (by decide +kernel) gdwsMX10_bind)) (gdV (by decide +kernel) gdwsMX9_fail)) (gdV (by decide +kernel) gdwsMX10_multiplyCases)) (gdV (by decide +kernel) gdwsMX1_addRow)) (gdV (by decide +kernel) gdwsMX10_linear)) (gdV (by decide +kernel) gdwsMX10_keepWay)) (gdV (by decide +kernel) gdwsMX10_anyHolds))
theorem hm_m_X10_doRows_0 : (.fieldLink RX10 51 "OptimaWorks$Worker" "model" "LOptimaWorks$Model;" : Cond) ∈ wsMX10_doRows := by decide +kernel
theorem hm_m_X10_doRows_1 : (.fieldLink RX10 127 "OptimaWorks$Model" "rows" "I" : Cond) ∈ wsMX10_doRows := by decide +kernel
theorem hm_m_X10_doRows_2 : (.fieldLink RX10 55 "OptimaWorks$Worker" "tree" "[I" : Cond) ∈ wsMX10_doRows := by decide +kernel
theorem hm_m_X10_doRows_3 : (.fieldLink RX10 47 "OptimaWorks$Worker" "words" "LOptimaWorks$Words;" : Cond) ∈ wsMX10_doRows := by decide +kernel
theorem hm_m_X10_doRows_4 : (.fieldLink RX10 74 "OptimaWorks$Worker" "nameAt" "I" : Cond) ∈ wsMX10_doRows := by decide +kernel
set_option maxHeartbeats 4000000 in
set_option maxRecDepth 100000 in
/-- rows are done -/
theorem m_X10_doRows (l : Launch) (hst : l.stackTraces = false) (dC : Nat → ClassId) (dI : Nat → Nat → Nat) (hL : Nat → Nat) (aL : Nat → Nat) (kL : Nat → ClassId) (hT : Nat → Nat) (hM : Nat → Nat) (iL_names : Int32) (gL_key : Nat → Int64) (fL_kind : Nat → Int32) (fL_one : Nat → Int32) (fL_two : Nat → Int32) (fL_base : Nat → Int32) (iL_params : Int32) (fL_paramOver : Nat → Int32) (dL_paramOver : Nat) (nL_params : Nat) (fL_paramUnder : Nat → Int32) (dL_paramUnder : Nat) (nL_pu : Nat) (gL_over : Nat → Int64) (gL_under : Nat → Int64) (fL_bound : Nat → Int32) (iL_nameAt : Int32) (iL_startAt : Int32) (iL_steps : Int32) (jL_scaleOver : Int64) (jL_scaleUnder : Int64) (hF : Nat → Nat) (aF : Nat → Nat) (kF : Nat → ClassId) (dF_tree : Nat) (nF_tree : Nat) (fF_tree : Nat → Int32) (aT : Nat → Nat) (kT : Nat → ClassId) (fT_tape : Nat → Int32) (dT_tape : Nat) (nT_tape : Nat) (iT_length : Int32) (iT_fault : Int32) (iT_place : Int32) (iT_kind : Int32) (iT_at : Int32) (iT_number : Int32) (jT_name : Int64) (iT_next : Int32) (aM : Nat → Nat) (kM : Nat → ClassId) (iM_stands : Int32) (iM_variables : Int32) (iM_rows : Int32) (iM_goals : Int32) (iM_differents : Int32) (iM_cases : Int32) (fM_from : Nat → Int32) (fM_to : Nat → Int32) (fM_whole : Nat → Int32) (fM_ways : Nat → Int32) (iM_plainRows : Int32) (fM_plainRow : Nat → Int32) (fM_kept : Nat → Int32) (fM_goalOver : Nat → Int32) (fM_goalUnder : Nat → Int32) (fM_goalMax : Nat → Int32) (fM_different : Nat → Int32) (V : Int → Nat → Nat → Prop) (lo : Int) (p1 : Int32) (p2 : Int32) (p3 : Int32) (p4 : Int32) (b_iL_names : 0 ≤ iL_names.toInt ∧ iL_names.toInt ≤ 40) (b_fL_kind : ∀ q : Nat, 0 ≤ (fL_kind q).toInt ∧ (fL_kind q).toInt ≤ 5) (b_fL_two : ∀ q : Nat, (-1) ≤ (fL_two q).toInt ∧ (fL_two q).toInt ≤ 39) (b_fL_base : ∀ q : Nat, 0 ≤ (fL_base q).toInt ∧ (fL_base q).toInt ≤ 2560) (b_iL_params : 0 ≤ iL_params.toInt ∧ iL_params.toInt ≤ 2560) (b_nL_params : 0 ≤ nL_params ∧ nL_params ≤ 2560) (b_nm : NmL iL_names fL_kind fL_one fL_two fL_base nL_params) (b_pm : iL_params.toInt ≤ ((nL_params : Nat) : Int)) (b_pu : nL_pu = nL_params) (b_nF_tree : 7 ≤ nF_tree ∧ nF_tree ≤ 72200) (b_fT_tape : ∀ q : Nat, (-128) ≤ (fT_tape q).toInt ∧ (fT_tape q).toInt ≤ 127) (b_nT_tape : 64 ≤ nT_tape ∧ nT_tape ≤ 2560) (b_iT_length : 0 ≤ iT_length.toInt ∧ iT_length.toInt ≤ 1280) (b_iT_at : 0 ≤ iT_at.toInt ∧ iT_at.toInt ≤ 1282) (b_iT_number : 0 ≤ iT_number.toInt ∧ iT_number.toInt ≤ 999999) (b_iT_next : 0 ≤ iT_next.toInt ∧ iT_next.toInt ≤ 1282) (b_len : iT_length.toInt ≤ ((nT_tape : Nat) : Int)) (b_iM_stands : 0 ≤ iM_stands.toInt ∧ iM_stands.toInt ≤ 1) (b_iM_variables : 0 ≤ iM_variables.toInt ∧ iM_variables.toInt ≤ 8) (b_iM_rows : 0 ≤ iM_rows.toInt ∧ iM_rows.toInt ≤ 12) (b_iM_goals : 0 ≤ iM_goals.toInt ∧ iM_goals.toInt ≤ 3) (b_iM_differents : 0 ≤ iM_differents.toInt ∧ iM_differents.toInt ≤ 8) (b_iM_cases : 0 ≤ iM_cases.toInt ∧ iM_cases.toInt ≤ 200000) (b_fM_ways : ∀ q : Nat, 0 ≤ (fM_ways q).toInt ∧ (fM_ways q).toInt ≤ 3) (b_iM_plainRows : 0 ≤ iM_plainRows.toInt ∧ iM_plainRows.toInt ≤ 12) (b_fM_plainRow : ∀ q : Nat, 0 ≤ (fM_plainRow q).toInt ∧ (fM_plainRow q).toInt ≤ 11) (b_pr : iM_plainRows.toInt ≤ iM_rows.toInt) (b_p4 : 1 ≤ p4.toInt ∧ p4.toInt ≤ 3) (hV : TrL V fF_tree fL_kind fL_one fL_two iL_names.toInt lo ((nF_tree : Nat) : Int)) (hn1 : p1.toInt = 0 ∨ V p1.toInt 9 0) (hn2 : p2.toInt = 0 ∨ V p2.toInt 10 1) (hn3 : V p3.toInt 14 0) (hc64 : iM_cases.toInt ≤ 64) (sz : Nat) : vx_Met l yX10_doRows wsMX10_doRows ({ frames := 315, cells := 1, slots := 6, locals := 18431 }) (va_Pc [.ref (hL 0), .int p1, .int p2, .int p3, .int p4] (fun U => U.heap.size = sz ∧ va_P (dC, dI) vwCl (WL hL aL kL hT hM (.ref dF_tree) iL_names gL_key fL_kind fL_one fL_two fL_base iL_params fL_paramOver dL_paramOver nL_params fL_paramUnder dL_paramUnder nL_pu gL_over gL_under fL_bound iL_nameAt iL_startAt iL_steps jL_scaleOver jL_scaleUnder ++ (WF hF aF kF dF_tree nF_tree fF_tree ++ (WT hT aT kT fT_tape dT_tape nT_tape iT_length iT_fault iT_place iT_kind iT_at iT_number jT_name iT_next ++ (WM hM aM kM iM_stands iM_variables iM_rows iM_goals iM_differents iM_cases fM_from fM_to fM_whole fM_ways iM_plainRows fM_plainRow fM_kept fM_goalOver fM_goalUnder fM_goalMax fM_different)))) U.heap ∧ va_K (dC, dI) vwCl (tL kL ++ (tF kF ++ (tT kT ++ (tM kM)))) U ∧ va_D (fun _ => True) (WL hL aL kL hT hM (.ref dF_tree) iL_names gL_key fL_kind fL_one fL_two fL_base iL_params fL_paramOver dL_paramOver nL_params fL_paramUnder dL_paramUnder nL_pu gL_over gL_under fL_bound iL_nameAt iL_startAt iL_steps jL_scaleOver jL_scaleUnder ++ (WF hF aF kF dF_tree nF_tree fF_tree ++ (WT hT aT kT fT_tape dT_tape nT_tape iT_length iT_fault iT_place iT_kind iT_at iT_number jT_name iT_next ++ (WM hM aM kM iM_stands iM_variables iM_rows iM_goals iM_differents iM_cases fM_from fM_to fM_whole fM_ways iM_plainRows fM_plainRow fM_kept fM_goalOver fM_goalUnder fM_goalMax fM_different)))) ∧ CE (va_A (WL hL aL kL hT hM (.ref dF_tree) iL_names gL_key fL_kind fL_one fL_two fL_base iL_params fL_paramOver dL_paramOver nL_params fL_paramUnder dL_paramUnder nL_pu gL_over gL_under fL_bound iL_nameAt iL_startAt iL_steps jL_scaleOver jL_scaleUnder ++ (WF hF aF kF dF_tree nF_tree fF_tree ++ (WT hT aT kT fT_tape dT_tape nT_tape iT_length iT_fault iT_place iT_kind iT_at iT_number jT_name iT_next ++ (WM hM aM kM iM_stands iM_variables iM_rows iM_goals iM_differents iM_cases fM_from fM_to fM_whole fM_ways iM_plainRows fM_plainRow fM_kept fM_goalOver fM_goalUnder fM_goalMax fM_different)))) sz) U U.heap)) (va_Qv (fun (u : (Nat → Int64) × (Nat → Int64) × (Nat → Int32) × (Int32) × (Int64) × (Int64) × (Int32) × (Int32) × (Int32) × (Int32) × (Nat → Int32) × (Int32) × (Nat → Int32) × (Nat → Int32)) => (0 ≤ (u.2.2.2.2.2.2.2.2.1).toInt ∧ (u.2.2.2.2.2.2.2.2.1).toInt ≤ 12) ∧ (0 ≤ (u.2.2.2.2.2.2.2.2.2.1).toInt ∧ (u.2.2.2.2.2.2.2.2.2.1).toInt ≤ 200000) ∧ (∀ q : Nat, 0 ≤ ((u.2.2.2.2.2.2.2.2.2.2.1) q).toInt ∧ ((u.2.2.2.2.2.2.2.2.2.2.1) q).toInt ≤ 3) ∧ (0 ≤ (u.2.2.2.2.2.2.2.2.2.2.2.1).toInt ∧ (u.2.2.2.2.2.2.2.2.2.2.2.1).toInt ≤ 12) ∧ (∀ q : Nat, 0 ≤ ((u.2.2.2.2.2.2.2.2.2.2.2.2.1) q).toInt ∧ ((u.2.2.2.2.2.2.2.2.2.2.2.2.1) q).toInt ≤ 11) ∧ ((u.2.2.2.2.2.2.2.2.2.2.2.1).toInt ≤ (u.2.2.2.2.2.2.2.2.1).toInt) ∧ ((u.2.2.2.2.2.2.2.2.2.1).toInt ≤ 64)) (fun (u : (Nat → Int64) × (Nat → Int64) × (Nat → Int32) × (Int32) × (Int64) × (Int64) × (Int32) × (Int32) × (Int32) × (Int32) × (Nat → Int32) × (Int32) × (Nat → Int32) × (Nat → Int32)) t => va_P (dC, dI) vwCl (WL hL aL kL hT hM (.ref dF_tree) iL_names gL_key fL_kind fL_one fL_two fL_base iL_params fL_paramOver dL_paramOver nL_params fL_paramUnder dL_paramUnder nL_pu (u.1) (u.2.1) (u.2.2.1) iL_nameAt iL_startAt (u.2.2.2.1) (u.2.2.2.2.1) (u.2.2.2.2.2.1) ++ (WF hF aF kF dF_tree nF_tree fF_tree ++ (WT hT aT kT fT_tape dT_tape nT_tape iT_length (u.2.2.2.2.2.2.1) (u.2.2.2.2.2.2.2.1) iT_kind iT_at iT_number jT_name iT_next ++ (WM hM aM kM iM_stands iM_variables (u.2.2.2.2.2.2.2.2.1) iM_goals iM_differents (u.2.2.2.2.2.2.2.2.2.1) fM_from fM_to fM_whole (u.2.2.2.2.2.2.2.2.2.2.1) (u.2.2.2.2.2.2.2.2.2.2.2.1) (u.2.2.2.2.2.2.2.2.2.2.2.2.1) (u.2.2.2.2.2.2.2.2.2.2.2.2.2) fM_goalOver fM_goalUnder fM_goalMax fM_different)))) t.heap ∧ va_D (va_A (WL hL aL kL hT hM (.ref dF_tree) iL_names gL_key fL_kind fL_one fL_two fL_base iL_params fL_paramOver dL_paramOver nL_params fL_paramUnder dL_paramUnder nL_pu gL_over gL_under fL_bound iL_nameAt iL_startAt iL_steps jL_scaleOver jL_scaleUnder ++ (WF hF aF kF dF_tree nF_tree fF_tree ++ (WT hT aT kT fT_tape dT_tape nT_tape iT_length iT_fault iT_place iT_kind iT_at iT_number jT_name iT_next ++ (WM hM aM kM iM_stands iM_variables iM_rows iM_goals iM_differents iM_cases fM_from fM_to fM_whole fM_ways iM_plainRows fM_plainRow fM_kept fM_goalOver fM_goalUnder fM_goalMax fM_different)))) sz) (WL hL aL kL hT hM (.ref dF_tree) iL_names gL_key fL_kind fL_one fL_two fL_base iL_params fL_paramOver dL_paramOver nL_params fL_paramUnder dL_paramUnder nL_pu (u.1) (u.2.1) (u.2.2.1) iL_nameAt iL_startAt (u.2.2.2.1) (u.2.2.2.2.1) (u.2.2.2.2.2.1) ++ (WF hF aF kF dF_tree nF_tree fF_tree ++ (WT hT aT kT fT_tape dT_tape nT_tape iT_length (u.2.2.2.2.2.2.1) (u.2.2.2.2.2.2.2.1) iT_kind iT_at iT_number jT_name iT_next ++ (WM hM aM kM iM_stands iM_variables (u.2.2.2.2.2.2.2.2.1) iM_goals iM_differents (u.2.2.2.2.2.2.2.2.2.1) fM_from fM_to fM_whole (u.2.2.2.2.2.2.2.2.2.2.1) (u.2.2.2.2.2.2.2.2.2.2.2.1) (u.2.2.2.2.2.2.2.2.2.2.2.2.1) (u.2.2.2.2.2.2.2.2.2.2.2.2.2) fM_goalOver fM_goalUnder fM_goalMax fM_different)))) ∧ t.heap.size = sz) (va_A (WL hL aL kL hT hM (.ref dF_tree) iL_names gL_key fL_kind fL_one fL_two fL_base iL_params fL_paramOver dL_paramOver nL_params fL_paramUnder dL_paramUnder nL_pu gL_over gL_under fL_bound iL_nameAt iL_startAt iL_steps jL_scaleOver jL_scaleUnder ++ (WF hF aF kF dF_tree nF_tree fF_tree ++ (WT hT aT kT fT_tape dT_tape nT_tape iT_length iT_fault iT_place iT_kind iT_at iT_number jT_name iT_next ++ (WM hM aM kM iM_stands iM_variables iM_rows iM_goals iM_differents iM_cases fM_from fM_to fM_whole fM_ways iM_plainRows fM_plainRow fM_kept fM_goalOver fM_goalUnder fM_goalMax fM_different)))) sz)) (vx_X (fun (u : (Nat → Int64) × (Nat → Int64) × (Nat → Int32) × (Int32) × (Int64) × (Int64) × (Int32) × (Int32) × (Int32) × (Int32) × (Nat → Int32) × (Int32) × (Nat → Int32) × (Nat → Int32)) => (0 ≤ (u.2.2.2.2.2.2.2.2.1).toInt ∧ (u.2.2.2.2.2.2.2.2.1).toInt ≤ 12) ∧ (0 ≤ (u.2.2.2.2.2.2.2.2.2.1).toInt ∧ (u.2.2.2.2.2.2.2.2.2.1).toInt ≤ 200000) ∧ (∀ q : Nat, 0 ≤ ((u.2.2.2.2.2.2.2.2.2.2.1) q).toInt ∧ ((u.2.2.2.2.2.2.2.2.2.2.1) q).toInt ≤ 3) ∧ (0 ≤ (u.2.2.2.2.2.2.2.2.2.2.2.1).toInt ∧ (u.2.2.2.2.2.2.2.2.2.2.2.1).toInt ≤ 12) ∧ (∀ q : Nat, 0 ≤ ((u.2.2.2.2.2.2.2.2.2.2.2.2.1) q).toInt ∧ ((u.2.2.2.2.2.2.2.2.2.2.2.2.1) q).toInt ≤ 11) ∧ ((u.2.2.2.2.2.2.2.2.2.2.2.1).toInt ≤ (u.2.2.2.2.2.2.2.2.1).toInt)) (fun E (u : (Nat → Int64) × (Nat → Int64) × (Nat → Int32) × (Int32) × (Int64) × (Int64) × (Int32) × (Int32) × (Int32) × (Int32) × (Nat → Int32) × (Int32) × (Nat → Int32) × (Nat → Int32)) t => (E = "java/lang/IllegalArgumentException") ∧ va_P (dC, dI) vwCl (WL hL aL kL hT hM (.ref dF_tree) iL_names gL_key fL_kind fL_one fL_two fL_base iL_params fL_paramOver dL_paramOver nL_params fL_paramUnder dL_paramUnder nL_pu (u.1) (u.2.1) (u.2.2.1) iL_nameAt iL_startAt (u.2.2.2.1) (u.2.2.2.2.1) (u.2.2.2.2.2.1) ++ (WF hF aF kF dF_tree nF_tree fF_tree ++ (WT hT aT kT fT_tape dT_tape nT_tape iT_length (u.2.2.2.2.2.2.1) (u.2.2.2.2.2.2.2.1) iT_kind iT_at iT_number jT_name iT_next ++ (WM hM aM kM iM_stands iM_variables (u.2.2.2.2.2.2.2.2.1) iM_goals iM_differents (u.2.2.2.2.2.2.2.2.2.1) fM_from fM_to fM_whole (u.2.2.2.2.2.2.2.2.2.2.1) (u.2.2.2.2.2.2.2.2.2.2.2.1) (u.2.2.2.2.2.2.2.2.2.2.2.2.1) (u.2.2.2.2.2.2.2.2.2.2.2.2.2) fM_goalOver fM_goalUnder fM_goalMax fM_different)))) t.heap ∧ va_D (va_A (WL hL aL kL hT hM (.ref dF_tree) iL_names gL_key fL_kind fL_one fL_two fL_base iL_params fL_paramOver dL_paramOver nL_params fL_paramUnder dL_paramUnder nL_pu gL_over gL_under fL_bound iL_nameAt iL_startAt iL_steps jL_scaleOver jL_scaleUnder ++ (WF hF aF kF dF_tree nF_tree fF_tree ++ (WT hT aT kT fT_tape dT_tape nT_tape iT_length iT_fault iT_place iT_kind iT_at iT_number jT_name iT_next ++ (WM hM aM kM iM_stands iM_variables iM_rows iM_goals iM_differents iM_cases fM_from fM_to fM_whole fM_ways iM_plainRows fM_plainRow fM_kept fM_goalOver fM_goalUnder fM_goalMax fM_different)))) sz) (WL hL aL kL hT hM (.ref dF_tree) iL_names gL_key fL_kind fL_one fL_two fL_base iL_params fL_paramOver dL_paramOver nL_params fL_paramUnder dL_paramUnder nL_pu (u.1) (u.2.1) (u.2.2.1) iL_nameAt iL_startAt (u.2.2.2.1) (u.2.2.2.2.1) (u.2.2.2.2.2.1) ++ (WF hF aF kF dF_tree nF_tree fF_tree ++ (WT hT aT kT fT_tape dT_tape nT_tape iT_length (u.2.2.2.2.2.2.1) (u.2.2.2.2.2.2.2.1) iT_kind iT_at iT_number jT_name iT_next ++ (WM hM aM kM iM_stands iM_variables (u.2.2.2.2.2.2.2.2.1) iM_goals iM_differents (u.2.2.2.2.2.2.2.2.2.1) fM_from fM_to fM_whole (u.2.2.2.2.2.2.2.2.2.2.1) (u.2.2.2.2.2.2.2.2.2.2.2.1) (u.2.2.2.2.2.2.2.2.2.2.2.2.1) (u.2.2.2.2.2.2.2.2.2.2.2.2.2) fM_goalOver fM_goalUnder fM_goalMax fM_different))))) (va_A (WL hL aL kL hT hM (.ref dF_tree) iL_names gL_key fL_kind fL_one fL_two fL_base iL_params fL_paramOver dL_paramOver nL_params fL_paramUnder dL_paramUnder nL_pu gL_over gL_under fL_bound iL_nameAt iL_startAt iL_steps jL_scaleOver jL_scaleUnder ++ (WF hF aF kF dF_tree nF_tree fF_tree ++ (WT hT aT kT fT_tape dT_tape nT_tape iT_length iT_fault iT_place iT_kind iT_at iT_number jT_name iT_next ++ (WM hM aM kM iM_stands iM_variables iM_rows iM_goals iM_differents iM_cases fM_from fM_to fM_whole fM_ways iM_plainRows fM_plainRow fM_kept fM_goalOver fM_goalUnder fM_goalMax fM_different)))) sz)) 1 6 (va_A (WL hL aL kL hT hM (.ref dF_tree) iL_names gL_key fL_kind fL_one fL_two fL_base iL_params fL_paramOver dL_paramOver nL_params fL_paramUnder dL_paramUnder nL_pu gL_over gL_under fL_bound iL_nameAt iL_startAt iL_steps jL_scaleOver jL_scaleUnder ++ (WF hF aF kF dF_tree nF_tree fF_tree ++ (WT hT aT kT fT_tape dT_tape nT_tape iT_length iT_fault iT_place iT_kind iT_at iT_number jT_name iT_next ++ (WM hM aM kM iM_stands iM_variables iM_rows iM_goals iM_differents iM_cases fM_from fM_to fM_whole fM_ways iM_plainRows fM_plainRow fM_kept fM_goalOver fM_goalUnder fM_goalMax fM_different)))) sz) := by
  refine vx_ofW (cc := cX10_doRows) (maxL := 10) (ret := none) (by decide) rfl ?_
  intro p e s m args below meth c s₁ B hml htab hv
  obtain ⟨rfl, hsz, hP, hK, hD0, hE⟩ := hv
  have hx := B.exec
  have hb := B.bytes
  have hr := B.returns
  have hts := atoms_spec (ws := wsMX10_doRows) B.pre
  have hown : s.vm.findClass RX10 = some m.cls := findClass_of_methodNamed B.named
  have hlocks := B.notSynchronized
  subst hsz
  have hD := hD0.self (sz := s.heap.size)
  generalize hAe : va_A (WL hL aL kL hT hM (.ref dF_tree) iL_names gL_key fL_kind fL_one fL_two fL_base iL_params fL_paramOver dL_paramOver nL_params fL_paramUnder dL_paramUnder nL_pu gL_over gL_under fL_bound iL_nameAt iL_startAt iL_steps jL_scaleOver jL_scaleUnder ++ (WF hF aF kF dF_tree nF_tree fF_tree ++ (WT hT aT kT fT_tape dT_tape nT_tape iT_length iT_fault iT_place iT_kind iT_at iT_number jT_name iT_next ++ (WM hM aM kM iM_stands iM_variables iM_rows iM_goals iM_differents iM_cases fM_from fM_to fM_whole fM_ways iM_plainRows fM_plainRow fM_kept fM_goalOver fM_goalUnder fM_goalMax fM_different)))) s.heap.size = A at hD hE ⊢
  have hA : ∀ q : Nat, s.heap.size ≤ q → A q := fun q h => by rw [← hAe]; exact Or.inr h
  have hS : va_S A s.heap s.heap [] := va_S.rf
  have hl := lv_entry ([.ref (hL 0), .int p1, .int p2, .int p3, .int p4]) (n := 10) (Nat.le_of_ble_eq_true rfl)
  rw [lg_entry_eq]
  generalize (lg_sl ([.ref (hL 0), .int p1, .int p2, .int p3, .int p4]) ++ List.replicate (10 - (lg_sl ([.ref (hL 0), .int p1, .int p2, .int p3, .int p4])).length) Slot.unset).toArray = ls at hl ⊢
  have hl : lv_has ls 10 [(0, .ref (hL 0)), (1, .int p1), (2, .int p2), (3, .int p3), (4, .int p4)] := hl
  refine lv_iload_n hx hb dX10_doRows_0 rfl (lv_at hl 1 rfl) ?_
  refine W.cut (pc := 13) (fun H locs ls stk => ∃ (k0_j14 : Int32), (1 ≤ k0_j14.toInt ∧ k0_j14.toInt ≤ 144) ∧  stk = [.int k0_j14] ∧ va_P (dC, dI) vwCl (WL hL aL kL hT hM (.ref dF_tree) iL_names gL_key fL_kind fL_one fL_two fL_base iL_params fL_paramOver dL_paramOver nL_params fL_paramUnder dL_paramUnder nL_pu gL_over gL_under fL_bound iL_nameAt iL_startAt iL_steps jL_scaleOver jL_scaleUnder ++ (WF hF aF kF dF_tree nF_tree fF_tree ++ (WT hT aT kT fT_tape dT_tape nT_tape iT_length iT_fault iT_place iT_kind iT_at iT_number jT_name iT_next ++ (WM hM aM kM iM_stands iM_variables iM_rows iM_goals iM_differents iM_cases fM_from fM_to fM_whole fM_ways iM_plainRows fM_plainRow fM_kept fM_goalOver fM_goalUnder fM_goalMax fM_different)))) H ∧ va_D A (WL hL aL kL hT hM (.ref dF_tree) iL_names gL_key fL_kind fL_one fL_two fL_base iL_params fL_paramOver dL_paramOver nL_params fL_paramUnder dL_paramUnder nL_pu gL_over gL_under fL_bound iL_nameAt iL_startAt iL_steps jL_scaleOver jL_scaleUnder ++ (WF hF aF kF dF_tree nF_tree fF_tree ++ (WT hT aT kT fT_tape dT_tape nT_tape iT_length iT_fault iT_place iT_kind iT_at iT_number jT_name iT_next ++ (WM hM aM kM iM_stands iM_variables iM_rows iM_goals iM_differents iM_cases fM_from fM_to fM_whole fM_ways iM_plainRows fM_plainRow fM_kept fM_goalOver fM_goalUnder fM_goalMax fM_different)))) ∧ va_S A s.heap H locs ∧ lv_has ls 10 [(0, .ref (hL 0)), (1, .int p1), (2, .int p2), (3, .int p3), (4, .int p4)]) (fun join14 => ?_) ?_
  · refine lv_if_ne (tgt := 8) hx hb dX10_doRows_1 (by decide) (fun c_1 => ?_) (fun c_1 => ?_)
    · have t_1 : p1.toInt ≠ 0 := toI_ne c_1 rfl (by decide : (0 : Int32).toInt = 0)
      refine lv_aload_n hx hb dX10_doRows_8 rfl (lv_at hl 0 rfl) ?_
      refine lv_iload_n hx hb dX10_doRows_9 rfl (lv_at hl 1 rfl) ?_
      have p9 := cj_4_0_1 (WL hL aL kL hT hM (.ref dF_tree) iL_names gL_key fL_kind fL_one fL_two fL_base iL_params fL_paramOver dL_paramOver nL_params fL_paramUnder dL_paramUnder nL_pu gL_over gL_under fL_bound iL_nameAt iL_startAt iL_steps jL_scaleOver jL_scaleUnder) (WF hF aF kF dF_tree nF_tree fF_tree) (WT hT aT kT fT_tape dT_tape nT_tape iT_length iT_fault iT_place iT_kind iT_at iT_number jT_name iT_next) (WM hM aM kM iM_stands iM_variables iM_rows iM_goals iM_differents iM_cases fM_from fM_to fM_whole fM_ways iM_plainRows fM_plainRow fM_kept fM_goalOver fM_goalUnder fM_goalMax fM_different)
      have hPc := hP.mem (fun q h => p9.mem_iff.mpr (List.mem_append_left _ h))
      have hDc := (hD.perm p9).left
      have hKc : va_K (dC, dI) vwCl (tL kL ++ (tF kF)) _ := hK.sub [0, 1, 2, 3, 4, 5, 6, 7, 8, 9, 10] rfl
      have hFc := freeG p9 hD hS hA
      refine va_calli (va_runV (As := [.int p1]) (rest := []) ⟨hx, hb, hml, hown, hts⟩ (m_X10_boundMembers l dC dI hL aL kL hT hM iL_names gL_key fL_kind fL_one fL_two fL_base iL_params fL_paramOver dL_paramOver nL_params fL_paramUnder dL_paramUnder nL_pu gL_over gL_under fL_bound iL_nameAt iL_startAt iL_steps jL_scaleOver jL_scaleUnder hF aF kF dF_tree nF_tree fF_tree V lo 0 p1 (b_iL_names) b_fL_kind b_fL_two b_fL_base (b_iL_params) (by first | exact b_nL_params | with_reducible assumption | exact ⟨by omega, by omega⟩ | assumption) (by first | with_reducible assumption | omega | (rw [iI_t (by omega) (by omega)]; omega) | assumption) (by first | with_reducible assumption | omega | (rw [iI_t (by omega) (by omega)]; omega) | assumption) (by first | with_reducible assumption | omega | (rw [iI_t (by omega) (by omega)]; omega) | assumption) (by first | exact b_nF_tree | with_reducible assumption | exact ⟨by omega, by omega⟩ | assumption) (by first | with_reducible assumption | omega | (rw [iI_t (by omega) (by omega)]; omega) | decide | assumption) (hn1.resolve_left (by omega)) s.heap.size) (cwV 1 hts gwsMX10_doRows_0 rfl rfl rfl hd_yX10_boundMembers_RX10 (by decide +kernel)) (fz_pre (va_recv hK hP (ci := 10) (q0 := 0) rfl rfl) hPc hKc hDc) rfl rfl hl.1 rfl (lv_room (Nat.le_of_ble_eq_true rfl)) dX10_doRows_10 (by decide +kernel)) hS (fun q _ h => hFc q h) hFc (fun r2 u t9_ H locs ht hvm hw9 hB9 hz1 hk1 hS => ?_)
      have b_r2 := hw9
      try dsimp only at b_r2
      have p8 := p9
      obtain ⟨hP, hD⟩ := frameG p9 p8 hP hD hk1 hFc (fz_P ht hB9.1) hB9.2
      have hl : lv_has _ _ ([(0, .ref (hL 0)), (1, .int p1), (2, .int p2), (3, .int p3), (4, .int p4)]) := lv_sub hl [0, 1, 2, 3, 4] rfl
      exact join14 _ _ _ _ ⟨r2, (by first | exact b_r2 | with_reducible assumption | exact ⟨by omega, by omega⟩ | assumption), rfl, hP, hD, hS, hl⟩
    · have t_1 : p1.toInt = 0 := toI_nne c_1 rfl (by decide : (0 : Int32).toInt = 0)
      refine lv_iconst (v := 1) hx hb dX10_doRows_4 (by decide) ?_
      refine lv_goto (tgt := 13) hx hb dX10_doRows_5 (by decide) ?_
      have hl : lv_has _ _ ([(0, .ref (hL 0)), (1, .int p1), (2, .int p2), (3, .int p3), (4, .int p4)]) := lv_sub hl [0, 1, 2, 3, 4] rfl
      exact join14 _ _ _ _ ⟨1, (show 1 ≤ (1 : Int32).toInt ∧ (1 : Int32).toInt ≤ 144 from by decide), rfl, hP, hD, hS, hl⟩
  · rintro H locs ls stk ⟨k0_j14, b_k0_j14, rfl, hP, hD, hS, hl⟩
    refine lv_istore hx hb dX10_doRows_13 hl (by decide) rfl (fun ls (hl : lv_has ls _ ([(5, .int k0_j14), (0, .ref (hL 0)), (1, .int p1), (2, .int p2), (3, .int p3), (4, .int p4)])) => ?_)
    refine lv_iconst (v := 0) hx hb dX10_doRows_15 (by decide) ?_
    refine lv_istore hx hb dX10_doRows_16 hl (by decide) rfl (fun ls (hl : lv_has ls _ ([(6, .int 0), (5, .int k0_j14), (0, .ref (hL 0)), (1, .int p1), (2, .int p2), (3, .int p3), (4, .int p4)])) => ?_)
    have hl : lv_has _ _ ([(6, .int 0), (5, .int k0_j14), (0, .ref (hL 0)), (1, .int p1), (2, .int p2), (3, .int p3), (4, .int p4)]) := lv_sub hl [0, 1, 2, 3, 4, 5, 6] rfl
    refine (fun (loop : ∀ (n9 : Nat) (gL_over_x18 : Nat → Int64) (gL_under_x18 : Nat → Int64) (fL_bound_x18 : Nat → Int32) (iL_steps_x18 : Int32) (jL_scaleOver_x18 : Int64) (jL_scaleUnder_x18 : Int64) (iT_fault_x18 : Int32) (iT_place_x18 : Int32) (iM_rows_x18 : Int32) (iM_cases_x18 : Int32) (fM_ways_x18 : Nat → Int32) (iM_plainRows_x18 : Int32) (fM_plainRow_x18 : Nat → Int32) (fM_kept_x18 : Nat → Int32) (l6_x18 : Int32) (H : Heap) (locs : List Loc) (ls : Array Slot), (0 ≤ iM_rows_x18.toInt ∧ iM_rows_x18.toInt ≤ 12) → (0 ≤ iM_cases_x18.toInt ∧ iM_cases_x18.toInt ≤ 200000) → (∀ q : Nat, 0 ≤ (fM_ways_x18 q).toInt ∧ (fM_ways_x18 q).toInt ≤ 3) → (0 ≤ iM_plainRows_x18.toInt ∧ iM_plainRows_x18.toInt ≤ 12) → (∀ q : Nat, 0 ≤ (fM_plainRow_x18 q).toInt ∧ (fM_plainRow_x18 q).toInt ≤ 11) → (0 ≤ l6_x18.toInt ∧ l6_x18.toInt ≤ 144) → (iM_plainRows_x18.toInt ≤ iM_rows_x18.toInt) → (iM_cases_x18.toInt ≤ 64) → (144 - l6_x18.toInt < ((n9 : Nat) : Int)) → va_P (dC, dI) vwCl (WL hL aL kL hT hM (.ref dF_tree) iL_names gL_key fL_kind fL_one fL_two fL_base iL_params fL_paramOver dL_paramOver nL_params fL_paramUnder dL_paramUnder nL_pu gL_over_x18 gL_under_x18 fL_bound_x18 iL_nameAt iL_startAt iL_steps_x18 jL_scaleOver_x18 jL_scaleUnder_x18 ++ (WF hF aF kF dF_tree nF_tree fF_tree ++ (WT hT aT kT fT_tape dT_tape nT_tape iT_length iT_fault_x18 iT_place_x18 iT_kind iT_at iT_number jT_name iT_next ++ (WM hM aM kM iM_stands iM_variables iM_rows_x18 iM_goals iM_differents iM_cases_x18 fM_from fM_to fM_whole fM_ways_x18 iM_plainRows_x18 fM_plainRow_x18 fM_kept_x18 fM_goalOver fM_goalUnder fM_goalMax fM_different)))) H → va_D A (WL hL aL kL hT hM (.ref dF_tree) iL_names gL_key fL_kind fL_one fL_two fL_base iL_params fL_paramOver dL_paramOver nL_params fL_paramUnder dL_paramUnder nL_pu gL_over_x18 gL_under_x18 fL_bound_x18 iL_nameAt iL_startAt iL_steps_x18 jL_scaleOver_x18 jL_scaleUnder_x18 ++ (WF hF aF kF dF_tree nF_tree fF_tree ++ (WT hT aT kT fT_tape dT_tape nT_tape iT_length iT_fault_x18 iT_place_x18 iT_kind iT_at iT_number jT_name iT_next ++ (WM hM aM kM iM_stands iM_variables iM_rows_x18 iM_goals iM_differents iM_cases_x18 fM_from fM_to fM_whole fM_ways_x18 iM_plainRows_x18 fM_plainRow_x18 fM_kept_x18 fM_goalOver fM_goalUnder fM_goalMax fM_different)))) → va_S A s.heap H locs → lv_has ls 10 [(6, .int l6_x18), (5, .int k0_j14), (0, .ref (hL 0)), (1, .int p1), (2, .int p2), (3, .int p3), (4, .int p4)] → W p l e _ s m _ below meth c H locs 0 0 _ (F0 m 18 ls [])) => loop (145) gL_over gL_under fL_bound iL_steps jL_scaleOver jL_scaleUnder iT_fault iT_place iM_rows iM_cases fM_ways iM_plainRows fM_plainRow fM_kept 0 _ _ _ (b_iM_rows) (b_iM_cases) b_fM_ways (b_iM_plainRows) b_fM_plainRow (show 0 ≤ (0 : Int32).toInt ∧ (0 : Int32).toInt ≤ 144 from by decide) (by first | with_reducible assumption | omega | assumption) (show iM_cases.toInt ≤ 64 from by omega) ((by have e9 : (0 : Int32).toInt = 0 := (by decide : (0 : Int32).toInt = 0); omega)) hP hD hS hl) ?_
    intro n9
    induction n9 with
    | zero => intro gL_over_x18 gL_under_x18 fL_bound_x18 iL_steps_x18 jL_scaleOver_x18 jL_scaleUnder_x18 iT_fault_x18 iT_place_x18 iM_rows_x18 iM_cases_x18 fM_ways_x18 iM_plainRows_x18 fM_plainRow_x18 fM_kept_x18 l6_x18 H locs ls b_iM_rows_x18 b_iM_cases_x18 b_fM_ways_x18 b_iM_plainRows_x18 b_fM_plainRow_x18 b_l6_x18 b_pr_x18 hic hf9; exact False.elim (by omega)
    | succ n9 ihx18 =>
      intro gL_over_x18 gL_under_x18 fL_bound_x18 iL_steps_x18 jL_scaleOver_x18 jL_scaleUnder_x18 iT_fault_x18 iT_place_x18 iM_rows_x18 iM_cases_x18 fM_ways_x18 iM_plainRows_x18 fM_plainRow_x18 fM_kept_x18 l6_x18 H locs ls b_iM_rows_x18 b_iM_cases_x18 b_fM_ways_x18 b_iM_plainRows_x18 b_fM_plainRow_x18 b_l6_x18 b_pr_x18 hic hfx18 hP hD hS hl
      refine lv_iload hx hb dX10_doRows_18 (lv_at hl 0 rfl) ?_
      refine lv_iload hx hb dX10_doRows_20 (lv_at hl 1 rfl) ?_
      refine lv_icmp_ge (tgt := 176) hx hb dX10_doRows_22 (by decide) (fun c_22 => ?_) (fun c_22 => ?_)
      · have t_22 : l6_x18.toInt ≥ k0_j14.toInt := toI_ge c_22 rfl rfl
        refine vx_ret ?_
        refine W.known (fun hz9 _ => ?_)
        refine W.widen (k := 1) (n := 6) (by decide +kernel) (by decide +kernel) ?_
        exact W.vret hx hb hr (fun t9_ ht hW => ⟨⟨(gL_over_x18, gL_under_x18, fL_bound_x18, iL_steps_x18, jL_scaleOver_x18, jL_scaleUnder_x18, iT_fault_x18, iT_place_x18, iM_rows_x18, iM_cases_x18, fM_ways_x18, iM_plainRows_x18, fM_plainRow_x18, fM_kept_x18), rfl, ⟨b_iM_rows_x18, b_iM_cases_x18, b_fM_ways_x18, b_iM_plainRows_x18, b_fM_plainRow_x18, (by (try dsimp only); exact (by first | with_reducible assumption | omega | assumption)), (by (try dsimp only); omega)⟩, by rw [ht]; exact hP, hD, by rw [ht]; first | done | exact Nat.le_antisymm hz9 hS.1⟩, hS.F ht⟩) hS.2.2 dX10_doRows_176
      · have t_22 : ¬ l6_x18.toInt ≥ k0_j14.toInt := toI_nge c_22 rfl rfl
        refine lv_iload_n hx hb dX10_doRows_25 rfl (lv_at hl 3 rfl) ?_
        refine W.cut (pc := 36) (fun H locs ls stk => ∃ (fL_bound_j25 : Nat → Int32),  stk = [] ∧ va_P (dC, dI) vwCl (WL hL aL kL hT hM (.ref dF_tree) iL_names gL_key fL_kind fL_one fL_two fL_base iL_params fL_paramOver dL_paramOver nL_params fL_paramUnder dL_paramUnder nL_pu gL_over_x18 gL_under_x18 fL_bound_j25 iL_nameAt iL_startAt iL_steps_x18 jL_scaleOver_x18 jL_scaleUnder_x18 ++ (WF hF aF kF dF_tree nF_tree fF_tree ++ (WT hT aT kT fT_tape dT_tape nT_tape iT_length iT_fault_x18 iT_place_x18 iT_kind iT_at iT_number jT_name iT_next ++ (WM hM aM kM iM_stands iM_variables iM_rows_x18 iM_goals iM_differents iM_cases_x18 fM_from fM_to fM_whole fM_ways_x18 iM_plainRows_x18 fM_plainRow_x18 fM_kept_x18 fM_goalOver fM_goalUnder fM_goalMax fM_different)))) H ∧ va_D A (WL hL aL kL hT hM (.ref dF_tree) iL_names gL_key fL_kind fL_one fL_two fL_base iL_params fL_paramOver dL_paramOver nL_params fL_paramUnder dL_paramUnder nL_pu gL_over_x18 gL_under_x18 fL_bound_j25 iL_nameAt iL_startAt iL_steps_x18 jL_scaleOver_x18 jL_scaleUnder_x18 ++ (WF hF aF kF dF_tree nF_tree fF_tree ++ (WT hT aT kT fT_tape dT_tape nT_tape iT_length iT_fault_x18 iT_place_x18 iT_kind iT_at iT_number jT_name iT_next ++ (WM hM aM kM iM_stands iM_variables iM_rows_x18 iM_goals iM_differents iM_cases_x18 fM_from fM_to fM_whole fM_ways_x18 iM_plainRows_x18 fM_plainRow_x18 fM_kept_x18 fM_goalOver fM_goalUnder fM_goalMax fM_different)))) ∧ va_S A s.heap H locs ∧ lv_has ls 10 [(6, .int l6_x18), (5, .int k0_j14), (0, .ref (hL 0)), (1, .int p1), (2, .int p2), (3, .int p3), (4, .int p4)]) (fun join25 => ?_) ?_
        · refine lv_if_eq (tgt := 36) hx hb dX10_doRows_26 (by decide) (fun c_26 => ?_) (fun c_26 => ?_)
          · have t_26 : p1.toInt = 0 := toI_eq c_26 rfl (by decide : (0 : Int32).toInt = 0)
            have hl : lv_has _ _ ([(6, .int l6_x18), (5, .int k0_j14), (0, .ref (hL 0)), (1, .int p1), (2, .int p2), (3, .int p3), (4, .int p4)]) := lv_sub hl [0, 1, 2, 3, 4, 5, 6] rfl
            exact join25 _ _ _ _ ⟨fL_bound_x18, rfl, hP, hD, hS, hl⟩
          · have t_26 : ¬ p1.toInt = 0 := toI_neq c_26 rfl (by decide : (0 : Int32).toInt = 0)
            refine lv_aload_n hx hb dX10_doRows_29 rfl (lv_at hl 2 rfl) ?_
            refine lv_iload_n hx hb dX10_doRows_30 rfl (lv_at hl 3 rfl) ?_
            refine lv_iload hx hb dX10_doRows_31 (lv_at hl 0 rfl) ?_
            have p9 := cj_4_0_1 (WL hL aL kL hT hM (.ref dF_tree) iL_names gL_key fL_kind fL_one fL_two fL_base iL_params fL_paramOver dL_paramOver nL_params fL_paramUnder dL_paramUnder nL_pu gL_over_x18 gL_under_x18 fL_bound_x18 iL_nameAt iL_startAt iL_steps_x18 jL_scaleOver_x18 jL_scaleUnder_x18) (WF hF aF kF dF_tree nF_tree fF_tree) (WT hT aT kT fT_tape dT_tape nT_tape iT_length iT_fault_x18 iT_place_x18 iT_kind iT_at iT_number jT_name iT_next) (WM hM aM kM iM_stands iM_variables iM_rows_x18 iM_goals iM_differents iM_cases_x18 fM_from fM_to fM_whole fM_ways_x18 iM_plainRows_x18 fM_plainRow_x18 fM_kept_x18 fM_goalOver fM_goalUnder fM_goalMax fM_different)
            have hPc := hP.mem (fun q h => p9.mem_iff.mpr (List.mem_append_left _ h))
            have hDc := (hD.perm p9).left
            have hKc : va_K (dC, dI) vwCl (tL kL ++ (tF kF)) _ := hK.sub [0, 1, 2, 3, 4, 5, 6, 7, 8, 9, 10] rfl
            have hFc := freeG p9 hD hS hA
            refine va_callv (va_runV (As := [.int p1, .int l6_x18]) (rest := []) ⟨hx, hb, hml, hown, hts⟩ (m_X10_bind l dC dI hL aL kL hT hM iL_names gL_key fL_kind fL_one fL_two fL_base iL_params fL_paramOver dL_paramOver nL_params fL_paramUnder dL_paramUnder nL_pu gL_over_x18 gL_under_x18 fL_bound_x18 iL_nameAt iL_startAt iL_steps_x18 jL_scaleOver_x18 jL_scaleUnder_x18 hF aF kF dF_tree nF_tree fF_tree V lo 0 p1 l6_x18 (b_iL_names) b_fL_kind b_fL_two b_fL_base (b_iL_params) (by first | exact b_nL_params | with_reducible assumption | exact ⟨by omega, by omega⟩ | assumption) (by first | with_reducible assumption | omega | (rw [iI_t (by omega) (by omega)]; omega) | assumption) (by first | with_reducible assumption | omega | (rw [iI_t (by omega) (by omega)]; omega) | assumption) (by first | with_reducible assumption | omega | (rw [iI_t (by omega) (by omega)]; omega) | assumption) (by first | exact b_nF_tree | with_reducible assumption | exact ⟨by omega, by omega⟩ | assumption) (b_l6_x18) (by first | with_reducible assumption | omega | (rw [iI_t (by omega) (by omega)]; omega) | decide | assumption) (hn1.resolve_left (by omega)) H.size) (cwV 2 hts gwsMX10_doRows_1 rfl rfl rfl hd_yX10_bind_RX10 (by decide +kernel)) (fz_pre (va_recv hK hP (ci := 10) (q0 := 0) rfl rfl) hPc hKc hDc) rfl rfl hl.1 rfl (lv_room (Nat.le_of_ble_eq_true rfl)) dX10_doRows_33 (by decide +kernel)) hS (fun q _ h => hFc q h) hFc (fun fL_bound_644 t9_ H locs ht hvm hw9 hB9 hz1 hk1 hS => ?_)
            clear hw9
            have p8 := cj_4_0_1 (WL hL aL kL hT hM (.ref dF_tree) iL_names gL_key fL_kind fL_one fL_two fL_base iL_params fL_paramOver dL_paramOver nL_params fL_paramUnder dL_paramUnder nL_pu gL_over_x18 gL_under_x18 fL_bound_644 iL_nameAt iL_startAt iL_steps_x18 jL_scaleOver_x18 jL_scaleUnder_x18) (WF hF aF kF dF_tree nF_tree fF_tree) (WT hT aT kT fT_tape dT_tape nT_tape iT_length iT_fault_x18 iT_place_x18 iT_kind iT_at iT_number jT_name iT_next) (WM hM aM kM iM_stands iM_variables iM_rows_x18 iM_goals iM_differents iM_cases_x18 fM_from fM_to fM_whole fM_ways_x18 iM_plainRows_x18 fM_plainRow_x18 fM_kept_x18 fM_goalOver fM_goalUnder fM_goalMax fM_different)
            obtain ⟨hP, hD⟩ := frameG p9 p8 hP hD hk1 hFc (fz_P ht hB9.1) hB9.2
            have hl : lv_has _ _ ([(6, .int l6_x18), (5, .int k0_j14), (0, .ref (hL 0)), (1, .int p1), (2, .int p2), (3, .int p3), (4, .int p4)]) := lv_sub hl [0, 1, 2, 3, 4, 5, 6] rfl
            exact join25 _ _ _ _ ⟨fL_bound_644, rfl, hP, hD, hS, hl⟩
        · rintro H locs ls stk ⟨fL_bound_j25, rfl, hP, hD, hS, hl⟩
          refine lv_iload_n hx hb dX10_doRows_36 rfl (lv_at hl 4 rfl) ?_
          refine W.cut (pc := 170) (fun H locs ls stk => ∃ (gL_over_j26 : Nat → Int64) (gL_under_j26 : Nat → Int64) (fL_bound_j26 : Nat → Int32) (iL_steps_j26 : Int32) (jL_scaleOver_j26 : Int64) (jL_scaleUnder_j26 : Int64) (iT_fault_j26 : Int32) (iT_place_j26 : Int32) (iM_rows_j26 : Int32) (iM_cases_j26 : Int32) (fM_ways_j26 : Nat → Int32) (iM_plainRows_j26 : Int32) (fM_plainRow_j26 : Nat → Int32) (fM_kept_j26 : Nat → Int32), (0 ≤ iM_rows_j26.toInt ∧ iM_rows_j26.toInt ≤ 12) ∧ (0 ≤ iM_cases_j26.toInt ∧ iM_cases_j26.toInt ≤ 200000) ∧ (∀ q : Nat, 0 ≤ (fM_ways_j26 q).toInt ∧ (fM_ways_j26 q).toInt ≤ 3) ∧ (0 ≤ iM_plainRows_j26.toInt ∧ iM_plainRows_j26.toInt ≤ 12) ∧ (∀ q : Nat, 0 ≤ (fM_plainRow_j26 q).toInt ∧ (fM_plainRow_j26 q).toInt ≤ 11) ∧ (iM_plainRows_j26.toInt ≤ iM_rows_j26.toInt) ∧ (iM_cases_j26.toInt ≤ 64) ∧  stk = [] ∧ va_P (dC, dI) vwCl (WL hL aL kL hT hM (.ref dF_tree) iL_names gL_key fL_kind fL_one fL_two fL_base iL_params fL_paramOver dL_paramOver nL_params fL_paramUnder dL_paramUnder nL_pu gL_over_j26 gL_under_j26 fL_bound_j26 iL_nameAt iL_startAt iL_steps_j26 jL_scaleOver_j26 jL_scaleUnder_j26 ++ (WF hF aF kF dF_tree nF_tree fF_tree ++ (WT hT aT kT fT_tape dT_tape nT_tape iT_length iT_fault_j26 iT_place_j26 iT_kind iT_at iT_number jT_name iT_next ++ (WM hM aM kM iM_stands iM_variables iM_rows_j26 iM_goals iM_differents iM_cases_j26 fM_from fM_to fM_whole fM_ways_j26 iM_plainRows_j26 fM_plainRow_j26 fM_kept_j26 fM_goalOver fM_goalUnder fM_goalMax fM_different)))) H ∧ va_D A (WL hL aL kL hT hM (.ref dF_tree) iL_names gL_key fL_kind fL_one fL_two fL_base iL_params fL_paramOver dL_paramOver nL_params fL_paramUnder dL_paramUnder nL_pu gL_over_j26 gL_under_j26 fL_bound_j26 iL_nameAt iL_startAt iL_steps_j26 jL_scaleOver_j26 jL_scaleUnder_j26 ++ (WF hF aF kF dF_tree nF_tree fF_tree ++ (WT hT aT kT fT_tape dT_tape nT_tape iT_length iT_fault_j26 iT_place_j26 iT_kind iT_at iT_number jT_name iT_next ++ (WM hM aM kM iM_stands iM_variables iM_rows_j26 iM_goals iM_differents iM_cases_j26 fM_from fM_to fM_whole fM_ways_j26 iM_plainRows_j26 fM_plainRow_j26 fM_kept_j26 fM_goalOver fM_goalUnder fM_goalMax fM_different)))) ∧ va_S A s.heap H locs ∧ lv_has ls 10 [(6, .int l6_x18), (5, .int k0_j14), (0, .ref (hL 0)), (1, .int p1), (2, .int p2), (3, .int p3), (4, .int p4)]) (fun join26 => ?_) ?_
          · refine lv_if_eq (tgt := 52) hx hb dX10_doRows_37 (by decide) (fun c_37 => ?_) (fun c_37 => ?_)
            · have t_37 : p2.toInt = 0 := toI_eq c_37 rfl (by decide : (0 : Int32).toInt = 0)
              refine lv_aload_n hx hb dX10_doRows_52 rfl (lv_at hl 2 rfl) ?_
              refine va_get (D := (dC, dI)) (ci := 10) (v := .ref (hM 0)) (C := RX10) (T := TX10) (N := 20) hx hb hts iwsMX10_doRows_in10 hown hK hP 0 rfl rfl 1 (by decide) (hts _ hm_m_X10_doRows_0) (fun _ h9 => h9) rfl dX10_doRows_53 ?_
              refine va_get (D := (dC, dI)) (ci := 1) (v := .int iM_rows_x18) (C := RX1) (T := TX1) (N := 17) hx hb hts iwsMX10_doRows_in1 hown hK hP 14 rfl rfl 2 (by decide) (hts _ hm_m_X10_doRows_1) (fun _ h9 => h9) rfl dX10_doRows_56 ?_
              refine lv_istore hx hb dX10_doRows_59 hl (by decide) rfl (fun ls (hl : lv_has ls _ ([(7, .int iM_rows_x18), (6, .int l6_x18), (5, .int k0_j14), (0, .ref (hL 0)), (1, .int p1), (2, .int p2), (3, .int p3), (4, .int p4)])) => ?_)
              refine lv_iload hx hb dX10_doRows_61 (lv_at hl 0 rfl) ?_
              refine lv_bipush (v := 12) hx hb dX10_doRows_63 (by decide) ?_
              refine lv_icmp_lt (tgt := 81) hx hb dX10_doRows_65 (by decide) (fun c_65 => ?_) (fun c_65 => ?_)
              · have t_65 : iM_rows_x18.toInt < 12 := toI_lt c_65 rfl (by decide : (12 : Int32).toInt = 12)
                refine lv_aload_n hx hb dX10_doRows_81 rfl (lv_at hl 3 rfl) ?_
                refine lv_iload hx hb dX10_doRows_82 (lv_at hl 7 rfl) ?_
                refine W.known (fun hz0 _ => ?_)
                have p9 := cj_4_0_2_3 (WL hL aL kL hT hM (.ref dF_tree) iL_names gL_key fL_kind fL_one fL_two fL_base iL_params fL_paramOver dL_paramOver nL_params fL_paramUnder dL_paramUnder nL_pu gL_over_x18 gL_under_x18 fL_bound_j25 iL_nameAt iL_startAt iL_steps_x18 jL_scaleOver_x18 jL_scaleUnder_x18) (WF hF aF kF dF_tree nF_tree fF_tree) (WT hT aT kT fT_tape dT_tape nT_tape iT_length iT_fault_x18 iT_place_x18 iT_kind iT_at iT_number jT_name iT_next) (WM hM aM kM iM_stands iM_variables iM_rows_x18 iM_goals iM_differents iM_cases_x18 fM_from fM_to fM_whole fM_ways_x18 iM_plainRows_x18 fM_plainRow_x18 fM_kept_x18 fM_goalOver fM_goalUnder fM_goalMax fM_different)
                have hPc := hP.mem (fun q h => p9.mem_iff.mpr (List.mem_append_left _ h))
                have hDc := (hD.perm p9).left
                have hKc : va_K (dC, dI) vwCl (tL kL ++ (tT kT ++ (tM kM))) _ := hK.sub [0, 1, 2, 3, 4, 5, 6, 7, 8, 9, 11, 12, 13, 14, 15, 16, 17, 18, 19, 20, 21] rfl
                have hFc := freeG p9 hD hS hA
                refine vx_callv (vx_runV (As := [.int p4]) (rest := []) ⟨hx, hb, hml, hown, hts⟩ (m_X10_multiplyCases l hst dC dI hL aL kL hT hM (.ref dF_tree) iL_names gL_key fL_kind fL_one fL_two fL_base iL_params fL_paramOver dL_paramOver nL_params fL_paramUnder dL_paramUnder nL_pu gL_over_x18 gL_under_x18 fL_bound_j25 iL_nameAt iL_startAt iL_steps_x18 jL_scaleOver_x18 jL_scaleUnder_x18 aT kT fT_tape dT_tape nT_tape iT_length iT_fault_x18 iT_place_x18 iT_kind iT_at iT_number jT_name iT_next aM kM iM_stands iM_variables iM_rows_x18 iM_goals iM_differents iM_cases_x18 fM_from fM_to fM_whole fM_ways_x18 iM_plainRows_x18 fM_plainRow_x18 fM_kept_x18 fM_goalOver fM_goalUnder fM_goalMax fM_different p4 (b_iL_names) b_fL_kind b_fL_two b_fL_base (b_iL_params) (by first | exact b_nL_params | with_reducible assumption | exact ⟨by omega, by omega⟩ | assumption) (by first | with_reducible assumption | omega | (rw [iI_t (by omega) (by omega)]; omega) | assumption) (by first | with_reducible assumption | omega | (rw [iI_t (by omega) (by omega)]; omega) | assumption) (by first | with_reducible assumption | omega | (rw [iI_t (by omega) (by omega)]; omega) | assumption) b_fT_tape (by first | exact b_nT_tape | with_reducible assumption | exact ⟨by omega, by omega⟩ | assumption) (b_iT_length) (b_iT_at) (b_iT_number) (b_iT_next) (by first | with_reducible assumption | omega | assumption) (b_iM_stands) (b_iM_variables) (b_iM_rows_x18) (b_iM_goals) (b_iM_differents) (b_iM_cases_x18) b_fM_ways_x18 (b_iM_plainRows_x18) b_fM_plainRow_x18 (by first | with_reducible assumption | omega | assumption) (⟨b_p4.1, Int.le_trans b_p4.2 (by decide)⟩) (by first | with_reducible assumption | omega | (rw [iI_t (by omega) (by omega)]; omega) | decide | assumption) H.size) (cwV 1 hts gwsMX10_doRows_3 rfl rfl rfl hd_yX10_multiplyCases_RX10 (by decide +kernel)) (fz_preE (va_recv hK hP (ci := 10) (q0 := 0) rfl rfl) hPc hKc hDc (fun a U g mk qE => qE.call) (fun U hU9 hW => by rw [hU9]; exact (((hE : CE A s s.heap).kept hS.2.1).narrow (fun q h => hFc q h)).warm hW)) rfl rfl hl.1 rfl (lv_room (Nat.le_of_ble_eq_true rfl)) dX10_doRows_84 (by decide +kernel)) hS (fun q _ h => hFc q h) hFc (fun q _ h => hFc q h) (fun E ce q9 u t9_ H locs ht hvm hw9 hB9 hz1 hk1 hS hc1 hc2 hc3 => ?_) (fun u t9_ H locs ht hvm hw9 hB9 hz1 hk1 hS => ?_)
                · revert u hw9 hB9
                  refine fz_p3 ?_
                  intro iT_fault_709 iT_place_709 iM_cases_709 hw9 hB9
                  try dsimp only at hw9 hB9
                  revert hB9
                  refine fz_a2 ?_
                  intro hEx hB9
                  have b_iM_cases_709 := hw9
                  try dsimp only at b_iM_cases_709
                  have p8 := cj_4_0_2_3 (WL hL aL kL hT hM (.ref dF_tree) iL_names gL_key fL_kind fL_one fL_two fL_base iL_params fL_paramOver dL_paramOver nL_params fL_paramUnder dL_paramUnder nL_pu gL_over_x18 gL_under_x18 fL_bound_j25 iL_nameAt iL_startAt iL_steps_x18 jL_scaleOver_x18 jL_scaleUnder_x18) (WF hF aF kF dF_tree nF_tree fF_tree) (WT hT aT kT fT_tape dT_tape nT_tape iT_length iT_fault_709 iT_place_709 iT_kind iT_at iT_number jT_name iT_next) (WM hM aM kM iM_stands iM_variables iM_rows_x18 iM_goals iM_differents iM_cases_709 fM_from fM_to fM_whole fM_ways_x18 iM_plainRows_x18 fM_plainRow_x18 fM_kept_x18 fM_goalOver fM_goalUnder fM_goalMax fM_different)
                  obtain ⟨hP, hD⟩ := frameG p9 p8 hP hD hk1 hFc (fz_P ht hB9.1) hB9.2
                  exact vx_out (fun x hx9 => (htab x hx9).elim) hlocks hc1 hc2 hc3 (fun t9_ ht hvm => ⟨(gL_over_x18, gL_under_x18, fL_bound_j25, iL_steps_x18, jL_scaleOver_x18, jL_scaleUnder_x18, iT_fault_709, iT_place_709, iM_rows_x18, iM_cases_709, fM_ways_x18, iM_plainRows_x18, fM_plainRow_x18, fM_kept_x18), ⟨(b_iM_rows_x18), (by first | exact b_iM_cases_709 | with_reducible assumption | exact ⟨by omega, by omega⟩ | assumption), b_fM_ways_x18, (b_iM_plainRows_x18), b_fM_plainRow_x18, (by (try dsimp only); exact (by first | with_reducible assumption | omega | assumption))⟩, ⟨(by have h9 := hEx; exact h9), by rw [ht]; exact hP, hD⟩, hS.F ht⟩) hS.2.2 (by decide +kernel) (by decide +kernel)
                revert u hw9 hB9
                refine fz_p3 ?_
                intro iT_fault_709 iT_place_709 iM_cases_709 hw9 hB9
                try dsimp only at hw9 hB9
                revert hw9
                refine fz_a2 ?_
                intro b_iM_cases_709 f709_0
                have hz8 := hB9.2.2
                rw [ht] at hz8
                have hz9 : H.size ≤ s.heap.size + 0 := by rw [hz8]; exact hz0
                refine W.tight (cells2 := 0) (slots2 := 0) hz9 (nS_0 hz9) ?_
                clear hz8 hz9
                have p8 := cj_4_0_2_3 (WL hL aL kL hT hM (.ref dF_tree) iL_names gL_key fL_kind fL_one fL_two fL_base iL_params fL_paramOver dL_paramOver nL_params fL_paramUnder dL_paramUnder nL_pu gL_over_x18 gL_under_x18 fL_bound_j25 iL_nameAt iL_startAt iL_steps_x18 jL_scaleOver_x18 jL_scaleUnder_x18) (WF hF aF kF dF_tree nF_tree fF_tree) (WT hT aT kT fT_tape dT_tape nT_tape iT_length iT_fault_709 iT_place_709 iT_kind iT_at iT_number jT_name iT_next) (WM hM aM kM iM_stands iM_variables iM_rows_x18 iM_goals iM_differents iM_cases_709 fM_from fM_to fM_whole fM_ways_x18 iM_plainRows_x18 fM_plainRow_x18 fM_kept_x18 fM_goalOver fM_goalUnder fM_goalMax fM_different)
                obtain ⟨hP, hD⟩ := frameG p9 p8 hP hD hk1 hFc (fz_P ht hB9.1) hB9.2.1
                refine lv_aload_n hx hb dX10_doRows_87 rfl (lv_at hl 3 rfl) ?_
                refine va_get (D := (dC, dI)) (ci := 10) (v := .ref (hM 0)) (C := RX10) (T := TX10) (N := 20) hx hb hts iwsMX10_doRows_in10 hown hK hP 0 rfl rfl 1 (by decide) (hts _ hm_m_X10_doRows_0) (fun _ h9 => h9) rfl dX10_doRows_88 ?_
                refine lv_iload hx hb dX10_doRows_91 (lv_at hl 7 rfl) ?_
                have p9 := cj_4_3 (WL hL aL kL hT hM (.ref dF_tree) iL_names gL_key fL_kind fL_one fL_two fL_base iL_params fL_paramOver dL_paramOver nL_params fL_paramUnder dL_paramUnder nL_pu gL_over_x18 gL_under_x18 fL_bound_j25 iL_nameAt iL_startAt iL_steps_x18 jL_scaleOver_x18 jL_scaleUnder_x18) (WF hF aF kF dF_tree nF_tree fF_tree) (WT hT aT kT fT_tape dT_tape nT_tape iT_length iT_fault_709 iT_place_709 iT_kind iT_at iT_number jT_name iT_next) (WM hM aM kM iM_stands iM_variables iM_rows_x18 iM_goals iM_differents iM_cases_709 fM_from fM_to fM_whole fM_ways_x18 iM_plainRows_x18 fM_plainRow_x18 fM_kept_x18 fM_goalOver fM_goalUnder fM_goalMax fM_different)
                have hPc := hP.mem (fun q h => p9.mem_iff.mpr (List.mem_append_left _ h))
                have hDc := (hD.perm p9).left
                have hKc : va_K (dC, dI) vwCl (tM kM) _ := hK.sub [12, 13, 14, 15, 16, 17, 18, 19, 20, 21] rfl
                have hFc := freeG p9 hD hS hA
                refine va_callv (va_runV (As := [.int p4]) (rest := []) ⟨hx, hb, hml, hown, hts⟩ (m_X1_addRow l dC dI hM aM kM iM_stands iM_variables iM_rows_x18 iM_goals iM_differents iM_cases_709 fM_from fM_to fM_whole fM_ways_x18 iM_plainRows_x18 fM_plainRow_x18 fM_kept_x18 fM_goalOver fM_goalUnder fM_goalMax fM_different p4 (b_iM_stands) (b_iM_variables) (b_iM_rows_x18) (b_iM_goals) (b_iM_differents) (b_iM_cases_709) b_fM_ways_x18 (b_iM_plainRows_x18) b_fM_plainRow_x18 (by first | with_reducible assumption | omega | assumption) (⟨Int.le_trans (by decide) b_p4.1, b_p4.2⟩) (by first | with_reducible assumption | omega | (rw [iI_t (by omega) (by omega)]; omega) | decide | assumption) H.size) (cwV 1 hts gwsMX10_doRows_4 rfl rfl rfl hd_yX1_addRow_RX1 (by decide +kernel)) (fz_pre (va_recv hK hP (ci := 1) (q0 := 14) rfl rfl) hPc hKc hDc) rfl rfl hl.1 rfl (lv_room (Nat.le_of_ble_eq_true rfl)) dX10_doRows_93 (by decide +kernel)) hS (fun q _ h => hFc q h) hFc (fun u t9_ H locs ht hvm hw9 hB9 hz1 hk1 hS => ?_)
                revert u hw9 hB9
                refine fz_p4 ?_
                intro iM_rows_710 fM_ways_710 iM_plainRows_710 fM_plainRow_710 hw9 hB9
                try dsimp only at hw9 hB9
                revert hw9
                refine fz_a6 ?_
                intro b_iM_rows_710 b_fM_ways_710 b_iM_plainRows_710 b_fM_plainRow_710 b_pr_710 f710_0
                have p8 := cj_4_3 (WL hL aL kL hT hM (.ref dF_tree) iL_names gL_key fL_kind fL_one fL_two fL_base iL_params fL_paramOver dL_paramOver nL_params fL_paramUnder dL_paramUnder nL_pu gL_over_x18 gL_under_x18 fL_bound_j25 iL_nameAt iL_startAt iL_steps_x18 jL_scaleOver_x18 jL_scaleUnder_x18) (WF hF aF kF dF_tree nF_tree fF_tree) (WT hT aT kT fT_tape dT_tape nT_tape iT_length iT_fault_709 iT_place_709 iT_kind iT_at iT_number jT_name iT_next) (WM hM aM kM iM_stands iM_variables iM_rows_710 iM_goals iM_differents iM_cases_709 fM_from fM_to fM_whole fM_ways_710 iM_plainRows_710 fM_plainRow_710 fM_kept_x18 fM_goalOver fM_goalUnder fM_goalMax fM_different)
                obtain ⟨hP, hD⟩ := frameG p9 p8 hP hD hk1 hFc (fz_P ht hB9.1) hB9.2
                refine lv_iload_n hx hb dX10_doRows_96 rfl (lv_at hl 6 rfl) ?_
                refine lv_istore hx hb dX10_doRows_97 hl (by decide) rfl (fun ls (hl : lv_has ls _ ([(8, .int p3), (7, .int iM_rows_x18), (6, .int l6_x18), (5, .int k0_j14), (0, .ref (hL 0)), (1, .int p1), (2, .int p2), (3, .int p3), (4, .int p4)])) => ?_)
                refine lv_iconst (v := 0) hx hb dX10_doRows_99 (by decide) ?_
                refine lv_istore hx hb dX10_doRows_100 hl (by decide) rfl (fun ls (hl : lv_has ls _ ([(9, .int 0), (8, .int p3), (7, .int iM_rows_x18), (6, .int l6_x18), (5, .int k0_j14), (0, .ref (hL 0)), (1, .int p1), (2, .int p2), (3, .int p3), (4, .int p4)])) => ?_)
                have hl : lv_has _ _ ([(9, .int 0), (8, .int p3), (7, .int iM_rows_x18), (6, .int l6_x18), (5, .int k0_j14), (0, .ref (hL 0)), (1, .int p1), (2, .int p2), (3, .int p3), (4, .int p4)]) := lv_sub hl [0, 1, 2, 3, 4, 5, 6, 7, 8, 9] rfl
                refine (fun (loop : ∀ (n9 : Nat) (gL_over_x102 : Nat → Int64) (gL_under_x102 : Nat → Int64) (fL_bound_x102 : Nat → Int32) (iL_steps_x102 : Int32) (jL_scaleOver_x102 : Int64) (jL_scaleUnder_x102 : Int64) (iT_fault_x102 : Int32) (iT_place_x102 : Int32) (fM_kept_x102 : Nat → Int32) (l9_x102 : Int32) (l8_x102 : Int32) (H : Heap) (locs : List Loc) (ls : Array Slot), (0 ≤ l9_x102.toInt ∧ l9_x102.toInt ≤ 3) → (l8_x102.toInt = 0 ∨ V l8_x102.toInt 14 0) → (3 - l9_x102.toInt < ((n9 : Nat) : Int)) → va_P (dC, dI) vwCl (WL hL aL kL hT hM (.ref dF_tree) iL_names gL_key fL_kind fL_one fL_two fL_base iL_params fL_paramOver dL_paramOver nL_params fL_paramUnder dL_paramUnder nL_pu gL_over_x102 gL_under_x102 fL_bound_x102 iL_nameAt iL_startAt iL_steps_x102 jL_scaleOver_x102 jL_scaleUnder_x102 ++ (WF hF aF kF dF_tree nF_tree fF_tree ++ (WT hT aT kT fT_tape dT_tape nT_tape iT_length iT_fault_x102 iT_place_x102 iT_kind iT_at iT_number jT_name iT_next ++ (WM hM aM kM iM_stands iM_variables iM_rows_710 iM_goals iM_differents iM_cases_709 fM_from fM_to fM_whole fM_ways_710 iM_plainRows_710 fM_plainRow_710 fM_kept_x102 fM_goalOver fM_goalUnder fM_goalMax fM_different)))) H → va_D A (WL hL aL kL hT hM (.ref dF_tree) iL_names gL_key fL_kind fL_one fL_two fL_base iL_params fL_paramOver dL_paramOver nL_params fL_paramUnder dL_paramUnder nL_pu gL_over_x102 gL_under_x102 fL_bound_x102 iL_nameAt iL_startAt iL_steps_x102 jL_scaleOver_x102 jL_scaleUnder_x102 ++ (WF hF aF kF dF_tree nF_tree fF_tree ++ (WT hT aT kT fT_tape dT_tape nT_tape iT_length iT_fault_x102 iT_place_x102 iT_kind iT_at iT_number jT_name iT_next ++ (WM hM aM kM iM_stands iM_variables iM_rows_710 iM_goals iM_differents iM_cases_709 fM_from fM_to fM_whole fM_ways_710 iM_plainRows_710 fM_plainRow_710 fM_kept_x102 fM_goalOver fM_goalUnder fM_goalMax fM_different)))) → va_S A s.heap H locs → lv_has ls 10 [(9, .int l9_x102), (8, .int l8_x102), (7, .int iM_rows_x18), (6, .int l6_x18), (5, .int k0_j14), (0, .ref (hL 0)), (1, .int p1), (2, .int p2), (3, .int p3), (4, .int p4)] → W p l e _ s m _ below meth c H locs 0 0 _ (F0 m 102 ls [])) => loop (4) gL_over_x18 gL_under_x18 fL_bound_j25 iL_steps_x18 jL_scaleOver_x18 jL_scaleUnder_x18 iT_fault_709 iT_place_709 fM_kept_x18 0 p3 _ _ _ (show 0 ≤ (0 : Int32).toInt ∧ (0 : Int32).toInt ≤ 3 from by decide) (show p3.toInt = 0 ∨ V p3.toInt 14 0 from Or.inr hn3) ((by have e9 : (0 : Int32).toInt = 0 := (by decide : (0 : Int32).toInt = 0); omega)) hP hD hS hl) ?_
                intro n9
                induction n9 with
                | zero => intro gL_over_x102 gL_under_x102 fL_bound_x102 iL_steps_x102 jL_scaleOver_x102 jL_scaleUnder_x102 iT_fault_x102 iT_place_x102 fM_kept_x102 l9_x102 l8_x102 H locs ls b_l9_x102 hpt hf9; exact False.elim (by omega)
                | succ n9 ihx102 =>
                  intro gL_over_x102 gL_under_x102 fL_bound_x102 iL_steps_x102 jL_scaleOver_x102 jL_scaleUnder_x102 iT_fault_x102 iT_place_x102 fM_kept_x102 l9_x102 l8_x102 H locs ls b_l9_x102 hpt hfx102 hP hD hS hl
                  refine lv_iload hx hb dX10_doRows_102 (lv_at hl 0 rfl) ?_
                  refine lv_iload hx hb dX10_doRows_104 (lv_at hl 9 rfl) ?_
                  refine lv_icmp_ge (tgt := 170) hx hb dX10_doRows_106 (by decide) (fun c_106 => ?_) (fun c_106 => ?_)
                  · have t_106 : l9_x102.toInt ≥ p4.toInt := toI_ge c_106 rfl rfl
                    have hl : lv_has _ _ ([(6, .int l6_x18), (5, .int k0_j14), (0, .ref (hL 0)), (1, .int p1), (2, .int p2), (3, .int p3), (4, .int p4)]) := lv_sub hl [3, 4, 5, 6, 7, 8, 9] rfl
                    exact join26 _ _ _ _ ⟨gL_over_x102, gL_under_x102, fL_bound_x102, iL_steps_x102, jL_scaleOver_x102, jL_scaleUnder_x102, iT_fault_x102, iT_place_x102, iM_rows_710, iM_cases_709, fM_ways_710, iM_plainRows_710, fM_plainRow_710, fM_kept_x102, (b_iM_rows_710), (b_iM_cases_709), b_fM_ways_710, (b_iM_plainRows_710), b_fM_plainRow_710, (by first | with_reducible assumption | omega | assumption), (show iM_cases_709.toInt ≤ 64 from by omega), rfl, hP, hD, hS, hl⟩
                  · have t_106 : ¬ l9_x102.toInt ≥ p4.toInt := toI_nge c_106 rfl rfl
                    refine lv_iload hx hb dX10_doRows_109 (lv_at hl 1 rfl) ?_
                    refine lv_if_eq (tgt := 170) hx hb dX10_doRows_111 (by decide) (fun c_111 => ?_) (fun c_111 => ?_)
                    · have t_111 : l8_x102.toInt = 0 := toI_eq c_111 rfl (by decide : (0 : Int32).toInt = 0)
                      have hl : lv_has _ _ ([(6, .int l6_x18), (5, .int k0_j14), (0, .ref (hL 0)), (1, .int p1), (2, .int p2), (3, .int p3), (4, .int p4)]) := lv_sub hl [3, 4, 5, 6, 7, 8, 9] rfl
                      exact join26 _ _ _ _ ⟨gL_over_x102, gL_under_x102, fL_bound_x102, iL_steps_x102, jL_scaleOver_x102, jL_scaleUnder_x102, iT_fault_x102, iT_place_x102, iM_rows_710, iM_cases_709, fM_ways_710, iM_plainRows_710, fM_plainRow_710, fM_kept_x102, (b_iM_rows_710), (b_iM_cases_709), b_fM_ways_710, (b_iM_plainRows_710), b_fM_plainRow_710, (by first | with_reducible assumption | omega | assumption), (show iM_cases_709.toInt ≤ 64 from by omega), rfl, hP, hD, hS, hl⟩
                    · have t_111 : ¬ l8_x102.toInt = 0 := toI_neq c_111 rfl (by decide : (0 : Int32).toInt = 0)
                      have hpv := hpt.resolve_left t_111
                      have hr1 := TrL.rng hV hpv
                      have hc14 := TrL.c14 hV hpv
                      refine lv_aload_n hx hb dX10_doRows_114 rfl (lv_at hl 5 rfl) ?_
                      refine lv_aload_n hx hb dX10_doRows_115 rfl (lv_at hl 5 rfl) ?_
                      refine va_get (D := (dC, dI)) (ci := 10) (v := .ref dF_tree) (C := RX10) (T := TX10) (N := 20) hx hb hts iwsMX10_doRows_in10 hown hK hP 0 rfl rfl 2 (by decide) (hts _ hm_m_X10_doRows_2) (fun _ h9 => h9) rfl dX10_doRows_116 ?_
                      refine lv_iload hx hb dX10_doRows_119 (lv_at hl 1 rfl) ?_
                      refine lv_iconst (v := 3) hx hb dX10_doRows_121 (by decide) ?_
                      refine lv_iadd hx hb dX10_doRows_122 ?_
                      refine lv_topi (fun y729 hy729 => ?_)
                      obtain rfl : (iI (l8_x102.toInt + 3)) = y729 := (hy729.trans (iI_add2 (iI_of _) (by decide : (3 : Int32) = iI 3))).symm
                      refine va_iald (cA := kF 0) (n := nF_tree) (f := fF_tree) hx hb hK hP 11 10 rfl rfl (vp_iI (by omega) (by omega) (by omega)) dX10_doRows_123 ?_
                      refine lv_topi (fun v730 hv730 => ?_)
                      have b_v730 : v730.toInt = twL fF_tree (l8_x102.toInt + 3) := by rw [hv730]; exact tw_i (by omega) (by omega)
                      have b1_v730 : V v730.toInt 1 1 := by rw [hv730]; exact Vld (tw_i (by omega) (by omega)) hc14.1
                      clear hv730
                      refine lv_iconst (v := 0) hx hb dX10_doRows_124 (by decide) ?_
                      refine W.known (fun hz0 _ => ?_)
                      have hFc := allFree hD hS hA
                      refine vx_callv (vx_runV (As := [.int v730, .int 0]) (rest := []) ⟨hx, hb, hml, hown, hts⟩ (mt_X10_linear l hst dC dI hL aL kL hT hM iL_names gL_key fL_kind fL_one fL_two fL_base iL_params fL_paramOver dL_paramOver nL_params fL_paramUnder dL_paramUnder nL_pu gL_over_x102 gL_under_x102 fL_bound_x102 iL_nameAt iL_startAt iL_steps_x102 jL_scaleOver_x102 jL_scaleUnder_x102 hF aF kF dF_tree nF_tree fF_tree aT kT fT_tape dT_tape nT_tape iT_length iT_fault_x102 iT_place_x102 iT_kind iT_at iT_number jT_name iT_next aM kM iM_stands iM_variables iM_rows_710 iM_goals iM_differents iM_cases_709 fM_from fM_to fM_whole fM_ways_710 iM_plainRows_710 fM_plainRow_710 fM_kept_x102 fM_goalOver fM_goalUnder fM_goalMax fM_different V lo 1 v730 0 (b_iL_names) b_fL_kind b_fL_two b_fL_base (b_iL_params) (by first | exact b_nL_params | with_reducible assumption | exact ⟨by omega, by omega⟩ | assumption) (by first | with_reducible assumption | omega | (rw [iI_t (by omega) (by omega)]; omega) | assumption) (by first | with_reducible assumption | omega | (rw [iI_t (by omega) (by omega)]; omega) | assumption) (by first | with_reducible assumption | omega | (rw [iI_t (by omega) (by omega)]; omega) | assumption) (by first | exact b_nF_tree | with_reducible assumption | exact ⟨by omega, by omega⟩ | assumption) b_fT_tape (by first | exact b_nT_tape | with_reducible assumption | exact ⟨by omega, by omega⟩ | assumption) (b_iT_length) (b_iT_at) (b_iT_number) (b_iT_next) (by first | with_reducible assumption | omega | assumption) (b_iM_stands) (b_iM_variables) (b_iM_rows_710) (b_iM_goals) (b_iM_differents) (b_iM_cases_709) b_fM_ways_710 (b_iM_plainRows_710) b_fM_plainRow_710 (by first | with_reducible assumption | omega | assumption) (show 0 ≤ (0 : Int32).toInt ∧ (0 : Int32).toInt ≤ 38 from by decide) (by first | with_reducible assumption | omega | (rw [iI_t (by omega) (by omega)]; omega) | decide | assumption) (by first | with_reducible assumption | omega | (rw [iI_t (by omega) (by omega)]; omega) | decide | assumption) (by first | with_reducible assumption | omega | (rw [iI_t (by omega) (by omega)]; omega) | decide | assumption) (by first | with_reducible assumption | omega | (rw [iI_t (by omega) (by omega)]; omega) | decide | assumption) H.size) (cwV 2 hts gwsMX10_doRows_5 rfl rfl rfl hd_yX10_linear_RX10 (by decide +kernel)) (fz_preE (va_recv hK hP (ci := 10) (q0 := 0) rfl rfl) hP hK hD (fun a U g mk qE => qE.call) (fun U hU9 hW => by rw [hU9]; exact (((hE : CE A s s.heap).kept hS.2.1).narrow (fun q h => hFc q h)).warm hW)) rfl rfl hl.1 rfl (lv_room (Nat.le_of_ble_eq_true rfl)) dX10_doRows_125 (by decide +kernel)) hS (fun q _ h => hFc q h) hFc (fun q _ h => hFc q h) (fun E ce q9 u t9_ H locs ht hvm hw9 hB9 hz1 hk1 hS hc1 hc2 hc3 => ?_) (fun u t9_ H locs ht hvm hw9 hB9 hz1 hk1 hS => ?_)
                      · revert u hw9 hB9
                        refine fz_p6 ?_
                        intro gL_over_731 gL_under_731 fL_bound_731 iL_steps_731 iT_fault_731 iT_place_731 hw9 hB9
                        try dsimp only at hw9 hB9
                        revert hB9
                        refine fz_a2 ?_
                        intro hEx hB9
                        clear hw9
                        have hP : va_P (dC, dI) vwCl (WL hL aL kL hT hM (.ref dF_tree) iL_names gL_key fL_kind fL_one fL_two fL_base iL_params fL_paramOver dL_paramOver nL_params fL_paramUnder dL_paramUnder nL_pu gL_over_731 gL_under_731 fL_bound_731 iL_nameAt iL_startAt iL_steps_731 jL_scaleOver_x102 jL_scaleUnder_x102 ++ (WF hF aF kF dF_tree nF_tree fF_tree ++ (WT hT aT kT fT_tape dT_tape nT_tape iT_length iT_fault_731 iT_place_731 iT_kind iT_at iT_number jT_name iT_next ++ (WM hM aM kM iM_stands iM_variables iM_rows_710 iM_goals iM_differents iM_cases_709 fM_from fM_to fM_whole fM_ways_710 iM_plainRows_710 fM_plainRow_710 fM_kept_x102 fM_goalOver fM_goalUnder fM_goalMax fM_different)))) H := fz_P ht hB9.1
                        have hD := fz_sd hP (hB9.2.weaken (fun _ q _ h => hFc q.1 h)) rfl
                        exact vx_out (fun x hx9 => (htab x hx9).elim) hlocks hc1 hc2 hc3 (fun t9_ ht hvm => ⟨(gL_over_731, gL_under_731, fL_bound_731, iL_steps_731, jL_scaleOver_x102, jL_scaleUnder_x102, iT_fault_731, iT_place_731, iM_rows_710, iM_cases_709, fM_ways_710, iM_plainRows_710, fM_plainRow_710, fM_kept_x102), ⟨(b_iM_rows_710), (b_iM_cases_709), b_fM_ways_710, (b_iM_plainRows_710), b_fM_plainRow_710, (by (try dsimp only); exact (by first | with_reducible assumption | omega | assumption))⟩, ⟨(by have h9 := hEx; exact h9), by rw [ht]; exact hP, hD⟩, hS.F ht⟩) hS.2.2 (by decide +kernel) (by decide +kernel)
                      revert u hw9 hB9
                      refine fz_p6 ?_
                      intro gL_over_731 gL_under_731 fL_bound_731 iL_steps_731 iT_fault_731 iT_place_731 hw9 hB9
                      try dsimp only at hw9 hB9
                      clear hw9
                      have hz8 := hB9.2.2
                      rw [ht] at hz8
                      have hz9 : H.size ≤ s.heap.size + 0 := by rw [hz8]; exact hz0
                      refine W.tight (cells2 := 0) (slots2 := 0) hz9 (nS_0 hz9) ?_
                      clear hz8 hz9
                      have hP : va_P (dC, dI) vwCl (WL hL aL kL hT hM (.ref dF_tree) iL_names gL_key fL_kind fL_one fL_two fL_base iL_params fL_paramOver dL_paramOver nL_params fL_paramUnder dL_paramUnder nL_pu gL_over_731 gL_under_731 fL_bound_731 iL_nameAt iL_startAt iL_steps_731 jL_scaleOver_x102 jL_scaleUnder_x102 ++ (WF hF aF kF dF_tree nF_tree fF_tree ++ (WT hT aT kT fT_tape dT_tape nT_tape iT_length iT_fault_731 iT_place_731 iT_kind iT_at iT_number jT_name iT_next ++ (WM hM aM kM iM_stands iM_variables iM_rows_710 iM_goals iM_differents iM_cases_709 fM_from fM_to fM_whole fM_ways_710 iM_plainRows_710 fM_plainRow_710 fM_kept_x102 fM_goalOver fM_goalUnder fM_goalMax fM_different)))) H := fz_P ht hB9.1
                      have hD := fz_sd hP (hB9.2.1.weaken (fun _ q _ h => hFc q.1 h)) rfl
                      refine lv_aload_n hx hb dX10_doRows_128 rfl (lv_at hl 5 rfl) ?_
                      refine lv_aload_n hx hb dX10_doRows_129 rfl (lv_at hl 5 rfl) ?_
                      refine va_get (D := (dC, dI)) (ci := 10) (v := .ref dF_tree) (C := RX10) (T := TX10) (N := 20) hx hb hts iwsMX10_doRows_in10 hown hK hP 0 rfl rfl 2 (by decide) (hts _ hm_m_X10_doRows_2) (fun _ h9 => h9) rfl dX10_doRows_130 ?_
                      refine lv_iload hx hb dX10_doRows_133 (lv_at hl 1 rfl) ?_
                      refine lv_iconst (v := 4) hx hb dX10_doRows_135 (by decide) ?_
                      refine lv_iadd hx hb dX10_doRows_136 ?_
                      refine lv_topi (fun y732 hy732 => ?_)
                      obtain rfl : (iI (l8_x102.toInt + 4)) = y732 := (hy732.trans (iI_add2 (iI_of _) (by decide : (4 : Int32) = iI 4))).symm
                      refine va_iald (cA := kF 0) (n := nF_tree) (f := fF_tree) hx hb hK hP 11 10 rfl rfl (vp_iI (by omega) (by omega) (by omega)) dX10_doRows_137 ?_
                      refine lv_topi (fun v733 hv733 => ?_)
                      have b_v733 : v733.toInt = twL fF_tree (l8_x102.toInt + 4) := by rw [hv733]; exact tw_i (by omega) (by omega)
                      have b1_v733 : V v733.toInt 1 1 := by rw [hv733]; exact Vld (tw_i (by omega) (by omega)) hc14.2
                      clear hv733
                      refine lv_iconst (v := 1) hx hb dX10_doRows_138 (by decide) ?_
                      refine W.known (fun hz0 _ => ?_)
                      have hFc := allFree hD hS hA
                      refine vx_callv (vx_runV (As := [.int v733, .int 1]) (rest := []) ⟨hx, hb, hml, hown, hts⟩ (mt_X10_linear l hst dC dI hL aL kL hT hM iL_names gL_key fL_kind fL_one fL_two fL_base iL_params fL_paramOver dL_paramOver nL_params fL_paramUnder dL_paramUnder nL_pu gL_over_731 gL_under_731 fL_bound_731 iL_nameAt iL_startAt iL_steps_731 jL_scaleOver_x102 jL_scaleUnder_x102 hF aF kF dF_tree nF_tree fF_tree aT kT fT_tape dT_tape nT_tape iT_length iT_fault_731 iT_place_731 iT_kind iT_at iT_number jT_name iT_next aM kM iM_stands iM_variables iM_rows_710 iM_goals iM_differents iM_cases_709 fM_from fM_to fM_whole fM_ways_710 iM_plainRows_710 fM_plainRow_710 fM_kept_x102 fM_goalOver fM_goalUnder fM_goalMax fM_different V lo 1 v733 1 (b_iL_names) b_fL_kind b_fL_two b_fL_base (b_iL_params) (by first | exact b_nL_params | with_reducible assumption | exact ⟨by omega, by omega⟩ | assumption) (by first | with_reducible assumption | omega | (rw [iI_t (by omega) (by omega)]; omega) | assumption) (by first | with_reducible assumption | omega | (rw [iI_t (by omega) (by omega)]; omega) | assumption) (by first | with_reducible assumption | omega | (rw [iI_t (by omega) (by omega)]; omega) | assumption) (by first | exact b_nF_tree | with_reducible assumption | exact ⟨by omega, by omega⟩ | assumption) b_fT_tape (by first | exact b_nT_tape | with_reducible assumption | exact ⟨by omega, by omega⟩ | assumption) (b_iT_length) (b_iT_at) (b_iT_number) (b_iT_next) (by first | with_reducible assumption | omega | assumption) (b_iM_stands) (b_iM_variables) (b_iM_rows_710) (b_iM_goals) (b_iM_differents) (b_iM_cases_709) b_fM_ways_710 (b_iM_plainRows_710) b_fM_plainRow_710 (by first | with_reducible assumption | omega | assumption) (show 0 ≤ (1 : Int32).toInt ∧ (1 : Int32).toInt ≤ 38 from by decide) (by first | with_reducible assumption | omega | (rw [iI_t (by omega) (by omega)]; omega) | decide | assumption) (by first | with_reducible assumption | omega | (rw [iI_t (by omega) (by omega)]; omega) | decide | assumption) (by first | with_reducible assumption | omega | (rw [iI_t (by omega) (by omega)]; omega) | decide | assumption) (by first | with_reducible assumption | omega | (rw [iI_t (by omega) (by omega)]; omega) | decide | assumption) H.size) (cwV 2 hts gwsMX10_doRows_5 rfl rfl rfl hd_yX10_linear_RX10 (by decide +kernel)) (fz_preE (va_recv hK hP (ci := 10) (q0 := 0) rfl rfl) hP hK hD (fun a U g mk qE => qE.call) (fun U hU9 hW => by rw [hU9]; exact (((hE : CE A s s.heap).kept hS.2.1).narrow (fun q h => hFc q h)).warm hW)) rfl rfl hl.1 rfl (lv_room (Nat.le_of_ble_eq_true rfl)) dX10_doRows_139 (by decide +kernel)) hS (fun q _ h => hFc q h) hFc (fun q _ h => hFc q h) (fun E ce q9 u t9_ H locs ht hvm hw9 hB9 hz1 hk1 hS hc1 hc2 hc3 => ?_) (fun u t9_ H locs ht hvm hw9 hB9 hz1 hk1 hS => ?_)
                      · revert u hw9 hB9
                        refine fz_p6 ?_
                        intro gL_over_734 gL_under_734 fL_bound_734 iL_steps_734 iT_fault_734 iT_place_734 hw9 hB9
                        try dsimp only at hw9 hB9
                        revert hB9
                        refine fz_a2 ?_
                        intro hEx hB9
                        clear hw9
                        have hP : va_P (dC, dI) vwCl (WL hL aL kL hT hM (.ref dF_tree) iL_names gL_key fL_kind fL_one fL_two fL_base iL_params fL_paramOver dL_paramOver nL_params fL_paramUnder dL_paramUnder nL_pu gL_over_734 gL_under_734 fL_bound_734 iL_nameAt iL_startAt iL_steps_734 jL_scaleOver_x102 jL_scaleUnder_x102 ++ (WF hF aF kF dF_tree nF_tree fF_tree ++ (WT hT aT kT fT_tape dT_tape nT_tape iT_length iT_fault_734 iT_place_734 iT_kind iT_at iT_number jT_name iT_next ++ (WM hM aM kM iM_stands iM_variables iM_rows_710 iM_goals iM_differents iM_cases_709 fM_from fM_to fM_whole fM_ways_710 iM_plainRows_710 fM_plainRow_710 fM_kept_x102 fM_goalOver fM_goalUnder fM_goalMax fM_different)))) H := fz_P ht hB9.1
                        have hD := fz_sd hP (hB9.2.weaken (fun _ q _ h => hFc q.1 h)) rfl
                        exact vx_out (fun x hx9 => (htab x hx9).elim) hlocks hc1 hc2 hc3 (fun t9_ ht hvm => ⟨(gL_over_734, gL_under_734, fL_bound_734, iL_steps_734, jL_scaleOver_x102, jL_scaleUnder_x102, iT_fault_734, iT_place_734, iM_rows_710, iM_cases_709, fM_ways_710, iM_plainRows_710, fM_plainRow_710, fM_kept_x102), ⟨(b_iM_rows_710), (b_iM_cases_709), b_fM_ways_710, (b_iM_plainRows_710), b_fM_plainRow_710, (by (try dsimp only); exact (by first | with_reducible assumption | omega | assumption))⟩, ⟨(by have h9 := hEx; exact h9), by rw [ht]; exact hP, hD⟩, hS.F ht⟩) hS.2.2 (by decide +kernel) (by decide +kernel)
                      revert u hw9 hB9
                      refine fz_p6 ?_
                      intro gL_over_734 gL_under_734 fL_bound_734 iL_steps_734 iT_fault_734 iT_place_734 hw9 hB9
                      try dsimp only at hw9 hB9
                      clear hw9
                      have hz8 := hB9.2.2
                      rw [ht] at hz8
                      have hz9 : H.size ≤ s.heap.size + 0 := by rw [hz8]; exact hz0
                      refine W.tight (cells2 := 0) (slots2 := 0) hz9 (nS_0 hz9) ?_
                      clear hz8 hz9
                      have hP : va_P (dC, dI) vwCl (WL hL aL kL hT hM (.ref dF_tree) iL_names gL_key fL_kind fL_one fL_two fL_base iL_params fL_paramOver dL_paramOver nL_params fL_paramUnder dL_paramUnder nL_pu gL_over_734 gL_under_734 fL_bound_734 iL_nameAt iL_startAt iL_steps_734 jL_scaleOver_x102 jL_scaleUnder_x102 ++ (WF hF aF kF dF_tree nF_tree fF_tree ++ (WT hT aT kT fT_tape dT_tape nT_tape iT_length iT_fault_734 iT_place_734 iT_kind iT_at iT_number jT_name iT_next ++ (WM hM aM kM iM_stands iM_variables iM_rows_710 iM_goals iM_differents iM_cases_709 fM_from fM_to fM_whole fM_ways_710 iM_plainRows_710 fM_plainRow_710 fM_kept_x102 fM_goalOver fM_goalUnder fM_goalMax fM_different)))) H := fz_P ht hB9.1
                      have hD := fz_sd hP (hB9.2.1.weaken (fun _ q _ h => hFc q.1 h)) rfl
                      refine lv_aload_n hx hb dX10_doRows_142 rfl (lv_at hl 5 rfl) ?_
                      refine lv_iload hx hb dX10_doRows_143 (lv_at hl 2 rfl) ?_
                      refine lv_iload hx hb dX10_doRows_145 (lv_at hl 0 rfl) ?_
                      refine lv_iload hx hb dX10_doRows_147 (lv_at hl 1 rfl) ?_
                      refine W.known (fun hz0 _ => ?_)
                      have hFc := allFree hD hS hA
                      refine vx_callv (vx_runV (As := [.int iM_rows_x18, .int l9_x102, .int l8_x102]) (rest := []) ⟨hx, hb, hml, hown, hts⟩ (m_X10_keepWay l hst dC dI hL aL kL hT hM iL_names gL_key fL_kind fL_one fL_two fL_base iL_params fL_paramOver dL_paramOver nL_params fL_paramUnder dL_paramUnder nL_pu gL_over_734 gL_under_734 fL_bound_734 iL_nameAt iL_startAt iL_steps_734 jL_scaleOver_x102 jL_scaleUnder_x102 hF aF kF dF_tree nF_tree fF_tree aT kT fT_tape dT_tape nT_tape iT_length iT_fault_734 iT_place_734 iT_kind iT_at iT_number jT_name iT_next aM kM iM_stands iM_variables iM_rows_710 iM_goals iM_differents iM_cases_709 fM_from fM_to fM_whole fM_ways_710 iM_plainRows_710 fM_plainRow_710 fM_kept_x102 fM_goalOver fM_goalUnder fM_goalMax fM_different iM_rows_x18 l9_x102 l8_x102 (b_iL_names) b_fL_kind b_fL_two b_fL_base (b_iL_params) (by first | exact b_nL_params | with_reducible assumption | exact ⟨by omega, by omega⟩ | assumption) (by first | with_reducible assumption | omega | (rw [iI_t (by omega) (by omega)]; omega) | assumption) (by first | with_reducible assumption | omega | (rw [iI_t (by omega) (by omega)]; omega) | assumption) (by first | with_reducible assumption | omega | (rw [iI_t (by omega) (by omega)]; omega) | assumption) (by first | exact b_nF_tree | with_reducible assumption | exact ⟨by omega, by omega⟩ | assumption) b_fT_tape (by first | exact b_nT_tape | with_reducible assumption | exact ⟨by omega, by omega⟩ | assumption) (b_iT_length) (b_iT_at) (b_iT_number) (b_iT_next) (by first | with_reducible assumption | omega | assumption) (b_iM_stands) (b_iM_variables) (b_iM_rows_710) (b_iM_goals) (b_iM_differents) (b_iM_cases_709) b_fM_ways_710 (b_iM_plainRows_710) b_fM_plainRow_710 (by first | with_reducible assumption | omega | assumption) (by first | exact b_iM_rows_x18 | with_reducible assumption | exact ⟨by omega, by omega⟩ | assumption) (by first | exact b_l9_x102 | with_reducible assumption | exact ⟨by omega, by omega⟩ | assumption) (by first | with_reducible assumption | omega | (rw [iI_t (by omega) (by omega)]; omega) | decide | assumption) H.size) (cwV 3 hts gwsMX10_doRows_6 rfl rfl rfl hd_yX10_keepWay_RX10 (by decide +kernel)) (fz_preE (va_recv hK hP (ci := 10) (q0 := 0) rfl rfl) hP hK hD (fun a U g mk qE => qE.call) (fun U hU9 hW => by rw [hU9]; exact (((hE : CE A s s.heap).kept hS.2.1).narrow (fun q h => hFc q h)).warm hW)) rfl rfl hl.1 rfl (lv_room (Nat.le_of_ble_eq_true rfl)) dX10_doRows_149 (by decide +kernel)) hS (fun q _ h => hFc q h) hFc (fun q _ h => hFc q h) (fun E ce q9 u t9_ H locs ht hvm hw9 hB9 hz1 hk1 hS hc1 hc2 hc3 => ?_) (fun u t9_ H locs ht hvm hw9 hB9 hz1 hk1 hS => ?_)
                      · revert u hw9 hB9
                        refine fz_p7 ?_
                        intro gL_over_735 gL_under_735 jL_scaleOver_735 jL_scaleUnder_735 iT_fault_735 iT_place_735 fM_kept_735 hw9 hB9
                        try dsimp only at hw9 hB9
                        revert hB9
                        refine fz_a2 ?_
                        intro hEx hB9
                        clear hw9
                        have hP : va_P (dC, dI) vwCl (WL hL aL kL hT hM (.ref dF_tree) iL_names gL_key fL_kind fL_one fL_two fL_base iL_params fL_paramOver dL_paramOver nL_params fL_paramUnder dL_paramUnder nL_pu gL_over_735 gL_under_735 fL_bound_734 iL_nameAt iL_startAt iL_steps_734 jL_scaleOver_735 jL_scaleUnder_735 ++ (WF hF aF kF dF_tree nF_tree fF_tree ++ (WT hT aT kT fT_tape dT_tape nT_tape iT_length iT_fault_735 iT_place_735 iT_kind iT_at iT_number jT_name iT_next ++ (WM hM aM kM iM_stands iM_variables iM_rows_710 iM_goals iM_differents iM_cases_709 fM_from fM_to fM_whole fM_ways_710 iM_plainRows_710 fM_plainRow_710 fM_kept_735 fM_goalOver fM_goalUnder fM_goalMax fM_different)))) H := fz_P ht hB9.1
                        have hD := fz_sd hP (hB9.2.weaken (fun _ q _ h => hFc q.1 h)) rfl
                        exact vx_out (fun x hx9 => (htab x hx9).elim) hlocks hc1 hc2 hc3 (fun t9_ ht hvm => ⟨(gL_over_735, gL_under_735, fL_bound_734, iL_steps_734, jL_scaleOver_735, jL_scaleUnder_735, iT_fault_735, iT_place_735, iM_rows_710, iM_cases_709, fM_ways_710, iM_plainRows_710, fM_plainRow_710, fM_kept_735), ⟨(b_iM_rows_710), (b_iM_cases_709), b_fM_ways_710, (b_iM_plainRows_710), b_fM_plainRow_710, (by (try dsimp only); exact (by first | with_reducible assumption | omega | assumption))⟩, ⟨(by have h9 := hEx; exact h9), by rw [ht]; exact hP, hD⟩, hS.F ht⟩) hS.2.2 (by decide +kernel) (by decide +kernel)
                      revert u hw9 hB9
                      refine fz_p7 ?_
                      intro gL_over_735 gL_under_735 jL_scaleOver_735 jL_scaleUnder_735 iT_fault_735 iT_place_735 fM_kept_735 hw9 hB9
                      try dsimp only at hw9 hB9
                      clear hw9
                      have hz8 := hB9.2.2
                      rw [ht] at hz8
                      have hz9 : H.size ≤ s.heap.size + 0 := by rw [hz8]; exact hz0
                      refine W.tight (cells2 := 0) (slots2 := 0) hz9 (nS_0 hz9) ?_
                      clear hz8 hz9
                      have hP : va_P (dC, dI) vwCl (WL hL aL kL hT hM (.ref dF_tree) iL_names gL_key fL_kind fL_one fL_two fL_base iL_params fL_paramOver dL_paramOver nL_params fL_paramUnder dL_paramUnder nL_pu gL_over_735 gL_under_735 fL_bound_734 iL_nameAt iL_startAt iL_steps_734 jL_scaleOver_735 jL_scaleUnder_735 ++ (WF hF aF kF dF_tree nF_tree fF_tree ++ (WT hT aT kT fT_tape dT_tape nT_tape iT_length iT_fault_735 iT_place_735 iT_kind iT_at iT_number jT_name iT_next ++ (WM hM aM kM iM_stands iM_variables iM_rows_710 iM_goals iM_differents iM_cases_709 fM_from fM_to fM_whole fM_ways_710 iM_plainRows_710 fM_plainRow_710 fM_kept_735 fM_goalOver fM_goalUnder fM_goalMax fM_different)))) H := fz_P ht hB9.1
                      have hD := fz_sd hP (hB9.2.1.weaken (fun _ q _ h => hFc q.1 h)) rfl
                      refine lv_aload_n hx hb dX10_doRows_152 rfl (lv_at hl 5 rfl) ?_
                      refine va_get (D := (dC, dI)) (ci := 10) (v := .ref dF_tree) (C := RX10) (T := TX10) (N := 20) hx hb hts iwsMX10_doRows_in10 hown hK hP 0 rfl rfl 2 (by decide) (hts _ hm_m_X10_doRows_2) (fun _ h9 => h9) rfl dX10_doRows_153 ?_
                      refine lv_iload hx hb dX10_doRows_156 (lv_at hl 1 rfl) ?_
                      refine lv_bipush (v := 6) hx hb dX10_doRows_158 (by decide) ?_
                      refine lv_iadd hx hb dX10_doRows_160 ?_
                      refine lv_topi (fun y736 hy736 => ?_)
                      obtain rfl : (iI (l8_x102.toInt + 6)) = y736 := (hy736.trans (iI_add2 (iI_of _) (by decide : (6 : Int32) = iI 6))).symm
                      refine va_iald (cA := kF 0) (n := nF_tree) (f := fF_tree) hx hb hK hP 11 10 rfl rfl (vp_iI (by omega) (by omega) (by omega)) dX10_doRows_161 ?_
                      refine lv_topi (fun v737 hv737 => ?_)
                      have b_v737 : v737.toInt = twL fF_tree (l8_x102.toInt + 6) := by rw [hv737]; exact tw_i (by omega) (by omega)
                      have b1_v737 : v737.toInt = 0 ∨ V v737.toInt 14 0 := by rw [hv737]; exact tnx (tw_i (by omega) (by omega)) (TrL.nx hV (k := 14) (L := 0) (hpv))
                      clear hv737
                      refine lv_istore hx hb dX10_doRows_162 hl (by decide) rfl (fun ls (hl : lv_has ls _ ([(8, .int v737), (9, .int l9_x102), (7, .int iM_rows_x18), (6, .int l6_x18), (5, .int k0_j14), (0, .ref (hL 0)), (1, .int p1), (2, .int p2), (3, .int p3), (4, .int p4)])) => ?_)
                      refine lv_iinc (v := (iI (l9_x102.toInt + 1))) hx hb dX10_doRows_164 hl (k := 1) rfl (iI_add2 (iI_of _) (by decide : (1 : Int32) = iI 1)) (by decide) rfl (fun ls (hl : lv_has ls _ ([(9, .int (iI (l9_x102.toInt + 1))), (8, .int v737), (7, .int iM_rows_x18), (6, .int l6_x18), (5, .int k0_j14), (0, .ref (hL 0)), (1, .int p1), (2, .int p2), (3, .int p3), (4, .int p4)])) => ?_)
                      refine lv_goto (tgt := 102) hx hb dX10_doRows_167 (by decide) ?_
                      have hl : lv_has _ _ ([(9, .int (iI (l9_x102.toInt + 1))), (8, .int v737), (7, .int iM_rows_x18), (6, .int l6_x18), (5, .int k0_j14), (0, .ref (hL 0)), (1, .int p1), (2, .int p2), (3, .int p3), (4, .int p4)]) := lv_sub hl [0, 1, 2, 3, 4, 5, 6, 7, 8, 9] rfl
                      exact ihx102 gL_over_735 gL_under_735 fL_bound_734 iL_steps_734 jL_scaleOver_735 jL_scaleUnder_735 iT_fault_735 iT_place_735 fM_kept_735 (iI (l9_x102.toInt + 1)) v737 _ _ _ (iI_rng (Int.le_trans (by decide) (Int.add_le_add (b_l9_x102.1) (Int.le_refl _))) (by omega) (by decide) (by decide)) (show v737.toInt = 0 ∨ V v737.toInt 14 0 from by assumption) (by have e9 : ((iI (l9_x102.toInt + 1))).toInt = (l9_x102.toInt + 1) := (iI_t (Int.le_trans (by decide) (Int.add_le_add (b_l9_x102.1) (Int.le_refl _))) (Int.le_trans (Int.add_le_add (b_l9_x102.2) (Int.le_refl _)) (by decide))); omega) hP hD hS hl
              · have t_65 : ¬ iM_rows_x18.toInt < 12 := toI_nlt c_65 rfl (by decide : (12 : Int32).toInt = 12)
                refine lv_aload_n hx hb dX10_doRows_68 rfl (lv_at hl 3 rfl) ?_
                refine va_get (D := (dC, dI)) (ci := 10) (v := .ref (hT 0)) (C := RX10) (T := TX10) (N := 20) hx hb hts iwsMX10_doRows_in10 hown hK hP 0 rfl rfl 0 (by decide) (hts _ hm_m_X10_doRows_3) (fun _ h9 => h9) rfl dX10_doRows_69 ?_
                refine lv_bipush (v := 11) hx hb dX10_doRows_72 (by decide) ?_
                refine lv_aload_n hx hb dX10_doRows_74 rfl (lv_at hl 3 rfl) ?_
                refine va_get (D := (dC, dI)) (ci := 10) (v := .int iL_nameAt) (C := RX10) (T := TX10) (N := 20) hx hb hts iwsMX10_doRows_in10 hown hK hP 0 rfl rfl 15 (by decide) (hts _ hm_m_X10_doRows_4) (fun _ h9 => h9) rfl dX10_doRows_75 ?_
                have p9 := cj_4_2 (WL hL aL kL hT hM (.ref dF_tree) iL_names gL_key fL_kind fL_one fL_two fL_base iL_params fL_paramOver dL_paramOver nL_params fL_paramUnder dL_paramUnder nL_pu gL_over_x18 gL_under_x18 fL_bound_j25 iL_nameAt iL_startAt iL_steps_x18 jL_scaleOver_x18 jL_scaleUnder_x18) (WF hF aF kF dF_tree nF_tree fF_tree) (WT hT aT kT fT_tape dT_tape nT_tape iT_length iT_fault_x18 iT_place_x18 iT_kind iT_at iT_number jT_name iT_next) (WM hM aM kM iM_stands iM_variables iM_rows_x18 iM_goals iM_differents iM_cases_x18 fM_from fM_to fM_whole fM_ways_x18 iM_plainRows_x18 fM_plainRow_x18 fM_kept_x18 fM_goalOver fM_goalUnder fM_goalMax fM_different)
                have hPc := hP.mem (fun q h => p9.mem_iff.mpr (List.mem_append_left _ h))
                have hDc := (hD.perm p9).left
                have hKc : va_K (dC, dI) vwCl (tT kT) _ := hK.sub [11] rfl
                have hFc := freeG p9 hD hS hA
                refine vx_callv (vx_runV (As := [.int 11, .int iL_nameAt]) (rest := []) ⟨hx, hb, hml, hown, hts⟩ (m_X9_fail l hst dC dI hT aT kT fT_tape dT_tape nT_tape iT_length iT_fault_x18 iT_place_x18 iT_kind iT_at iT_number jT_name iT_next 11 iL_nameAt b_fT_tape (by first | exact b_nT_tape | with_reducible assumption | exact ⟨by omega, by omega⟩ | assumption) (b_iT_length) (b_iT_at) (b_iT_number) (b_iT_next) (by first | with_reducible assumption | omega | assumption) H.size) (cwV 2 hts gwsMX10_doRows_2 rfl rfl rfl hd_yX9_fail_RX9 (by decide +kernel)) (fz_preE (va_recv hK hP (ci := 9) (q0 := 12) rfl rfl) hPc hKc hDc (fun a U g mk qE => qE.call) (fun U hU9 hW => by rw [hU9]; exact (((hE : CE A s s.heap).kept hS.2.1).narrow (fun q h => hFc q h)).warm hW)) rfl rfl hl.1 rfl (lv_room (Nat.le_of_ble_eq_true rfl)) dX10_doRows_78 (by decide +kernel)) hS (fun q _ h => hFc q h) hFc (fun q _ h => hFc q h) (fun E ce q9 u t9_ H locs ht hvm hw9 hB9 hz1 hk1 hS hc1 hc2 hc3 => ?_) (fun u t9_ H1 locs ht hvm hw9 hB9 hz1 hk1 hS => ?_)
                · revert u hw9 hB9
                  refine fz_p2 ?_
                  intro iT_fault_738 iT_place_738 hw9 hB9
                  try dsimp only at hw9 hB9
                  revert hB9
                  refine fz_a2 ?_
                  intro hEx hB9
                  clear hw9
                  have p8 := cj_4_2 (WL hL aL kL hT hM (.ref dF_tree) iL_names gL_key fL_kind fL_one fL_two fL_base iL_params fL_paramOver dL_paramOver nL_params fL_paramUnder dL_paramUnder nL_pu gL_over_x18 gL_under_x18 fL_bound_j25 iL_nameAt iL_startAt iL_steps_x18 jL_scaleOver_x18 jL_scaleUnder_x18) (WF hF aF kF dF_tree nF_tree fF_tree) (WT hT aT kT fT_tape dT_tape nT_tape iT_length iT_fault_738 iT_place_738 iT_kind iT_at iT_number jT_name iT_next) (WM hM aM kM iM_stands iM_variables iM_rows_x18 iM_goals iM_differents iM_cases_x18 fM_from fM_to fM_whole fM_ways_x18 iM_plainRows_x18 fM_plainRow_x18 fM_kept_x18 fM_goalOver fM_goalUnder fM_goalMax fM_different)
                  obtain ⟨hP, hD⟩ := frameG p9 p8 hP hD hk1 hFc (fz_P ht hB9.1) hB9.2
                  exact vx_out (fun x hx9 => (htab x hx9).elim) hlocks hc1 hc2 hc3 (fun t9_ ht hvm => ⟨(gL_over_x18, gL_under_x18, fL_bound_j25, iL_steps_x18, jL_scaleOver_x18, jL_scaleUnder_x18, iT_fault_738, iT_place_738, iM_rows_x18, iM_cases_x18, fM_ways_x18, iM_plainRows_x18, fM_plainRow_x18, fM_kept_x18), ⟨(b_iM_rows_x18), (b_iM_cases_x18), b_fM_ways_x18, (b_iM_plainRows_x18), b_fM_plainRow_x18, (by (try dsimp only); exact (by first | with_reducible assumption | omega | assumption))⟩, ⟨(by have h9 := hEx; exact h9), by rw [ht]; exact hP, hD⟩, hS.F ht⟩) hS.2.2 (by decide +kernel) (by decide +kernel)
                exact False.elim hw9
            · have t_37 : ¬ p2.toInt = 0 := toI_neq c_37 rfl (by decide : (0 : Int32).toInt = 0)
              refine lv_aload_n hx hb dX10_doRows_40 rfl (lv_at hl 2 rfl) ?_
              refine lv_iload_n hx hb dX10_doRows_41 rfl (lv_at hl 4 rfl) ?_
              refine lv_iconst (v := 0) hx hb dX10_doRows_42 (by decide) ?_
              refine W.known (fun hz0 _ => ?_)
              have hFc := allFree hD hS hA
              refine vx_calli (vx_runV (As := [.int p2, .int 0]) (rest := []) ⟨hx, hb, hml, hown, hts⟩ (mt_X10_anyHolds l hst dC dI hL aL kL hT hM iL_names gL_key fL_kind fL_one fL_two fL_base iL_params fL_paramOver dL_paramOver nL_params fL_paramUnder dL_paramUnder nL_pu gL_over_x18 gL_under_x18 fL_bound_j25 iL_nameAt iL_startAt iL_steps_x18 jL_scaleOver_x18 jL_scaleUnder_x18 hF aF kF dF_tree nF_tree fF_tree aT kT fT_tape dT_tape nT_tape iT_length iT_fault_x18 iT_place_x18 iT_kind iT_at iT_number jT_name iT_next aM kM iM_stands iM_variables iM_rows_x18 iM_goals iM_differents iM_cases_x18 fM_from fM_to fM_whole fM_ways_x18 iM_plainRows_x18 fM_plainRow_x18 fM_kept_x18 fM_goalOver fM_goalUnder fM_goalMax fM_different V lo 1 p2 0 (b_iL_names) b_fL_kind b_fL_two b_fL_base (b_iL_params) (by first | exact b_nL_params | with_reducible assumption | exact ⟨by omega, by omega⟩ | assumption) (by first | with_reducible assumption | omega | (rw [iI_t (by omega) (by omega)]; omega) | assumption) (by first | with_reducible assumption | omega | (rw [iI_t (by omega) (by omega)]; omega) | assumption) (by first | with_reducible assumption | omega | (rw [iI_t (by omega) (by omega)]; omega) | assumption) (by first | exact b_nF_tree | with_reducible assumption | exact ⟨by omega, by omega⟩ | assumption) b_fT_tape (by first | exact b_nT_tape | with_reducible assumption | exact ⟨by omega, by omega⟩ | assumption) (b_iT_length) (b_iT_at) (b_iT_number) (b_iT_next) (by first | with_reducible assumption | omega | assumption) (b_iM_stands) (b_iM_variables) (b_iM_rows_x18) (b_iM_goals) (b_iM_differents) (b_iM_cases_x18) b_fM_ways_x18 (b_iM_plainRows_x18) b_fM_plainRow_x18 (by first | with_reducible assumption | omega | assumption) (show 0 ≤ (0 : Int32).toInt ∧ (0 : Int32).toInt ≤ 38 from by decide) (by first | with_reducible assumption | omega | (rw [iI_t (by omega) (by omega)]; omega) | decide | assumption) (hn2.resolve_left (by omega)) (by first | with_reducible assumption | omega | (rw [iI_t (by omega) (by omega)]; omega) | decide | assumption) (by first | with_reducible assumption | omega | (rw [iI_t (by omega) (by omega)]; omega) | decide | assumption) H.size) (cwV 2 hts gwsMX10_doRows_7 rfl rfl rfl hd_yX10_anyHolds_RX10 (by decide +kernel)) (fz_preE (va_recv hK hP (ci := 10) (q0 := 0) rfl rfl) hP hK hD (fun a U g mk qE => qE.call) (fun U hU9 hW => by rw [hU9]; exact (((hE : CE A s s.heap).kept hS.2.1).narrow (fun q h => hFc q h)).warm hW)) rfl rfl hl.1 rfl (lv_room (Nat.le_of_ble_eq_true rfl)) dX10_doRows_43 (by decide +kernel)) hS (fun q _ h => hFc q h) hFc (fun q _ h => hFc q h) (fun E ce q9 u t9_ H locs ht hvm hw9 hB9 hz1 hk1 hS hc1 hc2 hc3 => ?_) (fun r739 u t9_ H locs ht hvm hw9 hB9 hz1 hk1 hS => ?_)
              · revert u hw9 hB9
                refine fz_p6 ?_
                intro gL_over_739 gL_under_739 fL_bound_739 iL_steps_739 iT_fault_739 iT_place_739 hw9 hB9
                try dsimp only at hw9 hB9
                revert hB9
                refine fz_a2 ?_
                intro hEx hB9
                clear hw9
                have hP : va_P (dC, dI) vwCl (WL hL aL kL hT hM (.ref dF_tree) iL_names gL_key fL_kind fL_one fL_two fL_base iL_params fL_paramOver dL_paramOver nL_params fL_paramUnder dL_paramUnder nL_pu gL_over_739 gL_under_739 fL_bound_739 iL_nameAt iL_startAt iL_steps_739 jL_scaleOver_x18 jL_scaleUnder_x18 ++ (WF hF aF kF dF_tree nF_tree fF_tree ++ (WT hT aT kT fT_tape dT_tape nT_tape iT_length iT_fault_739 iT_place_739 iT_kind iT_at iT_number jT_name iT_next ++ (WM hM aM kM iM_stands iM_variables iM_rows_x18 iM_goals iM_differents iM_cases_x18 fM_from fM_to fM_whole fM_ways_x18 iM_plainRows_x18 fM_plainRow_x18 fM_kept_x18 fM_goalOver fM_goalUnder fM_goalMax fM_different)))) H := fz_P ht hB9.1
                have hD := fz_sd hP (hB9.2.weaken (fun _ q _ h => hFc q.1 h)) rfl
                exact vx_out (fun x hx9 => (htab x hx9).elim) hlocks hc1 hc2 hc3 (fun t9_ ht hvm => ⟨(gL_over_739, gL_under_739, fL_bound_739, iL_steps_739, jL_scaleOver_x18, jL_scaleUnder_x18, iT_fault_739, iT_place_739, iM_rows_x18, iM_cases_x18, fM_ways_x18, iM_plainRows_x18, fM_plainRow_x18, fM_kept_x18), ⟨(b_iM_rows_x18), (b_iM_cases_x18), b_fM_ways_x18, (b_iM_plainRows_x18), b_fM_plainRow_x18, (by (try dsimp only); exact (by first | with_reducible assumption | omega | assumption))⟩, ⟨(by have h9 := hEx; exact h9), by rw [ht]; exact hP, hD⟩, hS.F ht⟩) hS.2.2 (by decide +kernel) (by decide +kernel)
              revert u hw9 hB9
              refine fz_p6 ?_
              intro gL_over_739 gL_under_739 fL_bound_739 iL_steps_739 iT_fault_739 iT_place_739 hw9 hB9
              try dsimp only at hw9 hB9
              have b_r739 := hw9
              try dsimp only at b_r739
              have hz8 := hB9.2.2
              rw [ht] at hz8
              have hz9 : H.size ≤ s.heap.size + 0 := by rw [hz8]; exact hz0
              refine W.tight (cells2 := 0) (slots2 := 0) hz9 (nS_0 hz9) ?_
              clear hz8 hz9
              have hP : va_P (dC, dI) vwCl (WL hL aL kL hT hM (.ref dF_tree) iL_names gL_key fL_kind fL_one fL_two fL_base iL_params fL_paramOver dL_paramOver nL_params fL_paramUnder dL_paramUnder nL_pu gL_over_739 gL_under_739 fL_bound_739 iL_nameAt iL_startAt iL_steps_739 jL_scaleOver_x18 jL_scaleUnder_x18 ++ (WF hF aF kF dF_tree nF_tree fF_tree ++ (WT hT aT kT fT_tape dT_tape nT_tape iT_length iT_fault_739 iT_place_739 iT_kind iT_at iT_number jT_name iT_next ++ (WM hM aM kM iM_stands iM_variables iM_rows_x18 iM_goals iM_differents iM_cases_x18 fM_from fM_to fM_whole fM_ways_x18 iM_plainRows_x18 fM_plainRow_x18 fM_kept_x18 fM_goalOver fM_goalUnder fM_goalMax fM_different)))) H := fz_P ht hB9.1
              have hD := fz_sd hP (hB9.2.1.weaken (fun _ q _ h => hFc q.1 h)) rfl
              refine lv_if_ne (tgt := 52) hx hb dX10_doRows_46 (by decide) (fun c_46 => ?_) (fun c_46 => ?_)
              · have t_46 : r739.toInt ≠ 0 := toI_ne c_46 rfl (by decide : (0 : Int32).toInt = 0)
                refine lv_aload_n hx hb dX10_doRows_52 rfl (lv_at hl 2 rfl) ?_
                refine va_get (D := (dC, dI)) (ci := 10) (v := .ref (hM 0)) (C := RX10) (T := TX10) (N := 20) hx hb hts iwsMX10_doRows_in10 hown hK hP 0 rfl rfl 1 (by decide) (hts _ hm_m_X10_doRows_0) (fun _ h9 => h9) rfl dX10_doRows_53 ?_
                refine va_get (D := (dC, dI)) (ci := 1) (v := .int iM_rows_x18) (C := RX1) (T := TX1) (N := 17) hx hb hts iwsMX10_doRows_in1 hown hK hP 14 rfl rfl 2 (by decide) (hts _ hm_m_X10_doRows_1) (fun _ h9 => h9) rfl dX10_doRows_56 ?_
                refine lv_istore hx hb dX10_doRows_59 hl (by decide) rfl (fun ls (hl : lv_has ls _ ([(7, .int iM_rows_x18), (6, .int l6_x18), (5, .int k0_j14), (0, .ref (hL 0)), (1, .int p1), (2, .int p2), (3, .int p3), (4, .int p4)])) => ?_)
                refine lv_iload hx hb dX10_doRows_61 (lv_at hl 0 rfl) ?_
                refine lv_bipush (v := 12) hx hb dX10_doRows_63 (by decide) ?_
                refine lv_icmp_lt (tgt := 81) hx hb dX10_doRows_65 (by decide) (fun c_65 => ?_) (fun c_65 => ?_)
                · have t_65 : iM_rows_x18.toInt < 12 := toI_lt c_65 rfl (by decide : (12 : Int32).toInt = 12)
                  refine lv_aload_n hx hb dX10_doRows_81 rfl (lv_at hl 3 rfl) ?_
                  refine lv_iload hx hb dX10_doRows_82 (lv_at hl 7 rfl) ?_
                  refine W.known (fun hz0 _ => ?_)
                  have p9 := cj_4_0_2_3 (WL hL aL kL hT hM (.ref dF_tree) iL_names gL_key fL_kind fL_one fL_two fL_base iL_params fL_paramOver dL_paramOver nL_params fL_paramUnder dL_paramUnder nL_pu gL_over_739 gL_under_739 fL_bound_739 iL_nameAt iL_startAt iL_steps_739 jL_scaleOver_x18 jL_scaleUnder_x18) (WF hF aF kF dF_tree nF_tree fF_tree) (WT hT aT kT fT_tape dT_tape nT_tape iT_length iT_fault_739 iT_place_739 iT_kind iT_at iT_number jT_name iT_next) (WM hM aM kM iM_stands iM_variables iM_rows_x18 iM_goals iM_differents iM_cases_x18 fM_from fM_to fM_whole fM_ways_x18 iM_plainRows_x18 fM_plainRow_x18 fM_kept_x18 fM_goalOver fM_goalUnder fM_goalMax fM_different)
                  have hPc := hP.mem (fun q h => p9.mem_iff.mpr (List.mem_append_left _ h))
                  have hDc := (hD.perm p9).left
                  have hKc : va_K (dC, dI) vwCl (tL kL ++ (tT kT ++ (tM kM))) _ := hK.sub [0, 1, 2, 3, 4, 5, 6, 7, 8, 9, 11, 12, 13, 14, 15, 16, 17, 18, 19, 20, 21] rfl
                  have hFc := freeG p9 hD hS hA
                  refine vx_callv (vx_runV (As := [.int p4]) (rest := []) ⟨hx, hb, hml, hown, hts⟩ (m_X10_multiplyCases l hst dC dI hL aL kL hT hM (.ref dF_tree) iL_names gL_key fL_kind fL_one fL_two fL_base iL_params fL_paramOver dL_paramOver nL_params fL_paramUnder dL_paramUnder nL_pu gL_over_739 gL_under_739 fL_bound_739 iL_nameAt iL_startAt iL_steps_739 jL_scaleOver_x18 jL_scaleUnder_x18 aT kT fT_tape dT_tape nT_tape iT_length iT_fault_739 iT_place_739 iT_kind iT_at iT_number jT_name iT_next aM kM iM_stands iM_variables iM_rows_x18 iM_goals iM_differents iM_cases_x18 fM_from fM_to fM_whole fM_ways_x18 iM_plainRows_x18 fM_plainRow_x18 fM_kept_x18 fM_goalOver fM_goalUnder fM_goalMax fM_different p4 (b_iL_names) b_fL_kind b_fL_two b_fL_base (b_iL_params) (by first | exact b_nL_params | with_reducible assumption | exact ⟨by omega, by omega⟩ | assumption) (by first | with_reducible assumption | omega | (rw [iI_t (by omega) (by omega)]; omega) | assumption) (by first | with_reducible assumption | omega | (rw [iI_t (by omega) (by omega)]; omega) | assumption) (by first | with_reducible assumption | omega | (rw [iI_t (by omega) (by omega)]; omega) | assumption) b_fT_tape (by first | exact b_nT_tape | with_reducible assumption | exact ⟨by omega, by omega⟩ | assumption) (b_iT_length) (b_iT_at) (b_iT_number) (b_iT_next) (by first | with_reducible assumption | omega | assumption) (b_iM_stands) (b_iM_variables) (b_iM_rows_x18) (b_iM_goals) (b_iM_differents) (b_iM_cases_x18) b_fM_ways_x18 (b_iM_plainRows_x18) b_fM_plainRow_x18 (by first | with_reducible assumption | omega | assumption) (⟨b_p4.1, Int.le_trans b_p4.2 (by decide)⟩) (by first | with_reducible assumption | omega | (rw [iI_t (by omega) (by omega)]; omega) | decide | assumption) H.size) (cwV 1 hts gwsMX10_doRows_3 rfl rfl rfl hd_yX10_multiplyCases_RX10 (by decide +kernel)) (fz_preE (va_recv hK hP (ci := 10) (q0 := 0) rfl rfl) hPc hKc hDc (fun a U g mk qE => qE.call) (fun U hU9 hW => by rw [hU9]; exact (((hE : CE A s s.heap).kept hS.2.1).narrow (fun q h => hFc q h)).warm hW)) rfl rfl hl.1 rfl (lv_room (Nat.le_of_ble_eq_true rfl)) dX10_doRows_84 (by decide +kernel)) hS (fun q _ h => hFc q h) hFc (fun q _ h => hFc q h) (fun E ce q9 u t9_ H locs ht hvm hw9 hB9 hz1 hk1 hS hc1 hc2 hc3 => ?_) (fun u t9_ H locs ht hvm hw9 hB9 hz1 hk1 hS => ?_)
                  · revert u hw9 hB9
                    refine fz_p3 ?_
                    intro iT_fault_741 iT_place_741 iM_cases_741 hw9 hB9
                    try dsimp only at hw9 hB9
                    revert hB9
                    refine fz_a2 ?_
                    intro hEx hB9
                    have b_iM_cases_741 := hw9
                    try dsimp only at b_iM_cases_741
                    have p8 := cj_4_0_2_3 (WL hL aL kL hT hM (.ref dF_tree) iL_names gL_key fL_kind fL_one fL_two fL_base iL_params fL_paramOver dL_paramOver nL_params fL_paramUnder dL_paramUnder nL_pu gL_over_739 gL_under_739 fL_bound_739 iL_nameAt iL_startAt iL_steps_739 jL_scaleOver_x18 jL_scaleUnder_x18) (WF hF aF kF dF_tree nF_tree fF_tree) (WT hT aT kT fT_tape dT_tape nT_tape iT_length iT_fault_741 iT_place_741 iT_kind iT_at iT_number jT_name iT_next) (WM hM aM kM iM_stands iM_variables iM_rows_x18 iM_goals iM_differents iM_cases_741 fM_from fM_to fM_whole fM_ways_x18 iM_plainRows_x18 fM_plainRow_x18 fM_kept_x18 fM_goalOver fM_goalUnder fM_goalMax fM_different)
                    obtain ⟨hP, hD⟩ := frameG p9 p8 hP hD hk1 hFc (fz_P ht hB9.1) hB9.2
                    exact vx_out (fun x hx9 => (htab x hx9).elim) hlocks hc1 hc2 hc3 (fun t9_ ht hvm => ⟨(gL_over_739, gL_under_739, fL_bound_739, iL_steps_739, jL_scaleOver_x18, jL_scaleUnder_x18, iT_fault_741, iT_place_741, iM_rows_x18, iM_cases_741, fM_ways_x18, iM_plainRows_x18, fM_plainRow_x18, fM_kept_x18), ⟨(b_iM_rows_x18), (by first | exact b_iM_cases_741 | with_reducible assumption | exact ⟨by omega, by omega⟩ | assumption), b_fM_ways_x18, (b_iM_plainRows_x18), b_fM_plainRow_x18, (by (try dsimp only); exact (by first | with_reducible assumption | omega | assumption))⟩, ⟨(by have h9 := hEx; exact h9), by rw [ht]; exact hP, hD⟩, hS.F ht⟩) hS.2.2 (by decide +kernel) (by decide +kernel)
                  revert u hw9 hB9
                  refine fz_p3 ?_
                  intro iT_fault_741 iT_place_741 iM_cases_741 hw9 hB9
                  try dsimp only at hw9 hB9
                  revert hw9
                  refine fz_a2 ?_
                  intro b_iM_cases_741 f741_0
                  have hz8 := hB9.2.2
                  rw [ht] at hz8
                  have hz9 : H.size ≤ s.heap.size + 0 := by rw [hz8]; exact hz0
                  refine W.tight (cells2 := 0) (slots2 := 0) hz9 (nS_0 hz9) ?_
                  clear hz8 hz9
                  have p8 := cj_4_0_2_3 (WL hL aL kL hT hM (.ref dF_tree) iL_names gL_key fL_kind fL_one fL_two fL_base iL_params fL_paramOver dL_paramOver nL_params fL_paramUnder dL_paramUnder nL_pu gL_over_739 gL_under_739 fL_bound_739 iL_nameAt iL_startAt iL_steps_739 jL_scaleOver_x18 jL_scaleUnder_x18) (WF hF aF kF dF_tree nF_tree fF_tree) (WT hT aT kT fT_tape dT_tape nT_tape iT_length iT_fault_741 iT_place_741 iT_kind iT_at iT_number jT_name iT_next) (WM hM aM kM iM_stands iM_variables iM_rows_x18 iM_goals iM_differents iM_cases_741 fM_from fM_to fM_whole fM_ways_x18 iM_plainRows_x18 fM_plainRow_x18 fM_kept_x18 fM_goalOver fM_goalUnder fM_goalMax fM_different)
                  obtain ⟨hP, hD⟩ := frameG p9 p8 hP hD hk1 hFc (fz_P ht hB9.1) hB9.2.1
                  refine lv_aload_n hx hb dX10_doRows_87 rfl (lv_at hl 3 rfl) ?_
                  refine va_get (D := (dC, dI)) (ci := 10) (v := .ref (hM 0)) (C := RX10) (T := TX10) (N := 20) hx hb hts iwsMX10_doRows_in10 hown hK hP 0 rfl rfl 1 (by decide) (hts _ hm_m_X10_doRows_0) (fun _ h9 => h9) rfl dX10_doRows_88 ?_
                  refine lv_iload hx hb dX10_doRows_91 (lv_at hl 7 rfl) ?_
                  have p9 := cj_4_3 (WL hL aL kL hT hM (.ref dF_tree) iL_names gL_key fL_kind fL_one fL_two fL_base iL_params fL_paramOver dL_paramOver nL_params fL_paramUnder dL_paramUnder nL_pu gL_over_739 gL_under_739 fL_bound_739 iL_nameAt iL_startAt iL_steps_739 jL_scaleOver_x18 jL_scaleUnder_x18) (WF hF aF kF dF_tree nF_tree fF_tree) (WT hT aT kT fT_tape dT_tape nT_tape iT_length iT_fault_741 iT_place_741 iT_kind iT_at iT_number jT_name iT_next) (WM hM aM kM iM_stands iM_variables iM_rows_x18 iM_goals iM_differents iM_cases_741 fM_from fM_to fM_whole fM_ways_x18 iM_plainRows_x18 fM_plainRow_x18 fM_kept_x18 fM_goalOver fM_goalUnder fM_goalMax fM_different)
                  have hPc := hP.mem (fun q h => p9.mem_iff.mpr (List.mem_append_left _ h))
                  have hDc := (hD.perm p9).left
                  have hKc : va_K (dC, dI) vwCl (tM kM) _ := hK.sub [12, 13, 14, 15, 16, 17, 18, 19, 20, 21] rfl
                  have hFc := freeG p9 hD hS hA
                  refine va_callv (va_runV (As := [.int p4]) (rest := []) ⟨hx, hb, hml, hown, hts⟩ (m_X1_addRow l dC dI hM aM kM iM_stands iM_variables iM_rows_x18 iM_goals iM_differents iM_cases_741 fM_from fM_to fM_whole fM_ways_x18 iM_plainRows_x18 fM_plainRow_x18 fM_kept_x18 fM_goalOver fM_goalUnder fM_goalMax fM_different p4 (b_iM_stands) (b_iM_variables) (b_iM_rows_x18) (b_iM_goals) (b_iM_differents) (b_iM_cases_741) b_fM_ways_x18 (b_iM_plainRows_x18) b_fM_plainRow_x18 (by first | with_reducible assumption | omega | assumption) (⟨Int.le_trans (by decide) b_p4.1, b_p4.2⟩) (by first | with_reducible assumption | omega | (rw [iI_t (by omega) (by omega)]; omega) | decide | assumption) H.size) (cwV 1 hts gwsMX10_doRows_4 rfl rfl rfl hd_yX1_addRow_RX1 (by decide +kernel)) (fz_pre (va_recv hK hP (ci := 1) (q0 := 14) rfl rfl) hPc hKc hDc) rfl rfl hl.1 rfl (lv_room (Nat.le_of_ble_eq_true rfl)) dX10_doRows_93 (by decide +kernel)) hS (fun q _ h => hFc q h) hFc (fun u t9_ H locs ht hvm hw9 hB9 hz1 hk1 hS => ?_)
                  revert u hw9 hB9
                  refine fz_p4 ?_
                  intro iM_rows_742 fM_ways_742 iM_plainRows_742 fM_plainRow_742 hw9 hB9
                  try dsimp only at hw9 hB9
                  revert hw9
                  refine fz_a6 ?_
                  intro b_iM_rows_742 b_fM_ways_742 b_iM_plainRows_742 b_fM_plainRow_742 b_pr_742 f742_0
                  have p8 := cj_4_3 (WL hL aL kL hT hM (.ref dF_tree) iL_names gL_key fL_kind fL_one fL_two fL_base iL_params fL_paramOver dL_paramOver nL_params fL_paramUnder dL_paramUnder nL_pu gL_over_739 gL_under_739 fL_bound_739 iL_nameAt iL_startAt iL_steps_739 jL_scaleOver_x18 jL_scaleUnder_x18) (WF hF aF kF dF_tree nF_tree fF_tree) (WT hT aT kT fT_tape dT_tape nT_tape iT_length iT_fault_741 iT_place_741 iT_kind iT_at iT_number jT_name iT_next) (WM hM aM kM iM_stands iM_variables iM_rows_742 iM_goals iM_differents iM_cases_741 fM_from fM_to fM_whole fM_ways_742 iM_plainRows_742 fM_plainRow_742 fM_kept_x18 fM_goalOver fM_goalUnder fM_goalMax fM_different)
                  obtain ⟨hP, hD⟩ := frameG p9 p8 hP hD hk1 hFc (fz_P ht hB9.1) hB9.2
                  refine lv_iload_n hx hb dX10_doRows_96 rfl (lv_at hl 6 rfl) ?_
                  refine lv_istore hx hb dX10_doRows_97 hl (by decide) rfl (fun ls (hl : lv_has ls _ ([(8, .int p3), (7, .int iM_rows_x18), (6, .int l6_x18), (5, .int k0_j14), (0, .ref (hL 0)), (1, .int p1), (2, .int p2), (3, .int p3), (4, .int p4)])) => ?_)
                  refine lv_iconst (v := 0) hx hb dX10_doRows_99 (by decide) ?_
                  refine lv_istore hx hb dX10_doRows_100 hl (by decide) rfl (fun ls (hl : lv_has ls _ ([(9, .int 0), (8, .int p3), (7, .int iM_rows_x18), (6, .int l6_x18), (5, .int k0_j14), (0, .ref (hL 0)), (1, .int p1), (2, .int p2), (3, .int p3), (4, .int p4)])) => ?_)
                  have hl : lv_has _ _ ([(9, .int 0), (8, .int p3), (7, .int iM_rows_x18), (6, .int l6_x18), (5, .int k0_j14), (0, .ref (hL 0)), (1, .int p1), (2, .int p2), (3, .int p3), (4, .int p4)]) := lv_sub hl [0, 1, 2, 3, 4, 5, 6, 7, 8, 9] rfl
                  refine (fun (loop : ∀ (n9 : Nat) (gL_over_x102_1 : Nat → Int64) (gL_under_x102_1 : Nat → Int64) (fL_bound_x102_1 : Nat → Int32) (iL_steps_x102_1 : Int32) (jL_scaleOver_x102_1 : Int64) (jL_scaleUnder_x102_1 : Int64) (iT_fault_x102_1 : Int32) (iT_place_x102_1 : Int32) (fM_kept_x102_1 : Nat → Int32) (l9_x102_1 : Int32) (l8_x102_1 : Int32) (H : Heap) (locs : List Loc) (ls : Array Slot), (0 ≤ l9_x102_1.toInt ∧ l9_x102_1.toInt ≤ 3) → (l8_x102_1.toInt = 0 ∨ V l8_x102_1.toInt 14 0) → (3 - l9_x102_1.toInt < ((n9 : Nat) : Int)) → va_P (dC, dI) vwCl (WL hL aL kL hT hM (.ref dF_tree) iL_names gL_key fL_kind fL_one fL_two fL_base iL_params fL_paramOver dL_paramOver nL_params fL_paramUnder dL_paramUnder nL_pu gL_over_x102_1 gL_under_x102_1 fL_bound_x102_1 iL_nameAt iL_startAt iL_steps_x102_1 jL_scaleOver_x102_1 jL_scaleUnder_x102_1 ++ (WF hF aF kF dF_tree nF_tree fF_tree ++ (WT hT aT kT fT_tape dT_tape nT_tape iT_length iT_fault_x102_1 iT_place_x102_1 iT_kind iT_at iT_number jT_name iT_next ++ (WM hM aM kM iM_stands iM_variables iM_rows_742 iM_goals iM_differents iM_cases_741 fM_from fM_to fM_whole fM_ways_742 iM_plainRows_742 fM_plainRow_742 fM_kept_x102_1 fM_goalOver fM_goalUnder fM_goalMax fM_different)))) H → va_D A (WL hL aL kL hT hM (.ref dF_tree) iL_names gL_key fL_kind fL_one fL_two fL_base iL_params fL_paramOver dL_paramOver nL_params fL_paramUnder dL_paramUnder nL_pu gL_over_x102_1 gL_under_x102_1 fL_bound_x102_1 iL_nameAt iL_startAt iL_steps_x102_1 jL_scaleOver_x102_1 jL_scaleUnder_x102_1 ++ (WF hF aF kF dF_tree nF_tree fF_tree ++ (WT hT aT kT fT_tape dT_tape nT_tape iT_length iT_fault_x102_1 iT_place_x102_1 iT_kind iT_at iT_number jT_name iT_next ++ (WM hM aM kM iM_stands iM_variables iM_rows_742 iM_goals iM_differents iM_cases_741 fM_from fM_to fM_whole fM_ways_742 iM_plainRows_742 fM_plainRow_742 fM_kept_x102_1 fM_goalOver fM_goalUnder fM_goalMax fM_different)))) → va_S A s.heap H locs → lv_has ls 10 [(9, .int l9_x102_1), (8, .int l8_x102_1), (7, .int iM_rows_x18), (6, .int l6_x18), (5, .int k0_j14), (0, .ref (hL 0)), (1, .int p1), (2, .int p2), (3, .int p3), (4, .int p4)] → W p l e _ s m _ below meth c H locs 0 0 _ (F0 m 102 ls [])) => loop (4) gL_over_739 gL_under_739 fL_bound_739 iL_steps_739 jL_scaleOver_x18 jL_scaleUnder_x18 iT_fault_741 iT_place_741 fM_kept_x18 0 p3 _ _ _ (show 0 ≤ (0 : Int32).toInt ∧ (0 : Int32).toInt ≤ 3 from by decide) (show p3.toInt = 0 ∨ V p3.toInt 14 0 from Or.inr hn3) ((by have e9 : (0 : Int32).toInt = 0 := (by decide : (0 : Int32).toInt = 0); omega)) hP hD hS hl) ?_
                  intro n9
                  induction n9 with
                  | zero => intro gL_over_x102_1 gL_under_x102_1 fL_bound_x102_1 iL_steps_x102_1 jL_scaleOver_x102_1 jL_scaleUnder_x102_1 iT_fault_x102_1 iT_place_x102_1 fM_kept_x102_1 l9_x102_1 l8_x102_1 H locs ls b_l9_x102_1 hpt hf9; exact False.elim (by omega)
                  | succ n9 ihx102_1 =>
                    intro gL_over_x102_1 gL_under_x102_1 fL_bound_x102_1 iL_steps_x102_1 jL_scaleOver_x102_1 jL_scaleUnder_x102_1 iT_fault_x102_1 iT_place_x102_1 fM_kept_x102_1 l9_x102_1 l8_x102_1 H locs ls b_l9_x102_1 hpt hfx102_1 hP hD hS hl
                    refine lv_iload hx hb dX10_doRows_102 (lv_at hl 0 rfl) ?_
                    refine lv_iload hx hb dX10_doRows_104 (lv_at hl 9 rfl) ?_
                    refine lv_icmp_ge (tgt := 170) hx hb dX10_doRows_106 (by decide) (fun c_106 => ?_) (fun c_106 => ?_)
                    · have t_106 : l9_x102_1.toInt ≥ p4.toInt := toI_ge c_106 rfl rfl
                      have hl : lv_has _ _ ([(6, .int l6_x18), (5, .int k0_j14), (0, .ref (hL 0)), (1, .int p1), (2, .int p2), (3, .int p3), (4, .int p4)]) := lv_sub hl [3, 4, 5, 6, 7, 8, 9] rfl
                      exact join26 _ _ _ _ ⟨gL_over_x102_1, gL_under_x102_1, fL_bound_x102_1, iL_steps_x102_1, jL_scaleOver_x102_1, jL_scaleUnder_x102_1, iT_fault_x102_1, iT_place_x102_1, iM_rows_742, iM_cases_741, fM_ways_742, iM_plainRows_742, fM_plainRow_742, fM_kept_x102_1, (b_iM_rows_742), (b_iM_cases_741), b_fM_ways_742, (b_iM_plainRows_742), b_fM_plainRow_742, (by first | with_reducible assumption | omega | assumption), (show iM_cases_741.toInt ≤ 64 from by omega), rfl, hP, hD, hS, hl⟩
                    · have t_106 : ¬ l9_x102_1.toInt ≥ p4.toInt := toI_nge c_106 rfl rfl
                      refine lv_iload hx hb dX10_doRows_109 (lv_at hl 1 rfl) ?_
                      refine lv_if_eq (tgt := 170) hx hb dX10_doRows_111 (by decide) (fun c_111 => ?_) (fun c_111 => ?_)
                      · have t_111 : l8_x102_1.toInt = 0 := toI_eq c_111 rfl (by decide : (0 : Int32).toInt = 0)
                        have hl : lv_has _ _ ([(6, .int l6_x18), (5, .int k0_j14), (0, .ref (hL 0)), (1, .int p1), (2, .int p2), (3, .int p3), (4, .int p4)]) := lv_sub hl [3, 4, 5, 6, 7, 8, 9] rfl
                        exact join26 _ _ _ _ ⟨gL_over_x102_1, gL_under_x102_1, fL_bound_x102_1, iL_steps_x102_1, jL_scaleOver_x102_1, jL_scaleUnder_x102_1, iT_fault_x102_1, iT_place_x102_1, iM_rows_742, iM_cases_741, fM_ways_742, iM_plainRows_742, fM_plainRow_742, fM_kept_x102_1, (b_iM_rows_742), (b_iM_cases_741), b_fM_ways_742, (b_iM_plainRows_742), b_fM_plainRow_742, (by first | with_reducible assumption | omega | assumption), (show iM_cases_741.toInt ≤ 64 from by omega), rfl, hP, hD, hS, hl⟩
                      · have t_111 : ¬ l8_x102_1.toInt = 0 := toI_neq c_111 rfl (by decide : (0 : Int32).toInt = 0)
                        have hpv := hpt.resolve_left t_111
                        have hr1 := TrL.rng hV hpv
                        have hc14 := TrL.c14 hV hpv
                        refine lv_aload_n hx hb dX10_doRows_114 rfl (lv_at hl 5 rfl) ?_
                        refine lv_aload_n hx hb dX10_doRows_115 rfl (lv_at hl 5 rfl) ?_
                        refine va_get (D := (dC, dI)) (ci := 10) (v := .ref dF_tree) (C := RX10) (T := TX10) (N := 20) hx hb hts iwsMX10_doRows_in10 hown hK hP 0 rfl rfl 2 (by decide) (hts _ hm_m_X10_doRows_2) (fun _ h9 => h9) rfl dX10_doRows_116 ?_
                        refine lv_iload hx hb dX10_doRows_119 (lv_at hl 1 rfl) ?_
                        refine lv_iconst (v := 3) hx hb dX10_doRows_121 (by decide) ?_
                        refine lv_iadd hx hb dX10_doRows_122 ?_
                        refine lv_topi (fun y761 hy761 => ?_)
                        obtain rfl : (iI (l8_x102_1.toInt + 3)) = y761 := (hy761.trans (iI_add2 (iI_of _) (by decide : (3 : Int32) = iI 3))).symm
                        refine va_iald (cA := kF 0) (n := nF_tree) (f := fF_tree) hx hb hK hP 11 10 rfl rfl (vp_iI (by omega) (by omega) (by omega)) dX10_doRows_123 ?_
                        refine lv_topi (fun v762 hv762 => ?_)
                        have b_v762 : v762.toInt = twL fF_tree (l8_x102_1.toInt + 3) := by rw [hv762]; exact tw_i (by omega) (by omega)
                        have b1_v762 : V v762.toInt 1 1 := by rw [hv762]; exact Vld (tw_i (by omega) (by omega)) hc14.1
                        clear hv762
                        refine lv_iconst (v := 0) hx hb dX10_doRows_124 (by decide) ?_
                        refine W.known (fun hz0 _ => ?_)
                        have hFc := allFree hD hS hA
                        refine vx_callv (vx_runV (As := [.int v762, .int 0]) (rest := []) ⟨hx, hb, hml, hown, hts⟩ (mt_X10_linear l hst dC dI hL aL kL hT hM iL_names gL_key fL_kind fL_one fL_two fL_base iL_params fL_paramOver dL_paramOver nL_params fL_paramUnder dL_paramUnder nL_pu gL_over_x102_1 gL_under_x102_1 fL_bound_x102_1 iL_nameAt iL_startAt iL_steps_x102_1 jL_scaleOver_x102_1 jL_scaleUnder_x102_1 hF aF kF dF_tree nF_tree fF_tree aT kT fT_tape dT_tape nT_tape iT_length iT_fault_x102_1 iT_place_x102_1 iT_kind iT_at iT_number jT_name iT_next aM kM iM_stands iM_variables iM_rows_742 iM_goals iM_differents iM_cases_741 fM_from fM_to fM_whole fM_ways_742 iM_plainRows_742 fM_plainRow_742 fM_kept_x102_1 fM_goalOver fM_goalUnder fM_goalMax fM_different V lo 1 v762 0 (b_iL_names) b_fL_kind b_fL_two b_fL_base (b_iL_params) (by first | exact b_nL_params | with_reducible assumption | exact ⟨by omega, by omega⟩ | assumption) (by first | with_reducible assumption | omega | (rw [iI_t (by omega) (by omega)]; omega) | assumption) (by first | with_reducible assumption | omega | (rw [iI_t (by omega) (by omega)]; omega) | assumption) (by first | with_reducible assumption | omega | (rw [iI_t (by omega) (by omega)]; omega) | assumption) (by first | exact b_nF_tree | with_reducible assumption | exact ⟨by omega, by omega⟩ | assumption) b_fT_tape (by first | exact b_nT_tape | with_reducible assumption | exact ⟨by omega, by omega⟩ | assumption) (b_iT_length) (b_iT_at) (b_iT_number) (b_iT_next) (by first | with_reducible assumption | omega | assumption) (b_iM_stands) (b_iM_variables) (b_iM_rows_742) (b_iM_goals) (b_iM_differents) (b_iM_cases_741) b_fM_ways_742 (b_iM_plainRows_742) b_fM_plainRow_742 (by first | with_reducible assumption | omega | assumption) (show 0 ≤ (0 : Int32).toInt ∧ (0 : Int32).toInt ≤ 38 from by decide) (by first | with_reducible assumption | omega | (rw [iI_t (by omega) (by omega)]; omega) | decide | assumption) (by first | with_reducible assumption | omega | (rw [iI_t (by omega) (by omega)]; omega) | decide | assumption) (by first | with_reducible assumption | omega | (rw [iI_t (by omega) (by omega)]; omega) | decide | assumption) (by first | with_reducible assumption | omega | (rw [iI_t (by omega) (by omega)]; omega) | decide | assumption) H.size) (cwV 2 hts gwsMX10_doRows_5 rfl rfl rfl hd_yX10_linear_RX10 (by decide +kernel)) (fz_preE (va_recv hK hP (ci := 10) (q0 := 0) rfl rfl) hP hK hD (fun a U g mk qE => qE.call) (fun U hU9 hW => by rw [hU9]; exact (((hE : CE A s s.heap).kept hS.2.1).narrow (fun q h => hFc q h)).warm hW)) rfl rfl hl.1 rfl (lv_room (Nat.le_of_ble_eq_true rfl)) dX10_doRows_125 (by decide +kernel)) hS (fun q _ h => hFc q h) hFc (fun q _ h => hFc q h) (fun E ce q9 u t9_ H locs ht hvm hw9 hB9 hz1 hk1 hS hc1 hc2 hc3 => ?_) (fun u t9_ H locs ht hvm hw9 hB9 hz1 hk1 hS => ?_)
                        · revert u hw9 hB9
                          refine fz_p6 ?_
                          intro gL_over_763 gL_under_763 fL_bound_763 iL_steps_763 iT_fault_763 iT_place_763 hw9 hB9
                          try dsimp only at hw9 hB9
                          revert hB9
                          refine fz_a2 ?_
                          intro hEx hB9
                          clear hw9
                          have hP : va_P (dC, dI) vwCl (WL hL aL kL hT hM (.ref dF_tree) iL_names gL_key fL_kind fL_one fL_two fL_base iL_params fL_paramOver dL_paramOver nL_params fL_paramUnder dL_paramUnder nL_pu gL_over_763 gL_under_763 fL_bound_763 iL_nameAt iL_startAt iL_steps_763 jL_scaleOver_x102_1 jL_scaleUnder_x102_1 ++ (WF hF aF kF dF_tree nF_tree fF_tree ++ (WT hT aT kT fT_tape dT_tape nT_tape iT_length iT_fault_763 iT_place_763 iT_kind iT_at iT_number jT_name iT_next ++ (WM hM aM kM iM_stands iM_variables iM_rows_742 iM_goals iM_differents iM_cases_741 fM_from fM_to fM_whole fM_ways_742 iM_plainRows_742 fM_plainRow_742 fM_kept_x102_1 fM_goalOver fM_goalUnder fM_goalMax fM_different)))) H := fz_P ht hB9.1
                          have hD := fz_sd hP (hB9.2.weaken (fun _ q _ h => hFc q.1 h)) rfl
                          exact vx_out (fun x hx9 => (htab x hx9).elim) hlocks hc1 hc2 hc3 (fun t9_ ht hvm => ⟨(gL_over_763, gL_under_763, fL_bound_763, iL_steps_763, jL_scaleOver_x102_1, jL_scaleUnder_x102_1, iT_fault_763, iT_place_763, iM_rows_742, iM_cases_741, fM_ways_742, iM_plainRows_742, fM_plainRow_742, fM_kept_x102_1), ⟨(b_iM_rows_742), (b_iM_cases_741), b_fM_ways_742, (b_iM_plainRows_742), b_fM_plainRow_742, (by (try dsimp only); exact (by first | with_reducible assumption | omega | assumption))⟩, ⟨(by have h9 := hEx; exact h9), by rw [ht]; exact hP, hD⟩, hS.F ht⟩) hS.2.2 (by decide +kernel) (by decide +kernel)
                        revert u hw9 hB9
                        refine fz_p6 ?_
                        intro gL_over_763 gL_under_763 fL_bound_763 iL_steps_763 iT_fault_763 iT_place_763 hw9 hB9
                        try dsimp only at hw9 hB9
                        clear hw9
                        have hz8 := hB9.2.2
                        rw [ht] at hz8
                        have hz9 : H.size ≤ s.heap.size + 0 := by rw [hz8]; exact hz0
                        refine W.tight (cells2 := 0) (slots2 := 0) hz9 (nS_0 hz9) ?_
                        clear hz8 hz9
                        have hP : va_P (dC, dI) vwCl (WL hL aL kL hT hM (.ref dF_tree) iL_names gL_key fL_kind fL_one fL_two fL_base iL_params fL_paramOver dL_paramOver nL_params fL_paramUnder dL_paramUnder nL_pu gL_over_763 gL_under_763 fL_bound_763 iL_nameAt iL_startAt iL_steps_763 jL_scaleOver_x102_1 jL_scaleUnder_x102_1 ++ (WF hF aF kF dF_tree nF_tree fF_tree ++ (WT hT aT kT fT_tape dT_tape nT_tape iT_length iT_fault_763 iT_place_763 iT_kind iT_at iT_number jT_name iT_next ++ (WM hM aM kM iM_stands iM_variables iM_rows_742 iM_goals iM_differents iM_cases_741 fM_from fM_to fM_whole fM_ways_742 iM_plainRows_742 fM_plainRow_742 fM_kept_x102_1 fM_goalOver fM_goalUnder fM_goalMax fM_different)))) H := fz_P ht hB9.1
                        have hD := fz_sd hP (hB9.2.1.weaken (fun _ q _ h => hFc q.1 h)) rfl
                        refine lv_aload_n hx hb dX10_doRows_128 rfl (lv_at hl 5 rfl) ?_
                        refine lv_aload_n hx hb dX10_doRows_129 rfl (lv_at hl 5 rfl) ?_
                        refine va_get (D := (dC, dI)) (ci := 10) (v := .ref dF_tree) (C := RX10) (T := TX10) (N := 20) hx hb hts iwsMX10_doRows_in10 hown hK hP 0 rfl rfl 2 (by decide) (hts _ hm_m_X10_doRows_2) (fun _ h9 => h9) rfl dX10_doRows_130 ?_
                        refine lv_iload hx hb dX10_doRows_133 (lv_at hl 1 rfl) ?_
                        refine lv_iconst (v := 4) hx hb dX10_doRows_135 (by decide) ?_
                        refine lv_iadd hx hb dX10_doRows_136 ?_
                        refine lv_topi (fun y764 hy764 => ?_)
                        obtain rfl : (iI (l8_x102_1.toInt + 4)) = y764 := (hy764.trans (iI_add2 (iI_of _) (by decide : (4 : Int32) = iI 4))).symm
                        refine va_iald (cA := kF 0) (n := nF_tree) (f := fF_tree) hx hb hK hP 11 10 rfl rfl (vp_iI (by omega) (by omega) (by omega)) dX10_doRows_137 ?_
                        refine lv_topi (fun v765 hv765 => ?_)
                        have b_v765 : v765.toInt = twL fF_tree (l8_x102_1.toInt + 4) := by rw [hv765]; exact tw_i (by omega) (by omega)
                        have b1_v765 : V v765.toInt 1 1 := by rw [hv765]; exact Vld (tw_i (by omega) (by omega)) hc14.2
                        clear hv765
                        refine lv_iconst (v := 1) hx hb dX10_doRows_138 (by decide) ?_
                        refine W.known (fun hz0 _ => ?_)
                        have hFc := allFree hD hS hA
                        refine vx_callv (vx_runV (As := [.int v765, .int 1]) (rest := []) ⟨hx, hb, hml, hown, hts⟩ (mt_X10_linear l hst dC dI hL aL kL hT hM iL_names gL_key fL_kind fL_one fL_two fL_base iL_params fL_paramOver dL_paramOver nL_params fL_paramUnder dL_paramUnder nL_pu gL_over_763 gL_under_763 fL_bound_763 iL_nameAt iL_startAt iL_steps_763 jL_scaleOver_x102_1 jL_scaleUnder_x102_1 hF aF kF dF_tree nF_tree fF_tree aT kT fT_tape dT_tape nT_tape iT_length iT_fault_763 iT_place_763 iT_kind iT_at iT_number jT_name iT_next aM kM iM_stands iM_variables iM_rows_742 iM_goals iM_differents iM_cases_741 fM_from fM_to fM_whole fM_ways_742 iM_plainRows_742 fM_plainRow_742 fM_kept_x102_1 fM_goalOver fM_goalUnder fM_goalMax fM_different V lo 1 v765 1 (b_iL_names) b_fL_kind b_fL_two b_fL_base (b_iL_params) (by first | exact b_nL_params | with_reducible assumption | exact ⟨by omega, by omega⟩ | assumption) (by first | with_reducible assumption | omega | (rw [iI_t (by omega) (by omega)]; omega) | assumption) (by first | with_reducible assumption | omega | (rw [iI_t (by omega) (by omega)]; omega) | assumption) (by first | with_reducible assumption | omega | (rw [iI_t (by omega) (by omega)]; omega) | assumption) (by first | exact b_nF_tree | with_reducible assumption | exact ⟨by omega, by omega⟩ | assumption) b_fT_tape (by first | exact b_nT_tape | with_reducible assumption | exact ⟨by omega, by omega⟩ | assumption) (b_iT_length) (b_iT_at) (b_iT_number) (b_iT_next) (by first | with_reducible assumption | omega | assumption) (b_iM_stands) (b_iM_variables) (b_iM_rows_742) (b_iM_goals) (b_iM_differents) (b_iM_cases_741) b_fM_ways_742 (b_iM_plainRows_742) b_fM_plainRow_742 (by first | with_reducible assumption | omega | assumption) (show 0 ≤ (1 : Int32).toInt ∧ (1 : Int32).toInt ≤ 38 from by decide) (by first | with_reducible assumption | omega | (rw [iI_t (by omega) (by omega)]; omega) | decide | assumption) (by first | with_reducible assumption | omega | (rw [iI_t (by omega) (by omega)]; omega) | decide | assumption) (by first | with_reducible assumption | omega | (rw [iI_t (by omega) (by omega)]; omega) | decide | assumption) (by first | with_reducible assumption | omega | (rw [iI_t (by omega) (by omega)]; omega) | decide | assumption) H.size) (cwV 2 hts gwsMX10_doRows_5 rfl rfl rfl hd_yX10_linear_RX10 (by decide +kernel)) (fz_preE (va_recv hK hP (ci := 10) (q0 := 0) rfl rfl) hP hK hD (fun a U g mk qE => qE.call) (fun U hU9 hW => by rw [hU9]; exact (((hE : CE A s s.heap).kept hS.2.1).narrow (fun q h => hFc q h)).warm hW)) rfl rfl hl.1 rfl (lv_room (Nat.le_of_ble_eq_true rfl)) dX10_doRows_139 (by decide +kernel)) hS (fun q _ h => hFc q h) hFc (fun q _ h => hFc q h) (fun E ce q9 u t9_ H locs ht hvm hw9 hB9 hz1 hk1 hS hc1 hc2 hc3 => ?_) (fun u t9_ H locs ht hvm hw9 hB9 hz1 hk1 hS => ?_)
                        · revert u hw9 hB9
                          refine fz_p6 ?_
                          intro gL_over_766 gL_under_766 fL_bound_766 iL_steps_766 iT_fault_766 iT_place_766 hw9 hB9
                          try dsimp only at hw9 hB9
                          revert hB9
                          refine fz_a2 ?_
                          intro hEx hB9
                          clear hw9
                          have hP : va_P (dC, dI) vwCl (WL hL aL kL hT hM (.ref dF_tree) iL_names gL_key fL_kind fL_one fL_two fL_base iL_params fL_paramOver dL_paramOver nL_params fL_paramUnder dL_paramUnder nL_pu gL_over_766 gL_under_766 fL_bound_766 iL_nameAt iL_startAt iL_steps_766 jL_scaleOver_x102_1 jL_scaleUnder_x102_1 ++ (WF hF aF kF dF_tree nF_tree fF_tree ++ (WT hT aT kT fT_tape dT_tape nT_tape iT_length iT_fault_766 iT_place_766 iT_kind iT_at iT_number jT_name iT_next ++ (WM hM aM kM iM_stands iM_variables iM_rows_742 iM_goals iM_differents iM_cases_741 fM_from fM_to fM_whole fM_ways_742 iM_plainRows_742 fM_plainRow_742 fM_kept_x102_1 fM_goalOver fM_goalUnder fM_goalMax fM_different)))) H := fz_P ht hB9.1
                          have hD := fz_sd hP (hB9.2.weaken (fun _ q _ h => hFc q.1 h)) rfl
                          exact vx_out (fun x hx9 => (htab x hx9).elim) hlocks hc1 hc2 hc3 (fun t9_ ht hvm => ⟨(gL_over_766, gL_under_766, fL_bound_766, iL_steps_766, jL_scaleOver_x102_1, jL_scaleUnder_x102_1, iT_fault_766, iT_place_766, iM_rows_742, iM_cases_741, fM_ways_742, iM_plainRows_742, fM_plainRow_742, fM_kept_x102_1), ⟨(b_iM_rows_742), (b_iM_cases_741), b_fM_ways_742, (b_iM_plainRows_742), b_fM_plainRow_742, (by (try dsimp only); exact (by first | with_reducible assumption | omega | assumption))⟩, ⟨(by have h9 := hEx; exact h9), by rw [ht]; exact hP, hD⟩, hS.F ht⟩) hS.2.2 (by decide +kernel) (by decide +kernel)
                        revert u hw9 hB9
                        refine fz_p6 ?_
                        intro gL_over_766 gL_under_766 fL_bound_766 iL_steps_766 iT_fault_766 iT_place_766 hw9 hB9
                        try dsimp only at hw9 hB9
                        clear hw9
                        have hz8 := hB9.2.2
                        rw [ht] at hz8
                        have hz9 : H.size ≤ s.heap.size + 0 := by rw [hz8]; exact hz0
                        refine W.tight (cells2 := 0) (slots2 := 0) hz9 (nS_0 hz9) ?_
                        clear hz8 hz9
                        have hP : va_P (dC, dI) vwCl (WL hL aL kL hT hM (.ref dF_tree) iL_names gL_key fL_kind fL_one fL_two fL_base iL_params fL_paramOver dL_paramOver nL_params fL_paramUnder dL_paramUnder nL_pu gL_over_766 gL_under_766 fL_bound_766 iL_nameAt iL_startAt iL_steps_766 jL_scaleOver_x102_1 jL_scaleUnder_x102_1 ++ (WF hF aF kF dF_tree nF_tree fF_tree ++ (WT hT aT kT fT_tape dT_tape nT_tape iT_length iT_fault_766 iT_place_766 iT_kind iT_at iT_number jT_name iT_next ++ (WM hM aM kM iM_stands iM_variables iM_rows_742 iM_goals iM_differents iM_cases_741 fM_from fM_to fM_whole fM_ways_742 iM_plainRows_742 fM_plainRow_742 fM_kept_x102_1 fM_goalOver fM_goalUnder fM_goalMax fM_different)))) H := fz_P ht hB9.1
                        have hD := fz_sd hP (hB9.2.1.weaken (fun _ q _ h => hFc q.1 h)) rfl
                        refine lv_aload_n hx hb dX10_doRows_142 rfl (lv_at hl 5 rfl) ?_
                        refine lv_iload hx hb dX10_doRows_143 (lv_at hl 2 rfl) ?_
                        refine lv_iload hx hb dX10_doRows_145 (lv_at hl 0 rfl) ?_
                        refine lv_iload hx hb dX10_doRows_147 (lv_at hl 1 rfl) ?_
                        refine W.known (fun hz0 _ => ?_)
                        have hFc := allFree hD hS hA
                        refine vx_callv (vx_runV (As := [.int iM_rows_x18, .int l9_x102_1, .int l8_x102_1]) (rest := []) ⟨hx, hb, hml, hown, hts⟩ (m_X10_keepWay l hst dC dI hL aL kL hT hM iL_names gL_key fL_kind fL_one fL_two fL_base iL_params fL_paramOver dL_paramOver nL_params fL_paramUnder dL_paramUnder nL_pu gL_over_766 gL_under_766 fL_bound_766 iL_nameAt iL_startAt iL_steps_766 jL_scaleOver_x102_1 jL_scaleUnder_x102_1 hF aF kF dF_tree nF_tree fF_tree aT kT fT_tape dT_tape nT_tape iT_length iT_fault_766 iT_place_766 iT_kind iT_at iT_number jT_name iT_next aM kM iM_stands iM_variables iM_rows_742 iM_goals iM_differents iM_cases_741 fM_from fM_to fM_whole fM_ways_742 iM_plainRows_742 fM_plainRow_742 fM_kept_x102_1 fM_goalOver fM_goalUnder fM_goalMax fM_different iM_rows_x18 l9_x102_1 l8_x102_1 (b_iL_names) b_fL_kind b_fL_two b_fL_base (b_iL_params) (by first | exact b_nL_params | with_reducible assumption | exact ⟨by omega, by omega⟩ | assumption) (by first | with_reducible assumption | omega | (rw [iI_t (by omega) (by omega)]; omega) | assumption) (by first | with_reducible assumption | omega | (rw [iI_t (by omega) (by omega)]; omega) | assumption) (by first | with_reducible assumption | omega | (rw [iI_t (by omega) (by omega)]; omega) | assumption) (by first | exact b_nF_tree | with_reducible assumption | exact ⟨by omega, by omega⟩ | assumption) b_fT_tape (by first | exact b_nT_tape | with_reducible assumption | exact ⟨by omega, by omega⟩ | assumption) (b_iT_length) (b_iT_at) (b_iT_number) (b_iT_next) (by first | with_reducible assumption | omega | assumption) (b_iM_stands) (b_iM_variables) (b_iM_rows_742) (b_iM_goals) (b_iM_differents) (b_iM_cases_741) b_fM_ways_742 (b_iM_plainRows_742) b_fM_plainRow_742 (by first | with_reducible assumption | omega | assumption) (by first | exact b_iM_rows_x18 | with_reducible assumption | exact ⟨by omega, by omega⟩ | assumption) (by first | exact b_l9_x102_1 | with_reducible assumption | exact ⟨by omega, by omega⟩ | assumption) (by first | with_reducible assumption | omega | (rw [iI_t (by omega) (by omega)]; omega) | decide | assumption) H.size) (cwV 3 hts gwsMX10_doRows_6 rfl rfl rfl hd_yX10_keepWay_RX10 (by decide +kernel)) (fz_preE (va_recv hK hP (ci := 10) (q0 := 0) rfl rfl) hP hK hD (fun a U g mk qE => qE.call) (fun U hU9 hW => by rw [hU9]; exact (((hE : CE A s s.heap).kept hS.2.1).narrow (fun q h => hFc q h)).warm hW)) rfl rfl hl.1 rfl (lv_room (Nat.le_of_ble_eq_true rfl)) dX10_doRows_149 (by decide +kernel)) hS (fun q _ h => hFc q h) hFc (fun q _ h => hFc q h) (fun E ce q9 u t9_ H locs ht hvm hw9 hB9 hz1 hk1 hS hc1 hc2 hc3 => ?_) (fun u t9_ H locs ht hvm hw9 hB9 hz1 hk1 hS => ?_)
                        · revert u hw9 hB9
                          refine fz_p7 ?_
                          intro gL_over_767 gL_under_767 jL_scaleOver_767 jL_scaleUnder_767 iT_fault_767 iT_place_767 fM_kept_767 hw9 hB9
                          try dsimp only at hw9 hB9
                          revert hB9
                          refine fz_a2 ?_
                          intro hEx hB9
                          clear hw9
                          have hP : va_P (dC, dI) vwCl (WL hL aL kL hT hM (.ref dF_tree) iL_names gL_key fL_kind fL_one fL_two fL_base iL_params fL_paramOver dL_paramOver nL_params fL_paramUnder dL_paramUnder nL_pu gL_over_767 gL_under_767 fL_bound_766 iL_nameAt iL_startAt iL_steps_766 jL_scaleOver_767 jL_scaleUnder_767 ++ (WF hF aF kF dF_tree nF_tree fF_tree ++ (WT hT aT kT fT_tape dT_tape nT_tape iT_length iT_fault_767 iT_place_767 iT_kind iT_at iT_number jT_name iT_next ++ (WM hM aM kM iM_stands iM_variables iM_rows_742 iM_goals iM_differents iM_cases_741 fM_from fM_to fM_whole fM_ways_742 iM_plainRows_742 fM_plainRow_742 fM_kept_767 fM_goalOver fM_goalUnder fM_goalMax fM_different)))) H := fz_P ht hB9.1
                          have hD := fz_sd hP (hB9.2.weaken (fun _ q _ h => hFc q.1 h)) rfl
                          exact vx_out (fun x hx9 => (htab x hx9).elim) hlocks hc1 hc2 hc3 (fun t9_ ht hvm => ⟨(gL_over_767, gL_under_767, fL_bound_766, iL_steps_766, jL_scaleOver_767, jL_scaleUnder_767, iT_fault_767, iT_place_767, iM_rows_742, iM_cases_741, fM_ways_742, iM_plainRows_742, fM_plainRow_742, fM_kept_767), ⟨(b_iM_rows_742), (b_iM_cases_741), b_fM_ways_742, (b_iM_plainRows_742), b_fM_plainRow_742, (by (try dsimp only); exact (by first | with_reducible assumption | omega | assumption))⟩, ⟨(by have h9 := hEx; exact h9), by rw [ht]; exact hP, hD⟩, hS.F ht⟩) hS.2.2 (by decide +kernel) (by decide +kernel)
                        revert u hw9 hB9
                        refine fz_p7 ?_
                        intro gL_over_767 gL_under_767 jL_scaleOver_767 jL_scaleUnder_767 iT_fault_767 iT_place_767 fM_kept_767 hw9 hB9
                        try dsimp only at hw9 hB9
                        clear hw9
                        have hz8 := hB9.2.2
                        rw [ht] at hz8
                        have hz9 : H.size ≤ s.heap.size + 0 := by rw [hz8]; exact hz0
                        refine W.tight (cells2 := 0) (slots2 := 0) hz9 (nS_0 hz9) ?_
                        clear hz8 hz9
                        have hP : va_P (dC, dI) vwCl (WL hL aL kL hT hM (.ref dF_tree) iL_names gL_key fL_kind fL_one fL_two fL_base iL_params fL_paramOver dL_paramOver nL_params fL_paramUnder dL_paramUnder nL_pu gL_over_767 gL_under_767 fL_bound_766 iL_nameAt iL_startAt iL_steps_766 jL_scaleOver_767 jL_scaleUnder_767 ++ (WF hF aF kF dF_tree nF_tree fF_tree ++ (WT hT aT kT fT_tape dT_tape nT_tape iT_length iT_fault_767 iT_place_767 iT_kind iT_at iT_number jT_name iT_next ++ (WM hM aM kM iM_stands iM_variables iM_rows_742 iM_goals iM_differents iM_cases_741 fM_from fM_to fM_whole fM_ways_742 iM_plainRows_742 fM_plainRow_742 fM_kept_767 fM_goalOver fM_goalUnder fM_goalMax fM_different)))) H := fz_P ht hB9.1
                        have hD := fz_sd hP (hB9.2.1.weaken (fun _ q _ h => hFc q.1 h)) rfl
                        refine lv_aload_n hx hb dX10_doRows_152 rfl (lv_at hl 5 rfl) ?_
                        refine va_get (D := (dC, dI)) (ci := 10) (v := .ref dF_tree) (C := RX10) (T := TX10) (N := 20) hx hb hts iwsMX10_doRows_in10 hown hK hP 0 rfl rfl 2 (by decide) (hts _ hm_m_X10_doRows_2) (fun _ h9 => h9) rfl dX10_doRows_153 ?_
                        refine lv_iload hx hb dX10_doRows_156 (lv_at hl 1 rfl) ?_
                        refine lv_bipush (v := 6) hx hb dX10_doRows_158 (by decide) ?_
                        refine lv_iadd hx hb dX10_doRows_160 ?_
                        refine lv_topi (fun y768 hy768 => ?_)
                        obtain rfl : (iI (l8_x102_1.toInt + 6)) = y768 := (hy768.trans (iI_add2 (iI_of _) (by decide : (6 : Int32) = iI 6))).symm
                        refine va_iald (cA := kF 0) (n := nF_tree) (f := fF_tree) hx hb hK hP 11 10 rfl rfl (vp_iI (by omega) (by omega) (by omega)) dX10_doRows_161 ?_
                        refine lv_topi (fun v769 hv769 => ?_)
                        have b_v769 : v769.toInt = twL fF_tree (l8_x102_1.toInt + 6) := by rw [hv769]; exact tw_i (by omega) (by omega)
                        have b1_v769 : v769.toInt = 0 ∨ V v769.toInt 14 0 := by rw [hv769]; exact tnx (tw_i (by omega) (by omega)) (TrL.nx hV (k := 14) (L := 0) (hpv))
                        clear hv769
                        refine lv_istore hx hb dX10_doRows_162 hl (by decide) rfl (fun ls (hl : lv_has ls _ ([(8, .int v769), (9, .int l9_x102_1), (7, .int iM_rows_x18), (6, .int l6_x18), (5, .int k0_j14), (0, .ref (hL 0)), (1, .int p1), (2, .int p2), (3, .int p3), (4, .int p4)])) => ?_)
                        refine lv_iinc (v := (iI (l9_x102_1.toInt + 1))) hx hb dX10_doRows_164 hl (k := 1) rfl (iI_add2 (iI_of _) (by decide : (1 : Int32) = iI 1)) (by decide) rfl (fun ls (hl : lv_has ls _ ([(9, .int (iI (l9_x102_1.toInt + 1))), (8, .int v769), (7, .int iM_rows_x18), (6, .int l6_x18), (5, .int k0_j14), (0, .ref (hL 0)), (1, .int p1), (2, .int p2), (3, .int p3), (4, .int p4)])) => ?_)
                        refine lv_goto (tgt := 102) hx hb dX10_doRows_167 (by decide) ?_
                        have hl : lv_has _ _ ([(9, .int (iI (l9_x102_1.toInt + 1))), (8, .int v769), (7, .int iM_rows_x18), (6, .int l6_x18), (5, .int k0_j14), (0, .ref (hL 0)), (1, .int p1), (2, .int p2), (3, .int p3), (4, .int p4)]) := lv_sub hl [0, 1, 2, 3, 4, 5, 6, 7, 8, 9] rfl
                        exact ihx102_1 gL_over_767 gL_under_767 fL_bound_766 iL_steps_766 jL_scaleOver_767 jL_scaleUnder_767 iT_fault_767 iT_place_767 fM_kept_767 (iI (l9_x102_1.toInt + 1)) v769 _ _ _ (iI_rng (Int.le_trans (by decide) (Int.add_le_add (b_l9_x102_1.1) (Int.le_refl _))) (by omega) (by decide) (by decide)) (show v769.toInt = 0 ∨ V v769.toInt 14 0 from by assumption) (by have e9 : ((iI (l9_x102_1.toInt + 1))).toInt = (l9_x102_1.toInt + 1) := (iI_t (Int.le_trans (by decide) (Int.add_le_add (b_l9_x102_1.1) (Int.le_refl _))) (Int.le_trans (Int.add_le_add (b_l9_x102_1.2) (Int.le_refl _)) (by decide))); omega) hP hD hS hl
                · have t_65 : ¬ iM_rows_x18.toInt < 12 := toI_nlt c_65 rfl (by decide : (12 : Int32).toInt = 12)
                  refine lv_aload_n hx hb dX10_doRows_68 rfl (lv_at hl 3 rfl) ?_
                  refine va_get (D := (dC, dI)) (ci := 10) (v := .ref (hT 0)) (C := RX10) (T := TX10) (N := 20) hx hb hts iwsMX10_doRows_in10 hown hK hP 0 rfl rfl 0 (by decide) (hts _ hm_m_X10_doRows_3) (fun _ h9 => h9) rfl dX10_doRows_69 ?_
                  refine lv_bipush (v := 11) hx hb dX10_doRows_72 (by decide) ?_
                  refine lv_aload_n hx hb dX10_doRows_74 rfl (lv_at hl 3 rfl) ?_
                  refine va_get (D := (dC, dI)) (ci := 10) (v := .int iL_nameAt) (C := RX10) (T := TX10) (N := 20) hx hb hts iwsMX10_doRows_in10 hown hK hP 0 rfl rfl 15 (by decide) (hts _ hm_m_X10_doRows_4) (fun _ h9 => h9) rfl dX10_doRows_75 ?_
                  have p9 := cj_4_2 (WL hL aL kL hT hM (.ref dF_tree) iL_names gL_key fL_kind fL_one fL_two fL_base iL_params fL_paramOver dL_paramOver nL_params fL_paramUnder dL_paramUnder nL_pu gL_over_739 gL_under_739 fL_bound_739 iL_nameAt iL_startAt iL_steps_739 jL_scaleOver_x18 jL_scaleUnder_x18) (WF hF aF kF dF_tree nF_tree fF_tree) (WT hT aT kT fT_tape dT_tape nT_tape iT_length iT_fault_739 iT_place_739 iT_kind iT_at iT_number jT_name iT_next) (WM hM aM kM iM_stands iM_variables iM_rows_x18 iM_goals iM_differents iM_cases_x18 fM_from fM_to fM_whole fM_ways_x18 iM_plainRows_x18 fM_plainRow_x18 fM_kept_x18 fM_goalOver fM_goalUnder fM_goalMax fM_different)
                  have hPc := hP.mem (fun q h => p9.mem_iff.mpr (List.mem_append_left _ h))
                  have hDc := (hD.perm p9).left
                  have hKc : va_K (dC, dI) vwCl (tT kT) _ := hK.sub [11] rfl
                  have hFc := freeG p9 hD hS hA
                  refine vx_callv (vx_runV (As := [.int 11, .int iL_nameAt]) (rest := []) ⟨hx, hb, hml, hown, hts⟩ (m_X9_fail l hst dC dI hT aT kT fT_tape dT_tape nT_tape iT_length iT_fault_739 iT_place_739 iT_kind iT_at iT_number jT_name iT_next 11 iL_nameAt b_fT_tape (by first | exact b_nT_tape | with_reducible assumption | exact ⟨by omega, by omega⟩ | assumption) (b_iT_length) (b_iT_at) (b_iT_number) (b_iT_next) (by first | with_reducible assumption | omega | assumption) H.size) (cwV 2 hts gwsMX10_doRows_2 rfl rfl rfl hd_yX9_fail_RX9 (by decide +kernel)) (fz_preE (va_recv hK hP (ci := 9) (q0 := 12) rfl rfl) hPc hKc hDc (fun a U g mk qE => qE.call) (fun U hU9 hW => by rw [hU9]; exact (((hE : CE A s s.heap).kept hS.2.1).narrow (fun q h => hFc q h)).warm hW)) rfl rfl hl.1 rfl (lv_room (Nat.le_of_ble_eq_true rfl)) dX10_doRows_78 (by decide +kernel)) hS (fun q _ h => hFc q h) hFc (fun q _ h => hFc q h) (fun E ce q9 u t9_ H locs ht hvm hw9 hB9 hz1 hk1 hS hc1 hc2 hc3 => ?_) (fun u t9_ H1 locs ht hvm hw9 hB9 hz1 hk1 hS => ?_)
                  · revert u hw9 hB9
                    refine fz_p2 ?_
                    intro iT_fault_770 iT_place_770 hw9 hB9
                    try dsimp only at hw9 hB9
                    revert hB9
                    refine fz_a2 ?_
                    intro hEx hB9
                    clear hw9
                    have p8 := cj_4_2 (WL hL aL kL hT hM (.ref dF_tree) iL_names gL_key fL_kind fL_one fL_two fL_base iL_params fL_paramOver dL_paramOver nL_params fL_paramUnder dL_paramUnder nL_pu gL_over_739 gL_under_739 fL_bound_739 iL_nameAt iL_startAt iL_steps_739 jL_scaleOver_x18 jL_scaleUnder_x18) (WF hF aF kF dF_tree nF_tree fF_tree) (WT hT aT kT fT_tape dT_tape nT_tape iT_length iT_fault_770 iT_place_770 iT_kind iT_at iT_number jT_name iT_next) (WM hM aM kM iM_stands iM_variables iM_rows_x18 iM_goals iM_differents iM_cases_x18 fM_from fM_to fM_whole fM_ways_x18 iM_plainRows_x18 fM_plainRow_x18 fM_kept_x18 fM_goalOver fM_goalUnder fM_goalMax fM_different)
                    obtain ⟨hP, hD⟩ := frameG p9 p8 hP hD hk1 hFc (fz_P ht hB9.1) hB9.2
                    exact vx_out (fun x hx9 => (htab x hx9).elim) hlocks hc1 hc2 hc3 (fun t9_ ht hvm => ⟨(gL_over_739, gL_under_739, fL_bound_739, iL_steps_739, jL_scaleOver_x18, jL_scaleUnder_x18, iT_fault_770, iT_place_770, iM_rows_x18, iM_cases_x18, fM_ways_x18, iM_plainRows_x18, fM_plainRow_x18, fM_kept_x18), ⟨(b_iM_rows_x18), (b_iM_cases_x18), b_fM_ways_x18, (b_iM_plainRows_x18), b_fM_plainRow_x18, (by (try dsimp only); exact (by first | with_reducible assumption | omega | assumption))⟩, ⟨(by have h9 := hEx; exact h9), by rw [ht]; exact hP, hD⟩, hS.F ht⟩) hS.2.2 (by decide +kernel) (by decide +kernel)
                  exact False.elim hw9
              · have t_46 : r739.toInt = 0 := toI_nne c_46 rfl (by decide : (0 : Int32).toInt = 0)
                refine lv_goto (tgt := 170) hx hb dX10_doRows_49 (by decide) ?_
                have hl : lv_has _ _ ([(6, .int l6_x18), (5, .int k0_j14), (0, .ref (hL 0)), (1, .int p1), (2, .int p2), (3, .int p3), (4, .int p4)]) := lv_sub hl [0, 1, 2, 3, 4, 5, 6] rfl
                exact join26 _ _ _ _ ⟨gL_over_739, gL_under_739, fL_bound_739, iL_steps_739, jL_scaleOver_x18, jL_scaleUnder_x18, iT_fault_739, iT_place_739, iM_rows_x18, iM_cases_x18, fM_ways_x18, iM_plainRows_x18, fM_plainRow_x18, fM_kept_x18, (b_iM_rows_x18), (b_iM_cases_x18), b_fM_ways_x18, (b_iM_plainRows_x18), b_fM_plainRow_x18, (by first | with_reducible assumption | omega | assumption), (show iM_cases_x18.toInt ≤ 64 from by omega), rfl, hP, hD, hS, hl⟩
          · rintro H locs ls stk ⟨gL_over_j26, gL_under_j26, fL_bound_j26, iL_steps_j26, jL_scaleOver_j26, jL_scaleUnder_j26, iT_fault_j26, iT_place_j26, iM_rows_j26, iM_cases_j26, fM_ways_j26, iM_plainRows_j26, fM_plainRow_j26, fM_kept_j26, b_iM_rows_j26, b_iM_cases_j26, b_fM_ways_j26, b_iM_plainRows_j26, b_fM_plainRow_j26, b_pr_j26, hjc, rfl, hP, hD, hS, hl⟩
            refine lv_iinc (v := (iI (l6_x18.toInt + 1))) hx hb dX10_doRows_170 hl (k := 0) rfl (iI_add2 (iI_of _) (by decide : (1 : Int32) = iI 1)) (by decide) rfl (fun ls (hl : lv_has ls _ ([(6, .int (iI (l6_x18.toInt + 1))), (5, .int k0_j14), (0, .ref (hL 0)), (1, .int p1), (2, .int p2), (3, .int p3), (4, .int p4)])) => ?_)
            refine lv_goto (tgt := 18) hx hb dX10_doRows_173 (by decide) ?_
            have hl : lv_has _ _ ([(6, .int (iI (l6_x18.toInt + 1))), (5, .int k0_j14), (0, .ref (hL 0)), (1, .int p1), (2, .int p2), (3, .int p3), (4, .int p4)]) := lv_sub hl [0, 1, 2, 3, 4, 5, 6] rfl
            exact ihx18 gL_over_j26 gL_under_j26 fL_bound_j26 iL_steps_j26 jL_scaleOver_j26 jL_scaleUnder_j26 iT_fault_j26 iT_place_j26 iM_rows_j26 iM_cases_j26 fM_ways_j26 iM_plainRows_j26 fM_plainRow_j26 fM_kept_j26 (iI (l6_x18.toInt + 1)) _ _ _ (by first | exact b_iM_rows_j26 | with_reducible assumption | exact ⟨by omega, by omega⟩ | assumption) (by first | exact b_iM_cases_j26 | with_reducible assumption | exact ⟨by omega, by omega⟩ | assumption) b_fM_ways_j26 (by first | exact b_iM_plainRows_j26 | with_reducible assumption | exact ⟨by omega, by omega⟩ | assumption) b_fM_plainRow_j26 (iI_rng (Int.le_trans (by decide) (Int.add_le_add (b_l6_x18.1) (Int.le_refl _))) (by omega) (by decide) (by decide)) (by first | with_reducible assumption | omega | assumption) (show iM_cases_j26.toInt ≤ 64 from by omega) (by have e9 : ((iI (l6_x18.toInt + 1))).toInt = (l6_x18.toInt + 1) := (iI_t (Int.le_trans (by decide) (Int.add_le_add (b_l6_x18.1) (Int.le_refl _))) (Int.le_trans (Int.add_le_add (b_l6_x18.2) (Int.le_refl _)) (by decide))); omega) hP hD hS hl
theorem dX10_doGoal_0 : decode cX10_doGoal 0 = .ok (.aload_n 0, 1) := dk_42 (by decide +kernel)
theorem dX10_doGoal_1 : decode cX10_doGoal 1 = .ok (.iload_n 1, 1) := dk_27 (by decide +kernel)
theorem dX10_doGoal_2 : decode cX10_doGoal 2 = .ok (.iconst 0, 1) := dk_3 (by decide +kernel)
theorem dX10_doGoal_3 : decode cX10_doGoal 3 = .ok (.invokevirtual 133, 3) := dk_182 (by decide +kernel)
theorem dX10_doGoal_6 : decode cX10_doGoal 6 = .ok (.aload_n 0, 1) := dk_42 (by decide +kernel)
theorem dX10_doGoal_7 : decode cX10_doGoal 7 = .ok (.getfield 51, 3) := dk_180 (by decide +kernel)
theorem dX10_doGoal_10 : decode cX10_doGoal 10 = .ok (.getfield 140, 3) := dk_180 (by decide +kernel)
theorem dX10_doGoal_13 : decode cX10_doGoal 13 = .ok (.bipush 9, 2) := dk_16 (by decide +kernel)
theorem dX10_doGoal_15 : decode cX10_doGoal 15 = .ok (.imul, 1) := dk_104 (by decide +kernel)
theorem dX10_doGoal_16 : decode cX10_doGoal 16 = .ok (.istore_n 3, 1) := dk_62 (by decide +kernel)
theorem dX10_doGoal_17 : decode cX10_doGoal 17 = .ok (.iconst 0, 1) := dk_3 (by decide +kernel)
theorem dX10_doGoal_18 : decode cX10_doGoal 18 = .ok (.istore 4, 2) := dk_54 (by decide +kernel)
theorem dX10_doGoal_20 : decode cX10_doGoal 20 = .ok (.iload 4, 2) := dk_21 (by decide +kernel)
theorem dX10_doGoal_22 : decode cX10_doGoal 22 = .ok (.bipush 9, 2) := dk_16 (by decide +kernel)
theorem dX10_doGoal_24 : decode cX10_doGoal 24 = .ok (.if_icmp .ge 166, 3) := dk_162 (by decide +kernel)
theorem dX10_doGoal_27 : decode cX10_doGoal 27 = .ok (.iload 4, 2) := dk_21 (by decide +kernel)
theorem dX10_doGoal_29 : decode cX10_doGoal 29 = .ok (.aload_n 0, 1) := dk_42 (by decide +kernel)
theorem dX10_doGoal_30 : decode cX10_doGoal 30 = .ok (.getfield 51, 3) := dk_180 (by decide +kernel)
theorem dX10_doGoal_33 : decode cX10_doGoal 33 = .ok (.getfield 93, 3) := dk_180 (by decide +kernel)
theorem dX10_doGoal_36 : decode cX10_doGoal 36 = .ok (.if_icmp .gt 7, 3) := dk_163 (by decide +kernel)
theorem dX10_doGoal_39 : decode cX10_doGoal 39 = .ok (.iconst 1, 1) := dk_4 (by decide +kernel)
theorem dX10_doGoal_40 : decode cX10_doGoal 40 = .ok (.goto 4, 3) := dk_167 (by decide +kernel)
theorem dX10_doGoal_43 : decode cX10_doGoal 43 = .ok (.iconst 0, 1) := dk_3 (by decide +kernel)
theorem dX10_doGoal_44 : decode cX10_doGoal 44 = .ok (.istore 5, 2) := dk_54 (by decide +kernel)
theorem dX10_doGoal_46 : decode cX10_doGoal 46 = .ok (.iload 4, 2) := dk_21 (by decide +kernel)
theorem dX10_doGoal_48 : decode cX10_doGoal 48 = .ok (.ifCond .ne 9, 3) := dk_154 (by decide +kernel)
theorem dX10_doGoal_51 : decode cX10_doGoal 51 = .ok (.sipush 9999, 3) := dk_17 (by decide +kernel)
theorem dX10_doGoal_54 : decode cX10_doGoal 54 = .ok (.goto 5, 3) := dk_167 (by decide +kernel)
theorem dX10_doGoal_57 : decode cX10_doGoal 57 = .ok (.bipush 99, 2) := dk_16 (by decide +kernel)
theorem dX10_doGoal_59 : decode cX10_doGoal 59 = .ok (.istore 6, 2) := dk_54 (by decide +kernel)
theorem dX10_doGoal_61 : decode cX10_doGoal 61 = .ok (.iload 5, 2) := dk_21 (by decide +kernel)
theorem dX10_doGoal_63 : decode cX10_doGoal 63 = .ok (.ifCond .eq 63, 3) := dk_153 (by decide +kernel)
theorem dX10_doGoal_66 : decode cX10_doGoal 66 = .ok (.aload_n 0, 1) := dk_42 (by decide +kernel)
theorem dX10_doGoal_67 : decode cX10_doGoal 67 = .ok (.getfield 36, 3) := dk_180 (by decide +kernel)
theorem dX10_doGoal_70 : decode cX10_doGoal 70 = .ok (.iload 4, 2) := dk_21 (by decide +kernel)
theorem dX10_doGoal_72 : decode cX10_doGoal 72 = .ok (.laload, 1) := dk_47 (by decide +kernel)
theorem dX10_doGoal_73 : decode cX10_doGoal 73 = .ok (.iload 6, 2) := dk_21 (by decide +kernel)
theorem dX10_doGoal_75 : decode cX10_doGoal 75 = .ok (.i2l, 1) := dk_133 (by decide +kernel)
theorem dX10_doGoal_76 : decode cX10_doGoal 76 = .ok (.lcmp, 1) := dk_148 (by decide +kernel)
theorem dX10_doGoal_77 : decode cX10_doGoal 77 = .ok (.ifCond .gt 32, 3) := dk_157 (by decide +kernel)
theorem dX10_doGoal_80 : decode cX10_doGoal 80 = .ok (.aload_n 0, 1) := dk_42 (by decide +kernel)
theorem dX10_doGoal_81 : decode cX10_doGoal 81 = .ok (.getfield 36, 3) := dk_180 (by decide +kernel)
theorem dX10_doGoal_84 : decode cX10_doGoal 84 = .ok (.iload 4, 2) := dk_21 (by decide +kernel)
theorem dX10_doGoal_86 : decode cX10_doGoal 86 = .ok (.laload, 1) := dk_47 (by decide +kernel)
theorem dX10_doGoal_87 : decode cX10_doGoal 87 = .ok (.iload 6, 2) := dk_21 (by decide +kernel)
theorem dX10_doGoal_89 : decode cX10_doGoal 89 = .ok (.ineg, 1) := dk_116 (by decide +kernel)
theorem dX10_doGoal_90 : decode cX10_doGoal 90 = .ok (.i2l, 1) := dk_133 (by decide +kernel)
theorem dX10_doGoal_91 : decode cX10_doGoal 91 = .ok (.lcmp, 1) := dk_148 (by decide +kernel)
theorem dX10_doGoal_92 : decode cX10_doGoal 92 = .ok (.ifCond .lt 17, 3) := dk_155 (by decide +kernel)
theorem dX10_doGoal_95 : decode cX10_doGoal 95 = .ok (.aload_n 0, 1) := dk_42 (by decide +kernel)
theorem dX10_doGoal_96 : decode cX10_doGoal 96 = .ok (.getfield 39, 3) := dk_180 (by decide +kernel)
theorem dX10_doGoal_99 : decode cX10_doGoal 99 = .ok (.iload 4, 2) := dk_21 (by decide +kernel)
theorem dX10_doGoal_101 : decode cX10_doGoal 101 = .ok (.laload, 1) := dk_47 (by decide +kernel)
theorem dX10_doGoal_102 : decode cX10_doGoal 102 = .ok (.iload 6, 2) := dk_21 (by decide +kernel)
theorem dX10_doGoal_104 : decode cX10_doGoal 104 = .ok (.i2l, 1) := dk_133 (by decide +kernel)
theorem dX10_doGoal_105 : decode cX10_doGoal 105 = .ok (.lcmp, 1) := dk_148 (by decide +kernel)
theorem dX10_doGoal_106 : decode cX10_doGoal 106 = .ok (.ifCond .le 20, 3) := dk_158 (by decide +kernel)
theorem dX10_doGoal_109 : decode cX10_doGoal 109 = .ok (.aload_n 0, 1) := dk_42 (by decide +kernel)
theorem dX10_doGoal_110 : decode cX10_doGoal 110 = .ok (.getfield 47, 3) := dk_180 (by decide +kernel)
theorem dX10_doGoal_113 : decode cX10_doGoal 113 = .ok (.bipush 9, 2) := dk_16 (by decide +kernel)
theorem dX10_doGoal_115 : decode cX10_doGoal 115 = .ok (.aload_n 0, 1) := dk_42 (by decide +kernel)
theorem dX10_doGoal_116 : decode cX10_doGoal 116 = .ok (.getfield 55, 3) := dk_180 (by decide +kernel)
theorem dX10_doGoal_119 : decode cX10_doGoal 119 = .ok (.iload_n 1, 1) := dk_27 (by decide +kernel)
theorem dX10_doGoal_120 : decode cX10_doGoal 120 = .ok (.iconst 1, 1) := dk_4 (by decide +kernel)
theorem dX10_doGoal_121 : decode cX10_doGoal 121 = .ok (.iadd, 1) := dk_96 (by decide +kernel)
theorem dX10_doGoal_122 : decode cX10_doGoal 122 = .ok (.iaload, 1) := dk_46 (by decide +kernel)
theorem dX10_doGoal_123 : decode cX10_doGoal 123 = .ok (.invokevirtual 90, 3) := dk_182 (by decide +kernel)
theorem dX10_doGoal_126 : decode cX10_doGoal 126 = .ok (.aload_n 0, 1) := dk_42 (by decide +kernel)
theorem dX10_doGoal_127 : decode cX10_doGoal 127 = .ok (.getfield 51, 3) := dk_180 (by decide +kernel)
theorem dX10_doGoal_130 : decode cX10_doGoal 130 = .ok (.getfield 143, 3) := dk_180 (by decide +kernel)
theorem dX10_doGoal_133 : decode cX10_doGoal 133 = .ok (.iload_n 3, 1) := dk_29 (by decide +kernel)
theorem dX10_doGoal_134 : decode cX10_doGoal 134 = .ok (.iload 4, 2) := dk_21 (by decide +kernel)
theorem dX10_doGoal_136 : decode cX10_doGoal 136 = .ok (.iadd, 1) := dk_96 (by decide +kernel)
theorem dX10_doGoal_137 : decode cX10_doGoal 137 = .ok (.iload 5, 2) := dk_21 (by decide +kernel)
theorem dX10_doGoal_139 : decode cX10_doGoal 139 = .ok (.ifCond .eq 14, 3) := dk_153 (by decide +kernel)
theorem dX10_doGoal_142 : decode cX10_doGoal 142 = .ok (.aload_n 0, 1) := dk_42 (by decide +kernel)
theorem dX10_doGoal_143 : decode cX10_doGoal 143 = .ok (.getfield 36, 3) := dk_180 (by decide +kernel)
theorem dX10_doGoal_146 : decode cX10_doGoal 146 = .ok (.iload 4, 2) := dk_21 (by decide +kernel)
theorem dX10_doGoal_148 : decode cX10_doGoal 148 = .ok (.laload, 1) := dk_47 (by decide +kernel)
theorem dX10_doGoal_149 : decode cX10_doGoal 149 = .ok (.l2i, 1) := dk_136 (by decide +kernel)
theorem dX10_doGoal_150 : decode cX10_doGoal 150 = .ok (.goto 4, 3) := dk_167 (by decide +kernel)
theorem dX10_doGoal_153 : decode cX10_doGoal 153 = .ok (.iconst 0, 1) := dk_3 (by decide +kernel)
theorem dX10_doGoal_154 : decode cX10_doGoal 154 = .ok (.iastore, 1) := dk_79 (by decide +kernel)
theorem dX10_doGoal_155 : decode cX10_doGoal 155 = .ok (.aload_n 0, 1) := dk_42 (by decide +kernel)
theorem dX10_doGoal_156 : decode cX10_doGoal 156 = .ok (.getfield 51, 3) := dk_180 (by decide +kernel)
theorem dX10_doGoal_159 : decode cX10_doGoal 159 = .ok (.getfield 146, 3) := dk_180 (by decide +kernel)
theorem dX10_doGoal_162 : decode cX10_doGoal 162 = .ok (.iload_n 3, 1) := dk_29 (by decide +kernel)
theorem dX10_doGoal_163 : decode cX10_doGoal 163 = .ok (.iload 4, 2) := dk_21 (by decide +kernel)
theorem dX10_doGoal_165 : decode cX10_doGoal 165 = .ok (.iadd, 1) := dk_96 (by decide +kernel)
theorem dX10_doGoal_166 : decode cX10_doGoal 166 = .ok (.iload 5, 2) := dk_21 (by decide +kernel)
theorem dX10_doGoal_168 : decode cX10_doGoal 168 = .ok (.ifCond .eq 14, 3) := dk_153 (by decide +kernel)
theorem dX10_doGoal_171 : decode cX10_doGoal 171 = .ok (.aload_n 0, 1) := dk_42 (by decide +kernel)
theorem dX10_doGoal_172 : decode cX10_doGoal 172 = .ok (.getfield 39, 3) := dk_180 (by decide +kernel)
theorem dX10_doGoal_175 : decode cX10_doGoal 175 = .ok (.iload 4, 2) := dk_21 (by decide +kernel)
theorem dX10_doGoal_177 : decode cX10_doGoal 177 = .ok (.laload, 1) := dk_47 (by decide +kernel)
theorem dX10_doGoal_178 : decode cX10_doGoal 178 = .ok (.l2i, 1) := dk_136 (by decide +kernel)
theorem dX10_doGoal_179 : decode cX10_doGoal 179 = .ok (.goto 4, 3) := dk_167 (by decide +kernel)
theorem dX10_doGoal_182 : decode cX10_doGoal 182 = .ok (.iconst 1, 1) := dk_4 (by decide +kernel)
theorem dX10_doGoal_183 : decode cX10_doGoal 183 = .ok (.iastore, 1) := dk_79 (by decide +kernel)
theorem dX10_doGoal_184 : decode cX10_doGoal 184 = .ok (.iinc 4 1, 3) := dk_132 (by decide +kernel)
theorem dX10_doGoal_187 : decode cX10_doGoal 187 = .ok (.goto (-167), 3) := dk_167 (by decide +kernel)
theorem dX10_doGoal_190 : decode cX10_doGoal 190 = .ok (.aload_n 0, 1) := dk_42 (by decide +kernel)
theorem dX10_doGoal_191 : decode cX10_doGoal 191 = .ok (.getfield 51, 3) := dk_180 (by decide +kernel)
theorem dX10_doGoal_194 : decode cX10_doGoal 194 = .ok (.getfield 149, 3) := dk_180 (by decide +kernel)
theorem dX10_doGoal_197 : decode cX10_doGoal 197 = .ok (.aload_n 0, 1) := dk_42 (by decide +kernel)
theorem dX10_doGoal_198 : decode cX10_doGoal 198 = .ok (.getfield 51, 3) := dk_180 (by decide +kernel)
theorem dX10_doGoal_201 : decode cX10_doGoal 201 = .ok (.getfield 140, 3) := dk_180 (by decide +kernel)
theorem dX10_doGoal_204 : decode cX10_doGoal 204 = .ok (.iload_n 2, 1) := dk_28 (by decide +kernel)
theorem dX10_doGoal_205 : decode cX10_doGoal 205 = .ok (.bastore, 1) := dk_84 (by decide +kernel)
theorem dX10_doGoal_206 : decode cX10_doGoal 206 = .ok (.aload_n 0, 1) := dk_42 (by decide +kernel)
theorem dX10_doGoal_207 : decode cX10_doGoal 207 = .ok (.getfield 51, 3) := dk_180 (by decide +kernel)
theorem dX10_doGoal_210 : decode cX10_doGoal 210 = .ok (.dup, 1) := dk_89 (by decide +kernel)
theorem dX10_doGoal_211 : decode cX10_doGoal 211 = .ok (.getfield 140, 3) := dk_180 (by decide +kernel)
theorem dX10_doGoal_214 : decode cX10_doGoal 214 = .ok (.iconst 1, 1) := dk_4 (by decide +kernel)
theorem dX10_doGoal_215 : decode cX10_doGoal 215 = .ok (.iadd, 1) := dk_96 (by decide +kernel)
theorem dX10_doGoal_216 : decode cX10_doGoal 216 = .ok (.putfield 140, 3) := dk_181 (by decide +kernel)
theorem dX10_doGoal_219 : decode cX10_doGoal 219 = .ok (.return_, 1) := dk_177 (by decide +kernel)
def wsMX10_doGoal : List Cond := .code yX10_doGoal cX10_doGoal 7 none :: ([.fieldLink RX10 51 "OptimaWorks$Worker" "model" "LOptimaWorks$Model;", .fieldLink RX10 140 "OptimaWorks$Model" "goals" "I", .fieldLink RX10 93 "OptimaWorks$Model" "variables" "I", .fieldLink RX10 36 "OptimaWorks$Worker" "over" "[J", .fieldLink RX10 47 "OptimaWorks$Worker" "words" "LOptimaWorks$Words;", .fieldLink RX10 55 "OptimaWorks$Worker" "tree" "[I", .fieldLink RX10 39 "OptimaWorks$Worker" "under" "[J", .fieldLink RX10 143 "OptimaWorks$Model" "goalOver" "[I", .fieldLink RX10 146 "OptimaWorks$Model" "goalUnder" "[I", .fieldLink RX10 149 "OptimaWorks$Model" "goalMax" "[Z"] ++ wsX10 ++ wsX100 ++ (wsV RX10 133 RX10 yX10_linear wsMX10_linear) ++ (wsV RX10 90 RX9 yX9_fail wsMX9_fail))
theorem iwsMX10_doGoal_in1 : ∀ w ∈ wsX10, w ∈ wsMX10_doGoal := fun _ h => List.mem_cons_of_mem _ (List.mem_append_left _ (List.mem_append_left _ (List.mem_append_left _ (List.mem_append_right _ h))))
theorem iwsMX10_doGoal_in10 : ∀ w ∈ wsX100, w ∈ wsMX10_doGoal := fun _ h => List.mem_cons_of_mem _ (List.mem_append_left _ (List.mem_append_left _ (List.mem_append_right _ h)))
theorem gwsMX10_doGoal_0 : GoodIn wsMX10_doGoal (wsV RX10 133 RX10 yX10_linear wsMX10_linear) := goodIn_sub (fun _ h => List.mem_cons_of_mem _ (List.mem_append_left _ (List.mem_append_right _ h))) (gdV (by decide +kernel) gdwsMX10_linear)
theorem gwsMX10_doGoal_1 : GoodIn wsMX10_doGoal (wsV RX10 90 RX9 yX9_fail wsMX9_fail) := goodIn_sub (fun _ h => List.mem_cons_of_mem _ (List.mem_append_right _ h)) (gdV (by decide +kernel) gdwsMX9_fail)
theorem gdwsMX10_doGoal : wsMX10_doGoal.all goodWord = true := gdC rfl (gdA (gdA (gdA (gdA (by decide +kernel : ([.fieldLink RX10 51 "OptimaWorks$Worker" "model" "LOptimaWorks$Model;", .fieldLink RX10 140 "OptimaWorks$Model" "goals" "I", .fieldLink RX10 93 "OptimaWorks$Model" "variables" "I", .fieldLink RX10 36 "OptimaWorks$Worker" "over" "[J", .fieldLink RX10 47 "OptimaWorks$Worker" "words" "LOptimaWorks$Words;", .fieldLink RX10 55 "OptimaWorks$Worker" "tree" "[I", .fieldLink RX10 39 "OptimaWorks$Worker" "under" "[J", .fieldLink RX10 143 "OptimaWorks$Model" "goalOver" "[I", .fieldLink RX10 146 "OptimaWorks$Model" "goalUnder" "[I", .fieldLink RX10 149 "OptimaWorks$Model" "goalMax" "[Z"] : List Cond).all goodWord = true) gdwsX10) gdwsX100) (gdV (by decide +kernel) gdwsMX10_linear)) (gdV (by decide +kernel) gdwsMX9_fail))
theorem hm_m_X10_doGoal_0 : (.fieldLink RX10 51 "OptimaWorks$Worker" "model" "LOptimaWorks$Model;" : Cond) ∈ wsMX10_doGoal := by decide +kernel
theorem hm_m_X10_doGoal_1 : (.fieldLink RX10 140 "OptimaWorks$Model" "goals" "I" : Cond) ∈ wsMX10_doGoal := by decide +kernel
theorem hm_m_X10_doGoal_2 : (.fieldLink RX10 36 "OptimaWorks$Worker" "over" "[J" : Cond) ∈ wsMX10_doGoal := by decide +kernel
theorem hm_m_X10_doGoal_3 : (.fieldLink RX10 47 "OptimaWorks$Worker" "words" "LOptimaWorks$Words;" : Cond) ∈ wsMX10_doGoal := by decide +kernel
theorem hm_m_X10_doGoal_4 : (.fieldLink RX10 55 "OptimaWorks$Worker" "tree" "[I" : Cond) ∈ wsMX10_doGoal := by decide +kernel
theorem hm_m_X10_doGoal_5 : (.fieldLink RX10 39 "OptimaWorks$Worker" "under" "[J" : Cond) ∈ wsMX10_doGoal := by decide +kernel
set_option maxHeartbeats 4000000 in
set_option maxRecDepth 100000 in
/-- a goal is done -/
theorem m_X10_doGoal (l : Launch) (hst : l.stackTraces = false) (dC : Nat → ClassId) (dI : Nat → Nat → Nat) (hL : Nat → Nat) (aL : Nat → Nat) (kL : Nat → ClassId) (hT : Nat → Nat) (hM : Nat → Nat) (iL_names : Int32) (gL_key : Nat → Int64) (fL_kind : Nat → Int32) (fL_one : Nat → Int32) (fL_two : Nat → Int32) (fL_base : Nat → Int32) (iL_params : Int32) (fL_paramOver : Nat → Int32) (dL_paramOver : Nat) (nL_params : Nat) (fL_paramUnder : Nat → Int32) (dL_paramUnder : Nat) (nL_pu : Nat) (gL_over : Nat → Int64) (gL_under : Nat → Int64) (fL_bound : Nat → Int32) (iL_nameAt : Int32) (iL_startAt : Int32) (iL_steps : Int32) (jL_scaleOver : Int64) (jL_scaleUnder : Int64) (hF : Nat → Nat) (aF : Nat → Nat) (kF : Nat → ClassId) (dF_tree : Nat) (nF_tree : Nat) (fF_tree : Nat → Int32) (aT : Nat → Nat) (kT : Nat → ClassId) (fT_tape : Nat → Int32) (dT_tape : Nat) (nT_tape : Nat) (iT_length : Int32) (iT_fault : Int32) (iT_place : Int32) (iT_kind : Int32) (iT_at : Int32) (iT_number : Int32) (jT_name : Int64) (iT_next : Int32) (aM : Nat → Nat) (kM : Nat → ClassId) (iM_stands : Int32) (iM_variables : Int32) (iM_rows : Int32) (iM_goals : Int32) (iM_differents : Int32) (iM_cases : Int32) (fM_from : Nat → Int32) (fM_to : Nat → Int32) (fM_whole : Nat → Int32) (fM_ways : Nat → Int32) (iM_plainRows : Int32) (fM_plainRow : Nat → Int32) (fM_kept : Nat → Int32) (fM_goalOver : Nat → Int32) (fM_goalUnder : Nat → Int32) (fM_goalMax : Nat → Int32) (fM_different : Nat → Int32) (V : Int → Nat → Nat → Prop) (lo : Int) (p1 : Int32) (p2 : Int32) (b_iL_names : 0 ≤ iL_names.toInt ∧ iL_names.toInt ≤ 40) (b_fL_kind : ∀ q : Nat, 0 ≤ (fL_kind q).toInt ∧ (fL_kind q).toInt ≤ 5) (b_fL_two : ∀ q : Nat, (-1) ≤ (fL_two q).toInt ∧ (fL_two q).toInt ≤ 39) (b_fL_base : ∀ q : Nat, 0 ≤ (fL_base q).toInt ∧ (fL_base q).toInt ≤ 2560) (b_iL_params : 0 ≤ iL_params.toInt ∧ iL_params.toInt ≤ 2560) (b_nL_params : 0 ≤ nL_params ∧ nL_params ≤ 2560) (b_nm : NmL iL_names fL_kind fL_one fL_two fL_base nL_params) (b_pm : iL_params.toInt ≤ ((nL_params : Nat) : Int)) (b_pu : nL_pu = nL_params) (b_nF_tree : 7 ≤ nF_tree ∧ nF_tree ≤ 72200) (b_fT_tape : ∀ q : Nat, (-128) ≤ (fT_tape q).toInt ∧ (fT_tape q).toInt ≤ 127) (b_nT_tape : 64 ≤ nT_tape ∧ nT_tape ≤ 2560) (b_iT_length : 0 ≤ iT_length.toInt ∧ iT_length.toInt ≤ 1280) (b_iT_at : 0 ≤ iT_at.toInt ∧ iT_at.toInt ≤ 1282) (b_iT_number : 0 ≤ iT_number.toInt ∧ iT_number.toInt ≤ 999999) (b_iT_next : 0 ≤ iT_next.toInt ∧ iT_next.toInt ≤ 1282) (b_len : iT_length.toInt ≤ ((nT_tape : Nat) : Int)) (b_iM_stands : 0 ≤ iM_stands.toInt ∧ iM_stands.toInt ≤ 1) (b_iM_variables : 0 ≤ iM_variables.toInt ∧ iM_variables.toInt ≤ 8) (b_iM_rows : 0 ≤ iM_rows.toInt ∧ iM_rows.toInt ≤ 12) (b_iM_goals : 0 ≤ iM_goals.toInt ∧ iM_goals.toInt ≤ 3) (b_iM_differents : 0 ≤ iM_differents.toInt ∧ iM_differents.toInt ≤ 8) (b_iM_cases : 0 ≤ iM_cases.toInt ∧ iM_cases.toInt ≤ 200000) (b_fM_ways : ∀ q : Nat, 0 ≤ (fM_ways q).toInt ∧ (fM_ways q).toInt ≤ 3) (b_iM_plainRows : 0 ≤ iM_plainRows.toInt ∧ iM_plainRows.toInt ≤ 12) (b_fM_plainRow : ∀ q : Nat, 0 ≤ (fM_plainRow q).toInt ∧ (fM_plainRow q).toInt ≤ 11) (b_pr : iM_plainRows.toInt ≤ iM_rows.toInt) (b_p2 : 0 ≤ p2.toInt ∧ p2.toInt ≤ 1) (hV : TrL V fF_tree fL_kind fL_one fL_two iL_names.toInt lo ((nF_tree : Nat) : Int)) (hn1 : V p1.toInt 1 1) (hg3 : iM_goals.toInt < 3) (sz : Nat) : vx_Met l yX10_doGoal wsMX10_doGoal ({ frames := 313, cells := 1, slots := 6, locals := 18311 }) (va_Pc [.ref (hL 0), .int p1, .int p2] (fun U => U.heap.size = sz ∧ va_P (dC, dI) vwCl (WL hL aL kL hT hM (.ref dF_tree) iL_names gL_key fL_kind fL_one fL_two fL_base iL_params fL_paramOver dL_paramOver nL_params fL_paramUnder dL_paramUnder nL_pu gL_over gL_under fL_bound iL_nameAt iL_startAt iL_steps jL_scaleOver jL_scaleUnder ++ (WF hF aF kF dF_tree nF_tree fF_tree ++ (WT hT aT kT fT_tape dT_tape nT_tape iT_length iT_fault iT_place iT_kind iT_at iT_number jT_name iT_next ++ (WM hM aM kM iM_stands iM_variables iM_rows iM_goals iM_differents iM_cases fM_from fM_to fM_whole fM_ways iM_plainRows fM_plainRow fM_kept fM_goalOver fM_goalUnder fM_goalMax fM_different)))) U.heap ∧ va_K (dC, dI) vwCl (tL kL ++ (tF kF ++ (tT kT ++ (tM kM)))) U ∧ va_D (fun _ => True) (WL hL aL kL hT hM (.ref dF_tree) iL_names gL_key fL_kind fL_one fL_two fL_base iL_params fL_paramOver dL_paramOver nL_params fL_paramUnder dL_paramUnder nL_pu gL_over gL_under fL_bound iL_nameAt iL_startAt iL_steps jL_scaleOver jL_scaleUnder ++ (WF hF aF kF dF_tree nF_tree fF_tree ++ (WT hT aT kT fT_tape dT_tape nT_tape iT_length iT_fault iT_place iT_kind iT_at iT_number jT_name iT_next ++ (WM hM aM kM iM_stands iM_variables iM_rows iM_goals iM_differents iM_cases fM_from fM_to fM_whole fM_ways iM_plainRows fM_plainRow fM_kept fM_goalOver fM_goalUnder fM_goalMax fM_different)))) ∧ CE (va_A (WL hL aL kL hT hM (.ref dF_tree) iL_names gL_key fL_kind fL_one fL_two fL_base iL_params fL_paramOver dL_paramOver nL_params fL_paramUnder dL_paramUnder nL_pu gL_over gL_under fL_bound iL_nameAt iL_startAt iL_steps jL_scaleOver jL_scaleUnder ++ (WF hF aF kF dF_tree nF_tree fF_tree ++ (WT hT aT kT fT_tape dT_tape nT_tape iT_length iT_fault iT_place iT_kind iT_at iT_number jT_name iT_next ++ (WM hM aM kM iM_stands iM_variables iM_rows iM_goals iM_differents iM_cases fM_from fM_to fM_whole fM_ways iM_plainRows fM_plainRow fM_kept fM_goalOver fM_goalUnder fM_goalMax fM_different)))) sz) U U.heap)) (va_Qv (fun (u : (Nat → Int64) × (Nat → Int64) × (Nat → Int32) × (Int32) × (Int32) × (Int32) × (Int32) × (Nat → Int32) × (Nat → Int32) × (Nat → Int32)) => (0 ≤ (u.2.2.2.2.2.2.1).toInt ∧ (u.2.2.2.2.2.2.1).toInt ≤ 3)) (fun (u : (Nat → Int64) × (Nat → Int64) × (Nat → Int32) × (Int32) × (Int32) × (Int32) × (Int32) × (Nat → Int32) × (Nat → Int32) × (Nat → Int32)) t => va_P (dC, dI) vwCl (WL hL aL kL hT hM (.ref dF_tree) iL_names gL_key fL_kind fL_one fL_two fL_base iL_params fL_paramOver dL_paramOver nL_params fL_paramUnder dL_paramUnder nL_pu (u.1) (u.2.1) (u.2.2.1) iL_nameAt iL_startAt (u.2.2.2.1) jL_scaleOver jL_scaleUnder ++ (WF hF aF kF dF_tree nF_tree fF_tree ++ (WT hT aT kT fT_tape dT_tape nT_tape iT_length (u.2.2.2.2.1) (u.2.2.2.2.2.1) iT_kind iT_at iT_number jT_name iT_next ++ (WM hM aM kM iM_stands iM_variables iM_rows (u.2.2.2.2.2.2.1) iM_differents iM_cases fM_from fM_to fM_whole fM_ways iM_plainRows fM_plainRow fM_kept (u.2.2.2.2.2.2.2.1) (u.2.2.2.2.2.2.2.2.1) (u.2.2.2.2.2.2.2.2.2) fM_different)))) t.heap ∧ va_D (va_A (WL hL aL kL hT hM (.ref dF_tree) iL_names gL_key fL_kind fL_one fL_two fL_base iL_params fL_paramOver dL_paramOver nL_params fL_paramUnder dL_paramUnder nL_pu gL_over gL_under fL_bound iL_nameAt iL_startAt iL_steps jL_scaleOver jL_scaleUnder ++ (WF hF aF kF dF_tree nF_tree fF_tree ++ (WT hT aT kT fT_tape dT_tape nT_tape iT_length iT_fault iT_place iT_kind iT_at iT_number jT_name iT_next ++ (WM hM aM kM iM_stands iM_variables iM_rows iM_goals iM_differents iM_cases fM_from fM_to fM_whole fM_ways iM_plainRows fM_plainRow fM_kept fM_goalOver fM_goalUnder fM_goalMax fM_different)))) sz) (WL hL aL kL hT hM (.ref dF_tree) iL_names gL_key fL_kind fL_one fL_two fL_base iL_params fL_paramOver dL_paramOver nL_params fL_paramUnder dL_paramUnder nL_pu (u.1) (u.2.1) (u.2.2.1) iL_nameAt iL_startAt (u.2.2.2.1) jL_scaleOver jL_scaleUnder ++ (WF hF aF kF dF_tree nF_tree fF_tree ++ (WT hT aT kT fT_tape dT_tape nT_tape iT_length (u.2.2.2.2.1) (u.2.2.2.2.2.1) iT_kind iT_at iT_number jT_name iT_next ++ (WM hM aM kM iM_stands iM_variables iM_rows (u.2.2.2.2.2.2.1) iM_differents iM_cases fM_from fM_to fM_whole fM_ways iM_plainRows fM_plainRow fM_kept (u.2.2.2.2.2.2.2.1) (u.2.2.2.2.2.2.2.2.1) (u.2.2.2.2.2.2.2.2.2) fM_different)))) ∧ t.heap.size = sz) (va_A (WL hL aL kL hT hM (.ref dF_tree) iL_names gL_key fL_kind fL_one fL_two fL_base iL_params fL_paramOver dL_paramOver nL_params fL_paramUnder dL_paramUnder nL_pu gL_over gL_under fL_bound iL_nameAt iL_startAt iL_steps jL_scaleOver jL_scaleUnder ++ (WF hF aF kF dF_tree nF_tree fF_tree ++ (WT hT aT kT fT_tape dT_tape nT_tape iT_length iT_fault iT_place iT_kind iT_at iT_number jT_name iT_next ++ (WM hM aM kM iM_stands iM_variables iM_rows iM_goals iM_differents iM_cases fM_from fM_to fM_whole fM_ways iM_plainRows fM_plainRow fM_kept fM_goalOver fM_goalUnder fM_goalMax fM_different)))) sz)) (vx_X (fun (u : (Nat → Int64) × (Nat → Int64) × (Nat → Int32) × (Int32) × (Int32) × (Int32) × (Int32) × (Nat → Int32) × (Nat → Int32) × (Nat → Int32)) => (0 ≤ (u.2.2.2.2.2.2.1).toInt ∧ (u.2.2.2.2.2.2.1).toInt ≤ 3)) (fun E (u : (Nat → Int64) × (Nat → Int64) × (Nat → Int32) × (Int32) × (Int32) × (Int32) × (Int32) × (Nat → Int32) × (Nat → Int32) × (Nat → Int32)) t => (E = "java/lang/IllegalArgumentException") ∧ va_P (dC, dI) vwCl (WL hL aL kL hT hM (.ref dF_tree) iL_names gL_key fL_kind fL_one fL_two fL_base iL_params fL_paramOver dL_paramOver nL_params fL_paramUnder dL_paramUnder nL_pu (u.1) (u.2.1) (u.2.2.1) iL_nameAt iL_startAt (u.2.2.2.1) jL_scaleOver jL_scaleUnder ++ (WF hF aF kF dF_tree nF_tree fF_tree ++ (WT hT aT kT fT_tape dT_tape nT_tape iT_length (u.2.2.2.2.1) (u.2.2.2.2.2.1) iT_kind iT_at iT_number jT_name iT_next ++ (WM hM aM kM iM_stands iM_variables iM_rows (u.2.2.2.2.2.2.1) iM_differents iM_cases fM_from fM_to fM_whole fM_ways iM_plainRows fM_plainRow fM_kept (u.2.2.2.2.2.2.2.1) (u.2.2.2.2.2.2.2.2.1) (u.2.2.2.2.2.2.2.2.2) fM_different)))) t.heap ∧ va_D (va_A (WL hL aL kL hT hM (.ref dF_tree) iL_names gL_key fL_kind fL_one fL_two fL_base iL_params fL_paramOver dL_paramOver nL_params fL_paramUnder dL_paramUnder nL_pu gL_over gL_under fL_bound iL_nameAt iL_startAt iL_steps jL_scaleOver jL_scaleUnder ++ (WF hF aF kF dF_tree nF_tree fF_tree ++ (WT hT aT kT fT_tape dT_tape nT_tape iT_length iT_fault iT_place iT_kind iT_at iT_number jT_name iT_next ++ (WM hM aM kM iM_stands iM_variables iM_rows iM_goals iM_differents iM_cases fM_from fM_to fM_whole fM_ways iM_plainRows fM_plainRow fM_kept fM_goalOver fM_goalUnder fM_goalMax fM_different)))) sz) (WL hL aL kL hT hM (.ref dF_tree) iL_names gL_key fL_kind fL_one fL_two fL_base iL_params fL_paramOver dL_paramOver nL_params fL_paramUnder dL_paramUnder nL_pu (u.1) (u.2.1) (u.2.2.1) iL_nameAt iL_startAt (u.2.2.2.1) jL_scaleOver jL_scaleUnder ++ (WF hF aF kF dF_tree nF_tree fF_tree ++ (WT hT aT kT fT_tape dT_tape nT_tape iT_length (u.2.2.2.2.1) (u.2.2.2.2.2.1) iT_kind iT_at iT_number jT_name iT_next ++ (WM hM aM kM iM_stands iM_variables iM_rows (u.2.2.2.2.2.2.1) iM_differents iM_cases fM_from fM_to fM_whole fM_ways iM_plainRows fM_plainRow fM_kept (u.2.2.2.2.2.2.2.1) (u.2.2.2.2.2.2.2.2.1) (u.2.2.2.2.2.2.2.2.2) fM_different))))) (va_A (WL hL aL kL hT hM (.ref dF_tree) iL_names gL_key fL_kind fL_one fL_two fL_base iL_params fL_paramOver dL_paramOver nL_params fL_paramUnder dL_paramUnder nL_pu gL_over gL_under fL_bound iL_nameAt iL_startAt iL_steps jL_scaleOver jL_scaleUnder ++ (WF hF aF kF dF_tree nF_tree fF_tree ++ (WT hT aT kT fT_tape dT_tape nT_tape iT_length iT_fault iT_place iT_kind iT_at iT_number jT_name iT_next ++ (WM hM aM kM iM_stands iM_variables iM_rows iM_goals iM_differents iM_cases fM_from fM_to fM_whole fM_ways iM_plainRows fM_plainRow fM_kept fM_goalOver fM_goalUnder fM_goalMax fM_different)))) sz)) 1 6 (va_A (WL hL aL kL hT hM (.ref dF_tree) iL_names gL_key fL_kind fL_one fL_two fL_base iL_params fL_paramOver dL_paramOver nL_params fL_paramUnder dL_paramUnder nL_pu gL_over gL_under fL_bound iL_nameAt iL_startAt iL_steps jL_scaleOver jL_scaleUnder ++ (WF hF aF kF dF_tree nF_tree fF_tree ++ (WT hT aT kT fT_tape dT_tape nT_tape iT_length iT_fault iT_place iT_kind iT_at iT_number jT_name iT_next ++ (WM hM aM kM iM_stands iM_variables iM_rows iM_goals iM_differents iM_cases fM_from fM_to fM_whole fM_ways iM_plainRows fM_plainRow fM_kept fM_goalOver fM_goalUnder fM_goalMax fM_different)))) sz) := by
  refine vx_ofW (cc := cX10_doGoal) (maxL := 7) (ret := none) (by decide) rfl ?_
  intro p e s m args below meth c s₁ B hml htab hv
  obtain ⟨rfl, hsz, hP, hK, hD0, hE⟩ := hv
  have hx := B.exec
  have hb := B.bytes
  have hr := B.returns
  have hts := atoms_spec (ws := wsMX10_doGoal) B.pre
  have hown : s.vm.findClass RX10 = some m.cls := findClass_of_methodNamed B.named
  have hlocks := B.notSynchronized
  subst hsz
  have hD := hD0.self (sz := s.heap.size)
  generalize hAe : va_A (WL hL aL kL hT hM (.ref dF_tree) iL_names gL_key fL_kind fL_one fL_two fL_base iL_params fL_paramOver dL_paramOver nL_params fL_paramUnder dL_paramUnder nL_pu gL_over gL_under fL_bound iL_nameAt iL_startAt iL_steps jL_scaleOver jL_scaleUnder ++ (WF hF aF kF dF_tree nF_tree fF_tree ++ (WT hT aT kT fT_tape dT_tape nT_tape iT_length iT_fault iT_place iT_kind iT_at iT_number jT_name iT_next ++ (WM hM aM kM iM_stands iM_variables iM_rows iM_goals iM_differents iM_cases fM_from fM_to fM_whole fM_ways iM_plainRows fM_plainRow fM_kept fM_goalOver fM_goalUnder fM_goalMax fM_different)))) s.heap.size = A at hD hE ⊢
  have hA : ∀ q : Nat, s.heap.size ≤ q → A q := fun q h => by rw [← hAe]; exact Or.inr h
  have hS : va_S A s.heap s.heap [] := va_S.rf
  have hl := lv_entry ([.ref (hL 0), .int p1, .int p2]) (n := 7) (Nat.le_of_ble_eq_true rfl)
  rw [lg_entry_eq]
  generalize (lg_sl ([.ref (hL 0), .int p1, .int p2]) ++ List.replicate (7 - (lg_sl ([.ref (hL 0), .int p1, .int p2])).length) Slot.unset).toArray = ls at hl ⊢
  have hl : lv_has ls 7 [(0, .ref (hL 0)), (1, .int p1), (2, .int p2)] := hl
  have hr1 := TrL.rng hV hn1
  refine lv_aload_n hx hb dX10_doGoal_0 rfl (lv_at hl 0 rfl) ?_
  refine lv_iload_n hx hb dX10_doGoal_1 rfl (lv_at hl 1 rfl) ?_
  refine lv_iconst (v := 0) hx hb dX10_doGoal_2 (by decide) ?_
  refine W.known (fun hz0 _ => ?_)
  have hFc := allFree hD hS hA
  refine vx_callv (vx_runV (As := [.int p1, .int 0]) (rest := []) ⟨hx, hb, hml, hown, hts⟩ (mt_X10_linear l hst dC dI hL aL kL hT hM iL_names gL_key fL_kind fL_one fL_two fL_base iL_params fL_paramOver dL_paramOver nL_params fL_paramUnder dL_paramUnder nL_pu gL_over gL_under fL_bound iL_nameAt iL_startAt iL_steps jL_scaleOver jL_scaleUnder hF aF kF dF_tree nF_tree fF_tree aT kT fT_tape dT_tape nT_tape iT_length iT_fault iT_place iT_kind iT_at iT_number jT_name iT_next aM kM iM_stands iM_variables iM_rows iM_goals iM_differents iM_cases fM_from fM_to fM_whole fM_ways iM_plainRows fM_plainRow fM_kept fM_goalOver fM_goalUnder fM_goalMax fM_different V lo 1 p1 0 (b_iL_names) b_fL_kind b_fL_two b_fL_base (b_iL_params) (by first | exact b_nL_params | with_reducible assumption | exact ⟨by omega, by omega⟩ | assumption) (by first | with_reducible assumption | omega | (rw [iI_t (by omega) (by omega)]; omega) | assumption) (by first | with_reducible assumption | omega | (rw [iI_t (by omega) (by omega)]; omega) | assumption) (by first | with_reducible assumption | omega | (rw [iI_t (by omega) (by omega)]; omega) | assumption) (by first | exact b_nF_tree | with_reducible assumption | exact ⟨by omega, by omega⟩ | assumption) b_fT_tape (by first | exact b_nT_tape | with_reducible assumption | exact ⟨by omega, by omega⟩ | assumption) (b_iT_length) (b_iT_at) (b_iT_number) (b_iT_next) (by first | with_reducible assumption | omega | assumption) (b_iM_stands) (b_iM_variables) (b_iM_rows) (b_iM_goals) (b_iM_differents) (b_iM_cases) b_fM_ways (b_iM_plainRows) b_fM_plainRow (by first | with_reducible assumption | omega | assumption) (show 0 ≤ (0 : Int32).toInt ∧ (0 : Int32).toInt ≤ 38 from by decide) (by first | with_reducible assumption | omega | (rw [iI_t (by omega) (by omega)]; omega) | decide | assumption) (by first | with_reducible assumption | omega | (rw [iI_t (by omega) (by omega)]; omega) | decide | assumption) (by first | with_reducible assumption | omega | (rw [iI_t (by omega) (by omega)]; omega) | decide | assumption) (by first | with_reducible assumption | omega | (rw [iI_t (by omega) (by omega)]; omega) | decide | assumption) s.heap.size) (cwV 2 hts gwsMX10_doGoal_0 rfl rfl rfl hd_yX10_linear_RX10 (by decide +kernel)) (fz_preE (va_recv hK hP (ci := 10) (q0 := 0) rfl rfl) hP hK hD (fun a U g mk qE => qE.call) (fun U hU9 hW => by rw [hU9]; exact (((hE : CE A s s.heap).kept hS.2.1).narrow (fun q h => hFc q h)).warm hW)) rfl rfl hl.1 rfl (lv_room (Nat.le_of_ble_eq_true rfl)) dX10_doGoal_3 (by decide +kernel)) hS (fun q _ h => hFc q h) hFc (fun q _ h => hFc q h) (fun E ce q9 u t9_ H locs ht hvm hw9 hB9 hz1 hk1 hS hc1 hc2 hc3 => ?_) (fun u t9_ H locs ht hvm hw9 hB9 hz1 hk1 hS => ?_)
  · revert u hw9 hB9
    refine fz_p6 ?_
    intro gL_over_1 gL_under_1 fL_bound_1 iL_steps_1 iT_fault_1 iT_place_1 hw9 hB9
    try dsimp only at hw9 hB9
    revert hB9
    refine fz_a2 ?_
    intro hEx hB9
    clear hw9
    have hP : va_P (dC, dI) vwCl (WL hL aL kL hT hM (.ref dF_tree) iL_names gL_key fL_kind fL_one fL_two fL_base iL_params fL_paramOver dL_paramOver nL_params fL_paramUnder dL_paramUnder nL_pu gL_over_1 gL_under_1 fL_bound_1 iL_nameAt iL_startAt iL_steps_1 jL_scaleOver jL_scaleUnder ++ (WF hF aF kF dF_tree nF_tree fF_tree ++ (WT hT aT kT fT_tape dT_tape nT_tape iT_length iT_fault_1 iT_place_1 iT_kind iT_at iT_number jT_name iT_next ++ (WM hM aM kM iM_stands iM_variables iM_rows iM_goals iM_differents iM_cases fM_from fM_to fM_whole fM_ways iM_plainRows fM_plainRow fM_kept fM_goalOver fM_goalUnder fM_goalMax fM_different)))) H := fz_P ht hB9.1
    have hD := fz_sd hP (hB9.2.weaken (fun _ q _ h => hFc q.1 h)) rfl
    exact vx_out (fun x hx9 => (htab x hx9).elim) hlocks hc1 hc2 hc3 (fun t9_ ht hvm => ⟨(gL_over_1, gL_under_1, fL_bound_1, iL_steps_1, iT_fault_1, iT_place_1, iM_goals, fM_goalOver, fM_goalUnder, fM_goalMax), (b_iM_goals), ⟨(by have h9 := hEx; exact h9), by rw [ht]; exact hP, hD⟩, hS.F ht⟩) hS.2.2 (by decide +kernel) (by decide +kernel)
  revert u hw9 hB9
  refine fz_p6 ?_
  intro gL_over_1 gL_under_1 fL_bound_1 iL_steps_1 iT_fault_1 iT_place_1 hw9 hB9
  try dsimp only at hw9 hB9
  clear hw9
  have hz8 := hB9.2.2
  rw [ht] at hz8
  have hz9 : H.size ≤ s.heap.size + 0 := by rw [hz8]; exact hz0
  refine W.tight (cells2 := 0) (slots2 := 0) hz9 (nS_0 hz9) ?_
  clear hz8 hz9
  have hP : va_P (dC, dI) vwCl (WL hL aL kL hT hM (.ref dF_tree) iL_names gL_key fL_kind fL_one fL_two fL_base iL_params fL_paramOver dL_paramOver nL_params fL_paramUnder dL_paramUnder nL_pu gL_over_1 gL_under_1 fL_bound_1 iL_nameAt iL_startAt iL_steps_1 jL_scaleOver jL_scaleUnder ++ (WF hF aF kF dF_tree nF_tree fF_tree ++ (WT hT aT kT fT_tape dT_tape nT_tape iT_length iT_fault_1 iT_place_1 iT_kind iT_at iT_number jT_name iT_next ++ (WM hM aM kM iM_stands iM_variables iM_rows iM_goals iM_differents iM_cases fM_from fM_to fM_whole fM_ways iM_plainRows fM_plainRow fM_kept fM_goalOver fM_goalUnder fM_goalMax fM_different)))) H := fz_P ht hB9.1
  have hD := fz_sd hP (hB9.2.1.weaken (fun _ q _ h => hFc q.1 h)) rfl
  refine lv_aload_n hx hb dX10_doGoal_6 rfl (lv_at hl 0 rfl) ?_
  refine va_get (D := (dC, dI)) (ci := 10) (v := .ref (hM 0)) (C := RX10) (T := TX10) (N := 20) hx hb hts iwsMX10_doGoal_in10 hown hK hP 0 rfl rfl 1 (by decide) (hts _ hm_m_X10_doGoal_0) (fun _ h9 => h9) rfl dX10_doGoal_7 ?_
  refine va_get (D := (dC, dI)) (ci := 1) (v := .int iM_goals) (C := RX1) (T := TX1) (N := 17) hx hb hts iwsMX10_doGoal_in1 hown hK hP 14 rfl rfl 3 (by decide) (hts _ hm_m_X10_doGoal_1) (fun _ h9 => h9) rfl dX10_doGoal_10 ?_
  refine lv_bipush (v := 9) hx hb dX10_doGoal_13 (by decide) ?_
  refine lv_imul hx hb dX10_doGoal_15 ?_
  refine lv_topi (fun y2 hy2 => ?_)
  obtain rfl : (iI (iM_goals.toInt * 9)) = y2 := (hy2.trans (iI_mul2 (iI_of _) (by decide : (9 : Int32) = iI 9))).symm
  refine lv_istore_n hx hb dX10_doGoal_16 rfl hl (by decide) rfl (fun ls (hl : lv_has ls _ ([(3, .int (iI (iM_goals.toInt * 9))), (0, .ref (hL 0)), (1, .int p1), (2, .int p2)])) => ?_)
  refine lv_iconst (v := 0) hx hb dX10_doGoal_17 (by decide) ?_
  refine lv_istore hx hb dX10_doGoal_18 hl (by decide) rfl (fun ls (hl : lv_has ls _ ([(4, .int 0), (3, .int (iI (iM_goals.toInt * 9))), (0, .ref (hL 0)), (1, .int p1), (2, .int p2)])) => ?_)
  have hl : lv_has _ _ ([(4, .int 0), (3, .int (iI (iM_goals.toInt * 9))), (0, .ref (hL 0)), (1, .int p1), (2, .int p2)]) := lv_sub hl [0, 1, 2, 3, 4] rfl
  refine (fun (loop : ∀ (n9 : Nat) (fM_goalOver_x20 : Nat → Int32) (fM_goalUnder_x20 : Nat → Int32) (l4_x20 : Int32) (H : Heap) (locs : List Loc) (ls : Array Slot), (0 ≤ l4_x20.toInt ∧ l4_x20.toInt ≤ 9) → (9 - l4_x20.toInt < ((n9 : Nat) : Int)) → va_P (dC, dI) vwCl (WL hL aL kL hT hM (.ref dF_tree) iL_names gL_key fL_kind fL_one fL_two fL_base iL_params fL_paramOver dL_paramOver nL_params fL_paramUnder dL_paramUnder nL_pu gL_over_1 gL_under_1 fL_bound_1 iL_nameAt iL_startAt iL_steps_1 jL_scaleOver jL_scaleUnder ++ (WF hF aF kF dF_tree nF_tree fF_tree ++ (WT hT aT kT fT_tape dT_tape nT_tape iT_length iT_fault_1 iT_place_1 iT_kind iT_at iT_number jT_name iT_next ++ (WM hM aM kM iM_stands iM_variables iM_rows iM_goals iM_differents iM_cases fM_from fM_to fM_whole fM_ways iM_plainRows fM_plainRow fM_kept fM_goalOver_x20 fM_goalUnder_x20 fM_goalMax fM_different)))) H → va_D A (WL hL aL kL hT hM (.ref dF_tree) iL_names gL_key fL_kind fL_one fL_two fL_base iL_params fL_paramOver dL_paramOver nL_params fL_paramUnder dL_paramUnder nL_pu gL_over_1 gL_under_1 fL_bound_1 iL_nameAt iL_startAt iL_steps_1 jL_scaleOver jL_scaleUnder ++ (WF hF aF kF dF_tree nF_tree fF_tree ++ (WT hT aT kT fT_tape dT_tape nT_tape iT_length iT_fault_1 iT_place_1 iT_kind iT_at iT_number jT_name iT_next ++ (WM hM aM kM iM_stands iM_variables iM_rows iM_goals iM_differents iM_cases fM_from fM_to fM_whole fM_ways iM_plainRows fM_plainRow fM_kept fM_goalOver_x20 fM_goalUnder_x20 fM_goalMax fM_different)))) → va_S A s.heap H locs → lv_has ls 7 [(4, .int l4_x20), (3, .int (iI (iM_goals.toInt * 9))), (0, .ref (hL 0)), (1, .int p1), (2, .int p2)] → W p l e _ s m _ below meth c H locs 0 0 _ (F0 m 20 ls [])) => loop (10) fM_goalOver fM_goalUnder 0 _ _ _ (show 0 ≤ (0 : Int32).toInt ∧ (0 : Int32).toInt ≤ 9 from by decide) ((by have e9 : (0 : Int32).toInt = 0 := (by decide : (0 : Int32).toInt = 0); omega)) hP hD hS hl) ?_
  intro n9
  induction n9 with
  | zero => intro fM_goalOver_x20 fM_goalUnder_x20 l4_x20 H locs ls b_l4_x20 hf9; exact False.elim (by omega)
  | succ n9 ihx20 =>
    intro fM_goalOver_x20 fM_goalUnder_x20 l4_x20 H locs ls b_l4_x20 hfx20 hP hD hS hl
    refine lv_iload hx hb dX10_doGoal_20 (lv_at hl 0 rfl) ?_
    refine lv_bipush (v := 9) hx hb dX10_doGoal_22 (by decide) ?_
    refine lv_icmp_ge (tgt := 190) hx hb dX10_doGoal_24 (by decide) (fun c_24 => ?_) (fun c_24 => ?_)
    · have t_24 : l4_x20.toInt ≥ 9 := toI_ge c_24 rfl (by decide : (9 : Int32).toInt = 9)
      refine lv_aload_n hx hb dX10_doGoal_190 rfl (lv_at hl 2 rfl) ?_
      refine va_get (D := (dC, dI)) (ci := 10) (v := .ref (hM 0)) (C := RX10) (T := TX10) (N := 20) hx hb hts iwsMX10_doGoal_in10 hown hK hP 0 rfl rfl 1 (by decide) (hts _ hm_m_X10_doGoal_0) (fun _ h9 => h9) rfl dX10_doGoal_191 ?_
      refine va_get (D := (dC, dI)) (ci := 1) (v := .ref (aM 8)) (C := RX1) (T := TX1) (N := 17) hx hb hts iwsMX10_doGoal_in1 hown hK hP 14 rfl rfl 15 (by decide) (hts (.fieldLink RX10 149 "OptimaWorks$Model" "goalMax" "[Z") (by decide +kernel)) (fun _ h9 => h9) rfl dX10_doGoal_194 ?_
      refine lv_aload_n hx hb dX10_doGoal_197 rfl (lv_at hl 2 rfl) ?_
      refine va_get (D := (dC, dI)) (ci := 10) (v := .ref (hM 0)) (C := RX10) (T := TX10) (N := 20) hx hb hts iwsMX10_doGoal_in10 hown hK hP 0 rfl rfl 1 (by decide) (hts _ hm_m_X10_doGoal_0) (fun _ h9 => h9) rfl dX10_doGoal_198 ?_
      refine va_get (D := (dC, dI)) (ci := 1) (v := .int iM_goals) (C := RX1) (T := TX1) (N := 17) hx hb hts iwsMX10_doGoal_in1 hown hK hP 14 rfl rfl 3 (by decide) (hts _ hm_m_X10_doGoal_1) (fun _ h9 => h9) rfl dX10_doGoal_201 ?_
      refine lv_iload_n hx hb dX10_doGoal_204 rfl (lv_at hl 4 rfl) ?_
      refine va_zast (cA := kM 8) (n := 3) (f := fM_goalMax) hx hb hK hP hD hS 23 20 rfl rfl (vp_in_iff.mpr ⟨b_iM_goals.1, (by omega)⟩) dX10_doGoal_205 (fun H locs hP hD hS => ?_)
      obtain ⟨u181, hu181⟩ : ∃ f9, f9 = upd fM_goalMax (iM_goals).toNatClampNeg (vp_nar FieldType.boolean p2) := ⟨_, rfl⟩
      have hP : va_P (dC, dI) vwCl (WL hL aL kL hT hM (.ref dF_tree) iL_names gL_key fL_kind fL_one fL_two fL_base iL_params fL_paramOver dL_paramOver nL_params fL_paramUnder dL_paramUnder nL_pu gL_over_1 gL_under_1 fL_bound_1 iL_nameAt iL_startAt iL_steps_1 jL_scaleOver jL_scaleUnder ++ (WF hF aF kF dF_tree nF_tree fF_tree ++ (WT hT aT kT fT_tape dT_tape nT_tape iT_length iT_fault_1 iT_place_1 iT_kind iT_at iT_number jT_name iT_next ++ (WM hM aM kM iM_stands iM_variables iM_rows iM_goals iM_differents iM_cases fM_from fM_to fM_whole fM_ways iM_plainRows fM_plainRow fM_kept fM_goalOver_x20 fM_goalUnder_x20 u181 fM_different)))) H := by rw [hu181]; exact hP
      have hD : va_D A (WL hL aL kL hT hM (.ref dF_tree) iL_names gL_key fL_kind fL_one fL_two fL_base iL_params fL_paramOver dL_paramOver nL_params fL_paramUnder dL_paramUnder nL_pu gL_over_1 gL_under_1 fL_bound_1 iL_nameAt iL_startAt iL_steps_1 jL_scaleOver jL_scaleUnder ++ (WF hF aF kF dF_tree nF_tree fF_tree ++ (WT hT aT kT fT_tape dT_tape nT_tape iT_length iT_fault_1 iT_place_1 iT_kind iT_at iT_number jT_name iT_next ++ (WM hM aM kM iM_stands iM_variables iM_rows iM_goals iM_differents iM_cases fM_from fM_to fM_whole fM_ways iM_plainRows fM_plainRow fM_kept fM_goalOver_x20 fM_goalUnder_x20 u181 fM_different)))) := by rw [hu181]; exact hD
      clear hu181
      refine lv_aload_n hx hb dX10_doGoal_206 rfl (lv_at hl 2 rfl) ?_
      refine va_get (D := (dC, dI)) (ci := 10) (v := .ref (hM 0)) (C := RX10) (T := TX10) (N := 20) hx hb hts iwsMX10_doGoal_in10 hown hK hP 0 rfl rfl 1 (by decide) (hts _ hm_m_X10_doGoal_0) (fun _ h9 => h9) rfl dX10_doGoal_207 ?_
      refine lv_dup hx hb dX10_doGoal_210 rfl ?_
      refine va_get (D := (dC, dI)) (ci := 1) (v := .int iM_goals) (C := RX1) (T := TX1) (N := 17) hx hb hts iwsMX10_doGoal_in1 hown hK hP 14 rfl rfl 3 (by decide) (hts _ hm_m_X10_doGoal_1) (fun _ h9 => h9) rfl dX10_doGoal_211 ?_
      refine lv_iconst (v := 1) hx hb dX10_doGoal_214 (by decide) ?_
      refine lv_iadd hx hb dX10_doGoal_215 ?_
      refine lv_topi (fun y182 hy182 => ?_)
      obtain rfl : (iI (iM_goals.toInt + 1)) = y182 := (hy182.trans (iI_add2 (iI_of _) (by decide : (1 : Int32) = iI 1))).symm
      refine va_put (D := (dC, dI)) (ci := 1) (v := .int (iI (iM_goals.toInt + 1))) (ty := .int) (C := RX1) (T := TX1) (N := 17) hx hb hts iwsMX10_doGoal_in1 tyX1 tyX1_ok nmX1 hown hK hP hD hS 14 rfl rfl 3 (by decide) (hts _ hm_m_X10_doGoal_1) (fun _ h9 => h9) rfl (by decide +kernel) rfl rfl (Nat.le_of_ble_eq_true rfl) dX10_doGoal_216 (fun H locs hP hD hS => ?_)
      have hP : va_P (dC, dI) vwCl (WL hL aL kL hT hM (.ref dF_tree) iL_names gL_key fL_kind fL_one fL_two fL_base iL_params fL_paramOver dL_paramOver nL_params fL_paramUnder dL_paramUnder nL_pu gL_over_1 gL_under_1 fL_bound_1 iL_nameAt iL_startAt iL_steps_1 jL_scaleOver jL_scaleUnder ++ (WF hF aF kF dF_tree nF_tree fF_tree ++ (WT hT aT kT fT_tape dT_tape nT_tape iT_length iT_fault_1 iT_place_1 iT_kind iT_at iT_number jT_name iT_next ++ (WM hM aM kM iM_stands iM_variables iM_rows (iI (iM_goals.toInt + 1)) iM_differents iM_cases fM_from fM_to fM_whole fM_ways iM_plainRows fM_plainRow fM_kept fM_goalOver_x20 fM_goalUnder_x20 u181 fM_different)))) H := hP
      have hD := fz_sd hP (hD) rfl
      refine vx_ret ?_
      refine W.known (fun hz9 _ => ?_)
      refine W.widen (k := 1) (n := 6) (by decide +kernel) (by decide +kernel) ?_
      exact W.vret hx hb hr (fun t9_ ht hW => ⟨⟨(gL_over_1, gL_under_1, fL_bound_1, iL_steps_1, iT_fault_1, iT_place_1, (iI (iM_goals.toInt + 1)), fM_goalOver_x20, fM_goalUnder_x20, u181), rfl, (by (try dsimp only); exact (iI_rng (Int.le_trans (by decide) (Int.add_le_add (b_iM_goals.1) (Int.le_refl _))) (by omega) (by decide) (by decide))), by rw [ht]; exact hP, hD, by rw [ht]; first | done | exact Nat.le_antisymm hz9 hS.1⟩, hS.F ht⟩) hS.2.2 dX10_doGoal_219
    · have t_24 : ¬ l4_x20.toInt ≥ 9 := toI_nge c_24 rfl (by decide : (9 : Int32).toInt = 9)
      refine lv_iload hx hb dX10_doGoal_27 (lv_at hl 0 rfl) ?_
      refine lv_aload_n hx hb dX10_doGoal_29 rfl (lv_at hl 2 rfl) ?_
      refine va_get (D := (dC, dI)) (ci := 10) (v := .ref (hM 0)) (C := RX10) (T := TX10) (N := 20) hx hb hts iwsMX10_doGoal_in10 hown hK hP 0 rfl rfl 1 (by decide) (hts _ hm_m_X10_doGoal_0) (fun _ h9 => h9) rfl dX10_doGoal_30 ?_
      refine va_get (D := (dC, dI)) (ci := 1) (v := .int iM_variables) (C := RX1) (T := TX1) (N := 17) hx hb hts iwsMX10_doGoal_in1 hown hK hP 14 rfl rfl 1 (by decide) (hts (.fieldLink RX10 93 "OptimaWorks$Model" "variables" "I") (by decide +kernel)) (fun _ h9 => h9) rfl dX10_doGoal_33 ?_
      refine W.cut (pc := 44) (fun H locs ls stk => ∃ (k0_j44 : Int32), (0 ≤ k0_j44.toInt ∧ k0_j44.toInt ≤ 1) ∧  stk = [.int k0_j44] ∧ va_P (dC, dI) vwCl (WL hL aL kL hT hM (.ref dF_tree) iL_names gL_key fL_kind fL_one fL_two fL_base iL_params fL_paramOver dL_paramOver nL_params fL_paramUnder dL_paramUnder nL_pu gL_over_1 gL_under_1 fL_bound_1 iL_nameAt iL_startAt iL_steps_1 jL_scaleOver jL_scaleUnder ++ (WF hF aF kF dF_tree nF_tree fF_tree ++ (WT hT aT kT fT_tape dT_tape nT_tape iT_length iT_fault_1 iT_place_1 iT_kind iT_at iT_number jT_name iT_next ++ (WM hM aM kM iM_stands iM_variables iM_rows iM_goals iM_differents iM_cases fM_from fM_to fM_whole fM_ways iM_plainRows fM_plainRow fM_kept fM_goalOver_x20 fM_goalUnder_x20 fM_goalMax fM_different)))) H ∧ va_D A (WL hL aL kL hT hM (.ref dF_tree) iL_names gL_key fL_kind fL_one fL_two fL_base iL_params fL_paramOver dL_paramOver nL_params fL_paramUnder dL_paramUnder nL_pu gL_over_1 gL_under_1 fL_bound_1 iL_nameAt iL_startAt iL_steps_1 jL_scaleOver jL_scaleUnder ++ (WF hF aF kF dF_tree nF_tree fF_tree ++ (WT hT aT kT fT_tape dT_tape nT_tape iT_length iT_fault_1 iT_place_1 iT_kind iT_at iT_number jT_name iT_next ++ (WM hM aM kM iM_stands iM_variables iM_rows iM_goals iM_differents iM_cases fM_from fM_to fM_whole fM_ways iM_plainRows fM_plainRow fM_kept fM_goalOver_x20 fM_goalUnder_x20 fM_goalMax fM_different)))) ∧ va_S A s.heap H locs ∧ lv_has ls 7 [(4, .int l4_x20), (3, .int (iI (iM_goals.toInt * 9))), (0, .ref (hL 0)), (1, .int p1), (2, .int p2)]) (fun join44 => ?_) ?_
      · refine lv_icmp_gt (tgt := 43) hx hb dX10_doGoal_36 (by decide) (fun c_36 => ?_) (fun c_36 => ?_)
        · have t_36 : l4_x20.toInt > iM_variables.toInt := toI_gt c_36 rfl rfl
          refine lv_iconst (v := 0) hx hb dX10_doGoal_43 (by decide) ?_
          have hl : lv_has _ _ ([(4, .int l4_x20), (3, .int (iI (iM_goals.toInt * 9))), (0, .ref (hL 0)), (1, .int p1), (2, .int p2)]) := lv_sub hl [0, 1, 2, 3, 4] rfl
          exact join44 _ _ _ _ ⟨0, (show 0 ≤ (0 : Int32).toInt ∧ (0 : Int32).toInt ≤ 1 from by decide), rfl, hP, hD, hS, hl⟩
        · have t_36 : ¬ l4_x20.toInt > iM_variables.toInt := toI_ngt c_36 rfl rfl
          refine lv_iconst (v := 1) hx hb dX10_doGoal_39 (by decide) ?_
          refine lv_goto (tgt := 44) hx hb dX10_doGoal_40 (by decide) ?_
          have hl : lv_has _ _ ([(4, .int l4_x20), (3, .int (iI (iM_goals.toInt * 9))), (0, .ref (hL 0)), (1, .int p1), (2, .int p2)]) := lv_sub hl [0, 1, 2, 3, 4] rfl
          exact join44 _ _ _ _ ⟨1, (show 0 ≤ (1 : Int32).toInt ∧ (1 : Int32).toInt ≤ 1 from by decide), rfl, hP, hD, hS, hl⟩
      · rintro H locs ls stk ⟨k0_j44, b_k0_j44, rfl, hP, hD, hS, hl⟩
        refine lv_istore hx hb dX10_doGoal_44 hl (by decide) rfl (fun ls (hl : lv_has ls _ ([(5, .int k0_j44), (4, .int l4_x20), (3, .int (iI (iM_goals.toInt * 9))), (0, .ref (hL 0)), (1, .int p1), (2, .int p2)])) => ?_)
        refine lv_iload hx hb dX10_doGoal_46 (lv_at hl 1 rfl) ?_
        refine W.cut (pc := 59) (fun H locs ls stk => ∃ (k0_j45 : Int32), (99 ≤ k0_j45.toInt ∧ k0_j45.toInt ≤ 9999) ∧  stk = [.int k0_j45] ∧ va_P (dC, dI) vwCl (WL hL aL kL hT hM (.ref dF_tree) iL_names gL_key fL_kind fL_one fL_two fL_base iL_params fL_paramOver dL_paramOver nL_params fL_paramUnder dL_paramUnder nL_pu gL_over_1 gL_under_1 fL_bound_1 iL_nameAt iL_startAt iL_steps_1 jL_scaleOver jL_scaleUnder ++ (WF hF aF kF dF_tree nF_tree fF_tree ++ (WT hT aT kT fT_tape dT_tape nT_tape iT_length iT_fault_1 iT_place_1 iT_kind iT_at iT_number jT_name iT_next ++ (WM hM aM kM iM_stands iM_variables iM_rows iM_goals iM_differents iM_cases fM_from fM_to fM_whole fM_ways iM_plainRows fM_plainRow fM_kept fM_goalOver_x20 fM_goalUnder_x20 fM_goalMax fM_different)))) H ∧ va_D A (WL hL aL kL hT hM (.ref dF_tree) iL_names gL_key fL_kind fL_one fL_two fL_base iL_params fL_paramOver dL_paramOver nL_params fL_paramUnder dL_paramUnder nL_pu gL_over_1 gL_under_1 fL_bound_1 iL_nameAt iL_startAt iL_steps_1 jL_scaleOver jL_scaleUnder ++ (WF hF aF kF dF_tree nF_tree fF_tree ++ (WT hT aT kT fT_tape dT_tape nT_tape iT_length iT_fault_1 iT_place_1 iT_kind iT_at iT_number jT_name iT_next ++ (WM hM aM kM iM_stands iM_variables iM_rows iM_goals iM_differents iM_cases fM_from fM_to fM_whole fM_ways iM_plainRows fM_plainRow fM_kept fM_goalOver_x20 fM_goalUnder_x20 fM_goalMax fM_different)))) ∧ va_S A s.heap H locs ∧ lv_has ls 7 [(5, .int k0_j44), (4, .int l4_x20), (3, .int (iI (iM_goals.toInt * 9))), (0, .ref (hL 0)), (1, .int p1), (2, .int p2)]) (fun join45 => ?_) ?_
        · refine lv_if_ne (tgt := 57) hx hb dX10_doGoal_48 (by decide) (fun c_48 => ?_) (fun c_48 => ?_)
          · have t_48 : l4_x20.toInt ≠ 0 := toI_ne c_48 rfl (by decide : (0 : Int32).toInt = 0)
            refine lv_bipush (v := 99) hx hb dX10_doGoal_57 (by decide) ?_
            have hl : lv_has _ _ ([(5, .int k0_j44), (4, .int l4_x20), (3, .int (iI (iM_goals.toInt * 9))), (0, .ref (hL 0)), (1, .int p1), (2, .int p2)]) := lv_sub hl [0, 1, 2, 3, 4, 5] rfl
            exact join45 _ _ _ _ ⟨99, (show 99 ≤ (99 : Int32).toInt ∧ (99 : Int32).toInt ≤ 9999 from by decide), rfl, hP, hD, hS, hl⟩
          · have t_48 : l4_x20.toInt = 0 := toI_nne c_48 rfl (by decide : (0 : Int32).toInt = 0)
            refine lv_sipush (v := 9999) hx hb dX10_doGoal_51 (by decide) ?_
            refine lv_goto (tgt := 59) hx hb dX10_doGoal_54 (by decide) ?_
            have hl : lv_has _ _ ([(5, .int k0_j44), (4, .int l4_x20), (3, .int (iI (iM_goals.toInt * 9))), (0, .ref (hL 0)), (1, .int p1), (2, .int p2)]) := lv_sub hl [0, 1, 2, 3, 4, 5] rfl
            exact join45 _ _ _ _ ⟨9999, (show 99 ≤ (9999 : Int32).toInt ∧ (9999 : Int32).toInt ≤ 9999 from by decide), rfl, hP, hD, hS, hl⟩
        · rintro H locs ls stk ⟨k0_j45, b_k0_j45, rfl, hP, hD, hS, hl⟩
          refine lv_istore hx hb dX10_doGoal_59 hl (by decide) rfl (fun ls (hl : lv_has ls _ ([(6, .int k0_j45), (5, .int k0_j44), (4, .int l4_x20), (3, .int (iI (iM_goals.toInt * 9))), (0, .ref (hL 0)), (1, .int p1), (2, .int p2)])) => ?_)
          refine lv_iload hx hb dX10_doGoal_61 (lv_at hl 1 rfl) ?_
          refine W.cut (pc := 126) (fun H locs ls stk =>  stk = [] ∧ va_P (dC, dI) vwCl (WL hL aL kL hT hM (.ref dF_tree) iL_names gL_key fL_kind fL_one fL_two fL_base iL_params fL_paramOver dL_paramOver nL_params fL_paramUnder dL_paramUnder nL_pu gL_over_1 gL_under_1 fL_bound_1 iL_nameAt iL_startAt iL_steps_1 jL_scaleOver jL_scaleUnder ++ (WF hF aF kF dF_tree nF_tree fF_tree ++ (WT hT aT kT fT_tape dT_tape nT_tape iT_length iT_fault_1 iT_place_1 iT_kind iT_at iT_number jT_name iT_next ++ (WM hM aM kM iM_stands iM_variables iM_rows iM_goals iM_differents iM_cases fM_from fM_to fM_whole fM_ways iM_plainRows fM_plainRow fM_kept fM_goalOver_x20 fM_goalUnder_x20 fM_goalMax fM_different)))) H ∧ va_D A (WL hL aL kL hT hM (.ref dF_tree) iL_names gL_key fL_kind fL_one fL_two fL_base iL_params fL_paramOver dL_paramOver nL_params fL_paramUnder dL_paramUnder nL_pu gL_over_1 gL_under_1 fL_bound_1 iL_nameAt iL_startAt iL_steps_1 jL_scaleOver jL_scaleUnder ++ (WF hF aF kF dF_tree nF_tree fF_tree ++ (WT hT aT kT fT_tape dT_tape nT_tape iT_length iT_fault_1 iT_place_1 iT_kind iT_at iT_number jT_name iT_next ++ (WM hM aM kM iM_stands iM_variables iM_rows iM_goals iM_differents iM_cases fM_from fM_to fM_whole fM_ways iM_plainRows fM_plainRow fM_kept fM_goalOver_x20 fM_goalUnder_x20 fM_goalMax fM_different)))) ∧ va_S A s.heap H locs ∧ lv_has ls 7 [(6, .int k0_j45), (5, .int k0_j44), (4, .int l4_x20), (3, .int (iI (iM_goals.toInt * 9))), (0, .ref (hL 0)), (1, .int p1), (2, .int p2)]) (fun join46 => ?_) ?_
          · refine lv_if_eq (tgt := 126) hx hb dX10_doGoal_63 (by decide) (fun c_63 => ?_) (fun c_63 => ?_)
            · have t_63 : k0_j44.toInt = 0 := toI_eq c_63 rfl (by decide : (0 : Int32).toInt = 0)
              have hl : lv_has _ _ ([(6, .int k0_j45), (5, .int k0_j44), (4, .int l4_x20), (3, .int (iI (iM_goals.toInt * 9))), (0, .ref (hL 0)), (1, .int p1), (2, .int p2)]) := lv_sub hl [0, 1, 2, 3, 4, 5, 6] rfl
              exact join46 _ _ _ _ ⟨rfl, hP, hD, hS, hl⟩
            · have t_63 : ¬ k0_j44.toInt = 0 := toI_neq c_63 rfl (by decide : (0 : Int32).toInt = 0)
              refine lv_aload_n hx hb dX10_doGoal_66 rfl (lv_at hl 4 rfl) ?_
              refine va_get (D := (dC, dI)) (ci := 10) (v := .ref (aL 7)) (C := RX10) (T := TX10) (N := 20) hx hb hts iwsMX10_doGoal_in10 hown hK hP 0 rfl rfl 12 (by decide) (hts _ hm_m_X10_doGoal_2) (fun _ h9 => h9) rfl dX10_doGoal_67 ?_
              refine lv_iload hx hb dX10_doGoal_70 (lv_at hl 2 rfl) ?_
              refine va_lald (cA := kL 7) (n := 360) (f := gL_over_1) hx hb hK hP 8 7 rfl rfl (vp_in_iff.mpr ⟨b_l4_x20.1, (Int.lt_of_le_of_lt (b_l4_x20.2) (by decide))⟩) dX10_doGoal_72 ?_
              refine lv_topl (fun v199 hv199 => ?_)
              clear hv199
              refine lv_iload hx hb dX10_doGoal_73 (lv_at hl 0 rfl) ?_
              refine lv_i2l hx hb dX10_doGoal_75 rfl ?_
              refine lv_topl (fun v200 hv200 => ?_)
              clear hv200
              refine W.lcmp hx hb dX10_doGoal_76 ?_
              refine lv_if_gt (tgt := 109) hx hb dX10_doGoal_77 (by decide) (fun c_77 => ?_) (fun c_77 => ?_)
              · have t_77 : v199.toInt > v200.toInt := toL_gt c_77 rfl rfl
                refine lv_aload_n hx hb dX10_doGoal_109 rfl (lv_at hl 4 rfl) ?_
                refine va_get (D := (dC, dI)) (ci := 10) (v := .ref (hT 0)) (C := RX10) (T := TX10) (N := 20) hx hb hts iwsMX10_doGoal_in10 hown hK hP 0 rfl rfl 0 (by decide) (hts _ hm_m_X10_doGoal_3) (fun _ h9 => h9) rfl dX10_doGoal_110 ?_
                refine lv_bipush (v := 9) hx hb dX10_doGoal_113 (by decide) ?_
                refine lv_aload_n hx hb dX10_doGoal_115 rfl (lv_at hl 4 rfl) ?_
                refine va_get (D := (dC, dI)) (ci := 10) (v := .ref dF_tree) (C := RX10) (T := TX10) (N := 20) hx hb hts iwsMX10_doGoal_in10 hown hK hP 0 rfl rfl 2 (by decide) (hts _ hm_m_X10_doGoal_4) (fun _ h9 => h9) rfl dX10_doGoal_116 ?_
                refine lv_iload_n hx hb dX10_doGoal_119 rfl (lv_at hl 5 rfl) ?_
                refine lv_iconst (v := 1) hx hb dX10_doGoal_120 (by decide) ?_
                refine lv_iadd hx hb dX10_doGoal_121 ?_
                refine lv_topi (fun y201 hy201 => ?_)
                obtain rfl : (iI (p1.toInt + 1)) = y201 := (hy201.trans (iI_add2 (iI_of _) (by decide : (1 : Int32) = iI 1))).symm
                refine va_iald (cA := kF 0) (n := nF_tree) (f := fF_tree) hx hb hK hP 11 10 rfl rfl (vp_iI (by omega) (by omega) (by omega)) dX10_doGoal_122 ?_
                refine lv_topi (fun v202 hv202 => ?_)
                have b_v202 : v202.toInt = twL fF_tree (p1.toInt + 1) := by rw [hv202]; exact tw_i (by omega) (by omega)
                clear hv202
                have p9 := cj_4_2 (WL hL aL kL hT hM (.ref dF_tree) iL_names gL_key fL_kind fL_one fL_two fL_base iL_params fL_paramOver dL_paramOver nL_params fL_paramUnder dL_paramUnder nL_pu gL_over_1 gL_under_1 fL_bound_1 iL_nameAt iL_startAt iL_steps_1 jL_scaleOver jL_scaleUnder) (WF hF aF kF dF_tree nF_tree fF_tree) (WT hT aT kT fT_tape dT_tape nT_tape iT_length iT_fault_1 iT_place_1 iT_kind iT_at iT_number jT_name iT_next) (WM hM aM kM iM_stands iM_variables iM_rows iM_goals iM_differents iM_cases fM_from fM_to fM_whole fM_ways iM_plainRows fM_plainRow fM_kept fM_goalOver_x20 fM_goalUnder_x20 fM_goalMax fM_different)
                have hPc := hP.mem (fun q h => p9.mem_iff.mpr (List.mem_append_left _ h))
                have hDc := (hD.perm p9).left
                have hKc : va_K (dC, dI) vwCl (tT kT) _ := hK.sub [11] rfl
                have hFc := freeG p9 hD hS hA
                refine vx_callv (vx_runV (As := [.int 9, .int v202]) (rest := []) ⟨hx, hb, hml, hown, hts⟩ (m_X9_fail l hst dC dI hT aT kT fT_tape dT_tape nT_tape iT_length iT_fault_1 iT_place_1 iT_kind iT_at iT_number jT_name iT_next 9 v202 b_fT_tape (by first | exact b_nT_tape | with_reducible assumption | exact ⟨by omega, by omega⟩ | assumption) (b_iT_length) (b_iT_at) (b_iT_number) (b_iT_next) (by first | with_reducible assumption | omega | assumption) H.size) (cwV 2 hts gwsMX10_doGoal_1 rfl rfl rfl hd_yX9_fail_RX9 (by decide +kernel)) (fz_preE (va_recv hK hP (ci := 9) (q0 := 12) rfl rfl) hPc hKc hDc (fun a U g mk qE => qE.call) (fun U hU9 hW => by rw [hU9]; exact (((hE : CE A s s.heap).kept hS.2.1).narrow (fun q h => hFc q h)).warm hW)) rfl rfl hl.1 rfl (lv_room (Nat.le_of_ble_eq_true rfl)) dX10_doGoal_123 (by decide +kernel)) hS (fun q _ h => hFc q h) hFc (fun q _ h => hFc q h) (fun E ce q9 u t9_ H locs ht hvm hw9 hB9 hz1 hk1 hS hc1 hc2 hc3 => ?_) (fun u t9_ H1 locs ht hvm hw9 hB9 hz1 hk1 hS => ?_)
                · revert u hw9 hB9
                  refine fz_p2 ?_
                  intro iT_fault_203 iT_place_203 hw9 hB9
                  try dsimp only at hw9 hB9
                  revert hB9
                  refine fz_a2 ?_
                  intro hEx hB9
                  clear hw9
                  have p8 := cj_4_2 (WL hL aL kL hT hM (.ref dF_tree) iL_names gL_key fL_kind fL_one fL_two fL_base iL_params fL_paramOver dL_paramOver nL_params fL_paramUnder dL_paramUnder nL_pu gL_over_1 gL_under_1 fL_bound_1 iL_nameAt iL_startAt iL_steps_1 jL_scaleOver jL_scaleUnder) (WF hF aF kF dF_tree nF_tree fF_tree) (WT hT aT kT fT_tape dT_tape nT_tape iT_length iT_fault_203 iT_place_203 iT_kind iT_at iT_number jT_name iT_next) (WM hM aM kM iM_stands iM_variables iM_rows iM_goals iM_differents iM_cases fM_from fM_to fM_whole fM_ways iM_plainRows fM_plainRow fM_kept fM_goalOver_x20 fM_goalUnder_x20 fM_goalMax fM_different)
                  obtain ⟨hP, hD⟩ := frameG p9 p8 hP hD hk1 hFc (fz_P ht hB9.1) hB9.2
                  exact vx_out (fun x hx9 => (htab x hx9).elim) hlocks hc1 hc2 hc3 (fun t9_ ht hvm => ⟨(gL_over_1, gL_under_1, fL_bound_1, iL_steps_1, iT_fault_203, iT_place_203, iM_goals, fM_goalOver_x20, fM_goalUnder_x20, fM_goalMax), (b_iM_goals), ⟨(by have h9 := hEx; exact h9), by rw [ht]; exact hP, hD⟩, hS.F ht⟩) hS.2.2 (by decide +kernel) (by decide +kernel)
                exact False.elim hw9
              · have t_77 : ¬ v199.toInt > v200.toInt := toL_ngt c_77 rfl rfl
                refine lv_aload_n hx hb dX10_doGoal_80 rfl (lv_at hl 4 rfl) ?_
                refine va_get (D := (dC, dI)) (ci := 10) (v := .ref (aL 7)) (C := RX10) (T := TX10) (N := 20) hx hb hts iwsMX10_doGoal_in10 hown hK hP 0 rfl rfl 12 (by decide) (hts _ hm_m_X10_doGoal_2) (fun _ h9 => h9) rfl dX10_doGoal_81 ?_
                refine lv_iload hx hb dX10_doGoal_84 (lv_at hl 2 rfl) ?_
                refine va_lald (cA := kL 7) (n := 360) (f := gL_over_1) hx hb hK hP 8 7 rfl rfl (vp_in_iff.mpr ⟨b_l4_x20.1, (Int.lt_of_le_of_lt (b_l4_x20.2) (by decide))⟩) dX10_doGoal_86 ?_
                refine lv_topl (fun v204 hv204 => ?_)
                clear hv204
                refine lv_iload hx hb dX10_doGoal_87 (lv_at hl 0 rfl) ?_
                refine lv_ineg hx hb dX10_doGoal_89 ?_
                refine lv_topi (fun y205 hy205 => ?_)
                obtain rfl : (iI (-k0_j45.toInt)) = y205 := (hy205.trans (iI_neg2 (iI_of _))).symm
                refine lv_i2l hx hb dX10_doGoal_90 rfl ?_
                refine lv_topl (fun v206 hv206 => ?_)
                clear hv206
                refine W.lcmp hx hb dX10_doGoal_91 ?_
                refine lv_if_lt (tgt := 109) hx hb dX10_doGoal_92 (by decide) (fun c_92 => ?_) (fun c_92 => ?_)
                · have t_92 : v204.toInt < v206.toInt := toL_lt c_92 rfl rfl
                  refine lv_aload_n hx hb dX10_doGoal_109 rfl (lv_at hl 4 rfl) ?_
                  refine va_get (D := (dC, dI)) (ci := 10) (v := .ref (hT 0)) (C := RX10) (T := TX10) (N := 20) hx hb hts iwsMX10_doGoal_in10 hown hK hP 0 rfl rfl 0 (by decide) (hts _ hm_m_X10_doGoal_3) (fun _ h9 => h9) rfl dX10_doGoal_110 ?_
                  refine lv_bipush (v := 9) hx hb dX10_doGoal_113 (by decide) ?_
                  refine lv_aload_n hx hb dX10_doGoal_115 rfl (lv_at hl 4 rfl) ?_
                  refine va_get (D := (dC, dI)) (ci := 10) (v := .ref dF_tree) (C := RX10) (T := TX10) (N := 20) hx hb hts iwsMX10_doGoal_in10 hown hK hP 0 rfl rfl 2 (by decide) (hts _ hm_m_X10_doGoal_4) (fun _ h9 => h9) rfl dX10_doGoal_116 ?_
                  refine lv_iload_n hx hb dX10_doGoal_119 rfl (lv_at hl 5 rfl) ?_
                  refine lv_iconst (v := 1) hx hb dX10_doGoal_120 (by decide) ?_
                  refine lv_iadd hx hb dX10_doGoal_121 ?_
                  refine lv_topi (fun y207 hy207 => ?_)
                  obtain rfl : (iI (p1.toInt + 1)) = y207 := (hy207.trans (iI_add2 (iI_of _) (by decide : (1 : Int32) = iI 1))).symm
                  refine va_iald (cA := kF 0) (n := nF_tree) (f := fF_tree) hx hb hK hP 11 10 rfl rfl (vp_iI (by omega) (by omega) (by omega)) dX10_doGoal_122 ?_
                  refine lv_topi (fun v208 hv208 => ?_)
                  have b_v208 : v208.toInt = twL fF_tree (p1.toInt + 1) := by rw [hv208]; exact tw_i (by omega) (by omega)
                  clear hv208
                  have p9 := cj_4_2 (WL hL aL kL hT hM (.ref dF_tree) iL_names gL_key fL_kind fL_one fL_two fL_base iL_params fL_paramOver dL_paramOver nL_params fL_paramUnder dL_paramUnder nL_pu gL_over_1 gL_under_1 fL_bound_1 iL_nameAt iL_startAt iL_steps_1 jL_scaleOver jL_scaleUnder) (WF hF aF kF dF_tree nF_tree fF_tree) (WT hT aT kT fT_tape dT_tape nT_tape iT_length iT_fault_1 iT_place_1 iT_kind iT_at iT_number jT_name iT_next) (WM hM aM kM iM_stands iM_variables iM_rows iM_goals iM_differents iM_cases fM_from fM_to fM_whole fM_ways iM_plainRows fM_plainRow fM_kept fM_goalOver_x20 fM_goalUnder_x20 fM_goalMax fM_different)
                  have hPc := hP.mem (fun q h => p9.mem_iff.mpr (List.mem_append_left _ h))
                  have hDc := (hD.perm p9).left
                  have hKc : va_K (dC, dI) vwCl (tT kT) _ := hK.sub [11] rfl
                  have hFc := freeG p9 hD hS hA
                  refine vx_callv (vx_runV (As := [.int 9, .int v208]) (rest := []) ⟨hx, hb, hml, hown, hts⟩ (m_X9_fail l hst dC dI hT aT kT fT_tape dT_tape nT_tape iT_length iT_fault_1 iT_place_1 iT_kind iT_at iT_number jT_name iT_next 9 v208 b_fT_tape (by first | exact b_nT_tape | with_reducible assumption | exact ⟨by omega, by omega⟩ | assumption) (b_iT_length) (b_iT_at) (b_iT_number) (b_iT_next) (by first | with_reducible assumption | omega | assumption) H.size) (cwV 2 hts gwsMX10_doGoal_1 rfl rfl rfl hd_yX9_fail_RX9 (by decide +kernel)) (fz_preE (va_recv hK hP (ci := 9) (q0 := 12) rfl rfl) hPc hKc hDc (fun a U g mk qE => qE.call) (fun U hU9 hW => by rw [hU9]; exact (((hE : CE A s s.heap).kept hS.2.1).narrow (fun q h => hFc q h)).warm hW)) rfl rfl hl.1 rfl (lv_room (Nat.le_of_ble_eq_true rfl)) dX10_doGoal_123 (by decide +kernel)) hS (fun q _ h => hFc q h) hFc (fun q _ h => hFc q h) (fun E ce q9 u t9_ H locs ht hvm hw9 hB9 hz1 hk1 hS hc1 hc2 hc3 => ?_) (fun u t9_ H1 locs ht hvm hw9 hB9 hz1 hk1 hS => ?_)
                  · revert u hw9 hB9
                    refine fz_p2 ?_
                    intro iT_fault_209 iT_place_209 hw9 hB9
                    try dsimp only at hw9 hB9
                    revert hB9
                    refine fz_a2 ?_
                    intro hEx hB9
                    clear hw9
                    have p8 := cj_4_2 (WL hL aL kL hT hM (.ref dF_tree) iL_names gL_key fL_kind fL_one fL_two fL_base iL_params fL_paramOver dL_paramOver nL_params fL_paramUnder dL_paramUnder nL_pu gL_over_1 gL_under_1 fL_bound_1 iL_nameAt iL_startAt iL_steps_1 jL_scaleOver jL_scaleUnder) (WF hF aF kF dF_tree nF_tree fF_tree) (WT hT aT kT fT_tape dT_tape nT_tape iT_length iT_fault_209 iT_place_209 iT_kind iT_at iT_number jT_name iT_next) (WM hM aM kM iM_stands iM_variables iM_rows iM_goals iM_differents iM_cases fM_from fM_to fM_whole fM_ways iM_plainRows fM_plainRow fM_kept fM_goalOver_x20 fM_goalUnder_x20 fM_goalMax fM_different)
                    obtain ⟨hP, hD⟩ := frameG p9 p8 hP hD hk1 hFc (fz_P ht hB9.1) hB9.2
                    exact vx_out (fun x hx9 => (htab x hx9).elim) hlocks hc1 hc2 hc3 (fun t9_ ht hvm => ⟨(gL_over_1, gL_under_1, fL_bound_1, iL_steps_1, iT_fault_209, iT_place_209, iM_goals, fM_goalOver_x20, fM_goalUnder_x20, fM_goalMax), (b_iM_goals), ⟨(by have h9 := hEx; exact h9), by rw [ht]; exact hP, hD⟩, hS.F ht⟩) hS.2.2 (by decide +kernel) (by decide +kernel)
                  exact False.elim hw9
                · have t_92 : ¬ v204.toInt < v206.toInt := toL_nlt c_92 rfl rfl
                  refine lv_aload_n hx hb dX10_doGoal_95 rfl (lv_at hl 4 rfl) ?_
                  refine va_get (D := (dC, dI)) (ci := 10) (v := .ref (aL 8)) (C := RX10) (T := TX10) (N := 20) hx hb hts iwsMX10_doGoal_in10 hown hK hP 0 rfl rfl 13 (by decide) (hts _ hm_m_X10_doGoal_5) (fun _ h9 => h9) rfl dX10_doGoal_96 ?_
                  refine lv_iload hx hb dX10_doGoal_99 (lv_at hl 2 rfl) ?_
                  refine va_lald (cA := kL 8) (n := 360) (f := gL_under_1) hx hb hK hP 9 8 rfl rfl (vp_in_iff.mpr ⟨b_l4_x20.1, (Int.lt_of_le_of_lt (b_l4_x20.2) (by decide))⟩) dX10_doGoal_101 ?_
                  refine lv_topl (fun v210 hv210 => ?_)
                  clear hv210
                  refine lv_iload hx hb dX10_doGoal_102 (lv_at hl 0 rfl) ?_
                  refine lv_i2l hx hb dX10_doGoal_104 rfl ?_
                  refine lv_topl (fun v211 hv211 => ?_)
                  clear hv211
                  refine W.lcmp hx hb dX10_doGoal_105 ?_
                  refine lv_if_le (tgt := 126) hx hb dX10_doGoal_106 (by decide) (fun c_106 => ?_) (fun c_106 => ?_)
                  · have t_106 : v210.toInt ≤ v211.toInt := toL_le c_106 rfl rfl
                    have hl : lv_has _ _ ([(6, .int k0_j45), (5, .int k0_j44), (4, .int l4_x20), (3, .int (iI (iM_goals.toInt * 9))), (0, .ref (hL 0)), (1, .int p1), (2, .int p2)]) := lv_sub hl [0, 1, 2, 3, 4, 5, 6] rfl
                    exact join46 _ _ _ _ ⟨rfl, hP, hD, hS, hl⟩
                  · have t_106 : ¬ v210.toInt ≤ v211.toInt := toL_nle c_106 rfl rfl
                    refine lv_aload_n hx hb dX10_doGoal_109 rfl (lv_at hl 4 rfl) ?_
                    refine va_get (D := (dC, dI)) (ci := 10) (v := .ref (hT 0)) (C := RX10) (T := TX10) (N := 20) hx hb hts iwsMX10_doGoal_in10 hown hK hP 0 rfl rfl 0 (by decide) (hts _ hm_m_X10_doGoal_3) (fun _ h9 => h9) rfl dX10_doGoal_110 ?_
                    refine lv_bipush (v := 9) hx hb dX10_doGoal_113 (by decide) ?_
                    refine lv_aload_n hx hb dX10_doGoal_115 rfl (lv_at hl 4 rfl) ?_
                    refine va_get (D := (dC, dI)) (ci := 10) (v := .ref dF_tree) (C := RX10) (T := TX10) (N := 20) hx hb hts iwsMX10_doGoal_in10 hown hK hP 0 rfl rfl 2 (by decide) (hts _ hm_m_X10_doGoal_4) (fun _ h9 => h9) rfl dX10_doGoal_116 ?_
                    refine lv_iload_n hx hb dX10_doGoal_119 rfl (lv_at hl 5 rfl) ?_
                    refine lv_iconst (v := 1) hx hb dX10_doGoal_120 (by decide) ?_
                    refine lv_iadd hx hb dX10_doGoal_121 ?_
                    refine lv_topi (fun y212 hy212 => ?_)
                    obtain rfl : (iI (p1.toInt + 1)) = y212 := (hy212.trans (iI_add2 (iI_of _) (by decide : (1 : Int32) = iI 1))).symm
                    refine va_iald (cA := kF 0) (n := nF_tree) (f := fF_tree) hx hb hK hP 11 10 rfl rfl (vp_iI (by omega) (by omega) (by omega)) dX10_doGoal_122 ?_
                    refine lv_topi (fun v213 hv213 => ?_)
                    have b_v213 : v213.toInt = twL fF_tree (p1.toInt + 1) := by rw [hv213]; exact tw_i (by omega) (by omega)
                    clear hv213
                    have p9 := cj_4_2 (WL hL aL kL hT hM (.ref dF_tree) iL_names gL_key fL_kind fL_one fL_two fL_base iL_params fL_paramOver dL_paramOver nL_params fL_paramUnder dL_paramUnder nL_pu gL_over_1 gL_under_1 fL_bound_1 iL_nameAt iL_startAt iL_steps_1 jL_scaleOver jL_scaleUnder) (WF hF aF kF dF_tree nF_tree fF_tree) (WT hT aT kT fT_tape dT_tape nT_tape iT_length iT_fault_1 iT_place_1 iT_kind iT_at iT_number jT_name iT_next) (WM hM aM kM iM_stands iM_variables iM_rows iM_goals iM_differents iM_cases fM_from fM_to fM_whole fM_ways iM_plainRows fM_plainRow fM_kept fM_goalOver_x20 fM_goalUnder_x20 fM_goalMax fM_different)
                    have hPc := hP.mem (fun q h => p9.mem_iff.mpr (List.mem_append_left _ h))
                    have hDc := (hD.perm p9).left
                    have hKc : va_K (dC, dI) vwCl (tT kT) _ := hK.sub [11] rfl
                    have hFc := freeG p9 hD hS hA
                    refine vx_callv (vx_runV (As := [.int 9, .int v213]) (rest := []) ⟨hx, hb, hml, hown, hts⟩ (m_X9_fail l hst dC dI hT aT kT fT_tape dT_tape nT_tape iT_length iT_fault_1 iT_place_1 iT_kind iT_at iT_number jT_name iT_next 9 v213 b_fT_tape (by first | exact b_nT_tape | with_reducible assumption | exact ⟨by omega, by omega⟩ | assumption) (b_iT_length) (b_iT_at) (b_iT_number) (b_iT_next) (by first | with_reducible assumption | omega | assumption) H.size) (cwV 2 hts gwsMX10_doGoal_1 rfl rfl rfl hd_yX9_fail_RX9 (by decide +kernel)) (fz_preE (va_recv hK hP (ci := 9) (q0 := 12) rfl rfl) hPc hKc hDc (fun a U g mk qE => qE.call) (fun U hU9 hW => by rw [hU9]; exact (((hE : CE A s s.heap).kept hS.2.1).narrow (fun q h => hFc q h)).warm hW)) rfl rfl hl.1 rfl (lv_room (Nat.le_of_ble_eq_true rfl)) dX10_doGoal_123 (by decide +kernel)) hS (fun q _ h => hFc q h) hFc (fun q _ h => hFc q h) (fun E ce q9 u t9_ H locs ht hvm hw9 hB9 hz1 hk1 hS hc1 hc2 hc3 => ?_) (fun u t9_ H1 locs ht hvm hw9 hB9 hz1 hk1 hS => ?_)
                    · revert u hw9 hB9
                      refine fz_p2 ?_
                      intro iT_fault_214 iT_place_214 hw9 hB9
                      try dsimp only at hw9 hB9
                      revert hB9
                      refine fz_a2 ?_
                      intro hEx hB9
                      clear hw9
                      have p8 := cj_4_2 (WL hL aL kL hT hM (.ref dF_tree) iL_names gL_key fL_kind fL_one fL_two fL_base iL_params fL_paramOver dL_paramOver nL_params fL_paramUnder dL_paramUnder nL_pu gL_over_1 gL_under_1 fL_bound_1 iL_nameAt iL_startAt iL_steps_1 jL_scaleOver jL_scaleUnder) (WF hF aF kF dF_tree nF_tree fF_tree) (WT hT aT kT fT_tape dT_tape nT_tape iT_length iT_fault_214 iT_place_214 iT_kind iT_at iT_number jT_name iT_next) (WM hM aM kM iM_stands iM_variables iM_rows iM_goals iM_differents iM_cases fM_from fM_to fM_whole fM_ways iM_plainRows fM_plainRow fM_kept fM_goalOver_x20 fM_goalUnder_x20 fM_goalMax fM_different)
                      obtain ⟨hP, hD⟩ := frameG p9 p8 hP hD hk1 hFc (fz_P ht hB9.1) hB9.2
                      exact vx_out (fun x hx9 => (htab x hx9).elim) hlocks hc1 hc2 hc3 (fun t9_ ht hvm => ⟨(gL_over_1, gL_under_1, fL_bound_1, iL_steps_1, iT_fault_214, iT_place_214, iM_goals, fM_goalOver_x20, fM_goalUnder_x20, fM_goalMax), (b_iM_goals), ⟨(by have h9 := hEx; exact h9), by rw [ht]; exact hP, hD⟩, hS.F ht⟩) hS.2.2 (by decide +kernel) (by decide +kernel)
                    exact False.elim hw9
          · rintro H locs ls stk ⟨rfl, hP, hD, hS, hl⟩
            refine lv_aload_n hx hb dX10_doGoal_126 rfl (lv_at hl 4 rfl) ?_
            refine va_get (D := (dC, dI)) (ci := 10) (v := .ref (hM 0)) (C := RX10) (T := TX10) (N := 20) hx hb hts iwsMX10_doGoal_in10 hown hK hP 0 rfl rfl 1 (by decide) (hts _ hm_m_X10_doGoal_0) (fun _ h9 => h9) rfl dX10_doGoal_127 ?_
            refine va_get (D := (dC, dI)) (ci := 1) (v := .ref (aM 6)) (C := RX1) (T := TX1) (N := 17) hx hb hts iwsMX10_doGoal_in1 hown hK hP 14 rfl rfl 13 (by decide) (hts (.fieldLink RX10 143 "OptimaWorks$Model" "goalOver" "[I") (by decide +kernel)) (fun _ h9 => h9) rfl dX10_doGoal_130 ?_
            refine lv_iload_n hx hb dX10_doGoal_133 rfl (lv_at hl 3 rfl) ?_
            refine lv_iload hx hb dX10_doGoal_134 (lv_at hl 2 rfl) ?_
            refine lv_iadd hx hb dX10_doGoal_136 ?_
            refine lv_topi (fun y215 hy215 => ?_)
            obtain rfl : (iI ((iM_goals.toInt * 9) + l4_x20.toInt)) = y215 := (hy215.trans (iI_add2 rfl (iI_of _))).symm
            refine lv_iload hx hb dX10_doGoal_137 (lv_at hl 1 rfl) ?_
            refine W.cut (pc := 154) (fun H locs ls stk => ∃ (k0_j47 : Int32),  stk = [.int k0_j47, .int (iI ((iM_goals.toInt * 9) + l4_x20.toInt)), .ref (aM 6)] ∧ va_P (dC, dI) vwCl (WL hL aL kL hT hM (.ref dF_tree) iL_names gL_key fL_kind fL_one fL_two fL_base iL_params fL_paramOver dL_paramOver nL_params fL_paramUnder dL_paramUnder nL_pu gL_over_1 gL_under_1 fL_bound_1 iL_nameAt iL_startAt iL_steps_1 jL_scaleOver jL_scaleUnder ++ (WF hF aF kF dF_tree nF_tree fF_tree ++ (WT hT aT kT fT_tape dT_tape nT_tape iT_length iT_fault_1 iT_place_1 iT_kind iT_at iT_number jT_name iT_next ++ (WM hM aM kM iM_stands iM_variables iM_rows iM_goals iM_differents iM_cases fM_from fM_to fM_whole fM_ways iM_plainRows fM_plainRow fM_kept fM_goalOver_x20 fM_goalUnder_x20 fM_goalMax fM_different)))) H ∧ va_D A (WL hL aL kL hT hM (.ref dF_tree) iL_names gL_key fL_kind fL_one fL_two fL_base iL_params fL_paramOver dL_paramOver nL_params fL_paramUnder dL_paramUnder nL_pu gL_over_1 gL_under_1 fL_bound_1 iL_nameAt iL_startAt iL_steps_1 jL_scaleOver jL_scaleUnder ++ (WF hF aF kF dF_tree nF_tree fF_tree ++ (WT hT aT kT fT_tape dT_tape nT_tape iT_length iT_fault_1 iT_place_1 iT_kind iT_at iT_number jT_name iT_next ++ (WM hM aM kM iM_stands iM_variables iM_rows iM_goals iM_differents iM_cases fM_from fM_to fM_whole fM_ways iM_plainRows fM_plainRow fM_kept fM_goalOver_x20 fM_goalUnder_x20 fM_goalMax fM_different)))) ∧ va_S A s.heap H locs ∧ lv_has ls 7 [(6, .int k0_j45), (5, .int k0_j44), (4, .int l4_x20), (3, .int (iI (iM_goals.toInt * 9))), (0, .ref (hL 0)), (1, .int p1), (2, .int p2)]) (fun join47 => ?_) ?_
            · refine lv_if_eq (tgt := 153) hx hb dX10_doGoal_139 (by decide) (fun c_139 => ?_) (fun c_139 => ?_)
              · have t_139 : k0_j44.toInt = 0 := toI_eq c_139 rfl (by decide : (0 : Int32).toInt = 0)
                refine lv_iconst (v := 0) hx hb dX10_doGoal_153 (by decide) ?_
                have hl : lv_has _ _ ([(6, .int k0_j45), (5, .int k0_j44), (4, .int l4_x20), (3, .int (iI (iM_goals.toInt * 9))), (0, .ref (hL 0)), (1, .int p1), (2, .int p2)]) := lv_sub hl [0, 1, 2, 3, 4, 5, 6] rfl
                exact join47 _ _ _ _ ⟨0, rfl, hP, hD, hS, hl⟩
              · have t_139 : ¬ k0_j44.toInt = 0 := toI_neq c_139 rfl (by decide : (0 : Int32).toInt = 0)
                refine lv_aload_n hx hb dX10_doGoal_142 rfl (lv_at hl 4 rfl) ?_
                refine va_get (D := (dC, dI)) (ci := 10) (v := .ref (aL 7)) (C := RX10) (T := TX10) (N := 20) hx hb hts iwsMX10_doGoal_in10 hown hK hP 0 rfl rfl 12 (by decide) (hts _ hm_m_X10_doGoal_2) (fun _ h9 => h9) rfl dX10_doGoal_143 ?_
                refine lv_iload hx hb dX10_doGoal_146 (lv_at hl 2 rfl) ?_
                refine va_lald (cA := kL 7) (n := 360) (f := gL_over_1) hx hb hK hP 8 7 rfl rfl (vp_in_iff.mpr ⟨b_l4_x20.1, (Int.lt_of_le_of_lt (b_l4_x20.2) (by decide))⟩) dX10_doGoal_148 ?_
                refine lv_topl (fun v218 hv218 => ?_)
                clear hv218
                refine lv_l2i hx hb dX10_doGoal_149 rfl ?_
                refine lv_topi (fun v219 hv219 => ?_)
                clear hv219
                refine lv_goto (tgt := 154) hx hb dX10_doGoal_150 (by decide) ?_
                have hl : lv_has _ _ ([(6, .int k0_j45), (5, .int k0_j44), (4, .int l4_x20), (3, .int (iI (iM_goals.toInt * 9))), (0, .ref (hL 0)), (1, .int p1), (2, .int p2)]) := lv_sub hl [0, 1, 2, 3, 4, 5, 6] rfl
                exact join47 _ _ _ _ ⟨v219, rfl, hP, hD, hS, hl⟩
            · rintro H locs ls stk ⟨k0_j47, rfl, hP, hD, hS, hl⟩
              refine va_iast (cA := kM 6) (n := 27) (f := fM_goalOver_x20) hx hb hK hP hD hS 21 18 rfl rfl (vp_iI (Int.le_trans (by decide) (Int.add_le_add (Int.mul_le_mul_of_nonneg_right (b_iM_goals.1) (by decide)) (b_l4_x20.1))) (by omega) (by decide)) dX10_doGoal_154 (fun H locs hP hD hS => ?_)
              obtain ⟨u220, hu220⟩ : ∃ f9, f9 = upd fM_goalOver_x20 ((iI ((iM_goals.toInt * 9) + l4_x20.toInt))).toNatClampNeg k0_j47 := ⟨_, rfl⟩
              have hP : va_P (dC, dI) vwCl (WL hL aL kL hT hM (.ref dF_tree) iL_names gL_key fL_kind fL_one fL_two fL_base iL_params fL_paramOver dL_paramOver nL_params fL_paramUnder dL_paramUnder nL_pu gL_over_1 gL_under_1 fL_bound_1 iL_nameAt iL_startAt iL_steps_1 jL_scaleOver jL_scaleUnder ++ (WF hF aF kF dF_tree nF_tree fF_tree ++ (WT hT aT kT fT_tape dT_tape nT_tape iT_length iT_fault_1 iT_place_1 iT_kind iT_at iT_number jT_name iT_next ++ (WM hM aM kM iM_stands iM_variables iM_rows iM_goals iM_differents iM_cases fM_from fM_to fM_whole fM_ways iM_plainRows fM_plainRow fM_kept u220 fM_goalUnder_x20 fM_goalMax fM_different)))) H := by rw [hu220]; exact hP
              have hD : va_D A (WL hL aL kL hT hM (.ref dF_tree) iL_names gL_key fL_kind fL_one fL_two fL_base iL_params fL_paramOver dL_paramOver nL_params fL_paramUnder dL_paramUnder nL_pu gL_over_1 gL_under_1 fL_bound_1 iL_nameAt iL_startAt iL_steps_1 jL_scaleOver jL_scaleUnder ++ (WF hF aF kF dF_tree nF_tree fF_tree ++ (WT hT aT kT fT_tape dT_tape nT_tape iT_length iT_fault_1 iT_place_1 iT_kind iT_at iT_number jT_name iT_next ++ (WM hM aM kM iM_stands iM_variables iM_rows iM_goals iM_differents iM_cases fM_from fM_to fM_whole fM_ways iM_plainRows fM_plainRow fM_kept u220 fM_goalUnder_x20 fM_goalMax fM_different)))) := by rw [hu220]; exact hD
              clear hu220
              refine lv_aload_n hx hb dX10_doGoal_155 rfl (lv_at hl 4 rfl) ?_
              refine va_get (D := (dC, dI)) (ci := 10) (v := .ref (hM 0)) (C := RX10) (T := TX10) (N := 20) hx hb hts iwsMX10_doGoal_in10 hown hK hP 0 rfl rfl 1 (by decide) (hts _ hm_m_X10_doGoal_0) (fun _ h9 => h9) rfl dX10_doGoal_156 ?_
              refine va_get (D := (dC, dI)) (ci := 1) (v := .ref (aM 7)) (C := RX1) (T := TX1) (N := 17) hx hb hts iwsMX10_doGoal_in1 hown hK hP 14 rfl rfl 14 (by decide) (hts (.fieldLink RX10 146 "OptimaWorks$Model" "goalUnder" "[I") (by decide +kernel)) (fun _ h9 => h9) rfl dX10_doGoal_159 ?_
              refine lv_iload_n hx hb dX10_doGoal_162 rfl (lv_at hl 3 rfl) ?_
              refine lv_iload hx hb dX10_doGoal_163 (lv_at hl 2 rfl) ?_
              refine lv_iadd hx hb dX10_doGoal_165 ?_
              refine lv_topi (fun y221 hy221 => ?_)
              obtain rfl : (iI ((iM_goals.toInt * 9) + l4_x20.toInt)) = y221 := (hy221.trans (iI_add2 rfl (iI_of _))).symm
              refine lv_iload hx hb dX10_doGoal_166 (lv_at hl 1 rfl) ?_
              refine W.cut (pc := 183) (fun H locs ls stk => ∃ (k0_j48 : Int32),  stk = [.int k0_j48, .int (iI ((iM_goals.toInt * 9) + l4_x20.toInt)), .ref (aM 7)] ∧ va_P (dC, dI) vwCl (WL hL aL kL hT hM (.ref dF_tree) iL_names gL_key fL_kind fL_one fL_two fL_base iL_params fL_paramOver dL_paramOver nL_params fL_paramUnder dL_paramUnder nL_pu gL_over_1 gL_under_1 fL_bound_1 iL_nameAt iL_startAt iL_steps_1 jL_scaleOver jL_scaleUnder ++ (WF hF aF kF dF_tree nF_tree fF_tree ++ (WT hT aT kT fT_tape dT_tape nT_tape iT_length iT_fault_1 iT_place_1 iT_kind iT_at iT_number jT_name iT_next ++ (WM hM aM kM iM_stands iM_variables iM_rows iM_goals iM_differents iM_cases fM_from fM_to fM_whole fM_ways iM_plainRows fM_plainRow fM_kept u220 fM_goalUnder_x20 fM_goalMax fM_different)))) H ∧ va_D A (WL hL aL kL hT hM (.ref dF_tree) iL_names gL_key fL_kind fL_one fL_two fL_base iL_params fL_paramOver dL_paramOver nL_params fL_paramUnder dL_paramUnder nL_pu gL_over_1 gL_under_1 fL_bound_1 iL_nameAt iL_startAt iL_steps_1 jL_scaleOver jL_scaleUnder ++ (WF hF aF kF dF_tree nF_tree fF_tree ++ (WT hT aT kT fT_tape dT_tape nT_tape iT_length iT_fault_1 iT_place_1 iT_kind iT_at iT_number jT_name iT_next ++ (WM hM aM kM iM_stands iM_variables iM_rows iM_goals iM_differents iM_cases fM_from fM_to fM_whole fM_ways iM_plainRows fM_plainRow fM_kept u220 fM_goalUnder_x20 fM_goalMax fM_different)))) ∧ va_S A s.heap H locs ∧ lv_has ls 7 [(6, .int k0_j45), (5, .int k0_j44), (4, .int l4_x20), (3, .int (iI (iM_goals.toInt * 9))), (0, .ref (hL 0)), (1, .int p1), (2, .int p2)]) (fun join48 => ?_) ?_
              · refine lv_if_eq (tgt := 182) hx hb dX10_doGoal_168 (by decide) (fun c_168 => ?_) (fun c_168 => ?_)
                · have t_168 : k0_j44.toInt = 0 := toI_eq c_168 rfl (by decide : (0 : Int32).toInt = 0)
                  refine lv_iconst (v := 1) hx hb dX10_doGoal_182 (by decide) ?_
                  have hl : lv_has _ _ ([(6, .int k0_j45), (5, .int k0_j44), (4, .int l4_x20), (3, .int (iI (iM_goals.toInt * 9))), (0, .ref (hL 0)), (1, .int p1), (2, .int p2)]) := lv_sub hl [0, 1, 2, 3, 4, 5, 6] rfl
                  exact join48 _ _ _ _ ⟨1, rfl, hP, hD, hS, hl⟩
                · have t_168 : ¬ k0_j44.toInt = 0 := toI_neq c_168 rfl (by decide : (0 : Int32).toInt = 0)
                  refine lv_aload_n hx hb dX10_doGoal_171 rfl (lv_at hl 4 rfl) ?_
                  refine va_get (D := (dC, dI)) (ci := 10) (v := .ref (aL 8)) (C := RX10) (T := TX10) (N := 20) hx hb hts iwsMX10_doGoal_in10 hown hK hP 0 rfl rfl 13 (by decide) (hts _ hm_m_X10_doGoal_5) (fun _ h9 => h9) rfl dX10_doGoal_172 ?_
                  refine lv_iload hx hb dX10_doGoal_175 (lv_at hl 2 rfl) ?_
                  refine va_lald (cA := kL 8) (n := 360) (f := gL_under_1) hx hb hK hP 9 8 rfl rfl (vp_in_iff.mpr ⟨b_l4_x20.1, (Int.lt_of_le_of_lt (b_l4_x20.2) (by decide))⟩) dX10_doGoal_177 ?_
                  refine lv_topl (fun v224 hv224 => ?_)
                  clear hv224
                  refine lv_l2i hx hb dX10_doGoal_178 rfl ?_
                  refine lv_topi (fun v225 hv225 => ?_)
                  clear hv225
                  refine lv_goto (tgt := 183) hx hb dX10_doGoal_179 (by decide) ?_
                  have hl : lv_has _ _ ([(6, .int k0_j45), (5, .int k0_j44), (4, .int l4_x20), (3, .int (iI (iM_goals.toInt * 9))), (0, .ref (hL 0)), (1, .int p1), (2, .int p2)]) := lv_sub hl [0, 1, 2, 3, 4, 5, 6] rfl
                  exact join48 _ _ _ _ ⟨v225, rfl, hP, hD, hS, hl⟩
              · rintro H locs ls stk ⟨k0_j48, rfl, hP, hD, hS, hl⟩
                refine va_iast (cA := kM 7) (n := 27) (f := fM_goalUnder_x20) hx hb hK hP hD hS 22 19 rfl rfl (vp_iI (Int.le_trans (by decide) (Int.add_le_add (Int.mul_le_mul_of_nonneg_right (b_iM_goals.1) (by decide)) (b_l4_x20.1))) (by omega) (by decide)) dX10_doGoal_183 (fun H locs hP hD hS => ?_)
                obtain ⟨u226, hu226⟩ : ∃ f9, f9 = upd fM_goalUnder_x20 ((iI ((iM_goals.toInt * 9) + l4_x20.toInt))).toNatClampNeg k0_j48 := ⟨_, rfl⟩
                have hP : va_P (dC, dI) vwCl (WL hL aL kL hT hM (.ref dF_tree) iL_names gL_key fL_kind fL_one fL_two fL_base iL_params fL_paramOver dL_paramOver nL_params fL_paramUnder dL_paramUnder nL_pu gL_over_1 gL_under_1 fL_bound_1 iL_nameAt iL_startAt iL_steps_1 jL_scaleOver jL_scaleUnder ++ (WF hF aF kF dF_tree nF_tree fF_tree ++ (WT hT aT kT fT_tape dT_tape nT_tape iT_length iT_fault_1 iT_place_1 iT_kind iT_at iT_number jT_name iT_next ++ (WM hM aM kM iM_stands iM_variables iM_rows iM_goals iM_differents iM_cases fM_from fM_to fM_whole fM_ways iM_plainRows fM_plainRow fM_kept u220 u226 fM_goalMax fM_different)))) H := by rw [hu226]; exact hP
                have hD : va_D A (WL hL aL kL hT hM (.ref dF_tree) iL_names gL_key fL_kind fL_one fL_two fL_base iL_params fL_paramOver dL_paramOver nL_params fL_paramUnder dL_paramUnder nL_pu gL_over_1 gL_under_1 fL_bound_1 iL_nameAt iL_startAt iL_steps_1 jL_scaleOver jL_scaleUnder ++ (WF hF aF kF dF_tree nF_tree fF_tree ++ (WT hT aT kT fT_tape dT_tape nT_tape iT_length iT_fault_1 iT_place_1 iT_kind iT_at iT_number jT_name iT_next ++ (WM hM aM kM iM_stands iM_variables iM_rows iM_goals iM_differents iM_cases fM_from fM_to fM_whole fM_ways iM_plainRows fM_plainRow fM_kept u220 u226 fM_goalMax fM_different)))) := by rw [hu226]; exact hD
                clear hu226
                refine lv_iinc (v := (iI (l4_x20.toInt + 1))) hx hb dX10_doGoal_184 hl (k := 2) rfl (iI_add2 (iI_of _) (by decide : (1 : Int32) = iI 1)) (by decide) rfl (fun ls (hl : lv_has ls _ ([(4, .int (iI (l4_x20.toInt + 1))), (6, .int k0_j45), (5, .int k0_j44), (3, .int (iI (iM_goals.toInt * 9))), (0, .ref (hL 0)), (1, .int p1), (2, .int p2)])) => ?_)
                refine lv_goto (tgt := 20) hx hb dX10_doGoal_187 (by decide) ?_
                have hl : lv_has _ _ ([(4, .int (iI (l4_x20.toInt + 1))), (3, .int (iI (iM_goals.toInt * 9))), (0, .ref (hL 0)), (1, .int p1), (2, .int p2)]) := lv_sub hl [0, 3, 4, 5, 6] rfl
                exact ihx20 u220 u226 (iI (l4_x20.toInt + 1)) _ _ _ (iI_rng (Int.le_trans (by decide) (Int.add_le_add (b_l4_x20.1) (Int.le_refl _))) (by omega) (by decide) (by decide)) (by have e9 : ((iI (l4_x20.toInt + 1))).toInt = (l4_x20.toInt + 1) := (iI_t (Int.le_trans (by decide) (Int.add_le_add (b_l4_x20.1) (Int.le_refl _))) (Int.le_trans (Int.add_le_add (b_l4_x20.2) (Int.le_refl _)) (by decide))); omega) hP hD hS hl
end
section
/-! the reader's tree as it grows -/
def FrL (T T' : Nat → Int32) (n : Int) : Prop := ∀ i : Int, 0 ≤ i → i < n → i % 7 ≠ 1 → i % 7 ≠ 2 → twL T' i = twL T i
theorem FrL.rf {T : Nat → Int32} {n : Int} : FrL T T n := fun _ _ _ _ _ => rfl
theorem FrL.tr {T T1 T2 : Nat → Int32} {n m : Int} (h : FrL T T1 n) (h2 : FrL T1 T2 m) (hm : n ≤ m) : FrL T T2 n := fun i a b c d => (h2 i a (by omega) c d).trans (h i a b c d)
def WrL (T T' : Nat → Int32) (e x : Int) : Prop := ∀ i : Int, 0 ≤ i → twL T' i = if i = e then x else twL T i
theorem WrL.of {T : Nat → Int32} {E : Int} {x : Int32} (h1 : 0 ≤ E) (h2 : E ≤ 2147483647) : WrL T (upd T (iI E).toNatClampNeg x) E x.toInt := fun i hi => by
  have e := iI_t (E := E) (by omega) h2
  rw [tw_upd (by rw [e]; exact h1) hi, e]
theorem WrL.of0 {T : Nat → Int32} {E : Int} {x : Int32} (h1 : 0 ≤ E) (h2 : E ≤ 2147483647) : WrL T (upd T (iI (E + 0)).toNatClampNeg x) E x.toInt := by rw [Int.add_zero]; exact WrL.of h1 h2
theorem WrL.ofr {T : Nat → Int32} {n x : Int32} (h1 : 0 ≤ n.toInt) : WrL T (upd T n.toNatClampNeg x) n.toInt x.toInt := fun i hi => tw_upd h1 hi
theorem WrL.eq {T T' : Nat → Int32} {e x : Int} (h : WrL T T' e x) (he : 0 ≤ e) : twL T' e = x := by rw [h e he, if_pos rfl]
theorem WrL.ne {T T' : Nat → Int32} {e x i : Int} (h : WrL T T' e x) (hi : 0 ≤ i) (hne : i ≠ e) : twL T' i = twL T i := by rw [h i hi, if_neg hne]
theorem WrL.fr {T T' : Nat → Int32} {e x n : Int} (h : WrL T T' e x) (hn : n ≤ e) : FrL T T' n := fun i a b _ _ => h.ne a (by omega)
/-- a new node -/
def NwL (T T' : Nat → Int32) (n k : Int) : Prop := FrL T T' n ∧ twL T' n = k ∧ twL T' (n + 3) = 0 ∧ twL T' (n + 4) = 0 ∧ twL T' (n + 5) = 0 ∧ twL T' (n + 6) = 0
/-- a link to what follows; marks and places do not count -/
def LkL (T T' : Nat → Int32) (x f : Int) : Prop := twL T' (x + 6) = f ∧ ∀ i : Int, 0 ≤ i → i ≠ x + 6 → i % 7 ≠ 1 → i % 7 ≠ 2 → twL T' i = twL T i
theorem LkL.of {T T' : Nat → Int32} {x f : Int} (h : WrL T T' (x + 6) f) (hx : 0 ≤ x) : LkL T T' x f := ⟨h.eq (by omega), fun i a b _ _ => h.ne a b⟩
theorem LkL.more {T T' T2 : Nat → Int32} {x f e v : Int} (h : LkL T T' x f) (h2 : WrL T' T2 e v) (he : e % 7 = 1 ∨ e % 7 = 2) (hx : x % 7 = 0) (h0 : 0 ≤ x) : LkL T T2 x f := ⟨by rw [h2.ne (by omega) (by omega)]; exact h.1, fun i a b c d => by rw [h2.ne a (by omega)]; exact h.2 i a b c d⟩
section
variable {V V' : Int → Nat → Nat → Prop} {T T' T0 T1 T2 T3 fk fo fw : Nat → Int32} {nm lo u n m x f : Int} {L k : Nat} {l l1 l2 : List (Int × Nat × Nat)}
theorem NdL.mono (hs : ∀ n k L, V n k L → V' n k L) (hd : NdL V T fk fo fw nm n L k) : NdL V' T fk fo fw nm n L k := by
  rcases hd with ⟨h, g⟩ | ⟨h, g⟩ | ⟨h, g⟩ | ⟨h, g⟩ | ⟨h, g⟩ | ⟨h, g⟩ | ⟨h, g⟩ | ⟨h, g⟩ <;> subst h
  · exact Or.inl ⟨rfl, hs _ _ _ g⟩
  · exact Or.inr (Or.inl ⟨rfl, hs _ _ _ g⟩)
  · refine Or.inr (Or.inr (Or.inl ⟨rfl, ?_⟩))
    rcases g with g | g | g | g | g | g
    · exact Or.inl g
    · exact Or.inr (Or.inl g)
    · exact Or.inr (Or.inr (Or.inl ⟨g.1, g.2.1, g.2.2.1, g.2.2.2.1, fun h => ⟨hs _ _ _ (g.2.2.2.2 h).1, fun h2 => hs _ _ _ ((g.2.2.2.2 h).2 h2)⟩⟩))
    · exact Or.inr (Or.inr (Or.inr (Or.inl ⟨g.1, hs _ _ _ g.2⟩)))
    · exact Or.inr (Or.inr (Or.inr (Or.inr (Or.inl ⟨g.1, hs _ _ _ g.2⟩))))
    · exact Or.inr (Or.inr (Or.inr (Or.inr (Or.inr ⟨g.1, hs _ _ _ g.2.1, g.2.2.1.imp id (hs _ _ _), hs _ _ _ g.2.2.2⟩))))
  · exact Or.inr (Or.inr (Or.inr (Or.inl ⟨rfl, g⟩)))
  · exact Or.inr (Or.inr (Or.inr (Or.inr (Or.inl ⟨rfl, hs _ _ _ g⟩))))
  · exact Or.inr (Or.inr (Or.inr (Or.inr (Or.inr (Or.inl ⟨rfl, hs _ _ _ g⟩)))))
  · refine Or.inr (Or.inr (Or.inr (Or.inr (Or.inr (Or.inr (Or.inl ⟨rfl, ?_⟩))))))
    rcases g with g | g | g
    · exact Or.inl ⟨g.1, hs _ _ _ g.2⟩
    · exact Or.inr (Or.inl ⟨g.1, hs _ _ _ g.2⟩)
    · exact Or.inr (Or.inr ⟨g.1, hs _ _ _ g.2.1, hs _ _ _ g.2.2⟩)
  · exact Or.inr (Or.inr (Or.inr (Or.inr (Or.inr (Or.inr (Or.inr ⟨rfl, hs _ _ _ g.1, hs _ _ _ g.2⟩))))))
theorem NdL.cg (hd : NdL V T fk fo fw nm n L k) (h0 : twL T' n = twL T n) (h3 : twL T' (n + 3) = twL T (n + 3)) (h4 : twL T' (n + 4) = twL T (n + 4)) (h5 : twL T' (n + 5) = twL T (n + 5)) : NdL V T' fk fo fw nm n L k := by
  unfold NdL at hd ⊢
  rw [h0, h3, h4, h5]; exact hd
/-- some nodes, from lo to u, those of l among them -/
def TrE (T fk fo fw : Nat → Int32) (nm lo u : Int) (l : List (Int × Nat × Nat)) : Prop := ∃ V : Int → Nat → Nat → Prop, TrL V T fk fo fw nm lo u ∧ (∀ n k L k' L', V n k L → V n k' L' → k = k' ∧ L = L') ∧ ∀ x ∈ l, V x.1 x.2.1 x.2.2
theorem TrE.nil : TrE T fk fo fw nm lo u [] := ⟨fun _ _ _ => False, fun _ _ _ h => h.elim, fun _ _ _ _ _ h => h.elim, fun _ h => nomatch h⟩
theorem TrE.sub (h : TrE T fk fo fw nm lo u l) (hl : ∀ x ∈ l1, x ∈ l) : TrE T fk fo fw nm lo u l1 := by
  obtain ⟨V, a, b, c⟩ := h
  exact ⟨V, a, b, fun x hx => c x (hl x hx)⟩
theorem TrE.cg (h : TrE T fk fo fw nm lo u l) (hf : ∀ i : Int, lo ≤ i → 0 ≤ i → i < u → i % 7 ≠ 1 → i % 7 ≠ 2 → twL T' i = twL T i) : TrE T' fk fo fw nm lo u l := by
  obtain ⟨V, a, b, c⟩ := h
  refine ⟨V, fun n k L hn => ?_, b, c⟩
  obtain ⟨r, x, d⟩ := a n k L hn
  refine ⟨r, ?_, d.cg (hf _ (by omega) (by omega) (by omega) (by omega) (by omega)) (hf _ (by omega) (by omega) (by omega) (by omega) (by omega)) (hf _ (by omega) (by omega) (by omega) (by omega) (by omega)) (hf _ (by omega) (by omega) (by omega) (by omega) (by omega))⟩
  rw [hf _ (by omega) (by omega) (by omega) (by omega) (by omega)]; exact x
theorem TrE.cat (h1 : TrE T fk fo fw nm lo m l1) (hf : FrL T T' m) (h2 : TrE T' fk fo fw nm m u l2) (hlm : lo ≤ m) (hm : m ≤ u) : TrE T' fk fo fw nm lo u (l1 ++ l2) := by
  obtain ⟨V2, a2, b2, c2⟩ := h2
  have h1' : TrE T' fk fo fw nm lo m l1 := h1.cg (fun i _ hb hc hd he => hf i hb hc hd he)
  obtain ⟨V1, a1, b1, c1⟩ := h1'
  refine ⟨fun n k L => V1 n k L ∨ V2 n k L, fun n k L hn => ?_, fun n k L k' L' h h' => ?_, fun x hx => ?_⟩
  · rcases hn with hn | hn
    · obtain ⟨r, x, d⟩ := a1 n k L hn
      exact ⟨by omega, x.imp id Or.inl, d.mono (fun _ _ _ => Or.inl)⟩
    · obtain ⟨r, x, d⟩ := a2 n k L hn
      exact ⟨by omega, x.imp id Or.inr, d.mono (fun _ _ _ => Or.inr)⟩
  · rcases h with h | h <;> rcases h' with h' | h'
    · exact b1 _ _ _ _ _ h h'
    · have := (a1 _ _ _ h).1; have := (a2 _ _ _ h').1; omega
    · have := (a2 _ _ _ h).1; have := (a1 _ _ _ h').1; omega
    · exact b2 _ _ _ _ _ h h'
  · rcases List.mem_append.mp hx with hx | hx
    · exact Or.inl (c1 x hx)
    · exact Or.inr (c2 x hx)
theorem TrE.add (h : TrE T fk fo fw nm (n + 7) u l) (hn : 7 ≤ n) (h7 : n % 7 = 0) (hu : n + 7 ≤ u) (hL : L ≤ 25) (hx : twL T (n + 6) = 0) (hd : ∀ V : Int → Nat → Nat → Prop, (∀ x ∈ l, V x.1 x.2.1 x.2.2) → NdL V T fk fo fw nm n L k) : TrE T fk fo fw nm n u [(n, k, L)] := by
  obtain ⟨V, a, b, c⟩ := h
  refine ⟨fun n' k' L' => V n' k' L' ∨ (n' = n ∧ k' = k ∧ L' = L), fun n' k' L' h9 => ?_, fun n1 k1 L1 k2 L2 h h' => ?_, fun x hx => ?_⟩
  · rcases h9 with h9 | ⟨rfl, rfl, rfl⟩
    · obtain ⟨r, x, d⟩ := a n' k' L' h9
      exact ⟨by omega, x.imp id Or.inl, d.mono (fun _ _ _ => Or.inl)⟩
    · exact ⟨⟨Int.le_refl _, hn, hu, hL, h7⟩, Or.inl hx, (hd V c).mono (fun _ _ _ => Or.inl)⟩
  · rcases h with h | h <;> rcases h' with h' | h'
    · exact b _ _ _ _ _ h h'
    · have := (a _ _ _ h).1; omega
    · have := (a _ _ _ h').1; omega
    · omega
  · rw [List.mem_singleton] at hx
    subst hx
    exact Or.inr ⟨rfl, rfl, rfl⟩
theorem TrE.lnk (h : TrE T fk fo fw nm lo u l) (hx : (x, k, L) ∈ l) (hf : (f, k, L) ∈ l) (hw : LkL T T' x f) : TrE T' fk fo fw nm lo u l := by
  obtain ⟨V, a, b, c⟩ := h
  have vx := c _ hx
  have vf := c _ hf
  dsimp only at vx vf
  have rx := (a _ _ _ vx).1
  refine ⟨V, fun n k' L' hn => ?_, b, c⟩
  obtain ⟨r, y, d⟩ := a n k' L' hn
  refine ⟨r, ?_, d.cg (hw.2 _ (by omega) (by omega) (by omega) (by omega)) (hw.2 _ (by omega) (by omega) (by omega) (by omega)) (hw.2 _ (by omega) (by omega) (by omega) (by omega)) (hw.2 _ (by omega) (by omega) (by omega) (by omega))⟩
  by_cases h9 : n = x
  · subst h9
    obtain ⟨rfl, rfl⟩ := b _ _ _ _ _ hn vx
    rw [hw.1]; exact Or.inr vf
  · rw [hw.2 _ (by omega) (by omega) (by omega) (by omega)]; exact y
theorem TrE.rg (h : TrE T fk fo fw nm lo u l) (hx : (x, k, L) ∈ l) : lo ≤ x ∧ 7 ≤ x ∧ x + 7 ≤ u ∧ L ≤ 25 ∧ x % 7 = 0 := by
  obtain ⟨V, a, b, c⟩ := h
  exact (a _ _ _ (c _ hx)).1
/-- a node under way: n of kind kd, its parts behind it -/
def UnL (T0 T fk fo fw : Nat → Int32) (nm n kd u : Int) (l : List (Int × Nat × Nat)) : Prop := FrL T0 T n ∧ twL T n = kd ∧ twL T (n + 6) = 0 ∧ TrE T fk fo fw nm (n + 7) u l ∧ n + 7 ≤ u ∧ 7 ≤ n ∧ n % 7 = 0
theorem UnL.new {kd : Int} (h : NwL T0 T1 n kd) (hn : 7 ≤ n) (h7 : n % 7 = 0) : UnL T0 T1 fk fo fw nm n kd (n + 7) [] := ⟨h.1, h.2.1, h.2.2.2.2.2, TrE.nil, Int.le_refl _, hn, h7⟩
theorem UnL.call {kd u' : Int} (h : UnL T0 T fk fo fw nm n kd u l) (hf : FrL T T' u) (ht : TrE T' fk fo fw nm u u' l1) (hu : u ≤ u') : UnL T0 T' fk fo fw nm n kd u' (l ++ l1) := by
  obtain ⟨a, b, c, d, e, g, h7⟩ := h
  exact ⟨a.tr hf (by omega), by rw [hf _ (by omega) (by omega) (by omega) (by omega)]; exact b, by rw [hf _ (by omega) (by omega) (by omega) (by omega)]; exact c, d.cat hf ht e hu, by omega, g, h7⟩
theorem UnL.put {kd e x : Int} (h : UnL T0 T fk fo fw nm n kd u l) (hw : WrL T T' e x) (h1 : n + 1 ≤ e) (h2 : e ≤ n + 5) : UnL T0 T' fk fo fw nm n kd u l := by
  obtain ⟨a, b, c, d, e', g, h7⟩ := h
  exact ⟨a.tr (hw.fr (n := n) (by omega)) (Int.le_refl _), by rw [hw.ne (by omega) (by omega)]; exact b, by rw [hw.ne (by omega) (by omega)]; exact c, d.cg (fun i p q r _ _ => hw.ne q (by omega)), e', g, h7⟩
theorem UnL.mark {kd e x : Int} (h : UnL T0 T fk fo fw nm n kd u l) (hw : WrL T T' e x) (h1 : n + 7 ≤ e) (h2 : e % 7 = 1 ∨ e % 7 = 2) : UnL T0 T' fk fo fw nm n kd u l := by
  obtain ⟨a, b, c, d, e', g, h7⟩ := h
  exact ⟨a.tr (hw.fr (n := n) (by omega)) (Int.le_refl _), by rw [hw.ne (by omega) (by omega)]; exact b, by rw [hw.ne (by omega) (by omega)]; exact c, d.cg (fun i p q r s t => hw.ne q (by omega)), e', g, h7⟩
theorem UnL.sub {kd : Int} (h : UnL T0 T fk fo fw nm n kd u l) (hl : ∀ x ∈ l1, x ∈ l) : UnL T0 T fk fo fw nm n kd u l1 := ⟨h.1, h.2.1, h.2.2.1, h.2.2.2.1.sub hl, h.2.2.2.2⟩
theorem UnL.lnk {kd : Int} (h : UnL T0 T fk fo fw nm n kd u l) (hx : (x, k, L) ∈ l) (hf : (f, k, L) ∈ l) (hw : LkL T T' x f) : UnL T0 T' fk fo fw nm n kd u l := by
  obtain ⟨a, b, c, d, e', g, h7⟩ := h
  have rx := d.rg hx
  exact ⟨fun i p q r s => by rw [hw.2 i p (by omega) r s]; exact a i p q r s, by rw [hw.2 _ (by omega) (by omega) (by omega) (by omega)]; exact b, by rw [hw.2 _ (by omega) (by omega) (by omega) (by omega)]; exact c, d.lnk hx hf hw, e', g, h7⟩
/-- what a finished node is -/
def FiL (T0 T fk fo fw : Nat → Int32) (nm n u : Int) (k L : Nat) : Prop := FrL T0 T n ∧ twL T (n + 6) = 0 ∧ TrE T fk fo fw nm n u [(n, k, L)] ∧ n + 7 ≤ u
theorem UnL.fin {kd : Int} (h : UnL T0 T fk fo fw nm n kd u l) (hL : L ≤ 25) (hd : ∀ V : Int → Nat → Nat → Prop, (∀ x ∈ l, V x.1 x.2.1 x.2.2) → twL T n = kd → NdL V T fk fo fw nm n L k) : FiL T0 T fk fo fw nm n u k L := by
  obtain ⟨a, b, c, d, e', g, h7⟩ := h
  exact ⟨a, c, d.add g h7 e' hL c (fun V hV => hd V hV b), e'⟩
end
/-- a run of c nodes from h to x -/
def ChE (T fk fo fw : Nat → Int32) (nm lo u h x : Int) (c : Nat) : Prop := ∃ V : Int → Nat → Nat → Prop, TrL V T fk fo fw nm lo u ∧ (∀ n k L k' L', V n k L → V n k' L' → k = k' ∧ L = L') ∧ (∀ j : Nat, j < c → V (NxL T h j) 1 1) ∧ (∃ d : Nat, c = d + 1 ∧ NxL T h d = x) ∧ twL T (x + 6) = 0
theorem ChE.one {T fk fo fw : Nat → Int32} {nm lo u n : Int} (h : TrE T fk fo fw nm lo u [(n, 1, 1)]) (hx : twL T (n + 6) = 0) : ChE T fk fo fw nm lo u n n 1 := by
  obtain ⟨V, a, b, c⟩ := h
  refine ⟨V, a, b, fun j hj => ?_, ⟨0, rfl, rfl⟩, hx⟩
  obtain rfl : j = 0 := by omega
  exact c _ (List.mem_singleton.mpr rfl)
theorem NxL.cg {T T' : Nat → Int32} {h : Int} {d : Nat} (hs : ∀ j : Nat, j < d → twL T' (NxL T h j + 6) = twL T (NxL T h j + 6)) : ∀ j : Nat, j ≤ d → NxL T' h j = NxL T h j := by
  intro j
  induction j with
  | zero => intro _; rfl
  | succ j ih =>
    intro hj
    show twL T' (NxL T' h j + 6) = twL T (NxL T h j + 6)
    rw [ih (by omega)]
    exact hs j (by omega)
theorem ChE.step {T T' T2 fk fo fw : Nat → Int32} {nm lo u u' h x f : Int} {c : Nat} (hc : ChE T fk fo fw nm lo u h x c) (hlo : 0 ≤ lo) (hlu : lo ≤ u) (hf : FrL T T' u) (ht : TrE T' fk fo fw nm u u' [(f, 1, 1)]) (hu : u ≤ u') (h0 : twL T' (f + 6) = 0) (hw : LkL T' T2 x f) : ChE T2 fk fo fw nm lo u' h f (c + 1) := by
  obtain ⟨V, a, b, g, ⟨d, rfl, hd⟩, hx⟩ := hc
  have vx : V x 1 1 := by rw [← hd]; exact g d (by omega)
  have rx := (a _ _ _ vx).1
  have t1 : TrE T fk fo fw nm lo u [(x, 1, 1)] := ⟨V, a, b, fun y hy => by rw [List.mem_singleton] at hy; subst hy; exact vx⟩
  obtain ⟨V2, a2, b2, c2⟩ := ht
  have vf : V2 f 1 1 := c2 _ (List.mem_singleton.mpr rfl)
  have rf := (a2 _ _ _ vf).1
  have fr : ∀ n : Int, lo ≤ n → n + 7 ≤ u → n % 7 = 0 → ∀ q : Int, (q = 0 ∨ q = 3 ∨ q = 4 ∨ q = 5 ∨ q = 6) → twL T' (n + q) = twL T (n + q) := fun n h1 h2 h3 q hq => hf _ (by omega) (by omega) (by omega) (by omega)
  have lk : ∀ n : Int, 0 ≤ n → n % 7 = 0 → ∀ q : Int, (q = 0 ∨ q = 3 ∨ q = 4 ∨ q = 5) → twL T2 (n + q) = twL T' (n + q) := fun n h1 h3 q hq => hw.2 _ (by omega) (by omega) (by omega) (by omega)
  have nl : ∀ n : Int, 0 ≤ n → n % 7 = 0 → n ≠ x → twL T2 (n + 6) = twL T' (n + 6) := fun n h1 h3 h4 => hw.2 _ (by omega) (by omega) (by omega) (by omega)
  have z : ∀ (T : Nat → Int32) (n : Int), twL T (n + 0) = twL T n := fun T n => by rw [Int.add_zero]
  have nx : ∀ j : Nat, j ≤ d → NxL T2 h j = NxL T h j := NxL.cg (fun j hj => by
    have vj := g j (by omega)
    have rj := (a _ _ _ vj).1
    have hne : NxL T h j ≠ x := fun h9 => by
      have e1 : NxL T h (j + 1) = twL T (NxL T h j + 6) := rfl
      rw [h9, hx] at e1
      have := (a _ _ _ (g (j + 1) (by omega))).1
      omega
    rw [nl _ (by omega) (by omega) hne, fr _ (by omega) (by omega) (by omega) 6 (by omega)])
  have nd : NxL T2 h (d + 1) = f := by
    show twL T2 (NxL T2 h d + 6) = f
    rw [nx d (Nat.le_refl _), hd]; exact hw.1
  refine ⟨fun n k L => V n k L ∨ V2 n k L, fun n k L hn => ?_, fun n k L k' L' h1 h2 => ?_, fun j hj => ?_, ⟨d + 1, rfl, nd⟩, ?_⟩
  · rcases hn with hn | hn
    · obtain ⟨r, y, e⟩ := a n k L hn
      refine ⟨by omega, ?_, (e.cg (T' := T2) ?_ ?_ ?_ ?_).mono (fun _ _ _ => Or.inl)⟩
      · by_cases h9 : n = x
        · subst h9
          obtain ⟨rfl, rfl⟩ := b _ _ _ _ _ hn vx
          rw [hw.1]; exact Or.inr (Or.inr vf)
        · rw [nl n (by omega) (by omega) h9, fr n (by omega) (by omega) (by omega) 6 (by omega)]; exact y.imp id Or.inl
      · rw [← z T2 n, ← z T n, lk n (by omega) (by omega) 0 (by omega), fr n (by omega) (by omega) (by omega) 0 (by omega)]
      · rw [lk n (by omega) (by omega) 3 (by omega), fr n (by omega) (by omega) (by omega) 3 (by omega)]
      · rw [lk n (by omega) (by omega) 4 (by omega), fr n (by omega) (by omega) (by omega) 4 (by omega)]
      · rw [lk n (by omega) (by omega) 5 (by omega), fr n (by omega) (by omega) (by omega) 5 (by omega)]
    · obtain ⟨r, y, e⟩ := a2 n k L hn
      refine ⟨by omega, ?_, (e.cg (T' := T2) ?_ ?_ ?_ ?_).mono (fun _ _ _ => Or.inr)⟩
      · rw [nl n (by omega) (by omega) (by omega)]; exact y.imp id Or.inr
      · rw [← z T2 n, ← z T' n, lk n (by omega) (by omega) 0 (by omega)]
      · rw [lk n (by omega) (by omega) 3 (by omega)]
      · rw [lk n (by omega) (by omega) 4 (by omega)]
      · rw [lk n (by omega) (by omega) 5 (by omega)]
  · rcases h1 with h1 | h1 <;> rcases h2 with h2 | h2
    · exact b _ _ _ _ _ h1 h2
    · have := (a _ _ _ h1).1; have := (a2 _ _ _ h2).1; omega
    · have := (a2 _ _ _ h1).1; have := (a _ _ _ h2).1; omega
    · exact b2 _ _ _ _ _ h1 h2
  · by_cases h9 : j = d + 1
    · subst h9; rw [nd]; exact Or.inr vf
    · rw [nx j (by omega)]; exact Or.inl (g j (by omega))
  · rw [nl f (by omega) (by omega) (by omega)]; exact h0
theorem ChE.use {T fk fo fw : Nat → Int32} {nm lo u h x : Int} {c : Nat} (hc : ChE T fk fo fw nm lo u h x c) : ∃ V : Int → Nat → Nat → Prop, TrL V T fk fo fw nm lo u ∧ ChL V T h c := by
  obtain ⟨V, a, b, g, ⟨d, rfl, hd⟩, hx⟩ := hc
  refine ⟨V, a, g, ?_⟩
  show twL T (NxL T h d + 6) = 0
  rw [hd]; exact hx
theorem WrL.ofx {T : Nat → Int32} {E : Int} {x : Int32} {X : Int} (hx : x.toInt = X) (h1 : 0 ≤ E) (h2 : E ≤ 2147483647) : WrL T (upd T (iI E).toNatClampNeg x) E X := hx ▸ WrL.of h1 h2
theorem WrL.ofx0 {T : Nat → Int32} {E : Int} {x : Int32} {X : Int} (hx : x.toInt = X) (h1 : 0 ≤ E) (h2 : E ≤ 2147483647) : WrL T (upd T (iI (E + 0)).toNatClampNeg x) E X := hx ▸ WrL.of0 h1 h2
theorem WrL.ofxr {T : Nat → Int32} {n x : Int32} {X : Int} (hx : x.toInt = X) (h1 : 0 ≤ n.toInt) : WrL T (upd T n.toNatClampNeg x) n.toInt X := hx ▸ WrL.ofr h1
/-- noughts from m to j -/
def ZrL (T : Nat → Int32) (m j : Int) : Prop := ∀ i : Int, m ≤ i → i < j → twL T i = 0
theorem ZrL.nil {T : Nat → Int32} {m j : Int} (h : j ≤ m) : ZrL T m j := fun i a b => absurd b (by omega)
theorem ZrL.step {T T' : Nat → Int32} {m j j' : Int} (h : ZrL T m j) (hw : WrL T T' j 0) (h0 : 0 ≤ m) (hj : j' = j + 1) : ZrL T' m j' := fun i a b => by
  rw [hw i (by omega)]
  by_cases h9 : i = j
  · rw [if_pos h9]
  · rw [if_neg h9]; exact h i a (by omega)
theorem NwL.mk {T0 T T1 T2 : Nat → Int32} {n j k a e1 : Int} (hf : FrL T0 T n) (hz : ZrL T n j) (h1 : WrL T T1 n k) (h2 : WrL T1 T2 e1 a) (he : e1 = n + 1) (hj : n + 7 ≤ j) (h0 : 0 ≤ n) : NwL T0 T2 n k := by
  subst he
  have q : ∀ d : Int, 2 ≤ d → d < 7 → twL T2 (n + d) = 0 := fun d a b => by
    rw [h2.ne (by omega) (by omega), h1.ne (by omega) (by omega)]; exact hz _ (by omega) (by omega)
  refine ⟨?_, ?_, q 3 (by omega) (by omega), q 4 (by omega) (by omega), q 5 (by omega) (by omega), q 6 (by omega) (by omega)⟩
  · exact (hf.tr (h1.fr (n := n) (Int.le_refl _)) (Int.le_refl _)).tr (h2.fr (n := n) (by omega)) (Int.le_refl _)
  · rw [h2.ne (by omega) (by omega)]; exact h1.eq h0
section
variable {T T' T0 T1 T2 T3 T4 fk fo fw : Nat → Int32} {nm lo u u' n m x e kd : Int} {L k : Nat} {l : List (Int × Nat × Nat)}
theorem FiL.fr (h : FiL T0 T fk fo fw nm n u k L) : FrL T0 T n := h.1
/-- a first part is hung in -/
theorem UnL.first (h : NwL T0 T1 n kd) (hn : 7 ≤ n) (h7 : n % 7 = 0) (hm : m = n + 7) (hf : FiL T1 T2 fk fo fw nm m u k L) (hw : WrL T2 T3 e x) (he : e = n + 3) (hx : x = m) : UnL T0 T3 fk fo fw nm n kd u [(twL T3 (n + 3), k, L), (x, k, L)] ∧ twL T3 (x + 6) = 0 := by
  subst he; subst hx; subst hm
  have a := (UnL.new (fk := fk) (fo := fo) (fw := fw) (nm := nm) h hn h7).call hf.1 hf.2.2.1 (by have := hf.2.2.2; omega)
  have b := a.put hw (by omega) (by omega)
  rw [hw.eq (by omega)]
  exact ⟨b.sub (fun x hx => by simpa using hx), by rw [hw.ne (by omega) (by omega)]; exact hf.2.1⟩
/-- one more is linked -/
theorem UnL.step (h : UnL T0 T fk fo fw nm n kd u [(twL T (n + 3), k, L), (x, k, L)]) (hf : FiL T T' fk fo fw nm u u' k L) (hw : LkL T' T2 x m) (hm : m = u) : UnL T0 T2 fk fo fw nm n kd u' [(twL T2 (n + 3), k, L), (m, k, L)] ∧ twL T2 (m + 6) = 0 := by
  subst hm
  have r := h.2.2.2.1.rg (x := x) (k := k) (L := L) (by simp)
  have r7 := h.2.2.2.2
  have a := h.call hf.1 hf.2.2.1 (by have := hf.2.2.2; omega)
  have b := a.lnk (x := x) (f := m) (k := k) (L := L) (by simp) (by simp) hw
  have e3 : twL T2 (n + 3) = twL T (n + 3) := by rw [hw.2 _ (by omega) (by omega) (by omega) (by omega)]; exact hf.1 _ (by omega) (by omega) (by omega) (by omega)
  rw [e3]
  refine ⟨b.sub (fun y hy => ?_), ?_⟩
  · rcases List.mem_cons.mp hy with h9 | h9
    · rw [h9]; simp
    · rw [List.mem_singleton.mp h9]; simp
  · have rf := hf.2.2.1.rg (x := m) (k := k) (L := L) (by simp)
    rw [hw.2 _ (by omega) (by omega) (by omega) (by omega)]; exact hf.2.1
/-- a node with one part -/
theorem FiL.one {kc Lc : Nat} (h : NwL T0 T1 n kd) (hn : 7 ≤ n) (h7 : n % 7 = 0) (hL : L ≤ 25) (hm : m = n + 7) (hf : FiL T1 T2 fk fo fw nm m u kc Lc) (hw : WrL T2 T3 e x) (he : e = n + 3) (hx : x = m) (hd : ∀ V : Int → Nat → Nat → Prop, V (twL T3 (n + 3)) kc Lc → twL T3 n = kd → NdL V T3 fk fo fw nm n L k) : FiL T0 T3 fk fo fw nm n u k L := by
  have a := (UnL.first h hn h7 hm hf hw he hx).1
  exact a.fin hL (fun V hV e => hd V (hV (twL T3 (n + 3), kc, Lc) (by simp)) e)
/-- a node of itself -/
theorem FiL.leaf (h : NwL T0 T1 n kd) (hn : 7 ≤ n) (h7 : n % 7 = 0) (hL : L ≤ 25) (hw : WrL T1 T2 e x) (he : e = n + 3) (hu : u = n + 7) (hd : ∀ V : Int → Nat → Nat → Prop, twL T2 (n + 3) = x → twL T2 n = kd → NdL V T2 fk fo fw nm n L k) : FiL T0 T2 fk fo fw nm n u k L := by
  subst he; subst hu
  exact ((UnL.new (fk := fk) (fo := fo) (fw := fw) (nm := nm) h hn h7).put hw (by omega) (by omega)).fin hL (fun V _ e => hd V (hw.eq (by omega)) e)
theorem UnL.fin1 (h : UnL T0 T fk fo fw nm n kd u [(twL T (n + 3), 2, L), (x, 2, L)]) (hL : L ≤ 25) : FiL T0 T fk fo fw nm n u 1 L := h.fin hL (fun V hV e => Or.inl ⟨rfl, hV (twL T (n + 3), 2, L) (by simp)⟩)
theorem UnL.fin2 (h : UnL T0 T fk fo fw nm n kd u [(twL T (n + 3), 3, L + 1), (x, 3, L + 1)]) (hL : L ≤ 25) : FiL T0 T fk fo fw nm n u 2 L := h.fin hL (fun V hV e => Or.inr (Or.inl ⟨rfl, hV (twL T (n + 3), 3, L + 1) (by simp)⟩))
theorem UnL.fin10 (h : UnL T0 T fk fo fw nm n kd u [(twL T (n + 3), 11, L), (x, 11, L)]) (hL : L ≤ 25) : FiL T0 T fk fo fw nm n u 10 L := h.fin hL (fun V hV e => Or.inr (Or.inr (Or.inr (Or.inr (Or.inl ⟨rfl, hV (twL T (n + 3), 11, L) (by simp)⟩)))))
theorem UnL.fin11 (h : UnL T0 T fk fo fw nm n kd u [(twL T (n + 3), 12, L), (x, 12, L)]) (hL : L ≤ 25) : FiL T0 T fk fo fw nm n u 11 L := h.fin hL (fun V hV e => Or.inr (Or.inr (Or.inr (Or.inr (Or.inr (Or.inl ⟨rfl, hV (twL T (n + 3), 12, L) (by simp)⟩))))))
theorem nd3 {V : Int → Nat → Nat → Prop} (h : twL T n = 3) : NdL V T fk fo fw nm n L 3 := Or.inr (Or.inr (Or.inl ⟨rfl, Or.inl h⟩))
theorem nd4 {V : Int → Nat → Nat → Prop} (h : twL T n = 4) (h1 : 0 ≤ twL T (n + 3)) (h2 : twL T (n + 3) ≤ 63) : NdL V T fk fo fw nm n L 3 := Or.inr (Or.inr (Or.inl ⟨rfl, Or.inr (Or.inl ⟨h, h1, h2⟩)⟩))
theorem nd6 {V : Int → Nat → Nat → Prop} (h : twL T n = 6) (hv : V (twL T (n + 3)) 3 (L + 1)) : NdL V T fk fo fw nm n L 3 := Or.inr (Or.inr (Or.inl ⟨rfl, Or.inr (Or.inr (Or.inr (Or.inl ⟨h, hv⟩)))⟩))
theorem nd7 {V : Int → Nat → Nat → Prop} (h : twL T n = 7) (hv : V (twL T (n + 3)) 1 (L + 1)) : NdL V T fk fo fw nm n L 3 := Or.inr (Or.inr (Or.inl ⟨rfl, Or.inr (Or.inr (Or.inr (Or.inr (Or.inl ⟨h, hv⟩))))⟩))
theorem nd12 {V : Int → Nat → Nat → Prop} (h : twL T n = 12) (hv : V (twL T (n + 3)) 12 (L + 1)) : NdL V T fk fo fw nm n L 12 := Or.inr (Or.inr (Or.inr (Or.inr (Or.inr (Or.inr (Or.inl ⟨rfl, Or.inl ⟨h, hv⟩⟩))))))
theorem nd13 {V : Int → Nat → Nat → Prop} (h : twL T n = 13) (hv : V (twL T (n + 3)) 10 (L + 1)) : NdL V T fk fo fw nm n L 12 := Or.inr (Or.inr (Or.inr (Or.inr (Or.inr (Or.inr (Or.inl ⟨rfl, Or.inr (Or.inl ⟨h, hv⟩)⟩))))))
theorem nd14 {V : Int → Nat → Nat → Prop} (h : twL T n = 14) (hv : V (twL T (n + 3)) 1 (L + 1)) (hw : V (twL T (n + 4)) 1 (L + 1)) : NdL V T fk fo fw nm n L 12 := Or.inr (Or.inr (Or.inr (Or.inr (Or.inr (Or.inr (Or.inl ⟨rfl, Or.inr (Or.inr ⟨h, hv, hw⟩)⟩))))))
theorem ndw {V : Int → Nat → Nat → Prop} (hv : V (twL T (n + 3)) 1 (L + 1)) (hw : V (twL T (n + 4)) 1 (L + 1)) : NdL V T fk fo fw nm n L 14 := Or.inr (Or.inr (Or.inr (Or.inr (Or.inr (Or.inr (Or.inr ⟨rfl, hv, hw⟩))))))
theorem nd9 {V : Int → Nat → Nat → Prop} (h : StL fk fw nm (twL T (n + 3))) (h1 : 0 ≤ twL T (n + 5)) (h2 : twL T (n + 5) ≤ 63) (h3 : twL T (n + 4) = -1 ∨ (StL fk fw nm (twL T (n + 4)) ∧ twL T (n + 5) ≤ 62)) : NdL V T fk fo fw nm n L 9 := Or.inr (Or.inr (Or.inr (Or.inl ⟨rfl, h, h1, h2, h3⟩)))
theorem nd8 {V : Int → Nat → Nat → Prop} (h : twL T n = 8) (h1 : V (twL T (n + 3)) 9 L) (h2 : twL T (n + 4) = 0 ∨ V (twL T (n + 4)) 10 (L + 1)) (h3 : V (twL T (n + 5)) 3 (L + 1)) : NdL V T fk fo fw nm n L 3 := Or.inr (Or.inr (Or.inl ⟨rfl, Or.inr (Or.inr (Or.inr (Or.inr (Or.inr ⟨h, h1, h2, h3⟩))))⟩))
theorem nd5 {V : Int → Nat → Nat → Prop} (h : twL T n = 5) (h1 : 0 ≤ twL T (n + 3)) (h2 : twL T (n + 3) < nm) (h3 : twL fk (twL T (n + 3)) ≠ 1 ∧ twL fk (twL T (n + 3)) ≠ 5) (h4 : twL fo (twL T (n + 3)) ≠ -1 → V (twL T (n + 4)) 1 (L + 1) ∧ (twL fw (twL T (n + 3)) ≠ -1 → V (twL T (n + 5)) 1 (L + 1))) : NdL V T fk fo fw nm n L 3 := Or.inr (Or.inr (Or.inl ⟨rfl, Or.inr (Or.inr (Or.inl ⟨h, h1, h2, h3, h4⟩))⟩))
end
end
section
section
variable {T T' T0 T1 T2 T3 T4 T5 T6 fk fo fw : Nat → Int32} {nm lo u u' n m x e kd : Int} {L k : Nat} {l : List (Int × Nat × Nat)}
/-- a binding of one name -/
theorem FiL.bd1 {e1 e2 e3 z s : Int} (h : NwL T0 T1 n 9) (hn : 7 ≤ n) (h7 : n % 7 = 0) (hL : L ≤ 25) (h1 : WrL T1 T2 e1 z) (he1 : e1 = n + 5) (h2 : WrL T2 T3 e2 s) (he2 : e2 = n + 3) (h3 : WrL T3 T4 e3 (-1)) (he3 : e3 = n + 4) (hz : 0 ≤ z ∧ z ≤ 63) (hs : StL fk fw nm s) (hu : u = n + 7) : FiL T0 T4 fk fo fw nm n u 9 L := by
  subst he1; subst he2; subst he3; subst hu
  have a := (((UnL.new (fk := fk) (fo := fo) (fw := fw) (nm := nm) h hn h7).put h1 (by omega) (by omega)).put h2 (by omega) (by omega)).put h3 (by omega) (by omega)
  have x3 : twL T4 (n + 3) = s := by rw [h3.ne (by omega) (by omega)]; exact h2.eq (by omega)
  have x5 : twL T4 (n + 5) = z := by rw [h3.ne (by omega) (by omega), h2.ne (by omega) (by omega)]; exact h1.eq (by omega)
  exact a.fin hL (fun V _ _ => nd9 (by rw [x3]; exact hs) (by rw [x5]; exact hz.1) (by rw [x5]; exact hz.2) (Or.inl (h3.eq (by omega))))
theorem FiL.bd2 {e1 e2 e3 e4 z s w : Int} (h : NwL T0 T1 n 9) (hn : 7 ≤ n) (h7 : n % 7 = 0) (hL : L ≤ 25) (h1 : WrL T1 T2 e1 z) (he1 : e1 = n + 5) (h2 : WrL T2 T3 e2 s) (he2 : e2 = n + 3) (h3 : WrL T3 T4 e3 (-1)) (he3 : e3 = n + 4) (h4 : WrL T4 T5 e4 w) (he4 : e4 = n + 4) (hz : 0 ≤ z ∧ z ≤ 62) (hs : StL fk fw nm s) (hw : StL fk fw nm w) (hu : u = n + 7) : FiL T0 T5 fk fo fw nm n u 9 L := by
  subst he1; subst he2; subst he3; subst he4; subst hu
  have a := ((((UnL.new (fk := fk) (fo := fo) (fw := fw) (nm := nm) h hn h7).put h1 (by omega) (by omega)).put h2 (by omega) (by omega)).put h3 (by omega) (by omega)).put h4 (by omega) (by omega)
  have x3 : twL T5 (n + 3) = s := by rw [h4.ne (by omega) (by omega), h3.ne (by omega) (by omega)]; exact h2.eq (by omega)
  have x5 : twL T5 (n + 5) = z := by rw [h4.ne (by omega) (by omega), h3.ne (by omega) (by omega), h2.ne (by omega) (by omega)]; exact h1.eq (by omega)
  have x4 : twL T5 (n + 4) = w := h4.eq (by omega)
  exact a.fin hL (fun V _ _ => nd9 (by rw [x3]; exact hs) (by rw [x5]; exact hz.1) (by rw [x5]; omega) (Or.inr ⟨by rw [x4]; exact hw, by rw [x5]; exact hz.2⟩))
/-- a comparison before it is hung in -/
def CpL (T0 T fk fo fw : Nat → Int32) (nm n u : Int) (L : Nat) : Prop := UnL T0 T fk fo fw nm n 14 u [(twL T (n + 3), 1, L + 1), (twL T (n + 4), 1, L + 1)]
theorem CpL.mk {T7 : Nat → Int32} {m2 e1 e2 e3 x1 x2 x3 : Int} (h : NwL T0 T1 n 14) (hn : 7 ≤ n) (h7 : n % 7 = 0) (hm : m = n + 7) (hf : FiL T1 T2 fk fo fw nm m u 1 (L + 1)) (h1 : WrL T2 T3 e1 x1) (he1 : e1 = n + 3) (hx1 : x1 = m) (h2 : WrL T3 T4 e2 x2) (he2 : e2 = n + 2) (hf2 : FiL T4 T5 fk fo fw nm u u' 1 (L + 1)) (h3 : WrL T5 T6 e3 x3) (he3 : e3 = n + 4) (hx3 : x3 = u) : CpL T0 T6 fk fo fw nm n u' L := by
  subst he1; subst he2; subst he3; subst hm; subst hx1; subst hx3
  have g1 := hf.2.2.2
  have a := ((UnL.new (fk := fk) (fo := fo) (fw := fw) (nm := nm) h hn h7).call hf.1 hf.2.2.1 (by omega)).put h1 (by omega) (by omega)
  have b := ((a.put h2 (by omega) (by omega)).call hf2.1 hf2.2.2.1 (by have := hf2.2.2.2; omega)).put h3 (by omega) (by omega)
  have y3 : twL T6 (n + 3) = n + 7 := by rw [h3.ne (by omega) (by omega), hf2.1 _ (by omega) (by omega) (by omega) (by omega), h2.ne (by omega) (by omega)]; exact h1.eq (by omega)
  have y4 : twL T6 (n + 4) = x3 := h3.eq (by omega)
  unfold CpL
  rw [y3, y4]
  exact b.sub (fun y hy => by simpa using hy)
theorem CpL.fin12 (h : CpL T0 T fk fo fw nm n u L) (hL : L ≤ 25) : FiL T0 T fk fo fw nm n u 12 L := UnL.fin h hL (fun V hV e => nd14 e (hV (twL T (n + 3), 1, L + 1) (by simp)) (hV (twL T (n + 4), 1, L + 1) (by simp)))
theorem CpL.fin14 (h : CpL T0 T fk fo fw nm n u L) (hL : L ≤ 25) : FiL T0 T fk fo fw nm n u 14 L := UnL.fin h hL (fun V hV e => ndw (hV (twL T (n + 3), 1, L + 1) (by simp)) (hV (twL T (n + 4), 1, L + 1) (by simp)))
/-- a sum: its binding stands -/
theorem UnL.sum1 {e1 e2 x1 x2 : Int} (h : NwL T0 T1 n 8) (hn : 7 ≤ n) (h7 : n % 7 = 0) (hm : m = n + 7) (hf : FiL T1 T2 fk fo fw nm m u 9 L) (h1 : WrL T2 T3 e1 x1) (he1 : e1 = m + 1) (h2 : WrL T3 T4 e2 x2) (he2 : e2 = n + 3) (hx2 : x2 = m) : UnL T0 T4 fk fo fw nm n 8 u [(twL T4 (n + 3), 9, L)] ∧ twL T4 (n + 4) = 0 := by
  subst he1; subst he2; subst hm; subst hx2
  have g1 := hf.2.2.2
  have a := (UnL.new (fk := fk) (fo := fo) (fw := fw) (nm := nm) h hn h7).call hf.1 hf.2.2.1 (by omega)
  have b := (a.mark h1 (by omega) (by omega)).put h2 (by omega) (by omega)
  rw [h2.eq (by omega)]
  refine ⟨b.sub (fun y hy => by simpa using hy), ?_⟩
  rw [h2.ne (by omega) (by omega), h1.ne (by omega) (by omega), hf.1 _ (by omega) (by omega) (by omega) (by omega)]
  exact h.2.2.2.1
/-- a sum: its truth stands, or there is none -/
def SmL (T0 T fk fo fw : Nat → Int32) (nm n u : Int) (L : Nat) : Prop := (UnL T0 T fk fo fw nm n 8 u [(twL T (n + 3), 9, L)] ∧ twL T (n + 4) = 0) ∨ UnL T0 T fk fo fw nm n 8 u [(twL T (n + 3), 9, L), (twL T (n + 4), 10, L + 1)]
theorem SmL.truth {e1 x1 : Int} (h : UnL T0 T fk fo fw nm n 8 u [(twL T (n + 3), 9, L)]) (hf : FiL T T1 fk fo fw nm u u' 10 (L + 1)) (h1 : WrL T1 T2 e1 x1) (he1 : e1 = n + 4) (hx1 : x1 = u) : SmL T0 T2 fk fo fw nm n u' L := by
  subst he1; subst hx1
  have r7 := h.2.2.2.2
  have b := (h.call hf.1 hf.2.2.1 (by have := hf.2.2.2; omega)).put h1 (by omega) (by omega)
  have y3 : twL T2 (n + 3) = twL T (n + 3) := by rw [h1.ne (by omega) (by omega), hf.1 _ (by omega) (by omega) (by omega) (by omega)]
  refine Or.inr ?_
  rw [y3, h1.eq (by omega)]
  exact b.sub (fun y hy => by simpa using hy)
theorem SmL.fin {e1 x1 : Int} (h : SmL T0 T fk fo fw nm n u L) (hL : L ≤ 25) (hf : FiL T T1 fk fo fw nm u u' 3 (L + 1)) (h1 : WrL T1 T2 e1 x1) (he1 : e1 = n + 5) (hx1 : x1 = u) : FiL T0 T2 fk fo fw nm n u' 3 L := by
  subst he1; subst hx1
  have y : ∀ d : Int, (d = 3 ∨ d = 4) → n + 7 ≤ x1 → n % 7 = 0 → 7 ≤ n → twL T2 (n + d) = twL T (n + d) := fun d hd a b c => by rw [h1.ne (by omega) (by omega), hf.1 _ (by omega) (by omega) (by omega) (by omega)]
  have hh := hf.2.2.2
  rcases h with ⟨h, h4⟩ | h
  · obtain ⟨ra, rb, rc⟩ := h.2.2.2.2
    have b := (h.call hf.1 hf.2.2.1 (by omega)).put h1 (by omega) (by omega)
    refine b.fin hL (fun V hV e => nd8 e ?_ (Or.inl ?_) ?_)
    · rw [y 3 (by omega) ra rc rb]; exact hV (twL T (n + 3), 9, L) (by simp)
    · rw [y 4 (by omega) ra rc rb]; exact h4
    · rw [h1.eq (by omega)]; exact hV (x1, 3, L + 1) (by simp)
  · obtain ⟨ra, rb, rc⟩ := h.2.2.2.2
    have b := (h.call hf.1 hf.2.2.1 (by omega)).put h1 (by omega) (by omega)
    refine b.fin hL (fun V hV e => nd8 e ?_ (Or.inr ?_) ?_)
    · rw [y 3 (by omega) ra rc rb]; exact hV (twL T (n + 3), 9, L) (by simp)
    · rw [y 4 (by omega) ra rc rb]; exact hV (twL T (n + 4), 10, L + 1) (by simp)
    · rw [h1.eq (by omega)]; exact hV (x1, 3, L + 1) (by simp)
/-- a name: its places -/
def NnL (T0 T fk fo fw : Nat → Int32) (nm n u x : Int) (l : List (Int × Nat × Nat)) : Prop := UnL T0 T fk fo fw nm n 5 u l ∧ twL T (n + 3) = x
theorem NnL.mk {e1 x1 : Int} (h : NwL T0 T1 n 5) (hn : 7 ≤ n) (h7 : n % 7 = 0) (h1 : WrL T1 T2 e1 x1) (he1 : e1 = n + 3) (hu : u = n + 7) : NnL T0 T2 fk fo fw nm n u x1 [] := by
  subst he1; subst hu
  exact ⟨(UnL.new (fk := fk) (fo := fo) (fw := fw) (nm := nm) h hn h7).put h1 (by omega) (by omega), h1.eq (by omega)⟩
theorem NnL.one {e1 x1 : Int} (h : NnL T0 T fk fo fw nm n u x []) (hf : FiL T T1 fk fo fw nm u u' 1 (L + 1)) (h1 : WrL T1 T2 e1 x1) (he1 : e1 = n + 4) (hx1 : x1 = u) : NnL T0 T2 fk fo fw nm n u' x [(twL T2 (n + 4), 1, L + 1)] := by
  subst he1; subst hx1
  obtain ⟨h, hx⟩ := h
  have r7 := h.2.2.2.2
  have b := (h.call hf.1 hf.2.2.1 (by have := hf.2.2.2; omega)).put h1 (by omega) (by omega)
  rw [h1.eq (by omega)]
  exact ⟨b.sub (fun y hy => by simpa using hy), by rw [h1.ne (by omega) (by omega), hf.1 _ (by omega) (by omega) (by omega) (by omega)]; exact hx⟩
theorem NnL.two {e1 x1 : Int} (h : NnL T0 T fk fo fw nm n u x [(twL T (n + 4), 1, L + 1)]) (hf : FiL T T1 fk fo fw nm u u' 1 (L + 1)) (h1 : WrL T1 T2 e1 x1) (he1 : e1 = n + 5) (hx1 : x1 = u) : NnL T0 T2 fk fo fw nm n u' x [(twL T2 (n + 4), 1, L + 1), (twL T2 (n + 5), 1, L + 1)] := by
  subst he1; subst hx1
  obtain ⟨h, hx⟩ := h
  have r7 := h.2.2.2.2
  have b := (h.call hf.1 hf.2.2.1 (by have := hf.2.2.2; omega)).put h1 (by omega) (by omega)
  have y4 : twL T2 (n + 4) = twL T (n + 4) := by rw [h1.ne (by omega) (by omega), hf.1 _ (by omega) (by omega) (by omega) (by omega)]
  rw [h1.eq (by omega), y4]
  exact ⟨b.sub (fun y hy => by simpa using hy), by rw [h1.ne (by omega) (by omega), hf.1 _ (by omega) (by omega) (by omega) (by omega)]; exact hx⟩
theorem NnL.fin (h : NnL T0 T fk fo fw nm n u x l) (hL : L ≤ 25) (hx : 0 ≤ x ∧ x < nm) (hk : twL fk x ≠ 1 ∧ twL fk x ≠ 5) (hl : twL fo x ≠ -1 → (twL T (n + 4), 1, L + 1) ∈ l ∧ (twL fw x ≠ -1 → (twL T (n + 5), 1, L + 1) ∈ l)) : FiL T0 T fk fo fw nm n u 3 L := by
  obtain ⟨h, rfl⟩ := h
  exact h.fin hL (fun V hV e => nd5 e hx.1 hx.2 hk (fun h9 => ⟨hV _ (hl h9).1, fun h8 => hV _ ((hl h9).2 h8)⟩))
end
theorem ChE.st {T T' T2 fk fo fw : Nat → Int32} {nm lo u u' h x f i : Int} (hc : ChE T fk fo fw nm lo u h x i.toNat) (hlo : 0 ≤ lo) (hlu : lo ≤ u) (hf : FiL T T' fk fo fw nm u u' 1 1) (hw : LkL T' T2 x f) (hfu : f = u) (hi : 0 ≤ i) : ChE T2 fk fo fw nm lo u' h f (i + 1).toNat := by
  subst hfu
  rw [show (i + 1).toNat = i.toNat + 1 by omega]
  exact hc.step hlo hlu hf.1 hf.2.2.1 (by have := hf.2.2.2; omega) hf.2.1 hw
def lbL (b : Int) (k L : Nat) : List (Int × Nat × Nat) := if b = 0 then [] else [(b, k, L)]
/-- a row as far as it is read -/
def RwBc (T fk fo fw : Nat → Int32) (nm lo u b t : Int) : Prop := TrE T fk fo fw nm lo u (lbL b 9 0 ++ lbL t 10 1) ∧ lo ≤ u ∧ 7 ≤ lo
def RwE (T fk fo fw : Nat → Int32) (nm lo u b t h x : Int) : Prop := TrE T fk fo fw nm lo u ((lbL b 9 0 ++ lbL t 10 1) ++ [(h, 14, 0), (x, 14, 0)]) ∧ lo ≤ u ∧ 7 ≤ lo
section
variable {T T1 T2 fk fo fw : Nat → Int32} {nm lo u u' b t h x r : Int}
theorem lbL.mem {b : Int} {k L : Nat} (hb : b ≠ 0) : lbL b k L = [(b, k, L)] := if_neg hb
theorem RwBc.nil (hu : lo ≤ u) (h7 : 7 ≤ lo) (hb : b = 0) (ht : t = 0) : RwBc T fk fo fw nm lo u b t := by subst hb; subst ht; exact ⟨TrE.nil, hu, h7⟩
theorem RwBc.mb (hf : FiL T T1 fk fo fw nm lo u 9 0) (h7 : 7 ≤ lo) (hr : r = lo) (ht : t = 0) : RwBc T1 fk fo fw nm lo u r t := by
  subst ht; subst hr
  exact ⟨by rw [lbL.mem (by omega)]; exact hf.2.2.1, by have := hf.2.2.2; omega, h7⟩
theorem RwBc.mt (hb : RwBc T fk fo fw nm lo u b 0) (hf : FiL T T1 fk fo fw nm u u' 10 1) (hr : r = u) : RwBc T1 fk fo fw nm lo u' b r := by
  subst hr
  have g := hf.2.2.2
  refine ⟨?_, by have := hb.2.1; omega, hb.2.2⟩
  rw [lbL.mem (b := r) (by have := hb.2; omega)]
  exact (hb.1.cat hf.1 hf.2.2.1 hb.2.1 (by omega)).sub (fun y hy => by simpa [lbL] using hy)
theorem RwBc.mh (hb : RwBc T fk fo fw nm lo u b t) (hf : FiL T T1 fk fo fw nm u u' 14 0) (hr : r = u) : RwE T1 fk fo fw nm lo u' b t r r := by
  subst hr
  have g := hf.2.2.2
  refine ⟨?_, by have := hb.2.1; omega, hb.2.2⟩
  refine (hb.1.cat hf.1 hf.2.2.1 hb.2.1 (by omega)).sub (fun y hy => ?_)
  rcases List.mem_append.mp hy with h9 | h9
  · exact List.mem_append_left _ h9
  · refine List.mem_append_right _ ?_
    simpa using h9
theorem RwE.step (hb : RwE T fk fo fw nm lo u b t h x) (hf : FiL T T1 fk fo fw nm u u' 14 0) (hw : LkL T1 T2 x r) (hr : r = u) : RwE T2 fk fo fw nm lo u' b t h r := by
  subst hr
  have g := hf.2.2.2
  refine ⟨?_, by have := hb.2.1; omega, hb.2.2⟩
  have a := (hb.1.cat hf.1 hf.2.2.1 hb.2.1 (by omega)).lnk (x := x) (f := r) (k := 14) (L := 0) (List.mem_append_left _ (List.mem_append_right _ (by simp))) (List.mem_append_right _ (by simp)) hw
  refine a.sub (fun y hy => ?_)
  rcases List.mem_append.mp hy with h9 | h9
  · exact List.mem_append_left _ (List.mem_append_left _ h9)
  · rcases List.mem_cons.mp h9 with h8 | h8
    · rw [h8]; exact List.mem_append_left _ (List.mem_append_right _ (by simp))
    · rw [List.mem_singleton.mp h8]; exact List.mem_append_right _ (by simp)
theorem RwE.use (hb : RwE T fk fo fw nm lo u b t h x) : ∃ V : Int → Nat → Nat → Prop, TrL V T fk fo fw nm lo u ∧ (b = 0 ∨ V b 9 0) ∧ (t = 0 ∨ V t 10 1) ∧ V h 14 0 := by
  obtain ⟨⟨V, a, _, c⟩, _, _⟩ := hb
  refine ⟨V, a, ?_, ?_, c (h, 14, 0) (List.mem_append_right _ (by simp))⟩
  · by_cases h9 : b = 0
    · exact Or.inl h9
    · exact Or.inr (c (b, 9, 0) (List.mem_append_left _ (List.mem_append_left _ (by rw [lbL.mem h9]; simp))))
  · by_cases h9 : t = 0
    · exact Or.inl h9
    · exact Or.inr (c (t, 10, 1) (List.mem_append_left _ (List.mem_append_right _ (by rw [lbL.mem h9]; simp))))
theorem RwE.rg (hb : RwE T fk fo fw nm lo u b t h x) : 7 ≤ x ∧ x + 7 ≤ u ∧ x % 7 = 0 := by
  have := hb.1.rg (x := x) (k := 14) (L := 0) (List.mem_append_right _ (by simp))
  omega
theorem two_lin (hf : FiL T T1 fk fo fw nm lo u 1 1) (h2 : FiL T1 T2 fk fo fw nm u u' 1 1) : ∃ V : Int → Nat → Nat → Prop, TrL V T2 fk fo fw nm lo u' ∧ V lo 1 1 ∧ V u 1 1 := by
  have g := hf.2.2.2
  have g2 := h2.2.2.2
  obtain ⟨V, a, _, c⟩ := hf.2.2.1.cat h2.1 h2.2.2.1 (by omega) (by omega)
  exact ⟨V, a, c (lo, 1, 1) (by simp), c (u, 1, 1) (by simp)⟩
theorem one_lin (hf : FiL T T1 fk fo fw nm lo u 1 1) : ∃ V : Int → Nat → Nat → Prop, TrL V T1 fk fo fw nm lo u ∧ V lo 1 1 := by
  obtain ⟨V, a, _, c⟩ := hf.2.2.1
  exact ⟨V, a, c (lo, 1, 1) (by simp)⟩
end
theorem NnL.finA {T0 T fk fo fw : Nat → Int32} {nm n u x : Int} {L : Nat} (h : (NnL T0 T fk fo fw nm n u x [(twL T (n + 4), 1, L + 1)] ∧ twL fw x = -1) ∨ NnL T0 T fk fo fw nm n u x [(twL T (n + 4), 1, L + 1), (twL T (n + 5), 1, L + 1)]) (hL : L ≤ 25) (hx : 0 ≤ x ∧ x < nm) (hk : twL fk x ≠ 1 ∧ twL fk x ≠ 5) : FiL T0 T fk fo fw nm n u 3 L := by
  rcases h with ⟨h1, h2⟩ | h1
  · exact h1.fin hL hx hk (fun _ => ⟨by simp, fun h8 => absurd h2 h8⟩)
  · exact h1.fin hL hx hk (fun _ => ⟨by simp, fun _ => by simp⟩)
end

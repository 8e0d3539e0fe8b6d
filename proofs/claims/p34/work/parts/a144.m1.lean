theorem hd_yX1_needKind_RX1 : yX1_needKind.cls = RX1 ∧ yX1_needKind.cls ≠ "java/lang/invoke/MethodHandle" ∧ yX1_needKind.cls ≠ "java/lang/invoke/VarHandle" ∧ (parseMethodDescriptor yX1_needKind.desc).map (fun d => d.parameters.length) = some 1 := by decide +kernel
theorem hd_yX1_needOf_RX1 : yX1_needOf.cls = RX1 ∧ yX1_needOf.cls ≠ "java/lang/invoke/MethodHandle" ∧ yX1_needOf.cls ≠ "java/lang/invoke/VarHandle" ∧ (parseMethodDescriptor yX1_needOf.desc).map (fun d => d.parameters.length) = some 1 := by decide +kernel
theorem hd_yX1_sign_RX1 : yX1_sign.cls = RX1 ∧ yX1_sign.cls ≠ "java/lang/invoke/MethodHandle" ∧ yX1_sign.cls ≠ "java/lang/invoke/VarHandle" ∧ (parseMethodDescriptor yX1_sign.desc).map (fun d => d.parameters.length) = some 2 := by decide +kernel
theorem hd_yX1_number_RX1 : yX1_number.cls = RX1 ∧ yX1_number.cls ≠ "java/lang/invoke/MethodHandle" ∧ yX1_number.cls ≠ "java/lang/invoke/VarHandle" ∧ (parseMethodDescriptor yX1_number.desc).map (fun d => d.parameters.length) = some 3 := by decide +kernel
theorem hd_yX1_isTurned_RX1 : yX1_isTurned.cls = RX1 ∧ yX1_isTurned.cls ≠ "java/lang/invoke/MethodHandle" ∧ yX1_isTurned.cls ≠ "java/lang/invoke/VarHandle" ∧ (parseMethodDescriptor yX1_isTurned.desc).map (fun d => d.parameters.length) = some 1 := by decide +kernel
theorem hd_yX1_rightSide_RX1 : yX1_rightSide.cls = RX1 ∧ yX1_rightSide.cls ≠ "java/lang/invoke/MethodHandle" ∧ yX1_rightSide.cls ≠ "java/lang/invoke/VarHandle" ∧ (parseMethodDescriptor yX1_rightSide.desc).map (fun d => d.parameters.length) = some 2 := by decide +kernel
def WM (hM : Nat → Nat) (aM : Nat → Nat) (kM : Nat → ClassId) (iM_stands : Int32) (iM_variables : Int32) (iM_rows : Int32) (iM_goals : Int32) (iM_differents : Int32) (iM_cases : Int32) (fM_from : Nat → Int32) (fM_to : Nat → Int32) (fM_whole : Nat → Int32) (fM_ways : Nat → Int32) (iM_plainRows : Int32) (fM_plainRow : Nat → Int32) (fM_kept : Nat → Int32) (fM_goalOver : Nat → Int32) (fM_goalUnder : Nat → Int32) (fM_goalMax : Nat → Int32) (fM_different : Nat → Int32) : va_W := [(hM 0, .inr (1, [.int iM_stands, .int iM_variables, .int iM_rows, .int iM_goals, .int iM_differents, .int iM_cases, .ref (aM 0), .ref (aM 1), .ref (aM 2), .ref (aM 3), .int iM_plainRows, .ref (aM 4), .ref (aM 5), .ref (aM 6), .ref (aM 7), .ref (aM 8), .ref (aM 9)])), (aM 0, .inl (kM 0, 8, .inl fM_from)), (aM 1, .inl (kM 1, 8, .inl fM_to)), (aM 2, .inl (kM 2, 8, .inl fM_whole)), (aM 3, .inl (kM 3, 12, .inl fM_ways)), (aM 4, .inl (kM 4, 12, .inl fM_plainRow)), (aM 5, .inl (kM 5, 360, .inl fM_kept)), (aM 6, .inl (kM 6, 27, .inl fM_goalOver)), (aM 7, .inl (kM 7, 27, .inl fM_goalUnder)), (aM 8, .inl (kM 8, 3, .inl fM_goalMax)), (aM 9, .inl (kM 9, 8, .inl fM_different))]
def tM (kM : Nat → ClassId) : List (ClassId × FieldType) := [(kM 0, .int), (kM 1, .int), (kM 2, .boolean), (kM 3, .int), (kM 4, .int), (kM 5, .int), (kM 6, .int), (kM 7, .int), (kM 8, .boolean), (kM 9, .int)]
theorem dX1_empty_0 : decode cX1_empty 0 = .ok (.aload_n 0, 1) := dk_42 (by decide +kernel)
theorem dX1_empty_1 : decode cX1_empty 1 = .ok (.iconst 0, 1) := dk_3 (by decide +kernel)
theorem dX1_empty_2 : decode cX1_empty 2 = .ok (.putfield 41, 3) := dk_181 (by decide +kernel)
theorem dX1_empty_5 : decode cX1_empty 5 = .ok (.aload_n 0, 1) := dk_42 (by decide +kernel)
theorem dX1_empty_6 : decode cX1_empty 6 = .ok (.iconst 0, 1) := dk_3 (by decide +kernel)
theorem dX1_empty_7 : decode cX1_empty 7 = .ok (.putfield 45, 3) := dk_181 (by decide +kernel)
theorem dX1_empty_10 : decode cX1_empty 10 = .ok (.aload_n 0, 1) := dk_42 (by decide +kernel)
theorem dX1_empty_11 : decode cX1_empty 11 = .ok (.iconst 0, 1) := dk_3 (by decide +kernel)
theorem dX1_empty_12 : decode cX1_empty 12 = .ok (.putfield 49, 3) := dk_181 (by decide +kernel)
theorem dX1_empty_15 : decode cX1_empty 15 = .ok (.aload_n 0, 1) := dk_42 (by decide +kernel)
theorem dX1_empty_16 : decode cX1_empty 16 = .ok (.iconst 0, 1) := dk_3 (by decide +kernel)
theorem dX1_empty_17 : decode cX1_empty 17 = .ok (.putfield 52, 3) := dk_181 (by decide +kernel)
theorem dX1_empty_20 : decode cX1_empty 20 = .ok (.aload_n 0, 1) := dk_42 (by decide +kernel)
theorem dX1_empty_21 : decode cX1_empty 21 = .ok (.iconst 0, 1) := dk_3 (by decide +kernel)
theorem dX1_empty_22 : decode cX1_empty 22 = .ok (.putfield 55, 3) := dk_181 (by decide +kernel)
theorem dX1_empty_25 : decode cX1_empty 25 = .ok (.aload_n 0, 1) := dk_42 (by decide +kernel)
theorem dX1_empty_26 : decode cX1_empty 26 = .ok (.iconst 0, 1) := dk_3 (by decide +kernel)
theorem dX1_empty_27 : decode cX1_empty 27 = .ok (.putfield 58, 3) := dk_181 (by decide +kernel)
theorem dX1_empty_30 : decode cX1_empty 30 = .ok (.aload_n 0, 1) := dk_42 (by decide +kernel)
theorem dX1_empty_31 : decode cX1_empty 31 = .ok (.iconst 1, 1) := dk_4 (by decide +kernel)
theorem dX1_empty_32 : decode cX1_empty 32 = .ok (.putfield 61, 3) := dk_181 (by decide +kernel)
theorem dX1_empty_35 : decode cX1_empty 35 = .ok (.return_, 1) := dk_177 (by decide +kernel)
def wsMX1_empty : List Cond := .code yX1_empty cX1_empty 1 none :: ([.fieldLink RX1 41 "OptimaWorks$Model" "stands" "Z", .fieldLink RX1 45 "OptimaWorks$Model" "variables" "I", .fieldLink RX1 49 "OptimaWorks$Model" "rows" "I", .fieldLink RX1 52 "OptimaWorks$Model" "plainRows" "I", .fieldLink RX1 55 "OptimaWorks$Model" "goals" "I", .fieldLink RX1 58 "OptimaWorks$Model" "differents" "I", .fieldLink RX1 61 "OptimaWorks$Model" "cases" "I"] ++ wsX10)
theorem iwsMX1_empty_in1 : ∀ w ∈ wsX10, w ∈ wsMX1_empty := fun _ h => List.mem_cons_of_mem _ (List.mem_append_right _ h)
theorem gdwsMX1_empty : wsMX1_empty.all goodWord = true := gdC rfl (gdA (by decide +kernel : ([.fieldLink RX1 41 "OptimaWorks$Model" "stands" "Z", .fieldLink RX1 45 "OptimaWorks$Model" "variables" "I", .fieldLink RX1 49 "OptimaWorks$Model" "rows" "I", .fieldLink RX1 52 "OptimaWorks$Model" "plainRows" "I", .fieldLink RX1 55 "OptimaWorks$Model" "goals" "I", .fieldLink RX1 58 "OptimaWorks$Model" "differents" "I", .fieldLink RX1 61 "OptimaWorks$Model" "cases" "I"] : List Cond).all goodWord = true) gdwsX10)
set_option maxHeartbeats 4000000 in
set_option maxRecDepth 100000 in
/-- nothing -/
theorem m_X1_empty (l : Launch) (dC : Nat → ClassId) (dI : Nat → Nat → Nat) (hM : Nat → Nat) (aM : Nat → Nat) (kM : Nat → ClassId) (iM_stands : Int32) (iM_variables : Int32) (iM_rows : Int32) (iM_goals : Int32) (iM_differents : Int32) (iM_cases : Int32) (fM_from : Nat → Int32) (fM_to : Nat → Int32) (fM_whole : Nat → Int32) (fM_ways : Nat → Int32) (iM_plainRows : Int32) (fM_plainRow : Nat → Int32) (fM_kept : Nat → Int32) (fM_goalOver : Nat → Int32) (fM_goalUnder : Nat → Int32) (fM_goalMax : Nat → Int32) (fM_different : Nat → Int32) (b_iM_stands : 0 ≤ iM_stands.toInt ∧ iM_stands.toInt ≤ 1) (b_iM_variables : 0 ≤ iM_variables.toInt ∧ iM_variables.toInt ≤ 8) (b_iM_rows : 0 ≤ iM_rows.toInt ∧ iM_rows.toInt ≤ 12) (b_iM_goals : 0 ≤ iM_goals.toInt ∧ iM_goals.toInt ≤ 3) (b_iM_differents : 0 ≤ iM_differents.toInt ∧ iM_differents.toInt ≤ 8) (b_iM_cases : 0 ≤ iM_cases.toInt ∧ iM_cases.toInt ≤ 200000) (b_fM_ways : ∀ q : Nat, 0 ≤ (fM_ways q).toInt ∧ (fM_ways q).toInt ≤ 3) (b_iM_plainRows : 0 ≤ iM_plainRows.toInt ∧ iM_plainRows.toInt ≤ 12) (b_fM_plainRow : ∀ q : Nat, 0 ≤ (fM_plainRow q).toInt ∧ (fM_plainRow q).toInt ≤ 11) (b_pr : iM_plainRows.toInt ≤ iM_rows.toInt) (sz : Nat) : Met l yX1_empty wsMX1_empty ({ frames := 0, cells := 0, slots := 0, locals := 0 }) (va_Pc [.ref (hM 0)] (fun U => U.heap.size = sz ∧ va_P (dC, dI) vwCl (WM hM aM kM iM_stands iM_variables iM_rows iM_goals iM_differents iM_cases fM_from fM_to fM_whole fM_ways iM_plainRows fM_plainRow fM_kept fM_goalOver fM_goalUnder fM_goalMax fM_different) U.heap ∧ va_K (dC, dI) vwCl (tM kM) U ∧ va_D (fun _ => True) (WM hM aM kM iM_stands iM_variables iM_rows iM_goals iM_differents iM_cases fM_from fM_to fM_whole fM_ways iM_plainRows fM_plainRow fM_kept fM_goalOver fM_goalUnder fM_goalMax fM_different))) (va_Qv (fun (u : (Int32) × (Int32) × (Int32) × (Int32) × (Int32) × (Int32) × (Int32)) => (0 ≤ (u.1).toInt ∧ (u.1).toInt ≤ 1) ∧ (0 ≤ (u.2.1).toInt ∧ (u.2.1).toInt ≤ 8) ∧ (0 ≤ (u.2.2.1).toInt ∧ (u.2.2.1).toInt ≤ 12) ∧ (0 ≤ (u.2.2.2.1).toInt ∧ (u.2.2.2.1).toInt ≤ 3) ∧ (0 ≤ (u.2.2.2.2.1).toInt ∧ (u.2.2.2.2.1).toInt ≤ 8) ∧ (0 ≤ (u.2.2.2.2.2.1).toInt ∧ (u.2.2.2.2.2.1).toInt ≤ 200000) ∧ (0 ≤ (u.2.2.2.2.2.2).toInt ∧ (u.2.2.2.2.2.2).toInt ≤ 12) ∧ ((u.2.2.2.2.2.2).toInt ≤ (u.2.2.1).toInt) ∧ ((u.2.2.2.2.2.1).toInt ≤ 64)) (fun (u : (Int32) × (Int32) × (Int32) × (Int32) × (Int32) × (Int32) × (Int32)) t => va_P (dC, dI) vwCl (WM hM aM kM (u.1) (u.2.1) (u.2.2.1) (u.2.2.2.1) (u.2.2.2.2.1) (u.2.2.2.2.2.1) fM_from fM_to fM_whole fM_ways (u.2.2.2.2.2.2) fM_plainRow fM_kept fM_goalOver fM_goalUnder fM_goalMax fM_different) t.heap ∧ va_D (va_A (WM hM aM kM iM_stands iM_variables iM_rows iM_goals iM_differents iM_cases fM_from fM_to fM_whole fM_ways iM_plainRows fM_plainRow fM_kept fM_goalOver fM_goalUnder fM_goalMax fM_different) sz) (WM hM aM kM (u.1) (u.2.1) (u.2.2.1) (u.2.2.2.1) (u.2.2.2.2.1) (u.2.2.2.2.2.1) fM_from fM_to fM_whole fM_ways (u.2.2.2.2.2.2) fM_plainRow fM_kept fM_goalOver fM_goalUnder fM_goalMax fM_different)) (va_A (WM hM aM kM iM_stands iM_variables iM_rows iM_goals iM_differents iM_cases fM_from fM_to fM_whole fM_ways iM_plainRows fM_plainRow fM_kept fM_goalOver fM_goalUnder fM_goalMax fM_different) sz)) 0 0 (va_A (WM hM aM kM iM_stands iM_variables iM_rows iM_goals iM_differents iM_cases fM_from fM_to fM_whole fM_ways iM_plainRows fM_plainRow fM_kept fM_goalOver fM_goalUnder fM_goalMax fM_different) sz) := by
  refine Met.ofW (cc := cX1_empty) (maxL := 1) (ret := none) (by decide) rfl ?_
  intro p e s m args below meth c s₁ B hml hv
  obtain ⟨rfl, hsz, hP, hK, hD0⟩ := hv
  have hx := B.exec
  have hb := B.bytes
  have hr := B.returns
  have hts := atoms_spec (ws := wsMX1_empty) B.pre
  have hown : s.vm.findClass RX1 = some m.cls := findClass_of_methodNamed B.named
  have hlocks := B.notSynchronized
  subst hsz
  have hD := hD0.self (sz := s.heap.size)
  generalize hAe : va_A (WM hM aM kM iM_stands iM_variables iM_rows iM_goals iM_differents iM_cases fM_from fM_to fM_whole fM_ways iM_plainRows fM_plainRow fM_kept fM_goalOver fM_goalUnder fM_goalMax fM_different) s.heap.size = A at hD ⊢
  have hA : ∀ q : Nat, s.heap.size ≤ q → A q := fun q h => by rw [← hAe]; exact Or.inr h
  have hS : va_S A s.heap s.heap [] := va_S.rf
  have hl := lv_entry ([.ref (hM 0)]) (n := 1) (Nat.le_of_ble_eq_true rfl)
  rw [lg_entry_eq]
  generalize (lg_sl ([.ref (hM 0)]) ++ List.replicate (1 - (lg_sl ([.ref (hM 0)])).length) Slot.unset).toArray = ls at hl ⊢
  have hl : lv_has ls 1 [(0, .ref (hM 0))] := hl
  refine lv_aload_n hx hb dX1_empty_0 rfl (lv_at hl 0 rfl) ?_
  refine lv_iconst (v := 0) hx hb dX1_empty_1 (by decide) ?_
  refine va_put (D := (dC, dI)) (ci := 1) (v := .int 0) (ty := .boolean) (C := RX1) (T := TX1) (N := 17) hx hb hts iwsMX1_empty_in1 tyX1 tyX1_ok nmX1 hown hK hP hD hS 0 rfl rfl 0 (by decide) (hts (.fieldLink RX1 41 "OptimaWorks$Model" "stands" "Z") (by decide +kernel)) (fun _ h9 => h9) rfl (by decide +kernel) rfl rfl (Nat.le_of_ble_eq_true rfl) dX1_empty_2 (fun H locs hP hD hS => ?_)
  have hP : va_P (dC, dI) vwCl (WM hM aM kM 0 iM_variables iM_rows iM_goals iM_differents iM_cases fM_from fM_to fM_whole fM_ways iM_plainRows fM_plainRow fM_kept fM_goalOver fM_goalUnder fM_goalMax fM_different) H := hP
  have hD : va_D A (WM hM aM kM 0 iM_variables iM_rows iM_goals iM_differents iM_cases fM_from fM_to fM_whole fM_ways iM_plainRows fM_plainRow fM_kept fM_goalOver fM_goalUnder fM_goalMax fM_different) := hD
  refine lv_aload_n hx hb dX1_empty_5 rfl (lv_at hl 0 rfl) ?_
  refine lv_iconst (v := 0) hx hb dX1_empty_6 (by decide) ?_
  refine va_put (D := (dC, dI)) (ci := 1) (v := .int 0) (ty := .int) (C := RX1) (T := TX1) (N := 17) hx hb hts iwsMX1_empty_in1 tyX1 tyX1_ok nmX1 hown hK hP hD hS 0 rfl rfl 1 (by decide) (hts (.fieldLink RX1 45 "OptimaWorks$Model" "variables" "I") (by decide +kernel)) (fun _ h9 => h9) rfl (by decide +kernel) rfl rfl (Nat.le_of_ble_eq_true rfl) dX1_empty_7 (fun H locs hP hD hS => ?_)
  have hP : va_P (dC, dI) vwCl (WM hM aM kM 0 0 iM_rows iM_goals iM_differents iM_cases fM_from fM_to fM_whole fM_ways iM_plainRows fM_plainRow fM_kept fM_goalOver fM_goalUnder fM_goalMax fM_different) H := hP
  have hD : va_D A (WM hM aM kM 0 0 iM_rows iM_goals iM_differents iM_cases fM_from fM_to fM_whole fM_ways iM_plainRows fM_plainRow fM_kept fM_goalOver fM_goalUnder fM_goalMax fM_different) := hD
  refine lv_aload_n hx hb dX1_empty_10 rfl (lv_at hl 0 rfl) ?_
  refine lv_iconst (v := 0) hx hb dX1_empty_11 (by decide) ?_
  refine va_put (D := (dC, dI)) (ci := 1) (v := .int 0) (ty := .int) (C := RX1) (T := TX1) (N := 17) hx hb hts iwsMX1_empty_in1 tyX1 tyX1_ok nmX1 hown hK hP hD hS 0 rfl rfl 2 (by decide) (hts (.fieldLink RX1 49 "OptimaWorks$Model" "rows" "I") (by decide +kernel)) (fun _ h9 => h9) rfl (by decide +kernel) rfl rfl (Nat.le_of_ble_eq_true rfl) dX1_empty_12 (fun H locs hP hD hS => ?_)
  have hP : va_P (dC, dI) vwCl (WM hM aM kM 0 0 0 iM_goals iM_differents iM_cases fM_from fM_to fM_whole fM_ways iM_plainRows fM_plainRow fM_kept fM_goalOver fM_goalUnder fM_goalMax fM_different) H := hP
  have hD : va_D A (WM hM aM kM 0 0 0 iM_goals iM_differents iM_cases fM_from fM_to fM_whole fM_ways iM_plainRows fM_plainRow fM_kept fM_goalOver fM_goalUnder fM_goalMax fM_different) := hD
  refine lv_aload_n hx hb dX1_empty_15 rfl (lv_at hl 0 rfl) ?_
  refine lv_iconst (v := 0) hx hb dX1_empty_16 (by decide) ?_
  refine va_put (D := (dC, dI)) (ci := 1) (v := .int 0) (ty := .int) (C := RX1) (T := TX1) (N := 17) hx hb hts iwsMX1_empty_in1 tyX1 tyX1_ok nmX1 hown hK hP hD hS 0 rfl rfl 10 (by decide) (hts (.fieldLink RX1 52 "OptimaWorks$Model" "plainRows" "I") (by decide +kernel)) (fun _ h9 => h9) rfl (by decide +kernel) rfl rfl (Nat.le_of_ble_eq_true rfl) dX1_empty_17 (fun H locs hP hD hS => ?_)
  have hP : va_P (dC, dI) vwCl (WM hM aM kM 0 0 0 iM_goals iM_differents iM_cases fM_from fM_to fM_whole fM_ways 0 fM_plainRow fM_kept fM_goalOver fM_goalUnder fM_goalMax fM_different) H := hP
  have hD : va_D A (WM hM aM kM 0 0 0 iM_goals iM_differents iM_cases fM_from fM_to fM_whole fM_ways 0 fM_plainRow fM_kept fM_goalOver fM_goalUnder fM_goalMax fM_different) := hD
  refine lv_aload_n hx hb dX1_empty_20 rfl (lv_at hl 0 rfl) ?_
  refine lv_iconst (v := 0) hx hb dX1_empty_21 (by decide) ?_
  refine va_put (D := (dC, dI)) (ci := 1) (v := .int 0) (ty := .int) (C := RX1) (T := TX1) (N := 17) hx hb hts iwsMX1_empty_in1 tyX1 tyX1_ok nmX1 hown hK hP hD hS 0 rfl rfl 3 (by decide) (hts (.fieldLink RX1 55 "OptimaWorks$Model" "goals" "I") (by decide +kernel)) (fun _ h9 => h9) rfl (by decide +kernel) rfl rfl (Nat.le_of_ble_eq_true rfl) dX1_empty_22 (fun H locs hP hD hS => ?_)
  have hP : va_P (dC, dI) vwCl (WM hM aM kM 0 0 0 0 iM_differents iM_cases fM_from fM_to fM_whole fM_ways 0 fM_plainRow fM_kept fM_goalOver fM_goalUnder fM_goalMax fM_different) H := hP
  have hD : va_D A (WM hM aM kM 0 0 0 0 iM_differents iM_cases fM_from fM_to fM_whole fM_ways 0 fM_plainRow fM_kept fM_goalOver fM_goalUnder fM_goalMax fM_different) := hD
  refine lv_aload_n hx hb dX1_empty_25 rfl (lv_at hl 0 rfl) ?_
  refine lv_iconst (v := 0) hx hb dX1_empty_26 (by decide) ?_
  refine va_put (D := (dC, dI)) (ci := 1) (v := .int 0) (ty := .int) (C := RX1) (T := TX1) (N := 17) hx hb hts iwsMX1_empty_in1 tyX1 tyX1_ok nmX1 hown hK hP hD hS 0 rfl rfl 4 (by decide) (hts (.fieldLink RX1 58 "OptimaWorks$Model" "differents" "I") (by decide +kernel)) (fun _ h9 => h9) rfl (by decide +kernel) rfl rfl (Nat.le_of_ble_eq_true rfl) dX1_empty_27 (fun H locs hP hD hS => ?_)
  have hP : va_P (dC, dI) vwCl (WM hM aM kM 0 0 0 0 0 iM_cases fM_from fM_to fM_whole fM_ways 0 fM_plainRow fM_kept fM_goalOver fM_goalUnder fM_goalMax fM_different) H := hP
  have hD : va_D A (WM hM aM kM 0 0 0 0 0 iM_cases fM_from fM_to fM_whole fM_ways 0 fM_plainRow fM_kept fM_goalOver fM_goalUnder fM_goalMax fM_different) := hD
  refine lv_aload_n hx hb dX1_empty_30 rfl (lv_at hl 0 rfl) ?_
  refine lv_iconst (v := 1) hx hb dX1_empty_31 (by decide) ?_
  refine va_put (D := (dC, dI)) (ci := 1) (v := .int 1) (ty := .int) (C := RX1) (T := TX1) (N := 17) hx hb hts iwsMX1_empty_in1 tyX1 tyX1_ok nmX1 hown hK hP hD hS 0 rfl rfl 5 (by decide) (hts (.fieldLink RX1 61 "OptimaWorks$Model" "cases" "I") (by decide +kernel)) (fun _ h9 => h9) rfl (by decide +kernel) rfl rfl (Nat.le_of_ble_eq_true rfl) dX1_empty_32 (fun H locs hP hD hS => ?_)
  have hP : va_P (dC, dI) vwCl (WM hM aM kM 0 0 0 0 0 1 fM_from fM_to fM_whole fM_ways 0 fM_plainRow fM_kept fM_goalOver fM_goalUnder fM_goalMax fM_different) H := hP
  have hD : va_D A (WM hM aM kM 0 0 0 0 0 1 fM_from fM_to fM_whole fM_ways 0 fM_plainRow fM_kept fM_goalOver fM_goalUnder fM_goalMax fM_different) := hD
  refine W.widen (k := 0) (n := 0) (by decide +kernel) (by decide +kernel) ?_
  exact W.vret hx hb hr (fun t9_ ht hW => ⟨⟨(0, 0, 0, 0, 0, 1, 0), rfl, ⟨(by (try dsimp only); exact (show 0 ≤ (0 : Int32).toInt ∧ (0 : Int32).toInt ≤ 1 from by decide)), (by (try dsimp only); exact (show 0 ≤ (0 : Int32).toInt ∧ (0 : Int32).toInt ≤ 8 from by decide)), (by (try dsimp only); exact (show 0 ≤ (0 : Int32).toInt ∧ (0 : Int32).toInt ≤ 12 from by decide)), (by (try dsimp only); exact (show 0 ≤ (0 : Int32).toInt ∧ (0 : Int32).toInt ≤ 3 from by decide)), (by (try dsimp only); exact (show 0 ≤ (0 : Int32).toInt ∧ (0 : Int32).toInt ≤ 8 from by decide)), (by (try dsimp only); exact (show 0 ≤ (1 : Int32).toInt ∧ (1 : Int32).toInt ≤ 200000 from by decide)), (by (try dsimp only); exact (show 0 ≤ (0 : Int32).toInt ∧ (0 : Int32).toInt ≤ 12 from by decide)), (by (try dsimp only); exact (by decide)), (by (try dsimp only); decide)⟩, by rw [ht]; exact hP, hD⟩, hS.F ht⟩) hS.2.2 dX1_empty_35
theorem dX1_number_0 : decode cX1_number 0 = .ok (.aload_n 0, 1) := dk_42 (by decide +kernel)
theorem dX1_number_1 : decode cX1_number 1 = .ok (.getfield 26, 3) := dk_180 (by decide +kernel)
theorem dX1_number_4 : decode cX1_number 4 = .ok (.iload_n 1, 1) := dk_27 (by decide +kernel)
theorem dX1_number_5 : decode cX1_number 5 = .ok (.iconst 3, 1) := dk_6 (by decide +kernel)
theorem dX1_number_6 : decode cX1_number 6 = .ok (.imul, 1) := dk_104 (by decide +kernel)
theorem dX1_number_7 : decode cX1_number 7 = .ok (.iload_n 2, 1) := dk_28 (by decide +kernel)
theorem dX1_number_8 : decode cX1_number 8 = .ok (.iadd, 1) := dk_96 (by decide +kernel)
theorem dX1_number_9 : decode cX1_number 9 = .ok (.bipush 10, 2) := dk_16 (by decide +kernel)
theorem dX1_number_11 : decode cX1_number 11 = .ok (.imul, 1) := dk_104 (by decide +kernel)
theorem dX1_number_12 : decode cX1_number 12 = .ok (.iload_n 3, 1) := dk_29 (by decide +kernel)
theorem dX1_number_13 : decode cX1_number 13 = .ok (.iadd, 1) := dk_96 (by decide +kernel)
theorem dX1_number_14 : decode cX1_number 14 = .ok (.iaload, 1) := dk_46 (by decide +kernel)
theorem dX1_number_15 : decode cX1_number 15 = .ok (.ireturn, 1) := dk_172 (by decide +kernel)
def wsMX1_number : List Cond := .code yX1_number cX1_number 4 (some .int) :: ([.fieldLink RX1 26 "OptimaWorks$Model" "kept" "[I"] ++ wsX10)
theorem iwsMX1_number_in1 : ∀ w ∈ wsX10, w ∈ wsMX1_number := fun _ h => List.mem_cons_of_mem _ (List.mem_append_right _ h)
theorem gdwsMX1_number : wsMX1_number.all goodWord = true := gdC rfl (gdA (by decide +kernel : ([.fieldLink RX1 26 "OptimaWorks$Model" "kept" "[I"] : List Cond).all goodWord = true) gdwsX10)
set_option maxHeartbeats 4000000 in
set_option maxRecDepth 100000 in
/-- a number of a way -/
theorem m_X1_number (l : Launch) (dC : Nat → ClassId) (dI : Nat → Nat → Nat) (hM : Nat → Nat) (aM : Nat → Nat) (kM : Nat → ClassId) (iM_stands : Int32) (iM_variables : Int32) (iM_rows : Int32) (iM_goals : Int32) (iM_differents : Int32) (iM_cases : Int32) (fM_from : Nat → Int32) (fM_to : Nat → Int32) (fM_whole : Nat → Int32) (fM_ways : Nat → Int32) (iM_plainRows : Int32) (fM_plainRow : Nat → Int32) (fM_kept : Nat → Int32) (fM_goalOver : Nat → Int32) (fM_goalUnder : Nat → Int32) (fM_goalMax : Nat → Int32) (fM_different : Nat → Int32) (p1 : Int32) (p2 : Int32) (p3 : Int32) (b_iM_stands : 0 ≤ iM_stands.toInt ∧ iM_stands.toInt ≤ 1) (b_iM_variables : 0 ≤ iM_variables.toInt ∧ iM_variables.toInt ≤ 8) (b_iM_rows : 0 ≤ iM_rows.toInt ∧ iM_rows.toInt ≤ 12) (b_iM_goals : 0 ≤ iM_goals.toInt ∧ iM_goals.toInt ≤ 3) (b_iM_differents : 0 ≤ iM_differents.toInt ∧ iM_differents.toInt ≤ 8) (b_iM_cases : 0 ≤ iM_cases.toInt ∧ iM_cases.toInt ≤ 200000) (b_fM_ways : ∀ q : Nat, 0 ≤ (fM_ways q).toInt ∧ (fM_ways q).toInt ≤ 3) (b_iM_plainRows : 0 ≤ iM_plainRows.toInt ∧ iM_plainRows.toInt ≤ 12) (b_fM_plainRow : ∀ q : Nat, 0 ≤ (fM_plainRow q).toInt ∧ (fM_plainRow q).toInt ≤ 11) (b_pr : iM_plainRows.toInt ≤ iM_rows.toInt) (b_p1 : 0 ≤ p1.toInt ∧ p1.toInt ≤ 11) (b_p2 : 0 ≤ p2.toInt ∧ p2.toInt ≤ 2) (b_p3 : 0 ≤ p3.toInt ∧ p3.toInt ≤ 8) (sz : Nat) : Met l yX1_number wsMX1_number ({ frames := 0, cells := 0, slots := 0, locals := 0 }) (va_Pc [.ref (hM 0), .int p1, .int p2, .int p3] (fun U => U.heap.size = sz ∧ va_P (dC, dI) vwCl (WM hM aM kM iM_stands iM_variables iM_rows iM_goals iM_differents iM_cases fM_from fM_to fM_whole fM_ways iM_plainRows fM_plainRow fM_kept fM_goalOver fM_goalUnder fM_goalMax fM_different) U.heap ∧ va_K (dC, dI) vwCl (tM kM) U ∧ va_D (fun _ => True) (WM hM aM kM iM_stands iM_variables iM_rows iM_goals iM_differents iM_cases fM_from fM_to fM_whole fM_ways iM_plainRows fM_plainRow fM_kept fM_goalOver fM_goalUnder fM_goalMax fM_different))) (va_Qi (fun (r : Int32) (u : Unit) => True) (fun (u : Unit) t => va_P (dC, dI) vwCl (WM hM aM kM iM_stands iM_variables iM_rows iM_goals iM_differents iM_cases fM_from fM_to fM_whole fM_ways iM_plainRows fM_plainRow fM_kept fM_goalOver fM_goalUnder fM_goalMax fM_different) t.heap ∧ va_D (va_A (WM hM aM kM iM_stands iM_variables iM_rows iM_goals iM_differents iM_cases fM_from fM_to fM_whole fM_ways iM_plainRows fM_plainRow fM_kept fM_goalOver fM_goalUnder fM_goalMax fM_different) sz) (WM hM aM kM iM_stands iM_variables iM_rows iM_goals iM_differents iM_cases fM_from fM_to fM_whole fM_ways iM_plainRows fM_plainRow fM_kept fM_goalOver fM_goalUnder fM_goalMax fM_different)) (va_A (WM hM aM kM iM_stands iM_variables iM_rows iM_goals iM_differents iM_cases fM_from fM_to fM_whole fM_ways iM_plainRows fM_plainRow fM_kept fM_goalOver fM_goalUnder fM_goalMax fM_different) sz)) 0 0 (va_A (WM hM aM kM iM_stands iM_variables iM_rows iM_goals iM_differents iM_cases fM_from fM_to fM_whole fM_ways iM_plainRows fM_plainRow fM_kept fM_goalOver fM_goalUnder fM_goalMax fM_different) sz) := by
  refine Met.ofW (cc := cX1_number) (maxL := 4) (ret := (some .int)) (by decide) rfl ?_
  intro p e s m args below meth c s₁ B hml hv
  obtain ⟨rfl, hsz, hP, hK, hD0⟩ := hv
  have hx := B.exec
  have hb := B.bytes
  have hr := B.returns
  have hts := atoms_spec (ws := wsMX1_number) B.pre
  have hown : s.vm.findClass RX1 = some m.cls := findClass_of_methodNamed B.named
  have hlocks := B.notSynchronized
  subst hsz
  have hD := hD0.self (sz := s.heap.size)
  generalize hAe : va_A (WM hM aM kM iM_stands iM_variables iM_rows iM_goals iM_differents iM_cases fM_from fM_to fM_whole fM_ways iM_plainRows fM_plainRow fM_kept fM_goalOver fM_goalUnder fM_goalMax fM_different) s.heap.size = A at hD ⊢
  have hA : ∀ q : Nat, s.heap.size ≤ q → A q := fun q h => by rw [← hAe]; exact Or.inr h
  have hS : va_S A s.heap s.heap [] := va_S.rf
  have hl := lv_entry ([.ref (hM 0), .int p1, .int p2, .int p3]) (n := 4) (Nat.le_of_ble_eq_true rfl)
  rw [lg_entry_eq]
  generalize (lg_sl ([.ref (hM 0), .int p1, .int p2, .int p3]) ++ List.replicate (4 - (lg_sl ([.ref (hM 0), .int p1, .int p2, .int p3])).length) Slot.unset).toArray = ls at hl ⊢
  have hl : lv_has ls 4 [(0, .ref (hM 0)), (1, .int p1), (2, .int p2), (3, .int p3)] := hl
  refine lv_aload_n hx hb dX1_number_0 rfl (lv_at hl 0 rfl) ?_
  refine va_get (D := (dC, dI)) (ci := 1) (v := .ref (aM 5)) (C := RX1) (T := TX1) (N := 17) hx hb hts iwsMX1_number_in1 hown hK hP 0 rfl rfl 12 (by decide) (hts (.fieldLink RX1 26 "OptimaWorks$Model" "kept" "[I") (by decide +kernel)) (fun _ h9 => h9) rfl dX1_number_1 ?_
  refine lv_iload_n hx hb dX1_number_4 rfl (lv_at hl 1 rfl) ?_
  refine lv_iconst (v := 3) hx hb dX1_number_5 (by decide) ?_
  refine lv_imul hx hb dX1_number_6 ?_
  refine lv_topi (fun y1 hy1 => ?_)
  obtain rfl : (iI (p1.toInt * 3)) = y1 := (hy1.trans (iI_mul2 (iI_of _) (by decide : (3 : Int32) = iI 3))).symm
  refine lv_iload_n hx hb dX1_number_7 rfl (lv_at hl 2 rfl) ?_
  refine lv_iadd hx hb dX1_number_8 ?_
  refine lv_topi (fun y2 hy2 => ?_)
  obtain rfl : (iI ((p1.toInt * 3) + p2.toInt)) = y2 := (hy2.trans (iI_add2 rfl (iI_of _))).symm
  refine lv_bipush (v := 10) hx hb dX1_number_9 (by decide) ?_
  refine lv_imul hx hb dX1_number_11 ?_
  refine lv_topi (fun y3 hy3 => ?_)
  obtain rfl : (iI (((p1.toInt * 3) + p2.toInt) * 10)) = y3 := (hy3.trans (iI_mul2 rfl (by decide : (10 : Int32) = iI 10))).symm
  refine lv_iload_n hx hb dX1_number_12 rfl (lv_at hl 3 rfl) ?_
  refine lv_iadd hx hb dX1_number_13 ?_
  refine lv_topi (fun y4 hy4 => ?_)
  obtain rfl : (iI ((((p1.toInt * 3) + p2.toInt) * 10) + p3.toInt)) = y4 := (hy4.trans (iI_add2 rfl (iI_of _))).symm
  refine va_iald (cA := kM 5) (n := 360) (f := fM_kept) hx hb hK hP 6 5 rfl rfl (vp_iI (Int.le_trans (by decide) (Int.add_le_add (Int.mul_le_mul_of_nonneg_right (Int.add_le_add (Int.mul_le_mul_of_nonneg_right (b_p1.1) (by decide)) (b_p2.1)) (by decide)) (b_p3.1))) (Int.lt_of_le_of_lt (Int.add_le_add (Int.mul_le_mul_of_nonneg_right (Int.add_le_add (Int.mul_le_mul_of_nonneg_right (b_p1.2) (by decide)) (b_p2.2)) (by decide)) (b_p3.2)) (by decide)) (by decide)) dX1_number_14 ?_
  refine lv_topi (fun v5 hv5 => ?_)
  clear hv5
  refine W.widen (k := 0) (n := 0) (by decide +kernel) (by decide +kernel) ?_
  exact W.iret (v := v5) hx hb hr (fun t9_ ht hW => ⟨⟨v5, (), rfl, trivial, by rw [ht]; exact hP, hD⟩, hS.F ht⟩) hS.2.2 dX1_number_15
theorem dX1_rightSide_0 : decode cX1_rightSide 0 = .ok (.aload_n 0, 1) := dk_42 (by decide +kernel)
theorem dX1_rightSide_1 : decode cX1_rightSide 1 = .ok (.getfield 26, 3) := dk_180 (by decide +kernel)
theorem dX1_rightSide_4 : decode cX1_rightSide 4 = .ok (.iload_n 1, 1) := dk_27 (by decide +kernel)
theorem dX1_rightSide_5 : decode cX1_rightSide 5 = .ok (.iconst 3, 1) := dk_6 (by decide +kernel)
theorem dX1_rightSide_6 : decode cX1_rightSide 6 = .ok (.imul, 1) := dk_104 (by decide +kernel)
theorem dX1_rightSide_7 : decode cX1_rightSide 7 = .ok (.iload_n 2, 1) := dk_28 (by decide +kernel)
theorem dX1_rightSide_8 : decode cX1_rightSide 8 = .ok (.iadd, 1) := dk_96 (by decide +kernel)
theorem dX1_rightSide_9 : decode cX1_rightSide 9 = .ok (.bipush 10, 2) := dk_16 (by decide +kernel)
theorem dX1_rightSide_11 : decode cX1_rightSide 11 = .ok (.imul, 1) := dk_104 (by decide +kernel)
theorem dX1_rightSide_12 : decode cX1_rightSide 12 = .ok (.bipush 8, 2) := dk_16 (by decide +kernel)
theorem dX1_rightSide_14 : decode cX1_rightSide 14 = .ok (.iadd, 1) := dk_96 (by decide +kernel)
theorem dX1_rightSide_15 : decode cX1_rightSide 15 = .ok (.iaload, 1) := dk_46 (by decide +kernel)
theorem dX1_rightSide_16 : decode cX1_rightSide 16 = .ok (.ireturn, 1) := dk_172 (by decide +kernel)
def wsMX1_rightSide : List Cond := .code yX1_rightSide cX1_rightSide 3 (some .int) :: ([.fieldLink RX1 26 "OptimaWorks$Model" "kept" "[I"] ++ wsX10)
theorem iwsMX1_rightSide_in1 : ∀ w ∈ wsX10, w ∈ wsMX1_rightSide := fun _ h => List.mem_cons_of_mem _ (List.mem_append_right _ h)
theorem gdwsMX1_rightSide : wsMX1_rightSide.all goodWord = true := gdC rfl (gdA (by decide +kernel : ([.fieldLink RX1 26 "OptimaWorks$Model" "kept" "[I"] : List Cond).all goodWord = true) gdwsX10)
set_option maxHeartbeats 4000000 in
set_option maxRecDepth 100000 in
/-- the right side -/
theorem m_X1_rightSide (l : Launch) (dC : Nat → ClassId) (dI : Nat → Nat → Nat) (hM : Nat → Nat) (aM : Nat → Nat) (kM : Nat → ClassId) (iM_stands : Int32) (iM_variables : Int32) (iM_rows : Int32) (iM_goals : Int32) (iM_differents : Int32) (iM_cases : Int32) (fM_from : Nat → Int32) (fM_to : Nat → Int32) (fM_whole : Nat → Int32) (fM_ways : Nat → Int32) (iM_plainRows : Int32) (fM_plainRow : Nat → Int32) (fM_kept : Nat → Int32) (fM_goalOver : Nat → Int32) (fM_goalUnder : Nat → Int32) (fM_goalMax : Nat → Int32) (fM_different : Nat → Int32) (p1 : Int32) (p2 : Int32) (b_iM_stands : 0 ≤ iM_stands.toInt ∧ iM_stands.toInt ≤ 1) (b_iM_variables : 0 ≤ iM_variables.toInt ∧ iM_variables.toInt ≤ 8) (b_iM_rows : 0 ≤ iM_rows.toInt ∧ iM_rows.toInt ≤ 12) (b_iM_goals : 0 ≤ iM_goals.toInt ∧ iM_goals.toInt ≤ 3) (b_iM_differents : 0 ≤ iM_differents.toInt ∧ iM_differents.toInt ≤ 8) (b_iM_cases : 0 ≤ iM_cases.toInt ∧ iM_cases.toInt ≤ 200000) (b_fM_ways : ∀ q : Nat, 0 ≤ (fM_ways q).toInt ∧ (fM_ways q).toInt ≤ 3) (b_iM_plainRows : 0 ≤ iM_plainRows.toInt ∧ iM_plainRows.toInt ≤ 12) (b_fM_plainRow : ∀ q : Nat, 0 ≤ (fM_plainRow q).toInt ∧ (fM_plainRow q).toInt ≤ 11) (b_pr : iM_plainRows.toInt ≤ iM_rows.toInt) (b_p1 : 0 ≤ p1.toInt ∧ p1.toInt ≤ 11) (b_p2 : 0 ≤ p2.toInt ∧ p2.toInt ≤ 2) (sz : Nat) : Met l yX1_rightSide wsMX1_rightSide ({ frames := 0, cells := 0, slots := 0, locals := 0 }) (va_Pc [.ref (hM 0), .int p1, .int p2] (fun U => U.heap.size = sz ∧ va_P (dC, dI) vwCl (WM hM aM kM iM_stands iM_variables iM_rows iM_goals iM_differents iM_cases fM_from fM_to fM_whole fM_ways iM_plainRows fM_plainRow fM_kept fM_goalOver fM_goalUnder fM_goalMax fM_different) U.heap ∧ va_K (dC, dI) vwCl (tM kM) U ∧ va_D (fun _ => True) (WM hM aM kM iM_stands iM_variables iM_rows iM_goals iM_differents iM_cases fM_from fM_to fM_whole fM_ways iM_plainRows fM_plainRow fM_kept fM_goalOver fM_goalUnder fM_goalMax fM_different))) (va_Qi (fun (r : Int32) (u : Unit) => True) (fun (u : Unit) t => va_P (dC, dI) vwCl (WM hM aM kM iM_stands iM_variables iM_rows iM_goals iM_differents iM_cases fM_from fM_to fM_whole fM_ways iM_plainRows fM_plainRow fM_kept fM_goalOver fM_goalUnder fM_goalMax fM_different) t.heap ∧ va_D (va_A (WM hM aM kM iM_stands iM_variables iM_rows iM_goals iM_differents iM_cases fM_from fM_to fM_whole fM_ways iM_plainRows fM_plainRow fM_kept fM_goalOver fM_goalUnder fM_goalMax fM_different) sz) (WM hM aM kM iM_stands iM_variables iM_rows iM_goals iM_differents iM_cases fM_from fM_to fM_whole fM_ways iM_plainRows fM_plainRow fM_kept fM_goalOver fM_goalUnder fM_goalMax fM_different)) (va_A (WM hM aM kM iM_stands iM_variables iM_rows iM_goals iM_differents iM_cases fM_from fM_to fM_whole fM_ways iM_plainRows fM_plainRow fM_kept fM_goalOver fM_goalUnder fM_goalMax fM_different) sz)) 0 0 (va_A (WM hM aM kM iM_stands iM_variables iM_rows iM_goals iM_differents iM_cases fM_from fM_to fM_whole fM_ways iM_plainRows fM_plainRow fM_kept fM_goalOver fM_goalUnder fM_goalMax fM_different) sz) := by
  refine Met.ofW (cc := cX1_rightSide) (maxL := 3) (ret := (some .int)) (by decide) rfl ?_
  intro p e s m args below meth c s₁ B hml hv
  obtain ⟨rfl, hsz, hP, hK, hD0⟩ := hv
  have hx := B.exec
  have hb := B.bytes
  have hr := B.returns
  have hts := atoms_spec (ws := wsMX1_rightSide) B.pre
  have hown : s.vm.findClass RX1 = some m.cls := findClass_of_methodNamed B.named
  have hlocks := B.notSynchronized
  subst hsz
  have hD := hD0.self (sz := s.heap.size)
  generalize hAe : va_A (WM hM aM kM iM_stands iM_variables iM_rows iM_goals iM_differents iM_cases fM_from fM_to fM_whole fM_ways iM_plainRows fM_plainRow fM_kept fM_goalOver fM_goalUnder fM_goalMax fM_different) s.heap.size = A at hD ⊢
  have hA : ∀ q : Nat, s.heap.size ≤ q → A q := fun q h => by rw [← hAe]; exact Or.inr h
  have hS : va_S A s.heap s.heap [] := va_S.rf
  have hl := lv_entry ([.ref (hM 0), .int p1, .int p2]) (n := 3) (Nat.le_of_ble_eq_true rfl)
  rw [lg_entry_eq]
  generalize (lg_sl ([.ref (hM 0), .int p1, .int p2]) ++ List.replicate (3 - (lg_sl ([.ref (hM 0), .int p1, .int p2])).length) Slot.unset).toArray = ls at hl ⊢
  have hl : lv_has ls 3 [(0, .ref (hM 0)), (1, .int p1), (2, .int p2)] := hl
  refine lv_aload_n hx hb dX1_rightSide_0 rfl (lv_at hl 0 rfl) ?_
  refine va_get (D := (dC, dI)) (ci := 1) (v := .ref (aM 5)) (C := RX1) (T := TX1) (N := 17) hx hb hts iwsMX1_rightSide_in1 hown hK hP 0 rfl rfl 12 (by decide) (hts (.fieldLink RX1 26 "OptimaWorks$Model" "kept" "[I") (by decide +kernel)) (fun _ h9 => h9) rfl dX1_rightSide_1 ?_
  refine lv_iload_n hx hb dX1_rightSide_4 rfl (lv_at hl 1 rfl) ?_
  refine lv_iconst (v := 3) hx hb dX1_rightSide_5 (by decide) ?_
  refine lv_imul hx hb dX1_rightSide_6 ?_
  refine lv_topi (fun y1 hy1 => ?_)
  obtain rfl : (iI (p1.toInt * 3)) = y1 := (hy1.trans (iI_mul2 (iI_of _) (by decide : (3 : Int32) = iI 3))).symm
  refine lv_iload_n hx hb dX1_rightSide_7 rfl (lv_at hl 2 rfl) ?_
  refine lv_iadd hx hb dX1_rightSide_8 ?_
  refine lv_topi (fun y2 hy2 => ?_)
  obtain rfl : (iI ((p1.toInt * 3) + p2.toInt)) = y2 := (hy2.trans (iI_add2 rfl (iI_of _))).symm
  refine lv_bipush (v := 10) hx hb dX1_rightSide_9 (by decide) ?_
  refine lv_imul hx hb dX1_rightSide_11 ?_
  refine lv_topi (fun y3 hy3 => ?_)
  obtain rfl : (iI (((p1.toInt * 3) + p2.toInt) * 10)) = y3 := (hy3.trans (iI_mul2 rfl (by decide : (10 : Int32) = iI 10))).symm
  refine lv_bipush (v := 8) hx hb dX1_rightSide_12 (by decide) ?_
  refine lv_iadd hx hb dX1_rightSide_14 ?_
  refine lv_topi (fun y4 hy4 => ?_)
  obtain rfl : (iI ((((p1.toInt * 3) + p2.toInt) * 10) + 8)) = y4 := (hy4.trans (iI_add2 rfl (by decide : (8 : Int32) = iI 8))).symm
  refine va_iald (cA := kM 5) (n := 360) (f := fM_kept) hx hb hK hP 6 5 rfl rfl (vp_iI (Int.le_trans (by decide) (Int.add_le_add (Int.mul_le_mul_of_nonneg_right (Int.add_le_add (Int.mul_le_mul_of_nonneg_right (b_p1.1) (by decide)) (b_p2.1)) (by decide)) (Int.le_refl _))) (Int.lt_of_le_of_lt (Int.add_le_add (Int.mul_le_mul_of_nonneg_right (Int.add_le_add (Int.mul_le_mul_of_nonneg_right (b_p1.2) (by decide)) (b_p2.2)) (by decide)) (Int.le_refl _)) (by decide)) (by decide)) dX1_rightSide_15 ?_
  refine lv_topi (fun v5 hv5 => ?_)
  clear hv5
  refine W.widen (k := 0) (n := 0) (by decide +kernel) (by decide +kernel) ?_
  exact W.iret (v := v5) hx hb hr (fun t9_ ht hW => ⟨⟨v5, (), rfl, trivial, by rw [ht]; exact hP, hD⟩, hS.F ht⟩) hS.2.2 dX1_rightSide_16
theorem dX1_sign_0 : decode cX1_sign 0 = .ok (.aload_n 0, 1) := dk_42 (by decide +kernel)
theorem dX1_sign_1 : decode cX1_sign 1 = .ok (.getfield 26, 3) := dk_180 (by decide +kernel)
theorem dX1_sign_4 : decode cX1_sign 4 = .ok (.iload_n 1, 1) := dk_27 (by decide +kernel)
theorem dX1_sign_5 : decode cX1_sign 5 = .ok (.iconst 3, 1) := dk_6 (by decide +kernel)
theorem dX1_sign_6 : decode cX1_sign 6 = .ok (.imul, 1) := dk_104 (by decide +kernel)
theorem dX1_sign_7 : decode cX1_sign 7 = .ok (.iload_n 2, 1) := dk_28 (by decide +kernel)
theorem dX1_sign_8 : decode cX1_sign 8 = .ok (.iadd, 1) := dk_96 (by decide +kernel)
theorem dX1_sign_9 : decode cX1_sign 9 = .ok (.bipush 10, 2) := dk_16 (by decide +kernel)
theorem dX1_sign_11 : decode cX1_sign 11 = .ok (.imul, 1) := dk_104 (by decide +kernel)
theorem dX1_sign_12 : decode cX1_sign 12 = .ok (.bipush 9, 2) := dk_16 (by decide +kernel)
theorem dX1_sign_14 : decode cX1_sign 14 = .ok (.iadd, 1) := dk_96 (by decide +kernel)
theorem dX1_sign_15 : decode cX1_sign 15 = .ok (.iaload, 1) := dk_46 (by decide +kernel)
theorem dX1_sign_16 : decode cX1_sign 16 = .ok (.ireturn, 1) := dk_172 (by decide +kernel)
def wsMX1_sign : List Cond := .code yX1_sign cX1_sign 3 (some .int) :: ([.fieldLink RX1 26 "OptimaWorks$Model" "kept" "[I"] ++ wsX10)
theorem iwsMX1_sign_in1 : ∀ w ∈ wsX10, w ∈ wsMX1_sign := fun _ h => List.mem_cons_of_mem _ (List.mem_append_right _ h)
theorem gdwsMX1_sign : wsMX1_sign.all goodWord = true := gdC rfl (gdA (by decide +kernel : ([.fieldLink RX1 26 "OptimaWorks$Model" "kept" "[I"] : List Cond).all goodWord = true) gdwsX10)
set_option maxHeartbeats 4000000 in
set_option maxRecDepth 100000 in
/-- the sign -/
theorem m_X1_sign (l : Launch) (dC : Nat → ClassId) (dI : Nat → Nat → Nat) (hM : Nat → Nat) (aM : Nat → Nat) (kM : Nat → ClassId) (iM_stands : Int32) (iM_variables : Int32) (iM_rows : Int32) (iM_goals : Int32) (iM_differents : Int32) (iM_cases : Int32) (fM_from : Nat → Int32) (fM_to : Nat → Int32) (fM_whole : Nat → Int32) (fM_ways : Nat → Int32) (iM_plainRows : Int32) (fM_plainRow : Nat → Int32) (fM_kept : Nat → Int32) (fM_goalOver : Nat → Int32) (fM_goalUnder : Nat → Int32) (fM_goalMax : Nat → Int32) (fM_different : Nat → Int32) (p1 : Int32) (p2 : Int32) (b_iM_stands : 0 ≤ iM_stands.toInt ∧ iM_stands.toInt ≤ 1) (b_iM_variables : 0 ≤ iM_variables.toInt ∧ iM_variables.toInt ≤ 8) (b_iM_rows : 0 ≤ iM_rows.toInt ∧ iM_rows.toInt ≤ 12) (b_iM_goals : 0 ≤ iM_goals.toInt ∧ iM_goals.toInt ≤ 3) (b_iM_differents : 0 ≤ iM_differents.toInt ∧ iM_differents.toInt ≤ 8) (b_iM_cases : 0 ≤ iM_cases.toInt ∧ iM_cases.toInt ≤ 200000) (b_fM_ways : ∀ q : Nat, 0 ≤ (fM_ways q).toInt ∧ (fM_ways q).toInt ≤ 3) (b_iM_plainRows : 0 ≤ iM_plainRows.toInt ∧ iM_plainRows.toInt ≤ 12) (b_fM_plainRow : ∀ q : Nat, 0 ≤ (fM_plainRow q).toInt ∧ (fM_plainRow q).toInt ≤ 11) (b_pr : iM_plainRows.toInt ≤ iM_rows.toInt) (b_p1 : 0 ≤ p1.toInt ∧ p1.toInt ≤ 11) (b_p2 : 0 ≤ p2.toInt ∧ p2.toInt ≤ 2) (sz : Nat) : Met l yX1_sign wsMX1_sign ({ frames := 0, cells := 0, slots := 0, locals := 0 }) (va_Pc [.ref (hM 0), .int p1, .int p2] (fun U => U.heap.size = sz ∧ va_P (dC, dI) vwCl (WM hM aM kM iM_stands iM_variables iM_rows iM_goals iM_differents iM_cases fM_from fM_to fM_whole fM_ways iM_plainRows fM_plainRow fM_kept fM_goalOver fM_goalUnder fM_goalMax fM_different) U.heap ∧ va_K (dC, dI) vwCl (tM kM) U ∧ va_D (fun _ => True) (WM hM aM kM iM_stands iM_variables iM_rows iM_goals iM_differents iM_cases fM_from fM_to fM_whole fM_ways iM_plainRows fM_plainRow fM_kept fM_goalOver fM_goalUnder fM_goalMax fM_different))) (va_Qi (fun (r : Int32) (u : Unit) => True) (fun (u : Unit) t => va_P (dC, dI) vwCl (WM hM aM kM iM_stands iM_variables iM_rows iM_goals iM_differents iM_cases fM_from fM_to fM_whole fM_ways iM_plainRows fM_plainRow fM_kept fM_goalOver fM_goalUnder fM_goalMax fM_different) t.heap ∧ va_D (va_A (WM hM aM kM iM_stands iM_variables iM_rows iM_goals iM_differents iM_cases fM_from fM_to fM_whole fM_ways iM_plainRows fM_plainRow fM_kept fM_goalOver fM_goalUnder fM_goalMax fM_different) sz) (WM hM aM kM iM_stands iM_variables iM_rows iM_goals iM_differents iM_cases fM_from fM_to fM_whole fM_ways iM_plainRows fM_plainRow fM_kept fM_goalOver fM_goalUnder fM_goalMax fM_different)) (va_A (WM hM aM kM iM_stands iM_variables iM_rows iM_goals iM_differents iM_cases fM_from fM_to fM_whole fM_ways iM_plainRows fM_plainRow fM_kept fM_goalOver fM_goalUnder fM_goalMax fM_different) sz)) 0 0 (va_A (WM hM aM kM iM_stands iM_variables iM_rows iM_goals iM_differents iM_cases fM_from fM_to fM_whole fM_ways iM_plainRows fM_plainRow fM_kept fM_goalOver fM_goalUnder fM_goalMax fM_different) sz) := by
  refine Met.ofW (cc := cX1_sign) (maxL := 3) (ret := (some .int)) (by decide) rfl ?_
  intro p e s m args below meth c s₁ B hml hv
  obtain ⟨rfl, hsz, hP, hK, hD0⟩ := hv
  have hx := B.exec
  have hb := B.bytes
  have hr := B.returns
  have hts := atoms_spec (ws := wsMX1_sign) B.pre
  have hown : s.vm.findClass RX1 = some m.cls := findClass_of_methodNamed B.named
  have hlocks := B.notSynchronized
  subst hsz
  have hD := hD0.self (sz := s.heap.size)
  generalize hAe : va_A (WM hM aM kM iM_stands iM_variables iM_rows iM_goals iM_differents iM_cases fM_from fM_to fM_whole fM_ways iM_plainRows fM_plainRow fM_kept fM_goalOver fM_goalUnder fM_goalMax fM_different) s.heap.size = A at hD ⊢
  have hA : ∀ q : Nat, s.heap.size ≤ q → A q := fun q h => by rw [← hAe]; exact Or.inr h
  have hS : va_S A s.heap s.heap [] := va_S.rf
  have hl := lv_entry ([.ref (hM 0), .int p1, .int p2]) (n := 3) (Nat.le_of_ble_eq_true rfl)
  rw [lg_entry_eq]
  generalize (lg_sl ([.ref (hM 0), .int p1, .int p2]) ++ List.replicate (3 - (lg_sl ([.ref (hM 0), .int p1, .int p2])).length) Slot.unset).toArray = ls at hl ⊢
  have hl : lv_has ls 3 [(0, .ref (hM 0)), (1, .int p1), (2, .int p2)] := hl
  refine lv_aload_n hx hb dX1_sign_0 rfl (lv_at hl 0 rfl) ?_
  refine va_get (D := (dC, dI)) (ci := 1) (v := .ref (aM 5)) (C := RX1) (T := TX1) (N := 17) hx hb hts iwsMX1_sign_in1 hown hK hP 0 rfl rfl 12 (by decide) (hts (.fieldLink RX1 26 "OptimaWorks$Model" "kept" "[I") (by decide +kernel)) (fun _ h9 => h9) rfl dX1_sign_1 ?_
  refine lv_iload_n hx hb dX1_sign_4 rfl (lv_at hl 1 rfl) ?_
  refine lv_iconst (v := 3) hx hb dX1_sign_5 (by decide) ?_
  refine lv_imul hx hb dX1_sign_6 ?_
  refine lv_topi (fun y1 hy1 => ?_)
  obtain rfl : (iI (p1.toInt * 3)) = y1 := (hy1.trans (iI_mul2 (iI_of _) (by decide : (3 : Int32) = iI 3))).symm
  refine lv_iload_n hx hb dX1_sign_7 rfl (lv_at hl 2 rfl) ?_
  refine lv_iadd hx hb dX1_sign_8 ?_
  refine lv_topi (fun y2 hy2 => ?_)
  obtain rfl : (iI ((p1.toInt * 3) + p2.toInt)) = y2 := (hy2.trans (iI_add2 rfl (iI_of _))).symm
  refine lv_bipush (v := 10) hx hb dX1_sign_9 (by decide) ?_
  refine lv_imul hx hb dX1_sign_11 ?_
  refine lv_topi (fun y3 hy3 => ?_)
  obtain rfl : (iI (((p1.toInt * 3) + p2.toInt) * 10)) = y3 := (hy3.trans (iI_mul2 rfl (by decide : (10 : Int32) = iI 10))).symm
  refine lv_bipush (v := 9) hx hb dX1_sign_12 (by decide) ?_
  refine lv_iadd hx hb dX1_sign_14 ?_
  refine lv_topi (fun y4 hy4 => ?_)
  obtain rfl : (iI ((((p1.toInt * 3) + p2.toInt) * 10) + 9)) = y4 := (hy4.trans (iI_add2 rfl (by decide : (9 : Int32) = iI 9))).symm
  refine va_iald (cA := kM 5) (n := 360) (f := fM_kept) hx hb hK hP 6 5 rfl rfl (vp_iI (Int.le_trans (by decide) (Int.add_le_add (Int.mul_le_mul_of_nonneg_right (Int.add_le_add (Int.mul_le_mul_of_nonneg_right (b_p1.1) (by decide)) (b_p2.1)) (by decide)) (Int.le_refl _))) (Int.lt_of_le_of_lt (Int.add_le_add (Int.mul_le_mul_of_nonneg_right (Int.add_le_add (Int.mul_le_mul_of_nonneg_right (b_p1.2) (by decide)) (b_p2.2)) (by decide)) (Int.le_refl _)) (by decide)) (by decide)) dX1_sign_15 ?_
  refine lv_topi (fun v5 hv5 => ?_)
  clear hv5
  refine W.widen (k := 0) (n := 0) (by decide +kernel) (by decide +kernel) ?_
  exact W.iret (v := v5) hx hb hr (fun t9_ ht hW => ⟨⟨v5, (), rfl, trivial, by rw [ht]; exact hP, hD⟩, hS.F ht⟩) hS.2.2 dX1_sign_16
theorem dX1_clearWay_0 : decode cX1_clearWay 0 = .ok (.iload_n 1, 1) := dk_27 (by decide +kernel)
theorem dX1_clearWay_1 : decode cX1_clearWay 1 = .ok (.iconst 3, 1) := dk_6 (by decide +kernel)
theorem dX1_clearWay_2 : decode cX1_clearWay 2 = .ok (.imul, 1) := dk_104 (by decide +kernel)
theorem dX1_clearWay_3 : decode cX1_clearWay 3 = .ok (.iload_n 2, 1) := dk_28 (by decide +kernel)
theorem dX1_clearWay_4 : decode cX1_clearWay 4 = .ok (.iadd, 1) := dk_96 (by decide +kernel)
theorem dX1_clearWay_5 : decode cX1_clearWay 5 = .ok (.bipush 10, 2) := dk_16 (by decide +kernel)
theorem dX1_clearWay_7 : decode cX1_clearWay 7 = .ok (.imul, 1) := dk_104 (by decide +kernel)
theorem dX1_clearWay_8 : decode cX1_clearWay 8 = .ok (.istore_n 3, 1) := dk_62 (by decide +kernel)
theorem dX1_clearWay_9 : decode cX1_clearWay 9 = .ok (.iload_n 3, 1) := dk_29 (by decide +kernel)
theorem dX1_clearWay_10 : decode cX1_clearWay 10 = .ok (.istore 4, 2) := dk_54 (by decide +kernel)
theorem dX1_clearWay_12 : decode cX1_clearWay 12 = .ok (.iload 4, 2) := dk_21 (by decide +kernel)
theorem dX1_clearWay_14 : decode cX1_clearWay 14 = .ok (.iload_n 3, 1) := dk_29 (by decide +kernel)
theorem dX1_clearWay_15 : decode cX1_clearWay 15 = .ok (.bipush 10, 2) := dk_16 (by decide +kernel)
theorem dX1_clearWay_17 : decode cX1_clearWay 17 = .ok (.iadd, 1) := dk_96 (by decide +kernel)
theorem dX1_clearWay_18 : decode cX1_clearWay 18 = .ok (.if_icmp .ge 17, 3) := dk_162 (by decide +kernel)
theorem dX1_clearWay_21 : decode cX1_clearWay 21 = .ok (.aload_n 0, 1) := dk_42 (by decide +kernel)
theorem dX1_clearWay_22 : decode cX1_clearWay 22 = .ok (.getfield 26, 3) := dk_180 (by decide +kernel)
theorem dX1_clearWay_25 : decode cX1_clearWay 25 = .ok (.iload 4, 2) := dk_21 (by decide +kernel)
theorem dX1_clearWay_27 : decode cX1_clearWay 27 = .ok (.iconst 0, 1) := dk_3 (by decide +kernel)
theorem dX1_clearWay_28 : decode cX1_clearWay 28 = .ok (.iastore, 1) := dk_79 (by decide +kernel)
theorem dX1_clearWay_29 : decode cX1_clearWay 29 = .ok (.iinc 4 1, 3) := dk_132 (by decide +kernel)
theorem dX1_clearWay_32 : decode cX1_clearWay 32 = .ok (.goto (-20), 3) := dk_167 (by decide +kernel)
theorem dX1_clearWay_35 : decode cX1_clearWay 35 = .ok (.return_, 1) := dk_177 (by decide +kernel)
def wsMX1_clearWay : List Cond := .code yX1_clearWay cX1_clearWay 5 none :: ([.fieldLink RX1 26 "OptimaWorks$Model" "kept" "[I"] ++ wsX10)
theorem iwsMX1_clearWay_in1 : ∀ w ∈ wsX10, w ∈ wsMX1_clearWay := fun _ h => List.mem_cons_of_mem _ (List.mem_append_right _ h)
theorem gdwsMX1_clearWay : wsMX1_clearWay.all goodWord = true := gdC rfl (gdA (by decide +kernel : ([.fieldLink RX1 26 "OptimaWorks$Model" "kept" "[I"] : List Cond).all goodWord = true) gdwsX10)
set_option maxHeartbeats 4000000 in
set_option maxRecDepth 100000 in
/-- a way of noughts -/
theorem m_X1_clearWay (l : Launch) (dC : Nat → ClassId) (dI : Nat → Nat → Nat) (hM : Nat → Nat) (aM : Nat → Nat) (kM : Nat → ClassId) (iM_stands : Int32) (iM_variables : Int32) (iM_rows : Int32) (iM_goals : Int32) (iM_differents : Int32) (iM_cases : Int32) (fM_from : Nat → Int32) (fM_to : Nat → Int32) (fM_whole : Nat → Int32) (fM_ways : Nat → Int32) (iM_plainRows : Int32) (fM_plainRow : Nat → Int32) (fM_kept : Nat → Int32) (fM_goalOver : Nat → Int32) (fM_goalUnder : Nat → Int32) (fM_goalMax : Nat → Int32) (fM_different : Nat → Int32) (p1 : Int32) (p2 : Int32) (b_iM_stands : 0 ≤ iM_stands.toInt ∧ iM_stands.toInt ≤ 1) (b_iM_variables : 0 ≤ iM_variables.toInt ∧ iM_variables.toInt ≤ 8) (b_iM_rows : 0 ≤ iM_rows.toInt ∧ iM_rows.toInt ≤ 12) (b_iM_goals : 0 ≤ iM_goals.toInt ∧ iM_goals.toInt ≤ 3) (b_iM_differents : 0 ≤ iM_differents.toInt ∧ iM_differents.toInt ≤ 8) (b_iM_cases : 0 ≤ iM_cases.toInt ∧ iM_cases.toInt ≤ 200000) (b_fM_ways : ∀ q : Nat, 0 ≤ (fM_ways q).toInt ∧ (fM_ways q).toInt ≤ 3) (b_iM_plainRows : 0 ≤ iM_plainRows.toInt ∧ iM_plainRows.toInt ≤ 12) (b_fM_plainRow : ∀ q : Nat, 0 ≤ (fM_plainRow q).toInt ∧ (fM_plainRow q).toInt ≤ 11) (b_pr : iM_plainRows.toInt ≤ iM_rows.toInt) (b_p1 : 0 ≤ p1.toInt ∧ p1.toInt ≤ 11) (b_p2 : 0 ≤ p2.toInt ∧ p2.toInt ≤ 2) (sz : Nat) : Met l yX1_clearWay wsMX1_clearWay ({ frames := 0, cells := 0, slots := 0, locals := 0 }) (va_Pc [.ref (hM 0), .int p1, .int p2] (fun U => U.heap.size = sz ∧ va_P (dC, dI) vwCl (WM hM aM kM iM_stands iM_variables iM_rows iM_goals iM_differents iM_cases fM_from fM_to fM_whole fM_ways iM_plainRows fM_plainRow fM_kept fM_goalOver fM_goalUnder fM_goalMax fM_different) U.heap ∧ va_K (dC, dI) vwCl (tM kM) U ∧ va_D (fun _ => True) (WM hM aM kM iM_stands iM_variables iM_rows iM_goals iM_differents iM_cases fM_from fM_to fM_whole fM_ways iM_plainRows fM_plainRow fM_kept fM_goalOver fM_goalUnder fM_goalMax fM_different))) (va_Qv (fun (u : Nat → Int32) => True) (fun (u : Nat → Int32) t => va_P (dC, dI) vwCl (WM hM aM kM iM_stands iM_variables iM_rows iM_goals iM_differents iM_cases fM_from fM_to fM_whole fM_ways iM_plainRows fM_plainRow u fM_goalOver fM_goalUnder fM_goalMax fM_different) t.heap ∧ va_D (va_A (WM hM aM kM iM_stands iM_variables iM_rows iM_goals iM_differents iM_cases fM_from fM_to fM_whole fM_ways iM_plainRows fM_plainRow fM_kept fM_goalOver fM_goalUnder fM_goalMax fM_different) sz) (WM hM aM kM iM_stands iM_variables iM_rows iM_goals iM_differents iM_cases fM_from fM_to fM_whole fM_ways iM_plainRows fM_plainRow u fM_goalOver fM_goalUnder fM_goalMax fM_different)) (va_A (WM hM aM kM iM_stands iM_variables iM_rows iM_goals iM_differents iM_cases fM_from fM_to fM_whole fM_ways iM_plainRows fM_plainRow fM_kept fM_goalOver fM_goalUnder fM_goalMax fM_different) sz)) 0 0 (va_A (WM hM aM kM iM_stands iM_variables iM_rows iM_goals iM_differents iM_cases fM_from fM_to fM_whole fM_ways iM_plainRows fM_plainRow fM_kept fM_goalOver fM_goalUnder fM_goalMax fM_different) sz) := by
  refine Met.ofW (cc := cX1_clearWay) (maxL := 5) (ret := none) (by decide) rfl ?_
  intro p e s m args below meth c s₁ B hml hv
  obtain ⟨rfl, hsz, hP, hK, hD0⟩ := hv
  have hx := B.exec
  have hb := B.bytes
  have hr := B.returns
  have hts := atoms_spec (ws := wsMX1_clearWay) B.pre
  have hown : s.vm.findClass RX1 = some m.cls := findClass_of_methodNamed B.named
  have hlocks := B.notSynchronized
  subst hsz
  have hD := hD0.self (sz := s.heap.size)
  generalize hAe : va_A (WM hM aM kM iM_stands iM_variables iM_rows iM_goals iM_differents iM_cases fM_from fM_to fM_whole fM_ways iM_plainRows fM_plainRow fM_kept fM_goalOver fM_goalUnder fM_goalMax fM_different) s.heap.size = A at hD ⊢
  have hA : ∀ q : Nat, s.heap.size ≤ q → A q := fun q h => by rw [← hAe]; exact Or.inr h
  have hS : va_S A s.heap s.heap [] := va_S.rf
  have hl := lv_entry ([.ref (hM 0), .int p1, .int p2]) (n := 5) (Nat.le_of_ble_eq_true rfl)
  rw [lg_entry_eq]
  generalize (lg_sl ([.ref (hM 0), .int p1, .int p2]) ++ List.replicate (5 - (lg_sl ([.ref (hM 0), .int p1, .int p2])).length) Slot.unset).toArray = ls at hl ⊢
  have hl : lv_has ls 5 [(0, .ref (hM 0)), (1, .int p1), (2, .int p2)] := hl
  refine lv_iload_n hx hb dX1_clearWay_0 rfl (lv_at hl 1 rfl) ?_
  refine lv_iconst (v := 3) hx hb dX1_clearWay_1 (by decide) ?_
  refine lv_imul hx hb dX1_clearWay_2 ?_
  refine lv_topi (fun y1 hy1 => ?_)
  obtain rfl : (iI (p1.toInt * 3)) = y1 := (hy1.trans (iI_mul2 (iI_of _) (by decide : (3 : Int32) = iI 3))).symm
  refine lv_iload_n hx hb dX1_clearWay_3 rfl (lv_at hl 2 rfl) ?_
  refine lv_iadd hx hb dX1_clearWay_4 ?_
  refine lv_topi (fun y2 hy2 => ?_)
  obtain rfl : (iI ((p1.toInt * 3) + p2.toInt)) = y2 := (hy2.trans (iI_add2 rfl (iI_of _))).symm
  refine lv_bipush (v := 10) hx hb dX1_clearWay_5 (by decide) ?_
  refine lv_imul hx hb dX1_clearWay_7 ?_
  refine lv_topi (fun y3 hy3 => ?_)
  obtain rfl : (iI (((p1.toInt * 3) + p2.toInt) * 10)) = y3 := (hy3.trans (iI_mul2 rfl (by decide : (10 : Int32) = iI 10))).symm
  refine lv_istore_n hx hb dX1_clearWay_8 rfl hl (by decide) rfl (fun ls (hl : lv_has ls _ ([(3, .int (iI (((p1.toInt * 3) + p2.toInt) * 10))), (0, .ref (hM 0)), (1, .int p1), (2, .int p2)])) => ?_)
  refine lv_iload_n hx hb dX1_clearWay_9 rfl (lv_at hl 0 rfl) ?_
  refine lv_istore hx hb dX1_clearWay_10 hl (by decide) rfl (fun ls (hl : lv_has ls _ ([(4, .int (iI (((p1.toInt * 3) + p2.toInt) * 10))), (3, .int (iI (((p1.toInt * 3) + p2.toInt) * 10))), (0, .ref (hM 0)), (1, .int p1), (2, .int p2)])) => ?_)
  have hl : lv_has _ _ ([(4, .int (iI (((p1.toInt * 3) + p2.toInt) * 10))), (3, .int (iI (((p1.toInt * 3) + p2.toInt) * 10))), (0, .ref (hM 0)), (1, .int p1), (2, .int p2)]) := lv_sub hl [0, 1, 2, 3, 4] rfl
  refine (fun (loop : ∀ (n9 : Nat) (fM_kept_x12 : Nat → Int32) (l4_x12 : Int32) (H : Heap) (locs : List Loc) (ls : Array Slot), (0 ≤ l4_x12.toInt ∧ l4_x12.toInt ≤ 360) → (360 - l4_x12.toInt < ((n9 : Nat) : Int)) → va_P (dC, dI) vwCl (WM hM aM kM iM_stands iM_variables iM_rows iM_goals iM_differents iM_cases fM_from fM_to fM_whole fM_ways iM_plainRows fM_plainRow fM_kept_x12 fM_goalOver fM_goalUnder fM_goalMax fM_different) H → va_D A (WM hM aM kM iM_stands iM_variables iM_rows iM_goals iM_differents iM_cases fM_from fM_to fM_whole fM_ways iM_plainRows fM_plainRow fM_kept_x12 fM_goalOver fM_goalUnder fM_goalMax fM_different) → va_S A s.heap H locs → lv_has ls 5 [(4, .int l4_x12), (3, .int (iI (((p1.toInt * 3) + p2.toInt) * 10))), (0, .ref (hM 0)), (1, .int p1), (2, .int p2)] → W p l e _ s m _ below meth c H locs 0 0 _ (F0 m 12 ls [])) => loop (361) fM_kept (iI (((p1.toInt * 3) + p2.toInt) * 10)) _ _ _ (iI_rng (Int.le_trans (by decide) (Int.mul_le_mul_of_nonneg_right (Int.add_le_add (Int.mul_le_mul_of_nonneg_right (b_p1.1) (by decide)) (b_p2.1)) (by decide))) (Int.le_trans (Int.mul_le_mul_of_nonneg_right (Int.add_le_add (Int.mul_le_mul_of_nonneg_right (b_p1.2) (by decide)) (b_p2.2)) (by decide)) (by decide)) (by decide) (by decide)) ((by have e9 : ((iI (((p1.toInt * 3) + p2.toInt) * 10))).toInt = (((p1.toInt * 3) + p2.toInt) * 10) := (iI_t (Int.le_trans (by decide) (Int.mul_le_mul_of_nonneg_right (Int.add_le_add (Int.mul_le_mul_of_nonneg_right (b_p1.1) (by decide)) (b_p2.1)) (by decide))) (Int.le_trans (Int.mul_le_mul_of_nonneg_right (Int.add_le_add (Int.mul_le_mul_of_nonneg_right (b_p1.2) (by decide)) (b_p2.2)) (by decide)) (by decide))); omega)) hP hD hS hl) ?_
  intro n9
  induction n9 with
  | zero => intro fM_kept_x12 l4_x12 H locs ls b_l4_x12 hf9; exact False.elim (by omega)
  | succ n9 ihx12 =>
    intro fM_kept_x12 l4_x12 H locs ls b_l4_x12 hfx12 hP hD hS hl
    refine lv_iload hx hb dX1_clearWay_12 (lv_at hl 0 rfl) ?_
    refine lv_iload_n hx hb dX1_clearWay_14 rfl (lv_at hl 1 rfl) ?_
    refine lv_bipush (v := 10) hx hb dX1_clearWay_15 (by decide) ?_
    refine lv_iadd hx hb dX1_clearWay_17 ?_
    refine lv_topi (fun y10 hy10 => ?_)
    obtain rfl : (iI ((((p1.toInt * 3) + p2.toInt) * 10) + 10)) = y10 := (hy10.trans (iI_add2 rfl (by decide : (10 : Int32) = iI 10))).symm
    refine lv_icmp_ge (tgt := 35) hx hb dX1_clearWay_18 (by decide) (fun c_18 => ?_) (fun c_18 => ?_)
    · have t_18 : l4_x12.toInt ≥ ((((p1.toInt * 3) + p2.toInt) * 10) + 10) := toI_ge c_18 rfl (iI_t (Int.le_trans (by decide) (Int.add_le_add (Int.mul_le_mul_of_nonneg_right (Int.add_le_add (Int.mul_le_mul_of_nonneg_right (b_p1.1) (by decide)) (b_p2.1)) (by decide)) (Int.le_refl _))) (Int.le_trans (Int.add_le_add (Int.mul_le_mul_of_nonneg_right (Int.add_le_add (Int.mul_le_mul_of_nonneg_right (b_p1.2) (by decide)) (b_p2.2)) (by decide)) (Int.le_refl _)) (by decide)))
      refine W.widen (k := 0) (n := 0) (by decide +kernel) (by decide +kernel) ?_
      exact W.vret hx hb hr (fun t9_ ht hW => ⟨⟨fM_kept_x12, rfl, trivial, by rw [ht]; exact hP, hD⟩, hS.F ht⟩) hS.2.2 dX1_clearWay_35
    · have t_18 : ¬ l4_x12.toInt ≥ ((((p1.toInt * 3) + p2.toInt) * 10) + 10) := toI_nge c_18 rfl (iI_t (Int.le_trans (by decide) (Int.add_le_add (Int.mul_le_mul_of_nonneg_right (Int.add_le_add (Int.mul_le_mul_of_nonneg_right (b_p1.1) (by decide)) (b_p2.1)) (by decide)) (Int.le_refl _))) (Int.le_trans (Int.add_le_add (Int.mul_le_mul_of_nonneg_right (Int.add_le_add (Int.mul_le_mul_of_nonneg_right (b_p1.2) (by decide)) (b_p2.2)) (by decide)) (Int.le_refl _)) (by decide)))
      refine lv_aload_n hx hb dX1_clearWay_21 rfl (lv_at hl 2 rfl) ?_
      refine va_get (D := (dC, dI)) (ci := 1) (v := .ref (aM 5)) (C := RX1) (T := TX1) (N := 17) hx hb hts iwsMX1_clearWay_in1 hown hK hP 0 rfl rfl 12 (by decide) (hts (.fieldLink RX1 26 "OptimaWorks$Model" "kept" "[I") (by decide +kernel)) (fun _ h9 => h9) rfl dX1_clearWay_22 ?_
      refine lv_iload hx hb dX1_clearWay_25 (lv_at hl 0 rfl) ?_
      refine lv_iconst (v := 0) hx hb dX1_clearWay_27 (by decide) ?_
      refine va_iast (cA := kM 5) (n := 360) (f := fM_kept_x12) hx hb hK hP hD hS 6 5 rfl rfl (vp_in_iff.mpr ⟨b_l4_x12.1, (by omega)⟩) dX1_clearWay_28 (fun H locs hP hD hS => ?_)
      obtain ⟨u12, hu12⟩ : ∃ f9, f9 = upd fM_kept_x12 (l4_x12).toNatClampNeg (0 : Int32) := ⟨_, rfl⟩
      have hP : va_P (dC, dI) vwCl (WM hM aM kM iM_stands iM_variables iM_rows iM_goals iM_differents iM_cases fM_from fM_to fM_whole fM_ways iM_plainRows fM_plainRow u12 fM_goalOver fM_goalUnder fM_goalMax fM_different) H := by rw [hu12]; exact hP
      have hD : va_D A (WM hM aM kM iM_stands iM_variables iM_rows iM_goals iM_differents iM_cases fM_from fM_to fM_whole fM_ways iM_plainRows fM_plainRow u12 fM_goalOver fM_goalUnder fM_goalMax fM_different) := by rw [hu12]; exact hD
      clear hu12
      refine lv_iinc (v := (iI (l4_x12.toInt + 1))) hx hb dX1_clearWay_29 hl (k := 0) rfl (iI_add2 (iI_of _) (by decide : (1 : Int32) = iI 1)) (by decide) rfl (fun ls (hl : lv_has ls _ ([(4, .int (iI (l4_x12.toInt + 1))), (3, .int (iI (((p1.toInt * 3) + p2.toInt) * 10))), (0, .ref (hM 0)), (1, .int p1), (2, .int p2)])) => ?_)
      refine lv_goto (tgt := 12) hx hb dX1_clearWay_32 (by decide) ?_
      have hl : lv_has _ _ ([(4, .int (iI (l4_x12.toInt + 1))), (3, .int (iI (((p1.toInt * 3) + p2.toInt) * 10))), (0, .ref (hM 0)), (1, .int p1), (2, .int p2)]) := lv_sub hl [0, 1, 2, 3, 4] rfl
      exact ihx12 u12 (iI (l4_x12.toInt + 1)) _ _ _ (iI_rng (Int.le_trans (by decide) (Int.add_le_add (b_l4_x12.1) (Int.le_refl _))) (by omega) (by decide) (by decide)) (by have e9 : ((iI (l4_x12.toInt + 1))).toInt = (l4_x12.toInt + 1) := (iI_t (Int.le_trans (by decide) (Int.add_le_add (b_l4_x12.1) (Int.le_refl _))) (Int.le_trans (Int.add_le_add (b_l4_x12.2) (Int.le_refl _)) (by decide))); omega) hP hD hS hl
theorem dX1_keepNumber_0 : decode cX1_keepNumber 0 = .ok (.aload_n 0, 1) := dk_42 (by decide +kernel)
theorem dX1_keepNumber_1 : decode cX1_keepNumber 1 = .ok (.getfield 26, 3) := dk_180 (by decide +kernel)
theorem dX1_keepNumber_4 : decode cX1_keepNumber 4 = .ok (.iload_n 1, 1) := dk_27 (by decide +kernel)
theorem dX1_keepNumber_5 : decode cX1_keepNumber 5 = .ok (.iconst 3, 1) := dk_6 (by decide +kernel)
theorem dX1_keepNumber_6 : decode cX1_keepNumber 6 = .ok (.imul, 1) := dk_104 (by decide +kernel)
theorem dX1_keepNumber_7 : decode cX1_keepNumber 7 = .ok (.iload_n 2, 1) := dk_28 (by decide +kernel)
theorem dX1_keepNumber_8 : decode cX1_keepNumber 8 = .ok (.iadd, 1) := dk_96 (by decide +kernel)
theorem dX1_keepNumber_9 : decode cX1_keepNumber 9 = .ok (.bipush 10, 2) := dk_16 (by decide +kernel)
theorem dX1_keepNumber_11 : decode cX1_keepNumber 11 = .ok (.imul, 1) := dk_104 (by decide +kernel)
theorem dX1_keepNumber_12 : decode cX1_keepNumber 12 = .ok (.iload_n 3, 1) := dk_29 (by decide +kernel)
theorem dX1_keepNumber_13 : decode cX1_keepNumber 13 = .ok (.iadd, 1) := dk_96 (by decide +kernel)
theorem dX1_keepNumber_14 : decode cX1_keepNumber 14 = .ok (.iload 4, 2) := dk_21 (by decide +kernel)
theorem dX1_keepNumber_16 : decode cX1_keepNumber 16 = .ok (.iastore, 1) := dk_79 (by decide +kernel)
theorem dX1_keepNumber_17 : decode cX1_keepNumber 17 = .ok (.return_, 1) := dk_177 (by decide +kernel)
def wsMX1_keepNumber : List Cond := .code yX1_keepNumber cX1_keepNumber 5 none :: ([.fieldLink RX1 26 "OptimaWorks$Model" "kept" "[I"] ++ wsX10)
theorem iwsMX1_keepNumber_in1 : ∀ w ∈ wsX10, w ∈ wsMX1_keepNumber := fun _ h => List.mem_cons_of_mem _ (List.mem_append_right _ h)
theorem gdwsMX1_keepNumber : wsMX1_keepNumber.all goodWord = true := gdC rfl (gdA (by decide +kernel : ([.fieldLink RX1 26 "OptimaWorks$Model" "kept" "[I"] : List Cond).all goodWord = true) gdwsX10)
set_option maxHeartbeats 4000000 in
set_option maxRecDepth 100000 in
/-- a number is kept -/
theorem m_X1_keepNumber (l : Launch) (dC : Nat → ClassId) (dI : Nat → Nat → Nat) (hM : Nat → Nat) (aM : Nat → Nat) (kM : Nat → ClassId) (iM_stands : Int32) (iM_variables : Int32) (iM_rows : Int32) (iM_goals : Int32) (iM_differents : Int32) (iM_cases : Int32) (fM_from : Nat → Int32) (fM_to : Nat → Int32) (fM_whole : Nat → Int32) (fM_ways : Nat → Int32) (iM_plainRows : Int32) (fM_plainRow : Nat → Int32) (fM_kept : Nat → Int32) (fM_goalOver : Nat → Int32) (fM_goalUnder : Nat → Int32) (fM_goalMax : Nat → Int32) (fM_different : Nat → Int32) (p1 : Int32) (p2 : Int32) (p3 : Int32) (p4 : Int32) (b_iM_stands : 0 ≤ iM_stands.toInt ∧ iM_stands.toInt ≤ 1) (b_iM_variables : 0 ≤ iM_variables.toInt ∧ iM_variables.toInt ≤ 8) (b_iM_rows : 0 ≤ iM_rows.toInt ∧ iM_rows.toInt ≤ 12) (b_iM_goals : 0 ≤ iM_goals.toInt ∧ iM_goals.toInt ≤ 3) (b_iM_differents : 0 ≤ iM_differents.toInt ∧ iM_differents.toInt ≤ 8) (b_iM_cases : 0 ≤ iM_cases.toInt ∧ iM_cases.toInt ≤ 200000) (b_fM_ways : ∀ q : Nat, 0 ≤ (fM_ways q).toInt ∧ (fM_ways q).toInt ≤ 3) (b_iM_plainRows : 0 ≤ iM_plainRows.toInt ∧ iM_plainRows.toInt ≤ 12) (b_fM_plainRow : ∀ q : Nat, 0 ≤ (fM_plainRow q).toInt ∧ (fM_plainRow q).toInt ≤ 11) (b_pr : iM_plainRows.toInt ≤ iM_rows.toInt) (b_p1 : 0 ≤ p1.toInt ∧ p1.toInt ≤ 11) (b_p2 : 0 ≤ p2.toInt ∧ p2.toInt ≤ 2) (b_p3 : 0 ≤ p3.toInt ∧ p3.toInt ≤ 8) (sz : Nat) : Met l yX1_keepNumber wsMX1_keepNumber ({ frames := 0, cells := 0, slots := 0, locals := 0 }) (va_Pc [.ref (hM 0), .int p1, .int p2, .int p3, .int p4] (fun U => U.heap.size = sz ∧ va_P (dC, dI) vwCl (WM hM aM kM iM_stands iM_variables iM_rows iM_goals iM_differents iM_cases fM_from fM_to fM_whole fM_ways iM_plainRows fM_plainRow fM_kept fM_goalOver fM_goalUnder fM_goalMax fM_different) U.heap ∧ va_K (dC, dI) vwCl (tM kM) U ∧ va_D (fun _ => True) (WM hM aM kM iM_stands iM_variables iM_rows iM_goals iM_differents iM_cases fM_from fM_to fM_whole fM_ways iM_plainRows fM_plainRow fM_kept fM_goalOver fM_goalUnder fM_goalMax fM_different))) (va_Qv (fun (u : Nat → Int32) => True) (fun (u : Nat → Int32) t => va_P (dC, dI) vwCl (WM hM aM kM iM_stands iM_variables iM_rows iM_goals iM_differents iM_cases fM_from fM_to fM_whole fM_ways iM_plainRows fM_plainRow u fM_goalOver fM_goalUnder fM_goalMax fM_different) t.heap ∧ va_D (va_A (WM hM aM kM iM_stands iM_variables iM_rows iM_goals iM_differents iM_cases fM_from fM_to fM_whole fM_ways iM_plainRows fM_plainRow fM_kept fM_goalOver fM_goalUnder fM_goalMax fM_different) sz) (WM hM aM kM iM_stands iM_variables iM_rows iM_goals iM_differents iM_cases fM_from fM_to fM_whole fM_ways iM_plainRows fM_plainRow u fM_goalOver fM_goalUnder fM_goalMax fM_different)) (va_A (WM hM aM kM iM_stands iM_variables iM_rows iM_goals iM_differents iM_cases fM_from fM_to fM_whole fM_ways iM_plainRows fM_plainRow fM_kept fM_goalOver fM_goalUnder fM_goalMax fM_different) sz)) 0 0 (va_A (WM hM aM kM iM_stands iM_variables iM_rows iM_goals iM_differents iM_cases fM_from fM_to fM_whole fM_ways iM_plainRows fM_plainRow fM_kept fM_goalOver fM_goalUnder fM_goalMax fM_different) sz) := by
  refine Met.ofW (cc := cX1_keepNumber) (maxL := 5) (ret := none) (by decide) rfl ?_
  intro p e s m args below meth c s₁ B hml hv
  obtain ⟨rfl, hsz, hP, hK, hD0⟩ := hv
  have hx := B.exec
  have hb := B.bytes
  have hr := B.returns
  have hts := atoms_spec (ws := wsMX1_keepNumber) B.pre
  have hown : s.vm.findClass RX1 = some m.cls := findClass_of_methodNamed B.named
  have hlocks := B.notSynchronized
  subst hsz
  have hD := hD0.self (sz := s.heap.size)
  generalize hAe : va_A (WM hM aM kM iM_stands iM_variables iM_rows iM_goals iM_differents iM_cases fM_from fM_to fM_whole fM_ways iM_plainRows fM_plainRow fM_kept fM_goalOver fM_goalUnder fM_goalMax fM_different) s.heap.size = A at hD ⊢
  have hA : ∀ q : Nat, s.heap.size ≤ q → A q := fun q h => by rw [← hAe]; exact Or.inr h
  have hS : va_S A s.heap s.heap [] := va_S.rf
  have hl := lv_entry ([.ref (hM 0), .int p1, .int p2, .int p3, .int p4]) (n := 5) (Nat.le_of_ble_eq_true rfl)
  rw [lg_entry_eq]
  generalize (lg_sl ([.ref (hM 0), .int p1, .int p2, .int p3, .int p4]) ++ List.replicate (5 - (lg_sl ([.ref (hM 0), .int p1, .int p2, .int p3, .int p4])).length) Slot.unset).toArray = ls at hl ⊢
  have hl : lv_has ls 5 [(0, .ref (hM 0)), (1, .int p1), (2, .int p2), (3, .int p3), (4, .int p4)] := hl
  refine lv_aload_n hx hb dX1_keepNumber_0 rfl (lv_at hl 0 rfl) ?_
  refine va_get (D := (dC, dI)) (ci := 1) (v := .ref (aM 5)) (C := RX1) (T := TX1) (N := 17) hx hb hts iwsMX1_keepNumber_in1 hown hK hP 0 rfl rfl 12 (by decide) (hts (.fieldLink RX1 26 "OptimaWorks$Model" "kept" "[I") (by decide +kernel)) (fun _ h9 => h9) rfl dX1_keepNumber_1 ?_
  refine lv_iload_n hx hb dX1_keepNumber_4 rfl (lv_at hl 1 rfl) ?_
  refine lv_iconst (v := 3) hx hb dX1_keepNumber_5 (by decide) ?_
  refine lv_imul hx hb dX1_keepNumber_6 ?_
  refine lv_topi (fun y1 hy1 => ?_)
  obtain rfl : (iI (p1.toInt * 3)) = y1 := (hy1.trans (iI_mul2 (iI_of _) (by decide : (3 : Int32) = iI 3))).symm
  refine lv_iload_n hx hb dX1_keepNumber_7 rfl (lv_at hl 2 rfl) ?_
  refine lv_iadd hx hb dX1_keepNumber_8 ?_
  refine lv_topi (fun y2 hy2 => ?_)
  obtain rfl : (iI ((p1.toInt * 3) + p2.toInt)) = y2 := (hy2.trans (iI_add2 rfl (iI_of _))).symm
  refine lv_bipush (v := 10) hx hb dX1_keepNumber_9 (by decide) ?_
  refine lv_imul hx hb dX1_keepNumber_11 ?_
  refine lv_topi (fun y3 hy3 => ?_)
  obtain rfl : (iI (((p1.toInt * 3) + p2.toInt) * 10)) = y3 := (hy3.trans (iI_mul2 rfl (by decide : (10 : Int32) = iI 10))).symm
  refine lv_iload_n hx hb dX1_keepNumber_12 rfl (lv_at hl 3 rfl) ?_
  refine lv_iadd hx hb dX1_keepNumber_13 ?_
  refine lv_topi (fun y4 hy4 => ?_)
  obtain rfl : (iI ((((p1.toInt * 3) + p2.toInt) * 10) + p3.toInt)) = y4 := (hy4.trans (iI_add2 rfl (iI_of _))).symm
  refine lv_iload hx hb dX1_keepNumber_14 (lv_at hl 4 rfl) ?_
  refine va_iast (cA := kM 5) (n := 360) (f := fM_kept) hx hb hK hP hD hS 6 5 rfl rfl (vp_iI (Int.le_trans (by decide) (Int.add_le_add (Int.mul_le_mul_of_nonneg_right (Int.add_le_add (Int.mul_le_mul_of_nonneg_right (b_p1.1) (by decide)) (b_p2.1)) (by decide)) (b_p3.1))) (Int.lt_of_le_of_lt (Int.add_le_add (Int.mul_le_mul_of_nonneg_right (Int.add_le_add (Int.mul_le_mul_of_nonneg_right (b_p1.2) (by decide)) (b_p2.2)) (by decide)) (b_p3.2)) (by decide)) (by decide)) dX1_keepNumber_16 (fun H locs hP hD hS => ?_)
  obtain ⟨u5, hu5⟩ : ∃ f9, f9 = upd fM_kept ((iI ((((p1.toInt * 3) + p2.toInt) * 10) + p3.toInt))).toNatClampNeg p4 := ⟨_, rfl⟩
  have hP : va_P (dC, dI) vwCl (WM hM aM kM iM_stands iM_variables iM_rows iM_goals iM_differents iM_cases fM_from fM_to fM_whole fM_ways iM_plainRows fM_plainRow u5 fM_goalOver fM_goalUnder fM_goalMax fM_different) H := by rw [hu5]; exact hP
  have hD : va_D A (WM hM aM kM iM_stands iM_variables iM_rows iM_goals iM_differents iM_cases fM_from fM_to fM_whole fM_ways iM_plainRows fM_plainRow u5 fM_goalOver fM_goalUnder fM_goalMax fM_different) := by rw [hu5]; exact hD
  clear hu5
  refine W.widen (k := 0) (n := 0) (by decide +kernel) (by decide +kernel) ?_
  exact W.vret hx hb hr (fun t9_ ht hW => ⟨⟨u5, rfl, trivial, by rw [ht]; exact hP, hD⟩, hS.F ht⟩) hS.2.2 dX1_keepNumber_17
theorem dX1_keepRight_0 : decode cX1_keepRight 0 = .ok (.iload_n 1, 1) := dk_27 (by decide +kernel)
theorem dX1_keepRight_1 : decode cX1_keepRight 1 = .ok (.iconst 3, 1) := dk_6 (by decide +kernel)
theorem dX1_keepRight_2 : decode cX1_keepRight 2 = .ok (.imul, 1) := dk_104 (by decide +kernel)
theorem dX1_keepRight_3 : decode cX1_keepRight 3 = .ok (.iload_n 2, 1) := dk_28 (by decide +kernel)
theorem dX1_keepRight_4 : decode cX1_keepRight 4 = .ok (.iadd, 1) := dk_96 (by decide +kernel)
theorem dX1_keepRight_5 : decode cX1_keepRight 5 = .ok (.bipush 10, 2) := dk_16 (by decide +kernel)
theorem dX1_keepRight_7 : decode cX1_keepRight 7 = .ok (.imul, 1) := dk_104 (by decide +kernel)
theorem dX1_keepRight_8 : decode cX1_keepRight 8 = .ok (.istore 5, 2) := dk_54 (by decide +kernel)
theorem dX1_keepRight_10 : decode cX1_keepRight 10 = .ok (.aload_n 0, 1) := dk_42 (by decide +kernel)
theorem dX1_keepRight_11 : decode cX1_keepRight 11 = .ok (.getfield 26, 3) := dk_180 (by decide +kernel)
theorem dX1_keepRight_14 : decode cX1_keepRight 14 = .ok (.iload 5, 2) := dk_21 (by decide +kernel)
theorem dX1_keepRight_16 : decode cX1_keepRight 16 = .ok (.bipush 8, 2) := dk_16 (by decide +kernel)
theorem dX1_keepRight_18 : decode cX1_keepRight 18 = .ok (.iadd, 1) := dk_96 (by decide +kernel)
theorem dX1_keepRight_19 : decode cX1_keepRight 19 = .ok (.iload_n 3, 1) := dk_29 (by decide +kernel)
theorem dX1_keepRight_20 : decode cX1_keepRight 20 = .ok (.iastore, 1) := dk_79 (by decide +kernel)
theorem dX1_keepRight_21 : decode cX1_keepRight 21 = .ok (.aload_n 0, 1) := dk_42 (by decide +kernel)
theorem dX1_keepRight_22 : decode cX1_keepRight 22 = .ok (.getfield 26, 3) := dk_180 (by decide +kernel)
theorem dX1_keepRight_25 : decode cX1_keepRight 25 = .ok (.iload 5, 2) := dk_21 (by decide +kernel)
theorem dX1_keepRight_27 : decode cX1_keepRight 27 = .ok (.bipush 9, 2) := dk_16 (by decide +kernel)
theorem dX1_keepRight_29 : decode cX1_keepRight 29 = .ok (.iadd, 1) := dk_96 (by decide +kernel)
theorem dX1_keepRight_30 : decode cX1_keepRight 30 = .ok (.iload 4, 2) := dk_21 (by decide +kernel)
theorem dX1_keepRight_32 : decode cX1_keepRight 32 = .ok (.iastore, 1) := dk_79 (by decide +kernel)
theorem dX1_keepRight_33 : decode cX1_keepRight 33 = .ok (.return_, 1) := dk_177 (by decide +kernel)
def wsMX1_keepRight : List Cond := .code yX1_keepRight cX1_keepRight 6 none :: ([.fieldLink RX1 26 "OptimaWorks$Model" "kept" "[I"] ++ wsX10)
theorem iwsMX1_keepRight_in1 : ∀ w ∈ wsX10, w ∈ wsMX1_keepRight := fun _ h => List.mem_cons_of_mem _ (List.mem_append_right _ h)
theorem gdwsMX1_keepRight : wsMX1_keepRight.all goodWord = true := gdC rfl (gdA (by decide +kernel : ([.fieldLink RX1 26 "OptimaWorks$Model" "kept" "[I"] : List Cond).all goodWord = true) gdwsX10)
set_option maxHeartbeats 4000000 in
set_option maxRecDepth 100000 in
/-- a right side is kept -/
theorem m_X1_keepRight (l : Launch) (dC : Nat → ClassId) (dI : Nat → Nat → Nat) (hM : Nat → Nat) (aM : Nat → Nat) (kM : Nat → ClassId) (iM_stands : Int32) (iM_variables : Int32) (iM_rows : Int32) (iM_goals : Int32) (iM_differents : Int32) (iM_cases : Int32) (fM_from : Nat → Int32) (fM_to : Nat → Int32) (fM_whole : Nat → Int32) (fM_ways : Nat → Int32) (iM_plainRows : Int32) (fM_plainRow : Nat → Int32) (fM_kept : Nat → Int32) (fM_goalOver : Nat → Int32) (fM_goalUnder : Nat → Int32) (fM_goalMax : Nat → Int32) (fM_different : Nat → Int32) (p1 : Int32) (p2 : Int32) (p3 : Int32) (p4 : Int32) (b_iM_stands : 0 ≤ iM_stands.toInt ∧ iM_stands.toInt ≤ 1) (b_iM_variables : 0 ≤ iM_variables.toInt ∧ iM_variables.toInt ≤ 8) (b_iM_rows : 0 ≤ iM_rows.toInt ∧ iM_rows.toInt ≤ 12) (b_iM_goals : 0 ≤ iM_goals.toInt ∧ iM_goals.toInt ≤ 3) (b_iM_differents : 0 ≤ iM_differents.toInt ∧ iM_differents.toInt ≤ 8) (b_iM_cases : 0 ≤ iM_cases.toInt ∧ iM_cases.toInt ≤ 200000) (b_fM_ways : ∀ q : Nat, 0 ≤ (fM_ways q).toInt ∧ (fM_ways q).toInt ≤ 3) (b_iM_plainRows : 0 ≤ iM_plainRows.toInt ∧ iM_plainRows.toInt ≤ 12) (b_fM_plainRow : ∀ q : Nat, 0 ≤ (fM_plainRow q).toInt ∧ (fM_plainRow q).toInt ≤ 11) (b_pr : iM_plainRows.toInt ≤ iM_rows.toInt) (b_p1 : 0 ≤ p1.toInt ∧ p1.toInt ≤ 11) (b_p2 : 0 ≤ p2.toInt ∧ p2.toInt ≤ 2) (sz : Nat) : Met l yX1_keepRight wsMX1_keepRight ({ frames := 0, cells := 0, slots := 0, locals := 0 }) (va_Pc [.ref (hM 0), .int p1, .int p2, .int p3, .int p4] (fun U => U.heap.size = sz ∧ va_P (dC, dI) vwCl (WM hM aM kM iM_stands iM_variables iM_rows iM_goals iM_differents iM_cases fM_from fM_to fM_whole fM_ways iM_plainRows fM_plainRow fM_kept fM_goalOver fM_goalUnder fM_goalMax fM_different) U.heap ∧ va_K (dC, dI) vwCl (tM kM) U ∧ va_D (fun _ => True) (WM hM aM kM iM_stands iM_variables iM_rows iM_goals iM_differents iM_cases fM_from fM_to fM_whole fM_ways iM_plainRows fM_plainRow fM_kept fM_goalOver fM_goalUnder fM_goalMax fM_different))) (va_Qv (fun (u : Nat → Int32) => True) (fun (u : Nat → Int32) t => va_P (dC, dI) vwCl (WM hM aM kM iM_stands iM_variables iM_rows iM_goals iM_differents iM_cases fM_from fM_to fM_whole fM_ways iM_plainRows fM_plainRow u fM_goalOver fM_goalUnder fM_goalMax fM_different) t.heap ∧ va_D (va_A (WM hM aM kM iM_stands iM_variables iM_rows iM_goals iM_differents iM_cases fM_from fM_to fM_whole fM_ways iM_plainRows fM_plainRow fM_kept fM_goalOver fM_goalUnder fM_goalMax fM_different) sz) (WM hM aM kM iM_stands iM_variables iM_rows iM_goals iM_differents iM_cases fM_from fM_to fM_whole fM_ways iM_plainRows fM_plainRow u fM_goalOver fM_goalUnder fM_goalMax fM_different)) (va_A (WM hM aM kM iM_stands iM_variables iM_rows iM_goals iM_differents iM_cases fM_from fM_to fM_whole fM_ways iM_plainRows fM_plainRow fM_kept fM_goalOver fM_goalUnder fM_goalMax fM_different) sz)) 0 0 (va_A (WM hM aM kM iM_stands iM_variables iM_rows iM_goals iM_differents iM_cases fM_from fM_to fM_whole fM_ways iM_plainRows fM_plainRow fM_kept fM_goalOver fM_goalUnder fM_goalMax fM_different) sz) := by
  refine Met.ofW (cc := cX1_keepRight) (maxL := 6) (ret := none) (by decide) rfl ?_
  intro p e s m args below meth c s₁ B hml hv
  obtain ⟨rfl, hsz, hP, hK, hD0⟩ := hv
  have hx := B.exec
  have hb := B.bytes
  have hr := B.returns
  have hts := atoms_spec (ws := wsMX1_keepRight) B.pre
  have hown : s.vm.findClass RX1 = some m.cls := findClass_of_methodNamed B.named
  have hlocks := B.notSynchronized
  subst hsz
  have hD := hD0.self (sz := s.heap.size)
  generalize hAe : va_A (WM hM aM kM iM_stands iM_variables iM_rows iM_goals iM_differents iM_cases fM_from fM_to fM_whole fM_ways iM_plainRows fM_plainRow fM_kept fM_goalOver fM_goalUnder fM_goalMax fM_different) s.heap.size = A at hD ⊢
  have hA : ∀ q : Nat, s.heap.size ≤ q → A q := fun q h => by rw [← hAe]; exact Or.inr h
  have hS : va_S A s.heap s.heap [] := va_S.rf
  have hl := lv_entry ([.ref (hM 0), .int p1, .int p2, .int p3, .int p4]) (n := 6) (Nat.le_of_ble_eq_true rfl)
  rw [lg_entry_eq]
  generalize (lg_sl ([.ref (hM 0), .int p1, .int p2, .int p3, .int p4]) ++ List.replicate (6 - (lg_sl ([.ref (hM 0), .int p1, .int p2, .int p3, .int p4])).length) Slot.unset).toArray = ls at hl ⊢
  have hl : lv_has ls 6 [(0, .ref (hM 0)), (1, .int p1), (2, .int p2), (3, .int p3), (4, .int p4)] := hl
  refine lv_iload_n hx hb dX1_keepRight_0 rfl (lv_at hl 1 rfl) ?_
  refine lv_iconst (v := 3) hx hb dX1_keepRight_1 (by decide) ?_
  refine lv_imul hx hb dX1_keepRight_2 ?_
  refine lv_topi (fun y1 hy1 => ?_)
  obtain rfl : (iI (p1.toInt * 3)) = y1 := (hy1.trans (iI_mul2 (iI_of _) (by decide : (3 : Int32) = iI 3))).symm
  refine lv_iload_n hx hb dX1_keepRight_3 rfl (lv_at hl 2 rfl) ?_
  refine lv_iadd hx hb dX1_keepRight_4 ?_
  refine lv_topi (fun y2 hy2 => ?_)
  obtain rfl : (iI ((p1.toInt * 3) + p2.toInt)) = y2 := (hy2.trans (iI_add2 rfl (iI_of _))).symm
  refine lv_bipush (v := 10) hx hb dX1_keepRight_5 (by decide) ?_
  refine lv_imul hx hb dX1_keepRight_7 ?_
  refine lv_topi (fun y3 hy3 => ?_)
  obtain rfl : (iI (((p1.toInt * 3) + p2.toInt) * 10)) = y3 := (hy3.trans (iI_mul2 rfl (by decide : (10 : Int32) = iI 10))).symm
  refine lv_istore hx hb dX1_keepRight_8 hl (by decide) rfl (fun ls (hl : lv_has ls _ ([(5, .int (iI (((p1.toInt * 3) + p2.toInt) * 10))), (0, .ref (hM 0)), (1, .int p1), (2, .int p2), (3, .int p3), (4, .int p4)])) => ?_)
  refine lv_aload_n hx hb dX1_keepRight_10 rfl (lv_at hl 1 rfl) ?_
  refine va_get (D := (dC, dI)) (ci := 1) (v := .ref (aM 5)) (C := RX1) (T := TX1) (N := 17) hx hb hts iwsMX1_keepRight_in1 hown hK hP 0 rfl rfl 12 (by decide) (hts (.fieldLink RX1 26 "OptimaWorks$Model" "kept" "[I") (by decide +kernel)) (fun _ h9 => h9) rfl dX1_keepRight_11 ?_
  refine lv_iload hx hb dX1_keepRight_14 (lv_at hl 0 rfl) ?_
  refine lv_bipush (v := 8) hx hb dX1_keepRight_16 (by decide) ?_
  refine lv_iadd hx hb dX1_keepRight_18 ?_
  refine lv_topi (fun y4 hy4 => ?_)
  obtain rfl : (iI ((((p1.toInt * 3) + p2.toInt) * 10) + 8)) = y4 := (hy4.trans (iI_add2 rfl (by decide : (8 : Int32) = iI 8))).symm
  refine lv_iload_n hx hb dX1_keepRight_19 rfl (lv_at hl 4 rfl) ?_
  refine va_iast (cA := kM 5) (n := 360) (f := fM_kept) hx hb hK hP hD hS 6 5 rfl rfl (vp_iI (Int.le_trans (by decide) (Int.add_le_add (Int.mul_le_mul_of_nonneg_right (Int.add_le_add (Int.mul_le_mul_of_nonneg_right (b_p1.1) (by decide)) (b_p2.1)) (by decide)) (Int.le_refl _))) (Int.lt_of_le_of_lt (Int.add_le_add (Int.mul_le_mul_of_nonneg_right (Int.add_le_add (Int.mul_le_mul_of_nonneg_right (b_p1.2) (by decide)) (b_p2.2)) (by decide)) (Int.le_refl _)) (by decide)) (by decide)) dX1_keepRight_20 (fun H locs hP hD hS => ?_)
  obtain ⟨u5, hu5⟩ : ∃ f9, f9 = upd fM_kept ((iI ((((p1.toInt * 3) + p2.toInt) * 10) + 8))).toNatClampNeg p3 := ⟨_, rfl⟩
  have hP : va_P (dC, dI) vwCl (WM hM aM kM iM_stands iM_variables iM_rows iM_goals iM_differents iM_cases fM_from fM_to fM_whole fM_ways iM_plainRows fM_plainRow u5 fM_goalOver fM_goalUnder fM_goalMax fM_different) H := by rw [hu5]; exact hP
  have hD : va_D A (WM hM aM kM iM_stands iM_variables iM_rows iM_goals iM_differents iM_cases fM_from fM_to fM_whole fM_ways iM_plainRows fM_plainRow u5 fM_goalOver fM_goalUnder fM_goalMax fM_different) := by rw [hu5]; exact hD
  clear hu5
  refine lv_aload_n hx hb dX1_keepRight_21 rfl (lv_at hl 1 rfl) ?_
  refine va_get (D := (dC, dI)) (ci := 1) (v := .ref (aM 5)) (C := RX1) (T := TX1) (N := 17) hx hb hts iwsMX1_keepRight_in1 hown hK hP 0 rfl rfl 12 (by decide) (hts (.fieldLink RX1 26 "OptimaWorks$Model" "kept" "[I") (by decide +kernel)) (fun _ h9 => h9) rfl dX1_keepRight_22 ?_
  refine lv_iload hx hb dX1_keepRight_25 (lv_at hl 0 rfl) ?_
  refine lv_bipush (v := 9) hx hb dX1_keepRight_27 (by decide) ?_
  refine lv_iadd hx hb dX1_keepRight_29 ?_
  refine lv_topi (fun y6 hy6 => ?_)
  obtain rfl : (iI ((((p1.toInt * 3) + p2.toInt) * 10) + 9)) = y6 := (hy6.trans (iI_add2 rfl (by decide : (9 : Int32) = iI 9))).symm
  refine lv_iload hx hb dX1_keepRight_30 (lv_at hl 5 rfl) ?_
  refine va_iast (cA := kM 5) (n := 360) (f := u5) hx hb hK hP hD hS 6 5 rfl rfl (vp_iI (Int.le_trans (by decide) (Int.add_le_add (Int.mul_le_mul_of_nonneg_right (Int.add_le_add (Int.mul_le_mul_of_nonneg_right (b_p1.1) (by decide)) (b_p2.1)) (by decide)) (Int.le_refl _))) (Int.lt_of_le_of_lt (Int.add_le_add (Int.mul_le_mul_of_nonneg_right (Int.add_le_add (Int.mul_le_mul_of_nonneg_right (b_p1.2) (by decide)) (b_p2.2)) (by decide)) (Int.le_refl _)) (by decide)) (by decide)) dX1_keepRight_32 (fun H locs hP hD hS => ?_)
  obtain ⟨u7, hu7⟩ : ∃ f9, f9 = upd u5 ((iI ((((p1.toInt * 3) + p2.toInt) * 10) + 9))).toNatClampNeg p4 := ⟨_, rfl⟩
  have hP : va_P (dC, dI) vwCl (WM hM aM kM iM_stands iM_variables iM_rows iM_goals iM_differents iM_cases fM_from fM_to fM_whole fM_ways iM_plainRows fM_plainRow u7 fM_goalOver fM_goalUnder fM_goalMax fM_different) H := by rw [hu7]; exact hP
  have hD : va_D A (WM hM aM kM iM_stands iM_variables iM_rows iM_goals iM_differents iM_cases fM_from fM_to fM_whole fM_ways iM_plainRows fM_plainRow u7 fM_goalOver fM_goalUnder fM_goalMax fM_different) := by rw [hu7]; exact hD
  clear hu7
  refine W.widen (k := 0) (n := 0) (by decide +kernel) (by decide +kernel) ?_
  exact W.vret hx hb hr (fun t9_ ht hW => ⟨⟨u7, rfl, trivial, by rw [ht]; exact hP, hD⟩, hS.F ht⟩) hS.2.2 dX1_keepRight_33
theorem dX1_range_0 : decode cX1_range 0 = .ok (.aload_n 0, 1) := dk_42 (by decide +kernel)
theorem dX1_range_1 : decode cX1_range 1 = .ok (.getfield 13, 3) := dk_180 (by decide +kernel)
theorem dX1_range_4 : decode cX1_range 4 = .ok (.iload_n 1, 1) := dk_27 (by decide +kernel)
theorem dX1_range_5 : decode cX1_range 5 = .ok (.iaload, 1) := dk_46 (by decide +kernel)
theorem dX1_range_6 : decode cX1_range 6 = .ok (.aload_n 0, 1) := dk_42 (by decide +kernel)
theorem dX1_range_7 : decode cX1_range 7 = .ok (.getfield 9, 3) := dk_180 (by decide +kernel)
theorem dX1_range_10 : decode cX1_range 10 = .ok (.iload_n 1, 1) := dk_27 (by decide +kernel)
theorem dX1_range_11 : decode cX1_range 11 = .ok (.iaload, 1) := dk_46 (by decide +kernel)
theorem dX1_range_12 : decode cX1_range 12 = .ok (.isub, 1) := dk_100 (by decide +kernel)
theorem dX1_range_13 : decode cX1_range 13 = .ok (.iconst 1, 1) := dk_4 (by decide +kernel)
theorem dX1_range_14 : decode cX1_range 14 = .ok (.iadd, 1) := dk_96 (by decide +kernel)
theorem dX1_range_15 : decode cX1_range 15 = .ok (.ireturn, 1) := dk_172 (by decide +kernel)
def wsMX1_range : List Cond := .code yX1_range cX1_range 2 (some .int) :: ([.fieldLink RX1 13 "OptimaWorks$Model" "to" "[I", .fieldLink RX1 9 "OptimaWorks$Model" "from" "[I"] ++ wsX10)
theorem iwsMX1_range_in1 : ∀ w ∈ wsX10, w ∈ wsMX1_range := fun _ h => List.mem_cons_of_mem _ (List.mem_append_right _ h)
theorem gdwsMX1_range : wsMX1_range.all goodWord = true := gdC rfl (gdA (by decide +kernel : ([.fieldLink RX1 13 "OptimaWorks$Model" "to" "[I", .fieldLink RX1 9 "OptimaWorks$Model" "from" "[I"] : List Cond).all goodWord = true) gdwsX10)
set_option maxHeartbeats 4000000 in
set_option maxRecDepth 100000 in
/-- how many values -/
theorem m_X1_range (l : Launch) (dC : Nat → ClassId) (dI : Nat → Nat → Nat) (hM : Nat → Nat) (aM : Nat → Nat) (kM : Nat → ClassId) (iM_stands : Int32) (iM_variables : Int32) (iM_rows : Int32) (iM_goals : Int32) (iM_differents : Int32) (iM_cases : Int32) (fM_from : Nat → Int32) (fM_to : Nat → Int32) (fM_whole : Nat → Int32) (fM_ways : Nat → Int32) (iM_plainRows : Int32) (fM_plainRow : Nat → Int32) (fM_kept : Nat → Int32) (fM_goalOver : Nat → Int32) (fM_goalUnder : Nat → Int32) (fM_goalMax : Nat → Int32) (fM_different : Nat → Int32) (p1 : Int32) (b_iM_stands : 0 ≤ iM_stands.toInt ∧ iM_stands.toInt ≤ 1) (b_iM_variables : 0 ≤ iM_variables.toInt ∧ iM_variables.toInt ≤ 8) (b_iM_rows : 0 ≤ iM_rows.toInt ∧ iM_rows.toInt ≤ 12) (b_iM_goals : 0 ≤ iM_goals.toInt ∧ iM_goals.toInt ≤ 3) (b_iM_differents : 0 ≤ iM_differents.toInt ∧ iM_differents.toInt ≤ 8) (b_iM_cases : 0 ≤ iM_cases.toInt ∧ iM_cases.toInt ≤ 200000) (b_fM_ways : ∀ q : Nat, 0 ≤ (fM_ways q).toInt ∧ (fM_ways q).toInt ≤ 3) (b_iM_plainRows : 0 ≤ iM_plainRows.toInt ∧ iM_plainRows.toInt ≤ 12) (b_fM_plainRow : ∀ q : Nat, 0 ≤ (fM_plainRow q).toInt ∧ (fM_plainRow q).toInt ≤ 11) (b_pr : iM_plainRows.toInt ≤ iM_rows.toInt) (b_p1 : 0 ≤ p1.toInt ∧ p1.toInt ≤ 7) (sz : Nat) : Met l yX1_range wsMX1_range ({ frames := 0, cells := 0, slots := 0, locals := 0 }) (va_Pc [.ref (hM 0), .int p1] (fun U => U.heap.size = sz ∧ va_P (dC, dI) vwCl (WM hM aM kM iM_stands iM_variables iM_rows iM_goals iM_differents iM_cases fM_from fM_to fM_whole fM_ways iM_plainRows fM_plainRow fM_kept fM_goalOver fM_goalUnder fM_goalMax fM_different) U.heap ∧ va_K (dC, dI) vwCl (tM kM) U ∧ va_D (fun _ => True) (WM hM aM kM iM_stands iM_variables iM_rows iM_goals iM_differents iM_cases fM_from fM_to fM_whole fM_ways iM_plainRows fM_plainRow fM_kept fM_goalOver fM_goalUnder fM_goalMax fM_different))) (va_Qi (fun (r : Int32) (u : Unit) => True) (fun (u : Unit) t => va_P (dC, dI) vwCl (WM hM aM kM iM_stands iM_variables iM_rows iM_goals iM_differents iM_cases fM_from fM_to fM_whole fM_ways iM_plainRows fM_plainRow fM_kept fM_goalOver fM_goalUnder fM_goalMax fM_different) t.heap ∧ va_D (va_A (WM hM aM kM iM_stands iM_variables iM_rows iM_goals iM_differents iM_cases fM_from fM_to fM_whole fM_ways iM_plainRows fM_plainRow fM_kept fM_goalOver fM_goalUnder fM_goalMax fM_different) sz) (WM hM aM kM iM_stands iM_variables iM_rows iM_goals iM_differents iM_cases fM_from fM_to fM_whole fM_ways iM_plainRows fM_plainRow fM_kept fM_goalOver fM_goalUnder fM_goalMax fM_different)) (va_A (WM hM aM kM iM_stands iM_variables iM_rows iM_goals iM_differents iM_cases fM_from fM_to fM_whole fM_ways iM_plainRows fM_plainRow fM_kept fM_goalOver fM_goalUnder fM_goalMax fM_different) sz)) 0 0 (va_A (WM hM aM kM iM_stands iM_variables iM_rows iM_goals iM_differents iM_cases fM_from fM_to fM_whole fM_ways iM_plainRows fM_plainRow fM_kept fM_goalOver fM_goalUnder fM_goalMax fM_different) sz) := by
  refine Met.ofW (cc := cX1_range) (maxL := 2) (ret := (some .int)) (by decide) rfl ?_
  intro p e s m args below meth c s₁ B hml hv
  obtain ⟨rfl, hsz, hP, hK, hD0⟩ := hv
  have hx := B.exec
  have hb := B.bytes
  have hr := B.returns
  have hts := atoms_spec (ws := wsMX1_range) B.pre
  have hown : s.vm.findClass RX1 = some m.cls := findClass_of_methodNamed B.named
  have hlocks := B.notSynchronized
  subst hsz
  have hD := hD0.self (sz := s.heap.size)
  generalize hAe : va_A (WM hM aM kM iM_stands iM_variables iM_rows iM_goals iM_differents iM_cases fM_from fM_to fM_whole fM_ways iM_plainRows fM_plainRow fM_kept fM_goalOver fM_goalUnder fM_goalMax fM_different) s.heap.size = A at hD ⊢
  have hA : ∀ q : Nat, s.heap.size ≤ q → A q := fun q h => by rw [← hAe]; exact Or.inr h
  have hS : va_S A s.heap s.heap [] := va_S.rf
  have hl := lv_entry ([.ref (hM 0), .int p1]) (n := 2) (Nat.le_of_ble_eq_true rfl)
  rw [lg_entry_eq]
  generalize (lg_sl ([.ref (hM 0), .int p1]) ++ List.replicate (2 - (lg_sl ([.ref (hM 0), .int p1])).length) Slot.unset).toArray = ls at hl ⊢
  have hl : lv_has ls 2 [(0, .ref (hM 0)), (1, .int p1)] := hl
  refine lv_aload_n hx hb dX1_range_0 rfl (lv_at hl 0 rfl) ?_
  refine va_get (D := (dC, dI)) (ci := 1) (v := .ref (aM 1)) (C := RX1) (T := TX1) (N := 17) hx hb hts iwsMX1_range_in1 hown hK hP 0 rfl rfl 7 (by decide) (hts (.fieldLink RX1 13 "OptimaWorks$Model" "to" "[I") (by decide +kernel)) (fun _ h9 => h9) rfl dX1_range_1 ?_
  refine lv_iload_n hx hb dX1_range_4 rfl (lv_at hl 1 rfl) ?_
  refine va_iald (cA := kM 1) (n := 8) (f := fM_to) hx hb hK hP 2 1 rfl rfl (vp_in_iff.mpr ⟨b_p1.1, (Int.lt_of_le_of_lt (b_p1.2) (by decide))⟩) dX1_range_5 ?_
  refine lv_topi (fun v1 hv1 => ?_)
  clear hv1
  refine lv_aload_n hx hb dX1_range_6 rfl (lv_at hl 0 rfl) ?_
  refine va_get (D := (dC, dI)) (ci := 1) (v := .ref (aM 0)) (C := RX1) (T := TX1) (N := 17) hx hb hts iwsMX1_range_in1 hown hK hP 0 rfl rfl 6 (by decide) (hts (.fieldLink RX1 9 "OptimaWorks$Model" "from" "[I") (by decide +kernel)) (fun _ h9 => h9) rfl dX1_range_7 ?_
  refine lv_iload_n hx hb dX1_range_10 rfl (lv_at hl 1 rfl) ?_
  refine va_iald (cA := kM 0) (n := 8) (f := fM_from) hx hb hK hP 1 0 rfl rfl (vp_in_iff.mpr ⟨b_p1.1, (Int.lt_of_le_of_lt (b_p1.2) (by decide))⟩) dX1_range_11 ?_
  refine lv_topi (fun v2 hv2 => ?_)
  clear hv2
  refine lv_isub hx hb dX1_range_12 ?_
  refine lv_topi (fun y3 hy3 => ?_)
  obtain rfl : (iI (v1.toInt - v2.toInt)) = y3 := (hy3.trans (iI_sub2 (iI_of _) (iI_of _))).symm
  refine lv_iconst (v := 1) hx hb dX1_range_13 (by decide) ?_
  refine lv_iadd hx hb dX1_range_14 ?_
  refine lv_topi (fun y4 hy4 => ?_)
  obtain rfl : (iI ((v1.toInt - v2.toInt) + 1)) = y4 := (hy4.trans (iI_add2 rfl (by decide : (1 : Int32) = iI 1))).symm
  refine W.widen (k := 0) (n := 0) (by decide +kernel) (by decide +kernel) ?_
  exact W.iret (v := (iI ((v1.toInt - v2.toInt) + 1))) hx hb hr (fun t9_ ht hW => ⟨⟨(iI ((v1.toInt - v2.toInt) + 1)), (), rfl, trivial, by rw [ht]; exact hP, hD⟩, hS.F ht⟩) hS.2.2 dX1_range_15
theorem dX1_addRow_0 : decode cX1_addRow 0 = .ok (.aload_n 0, 1) := dk_42 (by decide +kernel)
theorem dX1_addRow_1 : decode cX1_addRow 1 = .ok (.getfield 20, 3) := dk_180 (by decide +kernel)
theorem dX1_addRow_4 : decode cX1_addRow 4 = .ok (.aload_n 0, 1) := dk_42 (by decide +kernel)
theorem dX1_addRow_5 : decode cX1_addRow 5 = .ok (.getfield 49, 3) := dk_180 (by decide +kernel)
theorem dX1_addRow_8 : decode cX1_addRow 8 = .ok (.iload_n 1, 1) := dk_27 (by decide +kernel)
theorem dX1_addRow_9 : decode cX1_addRow 9 = .ok (.iastore, 1) := dk_79 (by decide +kernel)
theorem dX1_addRow_10 : decode cX1_addRow 10 = .ok (.iload_n 1, 1) := dk_27 (by decide +kernel)
theorem dX1_addRow_11 : decode cX1_addRow 11 = .ok (.iconst 1, 1) := dk_4 (by decide +kernel)
theorem dX1_addRow_12 : decode cX1_addRow 12 = .ok (.if_icmp .ne 26, 3) := dk_160 (by decide +kernel)
theorem dX1_addRow_15 : decode cX1_addRow 15 = .ok (.aload_n 0, 1) := dk_42 (by decide +kernel)
theorem dX1_addRow_16 : decode cX1_addRow 16 = .ok (.getfield 23, 3) := dk_180 (by decide +kernel)
theorem dX1_addRow_19 : decode cX1_addRow 19 = .ok (.aload_n 0, 1) := dk_42 (by decide +kernel)
theorem dX1_addRow_20 : decode cX1_addRow 20 = .ok (.getfield 52, 3) := dk_180 (by decide +kernel)
theorem dX1_addRow_23 : decode cX1_addRow 23 = .ok (.aload_n 0, 1) := dk_42 (by decide +kernel)
theorem dX1_addRow_24 : decode cX1_addRow 24 = .ok (.getfield 49, 3) := dk_180 (by decide +kernel)
theorem dX1_addRow_27 : decode cX1_addRow 27 = .ok (.iastore, 1) := dk_79 (by decide +kernel)
theorem dX1_addRow_28 : decode cX1_addRow 28 = .ok (.aload_n 0, 1) := dk_42 (by decide +kernel)
theorem dX1_addRow_29 : decode cX1_addRow 29 = .ok (.dup, 1) := dk_89 (by decide +kernel)
theorem dX1_addRow_30 : decode cX1_addRow 30 = .ok (.getfield 52, 3) := dk_180 (by decide +kernel)
theorem dX1_addRow_33 : decode cX1_addRow 33 = .ok (.iconst 1, 1) := dk_4 (by decide +kernel)
theorem dX1_addRow_34 : decode cX1_addRow 34 = .ok (.iadd, 1) := dk_96 (by decide +kernel)
theorem dX1_addRow_35 : decode cX1_addRow 35 = .ok (.putfield 52, 3) := dk_181 (by decide +kernel)
theorem dX1_addRow_38 : decode cX1_addRow 38 = .ok (.aload_n 0, 1) := dk_42 (by decide +kernel)
theorem dX1_addRow_39 : decode cX1_addRow 39 = .ok (.dup, 1) := dk_89 (by decide +kernel)
theorem dX1_addRow_40 : decode cX1_addRow 40 = .ok (.getfield 49, 3) := dk_180 (by decide +kernel)
theorem dX1_addRow_43 : decode cX1_addRow 43 = .ok (.iconst 1, 1) := dk_4 (by decide +kernel)
theorem dX1_addRow_44 : decode cX1_addRow 44 = .ok (.iadd, 1) := dk_96 (by decide +kernel)
theorem dX1_addRow_45 : decode cX1_addRow 45 = .ok (.putfield 49, 3) := dk_181 (by decide +kernel)
theorem dX1_addRow_48 : decode cX1_addRow 48 = .ok (.return_, 1) := dk_177 (by decide +kernel)
def wsMX1_addRow : List Cond := .code yX1_addRow cX1_addRow 2 none :: ([.fieldLink RX1 20 "OptimaWorks$Model" "ways" "[I", .fieldLink RX1 49 "OptimaWorks$Model" "rows" "I", .fieldLink RX1 23 "OptimaWorks$Model" "plainRow" "[I", .fieldLink RX1 52 "OptimaWorks$Model" "plainRows" "I"] ++ wsX10)
theorem iwsMX1_addRow_in1 : ∀ w ∈ wsX10, w ∈ wsMX1_addRow := fun _ h => List.mem_cons_of_mem _ (List.mem_append_right _ h)
theorem gdwsMX1_addRow : wsMX1_addRow.all goodWord = true := gdC rfl (gdA (by decide +kernel : ([.fieldLink RX1 20 "OptimaWorks$Model" "ways" "[I", .fieldLink RX1 49 "OptimaWorks$Model" "rows" "I", .fieldLink RX1 23 "OptimaWorks$Model" "plainRow" "[I", .fieldLink RX1 52 "OptimaWorks$Model" "plainRows" "I"] : List Cond).all goodWord = true) gdwsX10)
set_option maxHeartbeats 4000000 in
set_option maxRecDepth 100000 in
/-- a row more -/
theorem m_X1_addRow (l : Launch) (dC : Nat → ClassId) (dI : Nat → Nat → Nat) (hM : Nat → Nat) (aM : Nat → Nat) (kM : Nat → ClassId) (iM_stands : Int32) (iM_variables : Int32) (iM_rows : Int32) (iM_goals : Int32) (iM_differents : Int32) (iM_cases : Int32) (fM_from : Nat → Int32) (fM_to : Nat → Int32) (fM_whole : Nat → Int32) (fM_ways : Nat → Int32) (iM_plainRows : Int32) (fM_plainRow : Nat → Int32) (fM_kept : Nat → Int32) (fM_goalOver : Nat → Int32) (fM_goalUnder : Nat → Int32) (fM_goalMax : Nat → Int32) (fM_different : Nat → Int32) (p1 : Int32) (b_iM_stands : 0 ≤ iM_stands.toInt ∧ iM_stands.toInt ≤ 1) (b_iM_variables : 0 ≤ iM_variables.toInt ∧ iM_variables.toInt ≤ 8) (b_iM_rows : 0 ≤ iM_rows.toInt ∧ iM_rows.toInt ≤ 12) (b_iM_goals : 0 ≤ iM_goals.toInt ∧ iM_goals.toInt ≤ 3) (b_iM_differents : 0 ≤ iM_differents.toInt ∧ iM_differents.toInt ≤ 8) (b_iM_cases : 0 ≤ iM_cases.toInt ∧ iM_cases.toInt ≤ 200000) (b_fM_ways : ∀ q : Nat, 0 ≤ (fM_ways q).toInt ∧ (fM_ways q).toInt ≤ 3) (b_iM_plainRows : 0 ≤ iM_plainRows.toInt ∧ iM_plainRows.toInt ≤ 12) (b_fM_plainRow : ∀ q : Nat, 0 ≤ (fM_plainRow q).toInt ∧ (fM_plainRow q).toInt ≤ 11) (b_pr : iM_plainRows.toInt ≤ iM_rows.toInt) (b_p1 : 0 ≤ p1.toInt ∧ p1.toInt ≤ 3) (hlt : iM_rows.toInt < 12) (sz : Nat) : Met l yX1_addRow wsMX1_addRow ({ frames := 0, cells := 0, slots := 0, locals := 0 }) (va_Pc [.ref (hM 0), .int p1] (fun U => U.heap.size = sz ∧ va_P (dC, dI) vwCl (WM hM aM kM iM_stands iM_variables iM_rows iM_goals iM_differents iM_cases fM_from fM_to fM_whole fM_ways iM_plainRows fM_plainRow fM_kept fM_goalOver fM_goalUnder fM_goalMax fM_different) U.heap ∧ va_K (dC, dI) vwCl (tM kM) U ∧ va_D (fun _ => True) (WM hM aM kM iM_stands iM_variables iM_rows iM_goals iM_differents iM_cases fM_from fM_to fM_whole fM_ways iM_plainRows fM_plainRow fM_kept fM_goalOver fM_goalUnder fM_goalMax fM_different))) (va_Qv (fun (u : (Int32) × (Nat → Int32) × (Int32) × (Nat → Int32)) => (0 ≤ (u.1).toInt ∧ (u.1).toInt ≤ 12) ∧ (∀ q : Nat, 0 ≤ ((u.2.1) q).toInt ∧ ((u.2.1) q).toInt ≤ 3) ∧ (0 ≤ (u.2.2.1).toInt ∧ (u.2.2.1).toInt ≤ 12) ∧ (∀ q : Nat, 0 ≤ ((u.2.2.2) q).toInt ∧ ((u.2.2.2) q).toInt ≤ 11) ∧ ((u.2.2.1).toInt ≤ (u.1).toInt) ∧ ((u.1).toInt = iM_rows.toInt + 1)) (fun (u : (Int32) × (Nat → Int32) × (Int32) × (Nat → Int32)) t => va_P (dC, dI) vwCl (WM hM aM kM iM_stands iM_variables (u.1) iM_goals iM_differents iM_cases fM_from fM_to fM_whole (u.2.1) (u.2.2.1) (u.2.2.2) fM_kept fM_goalOver fM_goalUnder fM_goalMax fM_different) t.heap ∧ va_D (va_A (WM hM aM kM iM_stands iM_variables iM_rows iM_goals iM_differents iM_cases fM_from fM_to fM_whole fM_ways iM_plainRows fM_plainRow fM_kept fM_goalOver fM_goalUnder fM_goalMax fM_different) sz) (WM hM aM kM iM_stands iM_variables (u.1) iM_goals iM_differents iM_cases fM_from fM_to fM_whole (u.2.1) (u.2.2.1) (u.2.2.2) fM_kept fM_goalOver fM_goalUnder fM_goalMax fM_different)) (va_A (WM hM aM kM iM_stands iM_variables iM_rows iM_goals iM_differents iM_cases fM_from fM_to fM_whole fM_ways iM_plainRows fM_plainRow fM_kept fM_goalOver fM_goalUnder fM_goalMax fM_different) sz)) 0 0 (va_A (WM hM aM kM iM_stands iM_variables iM_rows iM_goals iM_differents iM_cases fM_from fM_to fM_whole fM_ways iM_plainRows fM_plainRow fM_kept fM_goalOver fM_goalUnder fM_goalMax fM_different) sz) := by
  refine Met.ofW (cc := cX1_addRow) (maxL := 2) (ret := none) (by decide) rfl ?_
  intro p e s m args below meth c s₁ B hml hv
  obtain ⟨rfl, hsz, hP, hK, hD0⟩ := hv
  have hx := B.exec
  have hb := B.bytes
  have hr := B.returns
  have hts := atoms_spec (ws := wsMX1_addRow) B.pre
  have hown : s.vm.findClass RX1 = some m.cls := findClass_of_methodNamed B.named
  have hlocks := B.notSynchronized
  subst hsz
  have hD := hD0.self (sz := s.heap.size)
  generalize hAe : va_A (WM hM aM kM iM_stands iM_variables iM_rows iM_goals iM_differents iM_cases fM_from fM_to fM_whole fM_ways iM_plainRows fM_plainRow fM_kept fM_goalOver fM_goalUnder fM_goalMax fM_different) s.heap.size = A at hD ⊢
  have hA : ∀ q : Nat, s.heap.size ≤ q → A q := fun q h => by rw [← hAe]; exact Or.inr h
  have hS : va_S A s.heap s.heap [] := va_S.rf
  have hl := lv_entry ([.ref (hM 0), .int p1]) (n := 2) (Nat.le_of_ble_eq_true rfl)
  rw [lg_entry_eq]
  generalize (lg_sl ([.ref (hM 0), .int p1]) ++ List.replicate (2 - (lg_sl ([.ref (hM 0), .int p1])).length) Slot.unset).toArray = ls at hl ⊢
  have hl : lv_has ls 2 [(0, .ref (hM 0)), (1, .int p1)] := hl
  refine lv_aload_n hx hb dX1_addRow_0 rfl (lv_at hl 0 rfl) ?_
  refine va_get (D := (dC, dI)) (ci := 1) (v := .ref (aM 3)) (C := RX1) (T := TX1) (N := 17) hx hb hts iwsMX1_addRow_in1 hown hK hP 0 rfl rfl 9 (by decide) (hts (.fieldLink RX1 20 "OptimaWorks$Model" "ways" "[I") (by decide +kernel)) (fun _ h9 => h9) rfl dX1_addRow_1 ?_
  refine lv_aload_n hx hb dX1_addRow_4 rfl (lv_at hl 0 rfl) ?_
  refine va_get (D := (dC, dI)) (ci := 1) (v := .int iM_rows) (C := RX1) (T := TX1) (N := 17) hx hb hts iwsMX1_addRow_in1 hown hK hP 0 rfl rfl 2 (by decide) (hts (.fieldLink RX1 49 "OptimaWorks$Model" "rows" "I") (by decide +kernel)) (fun _ h9 => h9) rfl dX1_addRow_5 ?_
  refine lv_iload_n hx hb dX1_addRow_8 rfl (lv_at hl 1 rfl) ?_
  refine va_iast (cA := kM 3) (n := 12) (f := fM_ways) hx hb hK hP hD hS 4 3 rfl rfl (vp_in_iff.mpr ⟨b_iM_rows.1, (by omega)⟩) dX1_addRow_9 (fun H locs hP hD hS => ?_)
  obtain ⟨u1, hu1⟩ : ∃ f9, f9 = upd fM_ways (iM_rows).toNatClampNeg p1 := ⟨_, rfl⟩
  have hP : va_P (dC, dI) vwCl (WM hM aM kM iM_stands iM_variables iM_rows iM_goals iM_differents iM_cases fM_from fM_to fM_whole u1 iM_plainRows fM_plainRow fM_kept fM_goalOver fM_goalUnder fM_goalMax fM_different) H := by rw [hu1]; exact hP
  have hD : va_D A (WM hM aM kM iM_stands iM_variables iM_rows iM_goals iM_differents iM_cases fM_from fM_to fM_whole u1 iM_plainRows fM_plainRow fM_kept fM_goalOver fM_goalUnder fM_goalMax fM_different) := by rw [hu1]; exact hD
  have b_u1 : ∀ q : Nat, 0 ≤ (u1 q).toInt ∧ (u1 q).toInt ≤ 3 := by rw [hu1]; exact upd_r b_fM_ways (b_p1)
  clear hu1
  refine lv_iload_n hx hb dX1_addRow_10 rfl (lv_at hl 1 rfl) ?_
  refine lv_iconst (v := 1) hx hb dX1_addRow_11 (by decide) ?_
  refine lv_icmp_ne (tgt := 38) hx hb dX1_addRow_12 (by decide) (fun c_12 => ?_) (fun c_12 => ?_)
  · have t_12 : p1.toInt ≠ 1 := toI_ne c_12 rfl (by decide : (1 : Int32).toInt = 1)
    refine lv_aload_n hx hb dX1_addRow_38 rfl (lv_at hl 0 rfl) ?_
    refine lv_dup hx hb dX1_addRow_39 rfl ?_
    refine va_get (D := (dC, dI)) (ci := 1) (v := .int iM_rows) (C := RX1) (T := TX1) (N := 17) hx hb hts iwsMX1_addRow_in1 hown hK hP 0 rfl rfl 2 (by decide) (hts (.fieldLink RX1 49 "OptimaWorks$Model" "rows" "I") (by decide +kernel)) (fun _ h9 => h9) rfl dX1_addRow_40 ?_
    refine lv_iconst (v := 1) hx hb dX1_addRow_43 (by decide) ?_
    refine lv_iadd hx hb dX1_addRow_44 ?_
    refine lv_topi (fun y2 hy2 => ?_)
    obtain rfl : (iI (iM_rows.toInt + 1)) = y2 := (hy2.trans (iI_add2 (iI_of _) (by decide : (1 : Int32) = iI 1))).symm
    refine va_put (D := (dC, dI)) (ci := 1) (v := .int (iI (iM_rows.toInt + 1))) (ty := .int) (C := RX1) (T := TX1) (N := 17) hx hb hts iwsMX1_addRow_in1 tyX1 tyX1_ok nmX1 hown hK hP hD hS 0 rfl rfl 2 (by decide) (hts (.fieldLink RX1 49 "OptimaWorks$Model" "rows" "I") (by decide +kernel)) (fun _ h9 => h9) rfl (by decide +kernel) rfl rfl (Nat.le_of_ble_eq_true rfl) dX1_addRow_45 (fun H locs hP hD hS => ?_)
    have hP : va_P (dC, dI) vwCl (WM hM aM kM iM_stands iM_variables (iI (iM_rows.toInt + 1)) iM_goals iM_differents iM_cases fM_from fM_to fM_whole u1 iM_plainRows fM_plainRow fM_kept fM_goalOver fM_goalUnder fM_goalMax fM_different) H := hP
    have hD : va_D A (WM hM aM kM iM_stands iM_variables (iI (iM_rows.toInt + 1)) iM_goals iM_differents iM_cases fM_from fM_to fM_whole u1 iM_plainRows fM_plainRow fM_kept fM_goalOver fM_goalUnder fM_goalMax fM_different) := hD
    refine W.widen (k := 0) (n := 0) (by decide +kernel) (by decide +kernel) ?_
    exact W.vret hx hb hr (fun t9_ ht hW => ⟨⟨((iI (iM_rows.toInt + 1)), u1, iM_plainRows, fM_plainRow), rfl, ⟨(by (try dsimp only); exact (iI_rng (Int.le_trans (by decide) (Int.add_le_add (b_iM_rows.1) (Int.le_refl _))) (by omega) (by decide) (by decide))), b_u1, (by (try dsimp only); exact (b_iM_plainRows)), b_fM_plainRow, (by (try dsimp only); exact (by first | (rw [iI_t (by omega) (by omega), iI_t (by omega) (by omega)]; omega) | (rw [iI_t (by omega) (by omega)]; omega))), (by (try dsimp only); exact (iI_t (by omega) (by omega)))⟩, by rw [ht]; exact hP, hD⟩, hS.F ht⟩) hS.2.2 dX1_addRow_48
  · have t_12 : p1.toInt = 1 := toI_nne c_12 rfl (by decide : (1 : Int32).toInt = 1)
    refine lv_aload_n hx hb dX1_addRow_15 rfl (lv_at hl 0 rfl) ?_
    refine va_get (D := (dC, dI)) (ci := 1) (v := .ref (aM 4)) (C := RX1) (T := TX1) (N := 17) hx hb hts iwsMX1_addRow_in1 hown hK hP 0 rfl rfl 11 (by decide) (hts (.fieldLink RX1 23 "OptimaWorks$Model" "plainRow" "[I") (by decide +kernel)) (fun _ h9 => h9) rfl dX1_addRow_16 ?_
    refine lv_aload_n hx hb dX1_addRow_19 rfl (lv_at hl 0 rfl) ?_
    refine va_get (D := (dC, dI)) (ci := 1) (v := .int iM_plainRows) (C := RX1) (T := TX1) (N := 17) hx hb hts iwsMX1_addRow_in1 hown hK hP 0 rfl rfl 10 (by decide) (hts (.fieldLink RX1 52 "OptimaWorks$Model" "plainRows" "I") (by decide +kernel)) (fun _ h9 => h9) rfl dX1_addRow_20 ?_
    refine lv_aload_n hx hb dX1_addRow_23 rfl (lv_at hl 0 rfl) ?_
    refine va_get (D := (dC, dI)) (ci := 1) (v := .int iM_rows) (C := RX1) (T := TX1) (N := 17) hx hb hts iwsMX1_addRow_in1 hown hK hP 0 rfl rfl 2 (by decide) (hts (.fieldLink RX1 49 "OptimaWorks$Model" "rows" "I") (by decide +kernel)) (fun _ h9 => h9) rfl dX1_addRow_24 ?_
    refine va_iast (cA := kM 4) (n := 12) (f := fM_plainRow) hx hb hK hP hD hS 5 4 rfl rfl (vp_in_iff.mpr ⟨b_iM_plainRows.1, (by omega)⟩) dX1_addRow_27 (fun H locs hP hD hS => ?_)
    obtain ⟨u3, hu3⟩ : ∃ f9, f9 = upd fM_plainRow (iM_plainRows).toNatClampNeg iM_rows := ⟨_, rfl⟩
    have hP : va_P (dC, dI) vwCl (WM hM aM kM iM_stands iM_variables iM_rows iM_goals iM_differents iM_cases fM_from fM_to fM_whole u1 iM_plainRows u3 fM_kept fM_goalOver fM_goalUnder fM_goalMax fM_different) H := by rw [hu3]; exact hP
    have hD : va_D A (WM hM aM kM iM_stands iM_variables iM_rows iM_goals iM_differents iM_cases fM_from fM_to fM_whole u1 iM_plainRows u3 fM_kept fM_goalOver fM_goalUnder fM_goalMax fM_different) := by rw [hu3]; exact hD
    have b_u3 : ∀ q : Nat, 0 ≤ (u3 q).toInt ∧ (u3 q).toInt ≤ 11 := by rw [hu3]; exact upd_r b_fM_plainRow (by first | exact b_iM_rows | assumption | exact ⟨by omega, by omega⟩)
    clear hu3
    refine lv_aload_n hx hb dX1_addRow_28 rfl (lv_at hl 0 rfl) ?_
    refine lv_dup hx hb dX1_addRow_29 rfl ?_
    refine va_get (D := (dC, dI)) (ci := 1) (v := .int iM_plainRows) (C := RX1) (T := TX1) (N := 17) hx hb hts iwsMX1_addRow_in1 hown hK hP 0 rfl rfl 10 (by decide) (hts (.fieldLink RX1 52 "OptimaWorks$Model" "plainRows" "I") (by decide +kernel)) (fun _ h9 => h9) rfl dX1_addRow_30 ?_
    refine lv_iconst (v := 1) hx hb dX1_addRow_33 (by decide) ?_
    refine lv_iadd hx hb dX1_addRow_34 ?_
    refine lv_topi (fun y4 hy4 => ?_)
    obtain rfl : (iI (iM_plainRows.toInt + 1)) = y4 := (hy4.trans (iI_add2 (iI_of _) (by decide : (1 : Int32) = iI 1))).symm
    refine va_put (D := (dC, dI)) (ci := 1) (v := .int (iI (iM_plainRows.toInt + 1))) (ty := .int) (C := RX1) (T := TX1) (N := 17) hx hb hts iwsMX1_addRow_in1 tyX1 tyX1_ok nmX1 hown hK hP hD hS 0 rfl rfl 10 (by decide) (hts (.fieldLink RX1 52 "OptimaWorks$Model" "plainRows" "I") (by decide +kernel)) (fun _ h9 => h9) rfl (by decide +kernel) rfl rfl (Nat.le_of_ble_eq_true rfl) dX1_addRow_35 (fun H locs hP hD hS => ?_)
    have hP : va_P (dC, dI) vwCl (WM hM aM kM iM_stands iM_variables iM_rows iM_goals iM_differents iM_cases fM_from fM_to fM_whole u1 (iI (iM_plainRows.toInt + 1)) u3 fM_kept fM_goalOver fM_goalUnder fM_goalMax fM_different) H := hP
    have hD : va_D A (WM hM aM kM iM_stands iM_variables iM_rows iM_goals iM_differents iM_cases fM_from fM_to fM_whole u1 (iI (iM_plainRows.toInt + 1)) u3 fM_kept fM_goalOver fM_goalUnder fM_goalMax fM_different) := hD
    refine lv_aload_n hx hb dX1_addRow_38 rfl (lv_at hl 0 rfl) ?_
    refine lv_dup hx hb dX1_addRow_39 rfl ?_
    refine va_get (D := (dC, dI)) (ci := 1) (v := .int iM_rows) (C := RX1) (T := TX1) (N := 17) hx hb hts iwsMX1_addRow_in1 hown hK hP 0 rfl rfl 2 (by decide) (hts (.fieldLink RX1 49 "OptimaWorks$Model" "rows" "I") (by decide +kernel)) (fun _ h9 => h9) rfl dX1_addRow_40 ?_
    refine lv_iconst (v := 1) hx hb dX1_addRow_43 (by decide) ?_
    refine lv_iadd hx hb dX1_addRow_44 ?_
    refine lv_topi (fun y5 hy5 => ?_)
    obtain rfl : (iI (iM_rows.toInt + 1)) = y5 := (hy5.trans (iI_add2 (iI_of _) (by decide : (1 : Int32) = iI 1))).symm
    refine va_put (D := (dC, dI)) (ci := 1) (v := .int (iI (iM_rows.toInt + 1))) (ty := .int) (C := RX1) (T := TX1) (N := 17) hx hb hts iwsMX1_addRow_in1 tyX1 tyX1_ok nmX1 hown hK hP hD hS 0 rfl rfl 2 (by decide) (hts (.fieldLink RX1 49 "OptimaWorks$Model" "rows" "I") (by decide +kernel)) (fun _ h9 => h9) rfl (by decide +kernel) rfl rfl (Nat.le_of_ble_eq_true rfl) dX1_addRow_45 (fun H locs hP hD hS => ?_)
    have hP : va_P (dC, dI) vwCl (WM hM aM kM iM_stands iM_variables (iI (iM_rows.toInt + 1)) iM_goals iM_differents iM_cases fM_from fM_to fM_whole u1 (iI (iM_plainRows.toInt + 1)) u3 fM_kept fM_goalOver fM_goalUnder fM_goalMax fM_different) H := hP
    have hD : va_D A (WM hM aM kM iM_stands iM_variables (iI (iM_rows.toInt + 1)) iM_goals iM_differents iM_cases fM_from fM_to fM_whole u1 (iI (iM_plainRows.toInt + 1)) u3 fM_kept fM_goalOver fM_goalUnder fM_goalMax fM_different) := hD
    refine W.widen (k := 0) (n := 0) (by decide +kernel) (by decide +kernel) ?_
    exact W.vret hx hb hr (fun t9_ ht hW => ⟨⟨((iI (iM_rows.toInt + 1)), u1, (iI (iM_plainRows.toInt + 1)), u3), rfl, ⟨(by (try dsimp only); exact (iI_rng (Int.le_trans (by decide) (Int.add_le_add (b_iM_rows.1) (Int.le_refl _))) (by omega) (by decide) (by decide))), b_u1, (by (try dsimp only); exact (iI_rng (Int.le_trans (by decide) (Int.add_le_add (b_iM_plainRows.1) (Int.le_refl _))) (by omega) (by decide) (by decide))), b_u3, (by (try dsimp only); exact (by first | (rw [iI_t (by omega) (by omega), iI_t (by omega) (by omega)]; omega) | (rw [iI_t (by omega) (by omega)]; omega))), (by (try dsimp only); exact (iI_t (by omega) (by omega)))⟩, by rw [ht]; exact hP, hD⟩, hS.F ht⟩) hS.2.2 dX1_addRow_48
theorem dX1_needs_0 : decode cX1_needs 0 = .ok (.aload_n 0, 1) := dk_42 (by decide +kernel)
theorem dX1_needs_1 : decode cX1_needs 1 = .ok (.getfield 52, 3) := dk_180 (by decide +kernel)
theorem dX1_needs_4 : decode cX1_needs 4 = .ok (.iconst 2, 1) := dk_5 (by decide +kernel)
theorem dX1_needs_5 : decode cX1_needs 5 = .ok (.aload_n 0, 1) := dk_42 (by decide +kernel)
theorem dX1_needs_6 : decode cX1_needs 6 = .ok (.getfield 45, 3) := dk_180 (by decide +kernel)
theorem dX1_needs_9 : decode cX1_needs 9 = .ok (.imul, 1) := dk_104 (by decide +kernel)
theorem dX1_needs_10 : decode cX1_needs 10 = .ok (.iadd, 1) := dk_96 (by decide +kernel)
theorem dX1_needs_11 : decode cX1_needs 11 = .ok (.ireturn, 1) := dk_172 (by decide +kernel)
def wsMX1_needs : List Cond := .code yX1_needs cX1_needs 1 (some .int) :: ([.fieldLink RX1 52 "OptimaWorks$Model" "plainRows" "I", .fieldLink RX1 45 "OptimaWorks$Model" "variables" "I"] ++ wsX10)
theorem iwsMX1_needs_in1 : ∀ w ∈ wsX10, w ∈ wsMX1_needs := fun _ h => List.mem_cons_of_mem _ (List.mem_append_right _ h)
theorem gdwsMX1_needs : wsMX1_needs.all goodWord = true := gdC rfl (gdA (by decide +kernel : ([.fieldLink RX1 52 "OptimaWorks$Model" "plainRows" "I", .fieldLink RX1 45 "OptimaWorks$Model" "variables" "I"] : List Cond).all goodWord = true) gdwsX10)
set_option maxHeartbeats 4000000 in
set_option maxRecDepth 100000 in
/-- how many needs -/
theorem m_X1_needs (l : Launch) (dC : Nat → ClassId) (dI : Nat → Nat → Nat) (hM : Nat → Nat) (aM : Nat → Nat) (kM : Nat → ClassId) (iM_stands : Int32) (iM_variables : Int32) (iM_rows : Int32) (iM_goals : Int32) (iM_differents : Int32) (iM_cases : Int32) (fM_from : Nat → Int32) (fM_to : Nat → Int32) (fM_whole : Nat → Int32) (fM_ways : Nat → Int32) (iM_plainRows : Int32) (fM_plainRow : Nat → Int32) (fM_kept : Nat → Int32) (fM_goalOver : Nat → Int32) (fM_goalUnder : Nat → Int32) (fM_goalMax : Nat → Int32) (fM_different : Nat → Int32) (b_iM_stands : 0 ≤ iM_stands.toInt ∧ iM_stands.toInt ≤ 1) (b_iM_variables : 0 ≤ iM_variables.toInt ∧ iM_variables.toInt ≤ 8) (b_iM_rows : 0 ≤ iM_rows.toInt ∧ iM_rows.toInt ≤ 12) (b_iM_goals : 0 ≤ iM_goals.toInt ∧ iM_goals.toInt ≤ 3) (b_iM_differents : 0 ≤ iM_differents.toInt ∧ iM_differents.toInt ≤ 8) (b_iM_cases : 0 ≤ iM_cases.toInt ∧ iM_cases.toInt ≤ 200000) (b_fM_ways : ∀ q : Nat, 0 ≤ (fM_ways q).toInt ∧ (fM_ways q).toInt ≤ 3) (b_iM_plainRows : 0 ≤ iM_plainRows.toInt ∧ iM_plainRows.toInt ≤ 12) (b_fM_plainRow : ∀ q : Nat, 0 ≤ (fM_plainRow q).toInt ∧ (fM_plainRow q).toInt ≤ 11) (b_pr : iM_plainRows.toInt ≤ iM_rows.toInt) (sz : Nat) : Met l yX1_needs wsMX1_needs ({ frames := 0, cells := 0, slots := 0, locals := 0 }) (va_Pc [.ref (hM 0)] (fun U => U.heap.size = sz ∧ va_P (dC, dI) vwCl (WM hM aM kM iM_stands iM_variables iM_rows iM_goals iM_differents iM_cases fM_from fM_to fM_whole fM_ways iM_plainRows fM_plainRow fM_kept fM_goalOver fM_goalUnder fM_goalMax fM_different) U.heap ∧ va_K (dC, dI) vwCl (tM kM) U ∧ va_D (fun _ => True) (WM hM aM kM iM_stands iM_variables iM_rows iM_goals iM_differents iM_cases fM_from fM_to fM_whole fM_ways iM_plainRows fM_plainRow fM_kept fM_goalOver fM_goalUnder fM_goalMax fM_different))) (va_Qi (fun (r : Int32) (u : Unit) => (0 ≤ r.toInt ∧ r.toInt ≤ 28) ∧ (r.toInt = iM_plainRows.toInt + 2 * iM_variables.toInt)) (fun (u : Unit) t => va_P (dC, dI) vwCl (WM hM aM kM iM_stands iM_variables iM_rows iM_goals iM_differents iM_cases fM_from fM_to fM_whole fM_ways iM_plainRows fM_plainRow fM_kept fM_goalOver fM_goalUnder fM_goalMax fM_different) t.heap ∧ va_D (va_A (WM hM aM kM iM_stands iM_variables iM_rows iM_goals iM_differents iM_cases fM_from fM_to fM_whole fM_ways iM_plainRows fM_plainRow fM_kept fM_goalOver fM_goalUnder fM_goalMax fM_different) sz) (WM hM aM kM iM_stands iM_variables iM_rows iM_goals iM_differents iM_cases fM_from fM_to fM_whole fM_ways iM_plainRows fM_plainRow fM_kept fM_goalOver fM_goalUnder fM_goalMax fM_different)) (va_A (WM hM aM kM iM_stands iM_variables iM_rows iM_goals iM_differents iM_cases fM_from fM_to fM_whole fM_ways iM_plainRows fM_plainRow fM_kept fM_goalOver fM_goalUnder fM_goalMax fM_different) sz)) 0 0 (va_A (WM hM aM kM iM_stands iM_variables iM_rows iM_goals iM_differents iM_cases fM_from fM_to fM_whole fM_ways iM_plainRows fM_plainRow fM_kept fM_goalOver fM_goalUnder fM_goalMax fM_different) sz) := by
  refine Met.ofW (cc := cX1_needs) (maxL := 1) (ret := (some .int)) (by decide) rfl ?_
  intro p e s m args below meth c s₁ B hml hv
  obtain ⟨rfl, hsz, hP, hK, hD0⟩ := hv
  have hx := B.exec
  have hb := B.bytes
  have hr := B.returns
  have hts := atoms_spec (ws := wsMX1_needs) B.pre
  have hown : s.vm.findClass RX1 = some m.cls := findClass_of_methodNamed B.named
  have hlocks := B.notSynchronized
  subst hsz
  have hD := hD0.self (sz := s.heap.size)
  generalize hAe : va_A (WM hM aM kM iM_stands iM_variables iM_rows iM_goals iM_differents iM_cases fM_from fM_to fM_whole fM_ways iM_plainRows fM_plainRow fM_kept fM_goalOver fM_goalUnder fM_goalMax fM_different) s.heap.size = A at hD ⊢
  have hA : ∀ q : Nat, s.heap.size ≤ q → A q := fun q h => by rw [← hAe]; exact Or.inr h
  have hS : va_S A s.heap s.heap [] := va_S.rf
  have hl := lv_entry ([.ref (hM 0)]) (n := 1) (Nat.le_of_ble_eq_true rfl)
  rw [lg_entry_eq]
  generalize (lg_sl ([.ref (hM 0)]) ++ List.replicate (1 - (lg_sl ([.ref (hM 0)])).length) Slot.unset).toArray = ls at hl ⊢
  have hl : lv_has ls 1 [(0, .ref (hM 0))] := hl
  refine lv_aload_n hx hb dX1_needs_0 rfl (lv_at hl 0 rfl) ?_
  refine va_get (D := (dC, dI)) (ci := 1) (v := .int iM_plainRows) (C := RX1) (T := TX1) (N := 17) hx hb hts iwsMX1_needs_in1 hown hK hP 0 rfl rfl 10 (by decide) (hts (.fieldLink RX1 52 "OptimaWorks$Model" "plainRows" "I") (by decide +kernel)) (fun _ h9 => h9) rfl dX1_needs_1 ?_
  refine lv_iconst (v := 2) hx hb dX1_needs_4 (by decide) ?_
  refine lv_aload_n hx hb dX1_needs_5 rfl (lv_at hl 0 rfl) ?_
  refine va_get (D := (dC, dI)) (ci := 1) (v := .int iM_variables) (C := RX1) (T := TX1) (N := 17) hx hb hts iwsMX1_needs_in1 hown hK hP 0 rfl rfl 1 (by decide) (hts (.fieldLink RX1 45 "OptimaWorks$Model" "variables" "I") (by decide +kernel)) (fun _ h9 => h9) rfl dX1_needs_6 ?_
  refine lv_imul hx hb dX1_needs_9 ?_
  refine lv_topi (fun y1 hy1 => ?_)
  obtain rfl : (iI (2 * iM_variables.toInt)) = y1 := (hy1.trans (iI_mul2 (by decide : (2 : Int32) = iI 2) (iI_of _))).symm
  refine lv_iadd hx hb dX1_needs_10 ?_
  refine lv_topi (fun y2 hy2 => ?_)
  obtain rfl : (iI (iM_plainRows.toInt + (2 * iM_variables.toInt))) = y2 := (hy2.trans (iI_add2 (iI_of _) rfl)).symm
  refine W.widen (k := 0) (n := 0) (by decide +kernel) (by decide +kernel) ?_
  exact W.iret (v := (iI (iM_plainRows.toInt + (2 * iM_variables.toInt)))) hx hb hr (fun t9_ ht hW => ⟨⟨(iI (iM_plainRows.toInt + (2 * iM_variables.toInt))), (), rfl, ⟨(iI_rng (Int.le_trans (by decide) (Int.add_le_add (b_iM_plainRows.1) (Int.mul_le_mul_of_nonneg_left (b_iM_variables.1) (by decide)))) (Int.le_trans (Int.add_le_add (b_iM_plainRows.2) (Int.mul_le_mul_of_nonneg_left (b_iM_variables.2) (by decide))) (by decide)) (by decide) (by decide)), (by (try dsimp only); exact (iI_t (by omega) (by omega)))⟩, by rw [ht]; exact hP, hD⟩, hS.F ht⟩) hS.2.2 dX1_needs_11
theorem dX1_needKind_0 : decode cX1_needKind 0 = .ok (.iload_n 1, 1) := dk_27 (by decide +kernel)
theorem dX1_needKind_1 : decode cX1_needKind 1 = .ok (.aload_n 0, 1) := dk_42 (by decide +kernel)
theorem dX1_needKind_2 : decode cX1_needKind 2 = .ok (.getfield 52, 3) := dk_180 (by decide +kernel)
theorem dX1_needKind_5 : decode cX1_needKind 5 = .ok (.isub, 1) := dk_100 (by decide +kernel)
theorem dX1_needKind_6 : decode cX1_needKind 6 = .ok (.istore_n 2, 1) := dk_61 (by decide +kernel)
theorem dX1_needKind_7 : decode cX1_needKind 7 = .ok (.iload_n 2, 1) := dk_28 (by decide +kernel)
theorem dX1_needKind_8 : decode cX1_needKind 8 = .ok (.ifCond .ge 7, 3) := dk_156 (by decide +kernel)
theorem dX1_needKind_11 : decode cX1_needKind 11 = .ok (.iconst 0, 1) := dk_3 (by decide +kernel)
theorem dX1_needKind_12 : decode cX1_needKind 12 = .ok (.goto 16, 3) := dk_167 (by decide +kernel)
theorem dX1_needKind_15 : decode cX1_needKind 15 = .ok (.iload_n 2, 1) := dk_28 (by decide +kernel)
theorem dX1_needKind_16 : decode cX1_needKind 16 = .ok (.aload_n 0, 1) := dk_42 (by decide +kernel)
theorem dX1_needKind_17 : decode cX1_needKind 17 = .ok (.getfield 45, 3) := dk_180 (by decide +kernel)
theorem dX1_needKind_20 : decode cX1_needKind 20 = .ok (.if_icmp .ge 7, 3) := dk_162 (by decide +kernel)
theorem dX1_needKind_23 : decode cX1_needKind 23 = .ok (.iconst 1, 1) := dk_4 (by decide +kernel)
theorem dX1_needKind_24 : decode cX1_needKind 24 = .ok (.goto 4, 3) := dk_167 (by decide +kernel)
theorem dX1_needKind_27 : decode cX1_needKind 27 = .ok (.iconst 2, 1) := dk_5 (by decide +kernel)
theorem dX1_needKind_28 : decode cX1_needKind 28 = .ok (.ireturn, 1) := dk_172 (by decide +kernel)
def wsMX1_needKind : List Cond := .code yX1_needKind cX1_needKind 3 (some .int) :: ([.fieldLink RX1 52 "OptimaWorks$Model" "plainRows" "I", .fieldLink RX1 45 "OptimaWorks$Model" "variables" "I"] ++ wsX10)
theorem iwsMX1_needKind_in1 : ∀ w ∈ wsX10, w ∈ wsMX1_needKind := fun _ h => List.mem_cons_of_mem _ (List.mem_append_right _ h)
theorem gdwsMX1_needKind : wsMX1_needKind.all goodWord = true := gdC rfl (gdA (by decide +kernel : ([.fieldLink RX1 52 "OptimaWorks$Model" "plainRows" "I", .fieldLink RX1 45 "OptimaWorks$Model" "variables" "I"] : List Cond).all goodWord = true) gdwsX10)
set_option maxHeartbeats 4000000 in
set_option maxRecDepth 100000 in
/-- the kind of a need -/
theorem m_X1_needKind (l : Launch) (dC : Nat → ClassId) (dI : Nat → Nat → Nat) (hM : Nat → Nat) (aM : Nat → Nat) (kM : Nat → ClassId) (iM_stands : Int32) (iM_variables : Int32) (iM_rows : Int32) (iM_goals : Int32) (iM_differents : Int32) (iM_cases : Int32) (fM_from : Nat → Int32) (fM_to : Nat → Int32) (fM_whole : Nat → Int32) (fM_ways : Nat → Int32) (iM_plainRows : Int32) (fM_plainRow : Nat → Int32) (fM_kept : Nat → Int32) (fM_goalOver : Nat → Int32) (fM_goalUnder : Nat → Int32) (fM_goalMax : Nat → Int32) (fM_different : Nat → Int32) (p1 : Int32) (b_iM_stands : 0 ≤ iM_stands.toInt ∧ iM_stands.toInt ≤ 1) (b_iM_variables : 0 ≤ iM_variables.toInt ∧ iM_variables.toInt ≤ 8) (b_iM_rows : 0 ≤ iM_rows.toInt ∧ iM_rows.toInt ≤ 12) (b_iM_goals : 0 ≤ iM_goals.toInt ∧ iM_goals.toInt ≤ 3) (b_iM_differents : 0 ≤ iM_differents.toInt ∧ iM_differents.toInt ≤ 8) (b_iM_cases : 0 ≤ iM_cases.toInt ∧ iM_cases.toInt ≤ 200000) (b_fM_ways : ∀ q : Nat, 0 ≤ (fM_ways q).toInt ∧ (fM_ways q).toInt ≤ 3) (b_iM_plainRows : 0 ≤ iM_plainRows.toInt ∧ iM_plainRows.toInt ≤ 12) (b_fM_plainRow : ∀ q : Nat, 0 ≤ (fM_plainRow q).toInt ∧ (fM_plainRow q).toInt ≤ 11) (b_pr : iM_plainRows.toInt ≤ iM_rows.toInt) (b_p1 : 0 ≤ p1.toInt ∧ p1.toInt ≤ 27) (hni : p1.toInt < iM_plainRows.toInt + 2 * iM_variables.toInt) (sz : Nat) : Met l yX1_needKind wsMX1_needKind ({ frames := 0, cells := 0, slots := 0, locals := 0 }) (va_Pc [.ref (hM 0), .int p1] (fun U => U.heap.size = sz ∧ va_P (dC, dI) vwCl (WM hM aM kM iM_stands iM_variables iM_rows iM_goals iM_differents iM_cases fM_from fM_to fM_whole fM_ways iM_plainRows fM_plainRow fM_kept fM_goalOver fM_goalUnder fM_goalMax fM_different) U.heap ∧ va_K (dC, dI) vwCl (tM kM) U ∧ va_D (fun _ => True) (WM hM aM kM iM_stands iM_variables iM_rows iM_goals iM_differents iM_cases fM_from fM_to fM_whole fM_ways iM_plainRows fM_plainRow fM_kept fM_goalOver fM_goalUnder fM_goalMax fM_different))) (va_Qi (fun (r : Int32) (u : Unit) => (0 ≤ r.toInt ∧ r.toInt ≤ 2) ∧ ((r.toInt = 0 ∧ p1.toInt < iM_plainRows.toInt) ∨ (¬ r.toInt = 0 ∧ iM_plainRows.toInt ≤ p1.toInt))) (fun (u : Unit) t => va_P (dC, dI) vwCl (WM hM aM kM iM_stands iM_variables iM_rows iM_goals iM_differents iM_cases fM_from fM_to fM_whole fM_ways iM_plainRows fM_plainRow fM_kept fM_goalOver fM_goalUnder fM_goalMax fM_different) t.heap ∧ va_D (va_A (WM hM aM kM iM_stands iM_variables iM_rows iM_goals iM_differents iM_cases fM_from fM_to fM_whole fM_ways iM_plainRows fM_plainRow fM_kept fM_goalOver fM_goalUnder fM_goalMax fM_different) sz) (WM hM aM kM iM_stands iM_variables iM_rows iM_goals iM_differents iM_cases fM_from fM_to fM_whole fM_ways iM_plainRows fM_plainRow fM_kept fM_goalOver fM_goalUnder fM_goalMax fM_different)) (va_A (WM hM aM kM iM_stands iM_variables iM_rows iM_goals iM_differents iM_cases fM_from fM_to fM_whole fM_ways iM_plainRows fM_plainRow fM_kept fM_goalOver fM_goalUnder fM_goalMax fM_different) sz)) 0 0 (va_A (WM hM aM kM iM_stands iM_variables iM_rows iM_goals iM_differents iM_cases fM_from fM_to fM_whole fM_ways iM_plainRows fM_plainRow fM_kept fM_goalOver fM_goalUnder fM_goalMax fM_different) sz) := by
  refine Met.ofW (cc := cX1_needKind) (maxL := 3) (ret := (some .int)) (by decide) rfl ?_
  intro p e s m args below meth c s₁ B hml hv
  obtain ⟨rfl, hsz, hP, hK, hD0⟩ := hv
  have hx := B.exec
  have hb := B.bytes
  have hr := B.returns
  have hts := atoms_spec (ws := wsMX1_needKind) B.pre
  have hown : s.vm.findClass RX1 = some m.cls := findClass_of_methodNamed B.named
  have hlocks := B.notSynchronized
  subst hsz
  have hD := hD0.self (sz := s.heap.size)
  generalize hAe : va_A (WM hM aM kM iM_stands iM_variables iM_rows iM_goals iM_differents iM_cases fM_from fM_to fM_whole fM_ways iM_plainRows fM_plainRow fM_kept fM_goalOver fM_goalUnder fM_goalMax fM_different) s.heap.size = A at hD ⊢
  have hA : ∀ q : Nat, s.heap.size ≤ q → A q := fun q h => by rw [← hAe]; exact Or.inr h
  have hS : va_S A s.heap s.heap [] := va_S.rf
  have hl := lv_entry ([.ref (hM 0), .int p1]) (n := 3) (Nat.le_of_ble_eq_true rfl)
  rw [lg_entry_eq]
  generalize (lg_sl ([.ref (hM 0), .int p1]) ++ List.replicate (3 - (lg_sl ([.ref (hM 0), .int p1])).length) Slot.unset).toArray = ls at hl ⊢
  have hl : lv_has ls 3 [(0, .ref (hM 0)), (1, .int p1)] := hl
  refine lv_iload_n hx hb dX1_needKind_0 rfl (lv_at hl 1 rfl) ?_
  refine lv_aload_n hx hb dX1_needKind_1 rfl (lv_at hl 0 rfl) ?_
  refine va_get (D := (dC, dI)) (ci := 1) (v := .int iM_plainRows) (C := RX1) (T := TX1) (N := 17) hx hb hts iwsMX1_needKind_in1 hown hK hP 0 rfl rfl 10 (by decide) (hts (.fieldLink RX1 52 "OptimaWorks$Model" "plainRows" "I") (by decide +kernel)) (fun _ h9 => h9) rfl dX1_needKind_2 ?_
  refine lv_isub hx hb dX1_needKind_5 ?_
  refine lv_topi (fun y1 hy1 => ?_)
  obtain rfl : (iI (p1.toInt - iM_plainRows.toInt)) = y1 := (hy1.trans (iI_sub2 (iI_of _) (iI_of _))).symm
  refine lv_istore_n hx hb dX1_needKind_6 rfl hl (by decide) rfl (fun ls (hl : lv_has ls _ ([(2, .int (iI (p1.toInt - iM_plainRows.toInt))), (0, .ref (hM 0)), (1, .int p1)])) => ?_)
  refine lv_iload_n hx hb dX1_needKind_7 rfl (lv_at hl 0 rfl) ?_
  refine lv_if_ge (tgt := 15) hx hb dX1_needKind_8 (by decide) (fun c_8 => ?_) (fun c_8 => ?_)
  · have t_8 : (p1.toInt - iM_plainRows.toInt) ≥ 0 := toI_ge c_8 (iI_t (Int.le_trans (by decide) (Int.sub_le_sub (b_p1.1) (b_iM_plainRows.2))) (Int.le_trans (Int.sub_le_sub (b_p1.2) (b_iM_plainRows.1)) (by decide))) (by decide : (0 : Int32).toInt = 0)
    refine lv_iload_n hx hb dX1_needKind_15 rfl (lv_at hl 0 rfl) ?_
    refine lv_aload_n hx hb dX1_needKind_16 rfl (lv_at hl 1 rfl) ?_
    refine va_get (D := (dC, dI)) (ci := 1) (v := .int iM_variables) (C := RX1) (T := TX1) (N := 17) hx hb hts iwsMX1_needKind_in1 hown hK hP 0 rfl rfl 1 (by decide) (hts (.fieldLink RX1 45 "OptimaWorks$Model" "variables" "I") (by decide +kernel)) (fun _ h9 => h9) rfl dX1_needKind_17 ?_
    refine lv_icmp_ge (tgt := 27) hx hb dX1_needKind_20 (by decide) (fun c_20 => ?_) (fun c_20 => ?_)
    · have t_20 : (p1.toInt - iM_plainRows.toInt) ≥ iM_variables.toInt := toI_ge c_20 (iI_t (Int.le_trans (by decide) (Int.sub_le_sub (b_p1.1) (b_iM_plainRows.2))) (Int.le_trans (Int.sub_le_sub (b_p1.2) (b_iM_plainRows.1)) (by decide))) rfl
      refine lv_iconst (v := 2) hx hb dX1_needKind_27 (by decide) ?_
      refine W.widen (k := 0) (n := 0) (by decide +kernel) (by decide +kernel) ?_
      exact W.iret (v := 2) hx hb hr (fun t9_ ht hW => ⟨⟨(2 : Int32), (), rfl, ⟨(show 0 ≤ (2 : Int32).toInt ∧ (2 : Int32).toInt ≤ 2 from by decide), (by (try dsimp only); first | (left; refine ⟨by decide, ?_⟩; omega) | (right; refine ⟨by decide, ?_⟩; omega) | omega)⟩, by rw [ht]; exact hP, hD⟩, hS.F ht⟩) hS.2.2 dX1_needKind_28
    · have t_20 : ¬ (p1.toInt - iM_plainRows.toInt) ≥ iM_variables.toInt := toI_nge c_20 (iI_t (Int.le_trans (by decide) (Int.sub_le_sub (b_p1.1) (b_iM_plainRows.2))) (Int.le_trans (Int.sub_le_sub (b_p1.2) (b_iM_plainRows.1)) (by decide))) rfl
      refine lv_iconst (v := 1) hx hb dX1_needKind_23 (by decide) ?_
      refine lv_goto (tgt := 28) hx hb dX1_needKind_24 (by decide) ?_
      refine W.widen (k := 0) (n := 0) (by decide +kernel) (by decide +kernel) ?_
      exact W.iret (v := 1) hx hb hr (fun t9_ ht hW => ⟨⟨(1 : Int32), (), rfl, ⟨(show 0 ≤ (1 : Int32).toInt ∧ (1 : Int32).toInt ≤ 2 from by decide), (by (try dsimp only); first | (left; refine ⟨by decide, ?_⟩; omega) | (right; refine ⟨by decide, ?_⟩; omega) | omega)⟩, by rw [ht]; exact hP, hD⟩, hS.F ht⟩) hS.2.2 dX1_needKind_28
  · have t_8 : ¬ (p1.toInt - iM_plainRows.toInt) ≥ 0 := toI_nge c_8 (iI_t (Int.le_trans (by decide) (Int.sub_le_sub (b_p1.1) (b_iM_plainRows.2))) (Int.le_trans (Int.sub_le_sub (b_p1.2) (b_iM_plainRows.1)) (by decide))) (by decide : (0 : Int32).toInt = 0)
    refine lv_iconst (v := 0) hx hb dX1_needKind_11 (by decide) ?_
    refine lv_goto (tgt := 28) hx hb dX1_needKind_12 (by decide) ?_
    refine W.widen (k := 0) (n := 0) (by decide +kernel) (by decide +kernel) ?_
    exact W.iret (v := 0) hx hb hr (fun t9_ ht hW => ⟨⟨(0 : Int32), (), rfl, ⟨(show 0 ≤ (0 : Int32).toInt ∧ (0 : Int32).toInt ≤ 2 from by decide), (by (try dsimp only); first | (left; refine ⟨by decide, ?_⟩; omega) | (right; refine ⟨by decide, ?_⟩; omega) | omega)⟩, by rw [ht]; exact hP, hD⟩, hS.F ht⟩) hS.2.2 dX1_needKind_28
theorem dX1_needOf_0 : decode cX1_needOf 0 = .ok (.iload_n 1, 1) := dk_27 (by decide +kernel)
theorem dX1_needOf_1 : decode cX1_needOf 1 = .ok (.aload_n 0, 1) := dk_42 (by decide +kernel)
theorem dX1_needOf_2 : decode cX1_needOf 2 = .ok (.getfield 52, 3) := dk_180 (by decide +kernel)
theorem dX1_needOf_5 : decode cX1_needOf 5 = .ok (.isub, 1) := dk_100 (by decide +kernel)
theorem dX1_needOf_6 : decode cX1_needOf 6 = .ok (.istore_n 2, 1) := dk_61 (by decide +kernel)
theorem dX1_needOf_7 : decode cX1_needOf 7 = .ok (.iload_n 2, 1) := dk_28 (by decide +kernel)
theorem dX1_needOf_8 : decode cX1_needOf 8 = .ok (.ifCond .ge 12, 3) := dk_156 (by decide +kernel)
theorem dX1_needOf_11 : decode cX1_needOf 11 = .ok (.aload_n 0, 1) := dk_42 (by decide +kernel)
theorem dX1_needOf_12 : decode cX1_needOf 12 = .ok (.getfield 23, 3) := dk_180 (by decide +kernel)
theorem dX1_needOf_15 : decode cX1_needOf 15 = .ok (.iload_n 1, 1) := dk_27 (by decide +kernel)
theorem dX1_needOf_16 : decode cX1_needOf 16 = .ok (.iaload, 1) := dk_46 (by decide +kernel)
theorem dX1_needOf_17 : decode cX1_needOf 17 = .ok (.goto 21, 3) := dk_167 (by decide +kernel)
theorem dX1_needOf_20 : decode cX1_needOf 20 = .ok (.iload_n 2, 1) := dk_28 (by decide +kernel)
theorem dX1_needOf_21 : decode cX1_needOf 21 = .ok (.aload_n 0, 1) := dk_42 (by decide +kernel)
theorem dX1_needOf_22 : decode cX1_needOf 22 = .ok (.getfield 45, 3) := dk_180 (by decide +kernel)
theorem dX1_needOf_25 : decode cX1_needOf 25 = .ok (.if_icmp .ge 7, 3) := dk_162 (by decide +kernel)
theorem dX1_needOf_28 : decode cX1_needOf 28 = .ok (.iload_n 2, 1) := dk_28 (by decide +kernel)
theorem dX1_needOf_29 : decode cX1_needOf 29 = .ok (.goto 9, 3) := dk_167 (by decide +kernel)
theorem dX1_needOf_32 : decode cX1_needOf 32 = .ok (.iload_n 2, 1) := dk_28 (by decide +kernel)
theorem dX1_needOf_33 : decode cX1_needOf 33 = .ok (.aload_n 0, 1) := dk_42 (by decide +kernel)
theorem dX1_needOf_34 : decode cX1_needOf 34 = .ok (.getfield 45, 3) := dk_180 (by decide +kernel)
theorem dX1_needOf_37 : decode cX1_needOf 37 = .ok (.isub, 1) := dk_100 (by decide +kernel)
theorem dX1_needOf_38 : decode cX1_needOf 38 = .ok (.ireturn, 1) := dk_172 (by decide +kernel)
def wsMX1_needOf : List Cond := .code yX1_needOf cX1_needOf 3 (some .int) :: ([.fieldLink RX1 52 "OptimaWorks$Model" "plainRows" "I", .fieldLink RX1 45 "OptimaWorks$Model" "variables" "I", .fieldLink RX1 23 "OptimaWorks$Model" "plainRow" "[I"] ++ wsX10)
theorem iwsMX1_needOf_in1 : ∀ w ∈ wsX10, w ∈ wsMX1_needOf := fun _ h => List.mem_cons_of_mem _ (List.mem_append_right _ h)
theorem gdwsMX1_needOf : wsMX1_needOf.all goodWord = true := gdC rfl (gdA (by decide +kernel : ([.fieldLink RX1 52 "OptimaWorks$Model" "plainRows" "I", .fieldLink RX1 45 "OptimaWorks$Model" "variables" "I", .fieldLink RX1 23 "OptimaWorks$Model" "plainRow" "[I"] : List Cond).all goodWord = true) gdwsX10)
set_option maxHeartbeats 4000000 in
set_option maxRecDepth 100000 in
/-- whose need -/
theorem m_X1_needOf (l : Launch) (dC : Nat → ClassId) (dI : Nat → Nat → Nat) (hM : Nat → Nat) (aM : Nat → Nat) (kM : Nat → ClassId) (iM_stands : Int32) (iM_variables : Int32) (iM_rows : Int32) (iM_goals : Int32) (iM_differents : Int32) (iM_cases : Int32) (fM_from : Nat → Int32) (fM_to : Nat → Int32) (fM_whole : Nat → Int32) (fM_ways : Nat → Int32) (iM_plainRows : Int32) (fM_plainRow : Nat → Int32) (fM_kept : Nat → Int32) (fM_goalOver : Nat → Int32) (fM_goalUnder : Nat → Int32) (fM_goalMax : Nat → Int32) (fM_different : Nat → Int32) (p1 : Int32) (b_iM_stands : 0 ≤ iM_stands.toInt ∧ iM_stands.toInt ≤ 1) (b_iM_variables : 0 ≤ iM_variables.toInt ∧ iM_variables.toInt ≤ 8) (b_iM_rows : 0 ≤ iM_rows.toInt ∧ iM_rows.toInt ≤ 12) (b_iM_goals : 0 ≤ iM_goals.toInt ∧ iM_goals.toInt ≤ 3) (b_iM_differents : 0 ≤ iM_differents.toInt ∧ iM_differents.toInt ≤ 8) (b_iM_cases : 0 ≤ iM_cases.toInt ∧ iM_cases.toInt ≤ 200000) (b_fM_ways : ∀ q : Nat, 0 ≤ (fM_ways q).toInt ∧ (fM_ways q).toInt ≤ 3) (b_iM_plainRows : 0 ≤ iM_plainRows.toInt ∧ iM_plainRows.toInt ≤ 12) (b_fM_plainRow : ∀ q : Nat, 0 ≤ (fM_plainRow q).toInt ∧ (fM_plainRow q).toInt ≤ 11) (b_pr : iM_plainRows.toInt ≤ iM_rows.toInt) (b_p1 : 0 ≤ p1.toInt ∧ p1.toInt ≤ 27) (hni : p1.toInt < iM_plainRows.toInt + 2 * iM_variables.toInt) (sz : Nat) : Met l yX1_needOf wsMX1_needOf ({ frames := 0, cells := 0, slots := 0, locals := 0 }) (va_Pc [.ref (hM 0), .int p1] (fun U => U.heap.size = sz ∧ va_P (dC, dI) vwCl (WM hM aM kM iM_stands iM_variables iM_rows iM_goals iM_differents iM_cases fM_from fM_to fM_whole fM_ways iM_plainRows fM_plainRow fM_kept fM_goalOver fM_goalUnder fM_goalMax fM_different) U.heap ∧ va_K (dC, dI) vwCl (tM kM) U ∧ va_D (fun _ => True) (WM hM aM kM iM_stands iM_variables iM_rows iM_goals iM_differents iM_cases fM_from fM_to fM_whole fM_ways iM_plainRows fM_plainRow fM_kept fM_goalOver fM_goalUnder fM_goalMax fM_different))) (va_Qi (fun (r : Int32) (u : Unit) => (0 ≤ r.toInt ∧ r.toInt ≤ 11) ∧ ((p1.toInt < iM_plainRows.toInt ∧ 0 ≤ r.toInt ∧ r.toInt ≤ 11) ∨ (iM_plainRows.toInt ≤ p1.toInt ∧ 0 ≤ r.toInt ∧ r.toInt ≤ 7))) (fun (u : Unit) t => va_P (dC, dI) vwCl (WM hM aM kM iM_stands iM_variables iM_rows iM_goals iM_differents iM_cases fM_from fM_to fM_whole fM_ways iM_plainRows fM_plainRow fM_kept fM_goalOver fM_goalUnder fM_goalMax fM_different) t.heap ∧ va_D (va_A (WM hM aM kM iM_stands iM_variables iM_rows iM_goals iM_differents iM_cases fM_from fM_to fM_whole fM_ways iM_plainRows fM_plainRow fM_kept fM_goalOver fM_goalUnder fM_goalMax fM_different) sz) (WM hM aM kM iM_stands iM_variables iM_rows iM_goals iM_differents iM_cases fM_from fM_to fM_whole fM_ways iM_plainRows fM_plainRow fM_kept fM_goalOver fM_goalUnder fM_goalMax fM_different)) (va_A (WM hM aM kM iM_stands iM_variables iM_rows iM_goals iM_differents iM_cases fM_from fM_to fM_whole fM_ways iM_plainRows fM_plainRow fM_kept fM_goalOver fM_goalUnder fM_goalMax fM_different) sz)) 0 0 (va_A (WM hM aM kM iM_stands iM_variables iM_rows iM_goals iM_differents iM_cases fM_from fM_to fM_whole fM_ways iM_plainRows fM_plainRow fM_kept fM_goalOver fM_goalUnder fM_goalMax fM_different) sz) := by
  refine Met.ofW (cc := cX1_needOf) (maxL := 3) (ret := (some .int)) (by decide) rfl ?_
  intro p e s m args below meth c s₁ B hml hv
  obtain ⟨rfl, hsz, hP, hK, hD0⟩ := hv
  have hx := B.exec
  have hb := B.bytes
  have hr := B.returns
  have hts := atoms_spec (ws := wsMX1_needOf) B.pre
  have hown : s.vm.findClass RX1 = some m.cls := findClass_of_methodNamed B.named
  have hlocks := B.notSynchronized
  subst hsz
  have hD := hD0.self (sz := s.heap.size)
  generalize hAe : va_A (WM hM aM kM iM_stands iM_variables iM_rows iM_goals iM_differents iM_cases fM_from fM_to fM_whole fM_ways iM_plainRows fM_plainRow fM_kept fM_goalOver fM_goalUnder fM_goalMax fM_different) s.heap.size = A at hD ⊢
  have hA : ∀ q : Nat, s.heap.size ≤ q → A q := fun q h => by rw [← hAe]; exact Or.inr h
  have hS : va_S A s.heap s.heap [] := va_S.rf
  have hl := lv_entry ([.ref (hM 0), .int p1]) (n := 3) (Nat.le_of_ble_eq_true rfl)
  rw [lg_entry_eq]
  generalize (lg_sl ([.ref (hM 0), .int p1]) ++ List.replicate (3 - (lg_sl ([.ref (hM 0), .int p1])).length) Slot.unset).toArray = ls at hl ⊢
  have hl : lv_has ls 3 [(0, .ref (hM 0)), (1, .int p1)] := hl
  refine lv_iload_n hx hb dX1_needOf_0 rfl (lv_at hl 1 rfl) ?_
  refine lv_aload_n hx hb dX1_needOf_1 rfl (lv_at hl 0 rfl) ?_
  refine va_get (D := (dC, dI)) (ci := 1) (v := .int iM_plainRows) (C := RX1) (T := TX1) (N := 17) hx hb hts iwsMX1_needOf_in1 hown hK hP 0 rfl rfl 10 (by decide) (hts (.fieldLink RX1 52 "OptimaWorks$Model" "plainRows" "I") (by decide +kernel)) (fun _ h9 => h9) rfl dX1_needOf_2 ?_
  refine lv_isub hx hb dX1_needOf_5 ?_
  refine lv_topi (fun y1 hy1 => ?_)
  obtain rfl : (iI (p1.toInt - iM_plainRows.toInt)) = y1 := (hy1.trans (iI_sub2 (iI_of _) (iI_of _))).symm
  refine lv_istore_n hx hb dX1_needOf_6 rfl hl (by decide) rfl (fun ls (hl : lv_has ls _ ([(2, .int (iI (p1.toInt - iM_plainRows.toInt))), (0, .ref (hM 0)), (1, .int p1)])) => ?_)
  refine lv_iload_n hx hb dX1_needOf_7 rfl (lv_at hl 0 rfl) ?_
  refine lv_if_ge (tgt := 20) hx hb dX1_needOf_8 (by decide) (fun c_8 => ?_) (fun c_8 => ?_)
  · have t_8 : (p1.toInt - iM_plainRows.toInt) ≥ 0 := toI_ge c_8 (iI_t (Int.le_trans (by decide) (Int.sub_le_sub (b_p1.1) (b_iM_plainRows.2))) (Int.le_trans (Int.sub_le_sub (b_p1.2) (b_iM_plainRows.1)) (by decide))) (by decide : (0 : Int32).toInt = 0)
    refine lv_iload_n hx hb dX1_needOf_20 rfl (lv_at hl 0 rfl) ?_
    refine lv_aload_n hx hb dX1_needOf_21 rfl (lv_at hl 1 rfl) ?_
    refine va_get (D := (dC, dI)) (ci := 1) (v := .int iM_variables) (C := RX1) (T := TX1) (N := 17) hx hb hts iwsMX1_needOf_in1 hown hK hP 0 rfl rfl 1 (by decide) (hts (.fieldLink RX1 45 "OptimaWorks$Model" "variables" "I") (by decide +kernel)) (fun _ h9 => h9) rfl dX1_needOf_22 ?_
    refine lv_icmp_ge (tgt := 32) hx hb dX1_needOf_25 (by decide) (fun c_25 => ?_) (fun c_25 => ?_)
    · have t_25 : (p1.toInt - iM_plainRows.toInt) ≥ iM_variables.toInt := toI_ge c_25 (iI_t (Int.le_trans (by decide) (Int.sub_le_sub (b_p1.1) (b_iM_plainRows.2))) (Int.le_trans (Int.sub_le_sub (b_p1.2) (b_iM_plainRows.1)) (by decide))) rfl
      refine lv_iload_n hx hb dX1_needOf_32 rfl (lv_at hl 0 rfl) ?_
      refine lv_aload_n hx hb dX1_needOf_33 rfl (lv_at hl 1 rfl) ?_
      refine va_get (D := (dC, dI)) (ci := 1) (v := .int iM_variables) (C := RX1) (T := TX1) (N := 17) hx hb hts iwsMX1_needOf_in1 hown hK hP 0 rfl rfl 1 (by decide) (hts (.fieldLink RX1 45 "OptimaWorks$Model" "variables" "I") (by decide +kernel)) (fun _ h9 => h9) rfl dX1_needOf_34 ?_
      refine lv_isub hx hb dX1_needOf_37 ?_
      refine lv_topi (fun y2 hy2 => ?_)
      obtain rfl : (iI ((p1.toInt - iM_plainRows.toInt) - iM_variables.toInt)) = y2 := (hy2.trans (iI_sub2 rfl (iI_of _))).symm
      refine W.widen (k := 0) (n := 0) (by decide +kernel) (by decide +kernel) ?_
      exact W.iret (v := (iI ((p1.toInt - iM_plainRows.toInt) - iM_variables.toInt))) hx hb hr (fun t9_ ht hW => ⟨⟨(iI ((p1.toInt - iM_plainRows.toInt) - iM_variables.toInt)), (), rfl, ⟨(iI_rng (by omega) (by omega) (by decide) (by decide)), (by (try dsimp only); (try rw [iI_t (by omega) (by omega)]); omega)⟩, by rw [ht]; exact hP, hD⟩, hS.F ht⟩) hS.2.2 dX1_needOf_38
    · have t_25 : ¬ (p1.toInt - iM_plainRows.toInt) ≥ iM_variables.toInt := toI_nge c_25 (iI_t (Int.le_trans (by decide) (Int.sub_le_sub (b_p1.1) (b_iM_plainRows.2))) (Int.le_trans (Int.sub_le_sub (b_p1.2) (b_iM_plainRows.1)) (by decide))) rfl
      refine lv_iload_n hx hb dX1_needOf_28 rfl (lv_at hl 0 rfl) ?_
      refine lv_goto (tgt := 38) hx hb dX1_needOf_29 (by decide) ?_
      refine W.widen (k := 0) (n := 0) (by decide +kernel) (by decide +kernel) ?_
      exact W.iret (v := (iI (p1.toInt - iM_plainRows.toInt))) hx hb hr (fun t9_ ht hW => ⟨⟨(iI (p1.toInt - iM_plainRows.toInt)), (), rfl, ⟨(iI_rng (by omega) (by omega) (by decide) (by decide)), (by (try dsimp only); (try rw [iI_t (by omega) (by omega)]); omega)⟩, by rw [ht]; exact hP, hD⟩, hS.F ht⟩) hS.2.2 dX1_needOf_38
  · have t_8 : ¬ (p1.toInt - iM_plainRows.toInt) ≥ 0 := toI_nge c_8 (iI_t (Int.le_trans (by decide) (Int.sub_le_sub (b_p1.1) (b_iM_plainRows.2))) (Int.le_trans (Int.sub_le_sub (b_p1.2) (b_iM_plainRows.1)) (by decide))) (by decide : (0 : Int32).toInt = 0)
    refine lv_aload_n hx hb dX1_needOf_11 rfl (lv_at hl 1 rfl) ?_
    refine va_get (D := (dC, dI)) (ci := 1) (v := .ref (aM 4)) (C := RX1) (T := TX1) (N := 17) hx hb hts iwsMX1_needOf_in1 hown hK hP 0 rfl rfl 11 (by decide) (hts (.fieldLink RX1 23 "OptimaWorks$Model" "plainRow" "[I") (by decide +kernel)) (fun _ h9 => h9) rfl dX1_needOf_12 ?_
    refine lv_iload_n hx hb dX1_needOf_15 rfl (lv_at hl 2 rfl) ?_
    refine va_iald (cA := kM 4) (n := 12) (f := fM_plainRow) hx hb hK hP 5 4 rfl rfl (vp_in_iff.mpr ⟨b_p1.1, (by omega)⟩) dX1_needOf_16 ?_
    refine lv_topi (fun v3 hv3 => ?_)
    have b_v3 : 0 ≤ v3.toInt ∧ v3.toInt ≤ 11 := by rw [hv3]; exact b_fM_plainRow _
    clear hv3
    refine lv_goto (tgt := 38) hx hb dX1_needOf_17 (by decide) ?_
    refine W.widen (k := 0) (n := 0) (by decide +kernel) (by decide +kernel) ?_
    exact W.iret (v := v3) hx hb hr (fun t9_ ht hW => ⟨⟨v3, (), rfl, ⟨(b_v3), (by (try dsimp only); (try rw [iI_t (by omega) (by omega)]); omega)⟩, by rw [ht]; exact hP, hD⟩, hS.F ht⟩) hS.2.2 dX1_needOf_38
theorem dX1_isEvenNeed_0 : decode cX1_isEvenNeed 0 = .ok (.aload_n 0, 1) := dk_42 (by decide +kernel)
theorem dX1_isEvenNeed_1 : decode cX1_isEvenNeed 1 = .ok (.iload_n 1, 1) := dk_27 (by decide +kernel)
theorem dX1_isEvenNeed_2 : decode cX1_isEvenNeed 2 = .ok (.invokevirtual 64, 3) := dk_182 (by decide +kernel)
theorem dX1_isEvenNeed_5 : decode cX1_isEvenNeed 5 = .ok (.ifCond .ne 21, 3) := dk_154 (by decide +kernel)
theorem dX1_isEvenNeed_8 : decode cX1_isEvenNeed 8 = .ok (.aload_n 0, 1) := dk_42 (by decide +kernel)
theorem dX1_isEvenNeed_9 : decode cX1_isEvenNeed 9 = .ok (.aload_n 0, 1) := dk_42 (by decide +kernel)
theorem dX1_isEvenNeed_10 : decode cX1_isEvenNeed 10 = .ok (.iload_n 1, 1) := dk_27 (by decide +kernel)
theorem dX1_isEvenNeed_11 : decode cX1_isEvenNeed 11 = .ok (.invokevirtual 68, 3) := dk_182 (by decide +kernel)
theorem dX1_isEvenNeed_14 : decode cX1_isEvenNeed 14 = .ok (.iconst 0, 1) := dk_3 (by decide +kernel)
theorem dX1_isEvenNeed_15 : decode cX1_isEvenNeed 15 = .ok (.invokevirtual 71, 3) := dk_182 (by decide +kernel)
theorem dX1_isEvenNeed_18 : decode cX1_isEvenNeed 18 = .ok (.iconst 2, 1) := dk_5 (by decide +kernel)
theorem dX1_isEvenNeed_19 : decode cX1_isEvenNeed 19 = .ok (.if_icmp .ne 7, 3) := dk_160 (by decide +kernel)
theorem dX1_isEvenNeed_22 : decode cX1_isEvenNeed 22 = .ok (.iconst 1, 1) := dk_4 (by decide +kernel)
theorem dX1_isEvenNeed_23 : decode cX1_isEvenNeed 23 = .ok (.goto 4, 3) := dk_167 (by decide +kernel)
theorem dX1_isEvenNeed_26 : decode cX1_isEvenNeed 26 = .ok (.iconst 0, 1) := dk_3 (by decide +kernel)
theorem dX1_isEvenNeed_27 : decode cX1_isEvenNeed 27 = .ok (.ireturn, 1) := dk_172 (by decide +kernel)
def wsMX1_isEvenNeed : List Cond := .code yX1_isEvenNeed cX1_isEvenNeed 2 (some .boolean) :: ([] ++ (wsV RX1 64 RX1 yX1_needKind wsMX1_needKind) ++ (wsV RX1 68 RX1 yX1_needOf wsMX1_needOf) ++ (wsV RX1 71 RX1 yX1_sign wsMX1_sign))
theorem gwsMX1_isEvenNeed_0 : GoodIn wsMX1_isEvenNeed (wsV RX1 64 RX1 yX1_needKind wsMX1_needKind) := goodIn_sub (fun _ h => List.mem_cons_of_mem _ (List.mem_append_left _ (List.mem_append_left _ (List.mem_append_right _ h)))) (gdV (by decide +kernel) gdwsMX1_needKind)
theorem gwsMX1_isEvenNeed_1 : GoodIn wsMX1_isEvenNeed (wsV RX1 68 RX1 yX1_needOf wsMX1_needOf) := goodIn_sub (fun _ h => List.mem_cons_of_mem _ (List.mem_append_left _ (List.mem_append_right _ h))) (gdV (by decide +kernel) gdwsMX1_needOf)
theorem gwsMX1_isEvenNeed_2 : GoodIn wsMX1_isEvenNeed (wsV RX1 71 RX1 yX1_sign wsMX1_sign) := goodIn_sub (fun _ h => List.mem_cons_of_mem _ (List.mem_append_right _ h)) (gdV (by decide +kernel) gdwsMX1_sign)
theorem gdwsMX1_isEvenNeed : wsMX1_isEvenNeed.all goodWord = true := gdC rfl (gdA (gdA (gdA (by decide +kernel : ([] : List Cond).all goodWord = true) (gdV (by decide +kernel) gdwsMX1_needKind)) (gdV (by decide +kernel) gdwsMX1_needOf)) (gdV (by decide +kernel) gdwsMX1_sign))
set_option maxHeartbeats 4000000 in
set_option maxRecDepth 100000 in
/-- both ways -/
theorem m_X1_isEvenNeed (l : Launch) (dC : Nat → ClassId) (dI : Nat → Nat → Nat) (hM : Nat → Nat) (aM : Nat → Nat) (kM : Nat → ClassId) (iM_stands : Int32) (iM_variables : Int32) (iM_rows : Int32) (iM_goals : Int32) (iM_differents : Int32) (iM_cases : Int32) (fM_from : Nat → Int32) (fM_to : Nat → Int32) (fM_whole : Nat → Int32) (fM_ways : Nat → Int32) (iM_plainRows : Int32) (fM_plainRow : Nat → Int32) (fM_kept : Nat → Int32) (fM_goalOver : Nat → Int32) (fM_goalUnder : Nat → Int32) (fM_goalMax : Nat → Int32) (fM_different : Nat → Int32) (p1 : Int32) (b_iM_stands : 0 ≤ iM_stands.toInt ∧ iM_stands.toInt ≤ 1) (b_iM_variables : 0 ≤ iM_variables.toInt ∧ iM_variables.toInt ≤ 8) (b_iM_rows : 0 ≤ iM_rows.toInt ∧ iM_rows.toInt ≤ 12) (b_iM_goals : 0 ≤ iM_goals.toInt ∧ iM_goals.toInt ≤ 3) (b_iM_differents : 0 ≤ iM_differents.toInt ∧ iM_differents.toInt ≤ 8) (b_iM_cases : 0 ≤ iM_cases.toInt ∧ iM_cases.toInt ≤ 200000) (b_fM_ways : ∀ q : Nat, 0 ≤ (fM_ways q).toInt ∧ (fM_ways q).toInt ≤ 3) (b_iM_plainRows : 0 ≤ iM_plainRows.toInt ∧ iM_plainRows.toInt ≤ 12) (b_fM_plainRow : ∀ q : Nat, 0 ≤ (fM_plainRow q).toInt ∧ (fM_plainRow q).toInt ≤ 11) (b_pr : iM_plainRows.toInt ≤ iM_rows.toInt) (b_p1 : 0 ≤ p1.toInt ∧ p1.toInt ≤ 27) (hni : p1.toInt < iM_plainRows.toInt + 2 * iM_variables.toInt) (sz : Nat) : Met l yX1_isEvenNeed wsMX1_isEvenNeed ({ frames := 1, cells := 0, slots := 0, locals := 22 }) (va_Pc [.ref (hM 0), .int p1] (fun U => U.heap.size = sz ∧ va_P (dC, dI) vwCl (WM hM aM kM iM_stands iM_variables iM_rows iM_goals iM_differents iM_cases fM_from fM_to fM_whole fM_ways iM_plainRows fM_plainRow fM_kept fM_goalOver fM_goalUnder fM_goalMax fM_different) U.heap ∧ va_K (dC, dI) vwCl (tM kM) U ∧ va_D (fun _ => True) (WM hM aM kM iM_stands iM_variables iM_rows iM_goals iM_differents iM_cases fM_from fM_to fM_whole fM_ways iM_plainRows fM_plainRow fM_kept fM_goalOver fM_goalUnder fM_goalMax fM_different))) (va_Qi (fun (r : Int32) (u : Unit) => (0 ≤ r.toInt ∧ r.toInt ≤ 1) ∧ (r.toInt ≠ 0 → p1.toInt < iM_plainRows.toInt)) (fun (u : Unit) t => va_P (dC, dI) vwCl (WM hM aM kM iM_stands iM_variables iM_rows iM_goals iM_differents iM_cases fM_from fM_to fM_whole fM_ways iM_plainRows fM_plainRow fM_kept fM_goalOver fM_goalUnder fM_goalMax fM_different) t.heap ∧ va_D (va_A (WM hM aM kM iM_stands iM_variables iM_rows iM_goals iM_differents iM_cases fM_from fM_to fM_whole fM_ways iM_plainRows fM_plainRow fM_kept fM_goalOver fM_goalUnder fM_goalMax fM_different) sz) (WM hM aM kM iM_stands iM_variables iM_rows iM_goals iM_differents iM_cases fM_from fM_to fM_whole fM_ways iM_plainRows fM_plainRow fM_kept fM_goalOver fM_goalUnder fM_goalMax fM_different)) (va_A (WM hM aM kM iM_stands iM_variables iM_rows iM_goals iM_differents iM_cases fM_from fM_to fM_whole fM_ways iM_plainRows fM_plainRow fM_kept fM_goalOver fM_goalUnder fM_goalMax fM_different) sz)) 0 0 (va_A (WM hM aM kM iM_stands iM_variables iM_rows iM_goals iM_differents iM_cases fM_from fM_to fM_whole fM_ways iM_plainRows fM_plainRow fM_kept fM_goalOver fM_goalUnder fM_goalMax fM_different) sz) := by
  refine Met.ofW (cc := cX1_isEvenNeed) (maxL := 2) (ret := (some .boolean)) (by decide) rfl ?_
  intro p e s m args below meth c s₁ B hml hv
  obtain ⟨rfl, hsz, hP, hK, hD0⟩ := hv
  have hx := B.exec
  have hb := B.bytes
  have hr := B.returns
  have hts := atoms_spec (ws := wsMX1_isEvenNeed) B.pre
  have hown : s.vm.findClass RX1 = some m.cls := findClass_of_methodNamed B.named
  have hlocks := B.notSynchronized
  subst hsz
  have hD := hD0.self (sz := s.heap.size)
  generalize hAe : va_A (WM hM aM kM iM_stands iM_variables iM_rows iM_goals iM_differents iM_cases fM_from fM_to fM_whole fM_ways iM_plainRows fM_plainRow fM_kept fM_goalOver fM_goalUnder fM_goalMax fM_different) s.heap.size = A at hD ⊢
  have hA : ∀ q : Nat, s.heap.size ≤ q → A q := fun q h => by rw [← hAe]; exact Or.inr h
  have hS : va_S A s.heap s.heap [] := va_S.rf
  have hl := lv_entry ([.ref (hM 0), .int p1]) (n := 2) (Nat.le_of_ble_eq_true rfl)
  rw [lg_entry_eq]
  generalize (lg_sl ([.ref (hM 0), .int p1]) ++ List.replicate (2 - (lg_sl ([.ref (hM 0), .int p1])).length) Slot.unset).toArray = ls at hl ⊢
  have hl : lv_has ls 2 [(0, .ref (hM 0)), (1, .int p1)] := hl
  refine lv_aload_n hx hb dX1_isEvenNeed_0 rfl (lv_at hl 0 rfl) ?_
  refine lv_iload_n hx hb dX1_isEvenNeed_1 rfl (lv_at hl 1 rfl) ?_
  have hFc := allFree hD hS hA
  refine va_calli (va_runV (As := [.int p1]) (rest := []) ⟨hx, hb, hml, hown, hts⟩ (m_X1_needKind l dC dI hM aM kM iM_stands iM_variables iM_rows iM_goals iM_differents iM_cases fM_from fM_to fM_whole fM_ways iM_plainRows fM_plainRow fM_kept fM_goalOver fM_goalUnder fM_goalMax fM_different p1 (b_iM_stands) (b_iM_variables) (b_iM_rows) (b_iM_goals) (b_iM_differents) (b_iM_cases) b_fM_ways (b_iM_plainRows) b_fM_plainRow (by first | assumption | omega) (b_p1) (by first | assumption | omega | (rw [iI_t (by omega) (by omega)]; omega) | decide) s.heap.size) (cwV 1 hts gwsMX1_isEvenNeed_0 rfl rfl rfl hd_yX1_needKind_RX1 (by decide +kernel)) (fz_pre (va_recv hK hP (ci := 1) (q0 := 0) rfl rfl) hP hK hD) rfl rfl hl.1 rfl (lv_room (Nat.le_of_ble_eq_true rfl)) dX1_isEvenNeed_2 (by decide +kernel)) hS (fun q _ h => hFc q h) hFc (fun r1 u t9_ H locs ht hvm hw9 hB9 hz1 hk1 hS => ?_)
  obtain ⟨b_r1, f1_0⟩ := hw9
  have hP : va_P (dC, dI) vwCl (WM hM aM kM iM_stands iM_variables iM_rows iM_goals iM_differents iM_cases fM_from fM_to fM_whole fM_ways iM_plainRows fM_plainRow fM_kept fM_goalOver fM_goalUnder fM_goalMax fM_different) H := fz_P ht hB9.1
  have hD : va_D A (WM hM aM kM iM_stands iM_variables iM_rows iM_goals iM_differents iM_cases fM_from fM_to fM_whole fM_ways iM_plainRows fM_plainRow fM_kept fM_goalOver fM_goalUnder fM_goalMax fM_different) := hB9.2.weaken (fun _ q _ h => hFc q.1 h)
  refine W.cut (pc := 27) (fun H locs ls stk => ∃ (k0_j2 : Int32), (0 ≤ k0_j2.toInt ∧ k0_j2.toInt ≤ 1) ∧ (k0_j2.toInt ≠ 0 → p1.toInt < iM_plainRows.toInt) ∧  stk = [.int k0_j2] ∧ va_P (dC, dI) vwCl (WM hM aM kM iM_stands iM_variables iM_rows iM_goals iM_differents iM_cases fM_from fM_to fM_whole fM_ways iM_plainRows fM_plainRow fM_kept fM_goalOver fM_goalUnder fM_goalMax fM_different) H ∧ va_D A (WM hM aM kM iM_stands iM_variables iM_rows iM_goals iM_differents iM_cases fM_from fM_to fM_whole fM_ways iM_plainRows fM_plainRow fM_kept fM_goalOver fM_goalUnder fM_goalMax fM_different) ∧ va_S A s.heap H locs ∧ lv_has ls 2 [(0, .ref (hM 0)), (1, .int p1)]) (fun join2 => ?_) ?_
  · refine lv_if_ne (tgt := 26) hx hb dX1_isEvenNeed_5 (by decide) (fun c_5 => ?_) (fun c_5 => ?_)
    · have t_5 : r1.toInt ≠ 0 := toI_ne c_5 rfl (by decide : (0 : Int32).toInt = 0)
      refine lv_iconst (v := 0) hx hb dX1_isEvenNeed_26 (by decide) ?_
      have hl : lv_has _ _ ([(0, .ref (hM 0)), (1, .int p1)]) := lv_sub hl [0, 1] rfl
      exact join2 _ _ _ _ ⟨0, (show 0 ≤ (0 : Int32).toInt ∧ (0 : Int32).toInt ≤ 1 from by decide), (show (0 : Int32).toInt ≠ 0 → p1.toInt < iM_plainRows.toInt from by first | (intro h9; exact absurd (by decide) h9) | (intro h9; omega)), rfl, hP, hD, hS, hl⟩
    · have t_5 : r1.toInt = 0 := toI_nne c_5 rfl (by decide : (0 : Int32).toInt = 0)
      refine lv_aload_n hx hb dX1_isEvenNeed_8 rfl (lv_at hl 0 rfl) ?_
      refine lv_aload_n hx hb dX1_isEvenNeed_9 rfl (lv_at hl 0 rfl) ?_
      refine lv_iload_n hx hb dX1_isEvenNeed_10 rfl (lv_at hl 1 rfl) ?_
      have hFc := allFree hD hS hA
      refine va_calli (va_runV (As := [.int p1]) (rest := [.ref (hM 0)]) ⟨hx, hb, hml, hown, hts⟩ (m_X1_needOf l dC dI hM aM kM iM_stands iM_variables iM_rows iM_goals iM_differents iM_cases fM_from fM_to fM_whole fM_ways iM_plainRows fM_plainRow fM_kept fM_goalOver fM_goalUnder fM_goalMax fM_different p1 (b_iM_stands) (b_iM_variables) (b_iM_rows) (b_iM_goals) (b_iM_differents) (b_iM_cases) b_fM_ways (b_iM_plainRows) b_fM_plainRow (by first | assumption | omega) (b_p1) (by first | assumption | omega | (rw [iI_t (by omega) (by omega)]; omega) | decide) H.size) (cwV 1 hts gwsMX1_isEvenNeed_1 rfl rfl rfl hd_yX1_needOf_RX1 (by decide +kernel)) (fz_pre (va_recv hK hP (ci := 1) (q0 := 0) rfl rfl) hP hK hD) rfl rfl hl.1 rfl (lv_room (Nat.le_of_ble_eq_true rfl)) dX1_isEvenNeed_11 (by decide +kernel)) hS (fun q _ h => hFc q h) hFc (fun r4 u t9_ H locs ht hvm hw9 hB9 hz1 hk1 hS => ?_)
      obtain ⟨b_r4, f4_0⟩ := hw9
      have hP : va_P (dC, dI) vwCl (WM hM aM kM iM_stands iM_variables iM_rows iM_goals iM_differents iM_cases fM_from fM_to fM_whole fM_ways iM_plainRows fM_plainRow fM_kept fM_goalOver fM_goalUnder fM_goalMax fM_different) H := fz_P ht hB9.1
      have hD : va_D A (WM hM aM kM iM_stands iM_variables iM_rows iM_goals iM_differents iM_cases fM_from fM_to fM_whole fM_ways iM_plainRows fM_plainRow fM_kept fM_goalOver fM_goalUnder fM_goalMax fM_different) := hB9.2.weaken (fun _ q _ h => hFc q.1 h)
      refine lv_iconst (v := 0) hx hb dX1_isEvenNeed_14 (by decide) ?_
      have hFc := allFree hD hS hA
      refine va_calli (va_runV (As := [.int r4, .int 0]) (rest := []) ⟨hx, hb, hml, hown, hts⟩ (m_X1_sign l dC dI hM aM kM iM_stands iM_variables iM_rows iM_goals iM_differents iM_cases fM_from fM_to fM_whole fM_ways iM_plainRows fM_plainRow fM_kept fM_goalOver fM_goalUnder fM_goalMax fM_different r4 0 (b_iM_stands) (b_iM_variables) (b_iM_rows) (b_iM_goals) (b_iM_differents) (b_iM_cases) b_fM_ways (b_iM_plainRows) b_fM_plainRow (by first | assumption | omega) (by first | exact b_r4 | assumption | exact ⟨by omega, by omega⟩) (show 0 ≤ (0 : Int32).toInt ∧ (0 : Int32).toInt ≤ 2 from by decide) H.size) (cwV 2 hts gwsMX1_isEvenNeed_2 rfl rfl rfl hd_yX1_sign_RX1 (by decide +kernel)) (fz_pre (va_recv hK hP (ci := 1) (q0 := 0) rfl rfl) hP hK hD) rfl rfl hl.1 rfl (lv_room (Nat.le_of_ble_eq_true rfl)) dX1_isEvenNeed_15 (by decide +kernel)) hS (fun q _ h => hFc q h) hFc (fun r5 u t9_ H locs ht hvm hw9 hB9 hz1 hk1 hS => ?_)
      clear hw9
      have hP : va_P (dC, dI) vwCl (WM hM aM kM iM_stands iM_variables iM_rows iM_goals iM_differents iM_cases fM_from fM_to fM_whole fM_ways iM_plainRows fM_plainRow fM_kept fM_goalOver fM_goalUnder fM_goalMax fM_different) H := fz_P ht hB9.1
      have hD : va_D A (WM hM aM kM iM_stands iM_variables iM_rows iM_goals iM_differents iM_cases fM_from fM_to fM_whole fM_ways iM_plainRows fM_plainRow fM_kept fM_goalOver fM_goalUnder fM_goalMax fM_different) := hB9.2.weaken (fun _ q _ h => hFc q.1 h)
      refine lv_iconst (v := 2) hx hb dX1_isEvenNeed_18 (by decide) ?_
      refine lv_icmp_ne (tgt := 26) hx hb dX1_isEvenNeed_19 (by decide) (fun c_19 => ?_) (fun c_19 => ?_)
      · have t_19 : r5.toInt ≠ 2 := toI_ne c_19 rfl (by decide : (2 : Int32).toInt = 2)
        refine lv_iconst (v := 0) hx hb dX1_isEvenNeed_26 (by decide) ?_
        have hl : lv_has _ _ ([(0, .ref (hM 0)), (1, .int p1)]) := lv_sub hl [0, 1] rfl
        exact join2 _ _ _ _ ⟨0, (show 0 ≤ (0 : Int32).toInt ∧ (0 : Int32).toInt ≤ 1 from by decide), (show (0 : Int32).toInt ≠ 0 → p1.toInt < iM_plainRows.toInt from by first | (intro h9; exact absurd (by decide) h9) | (intro h9; omega)), rfl, hP, hD, hS, hl⟩
      · have t_19 : r5.toInt = 2 := toI_nne c_19 rfl (by decide : (2 : Int32).toInt = 2)
        refine lv_iconst (v := 1) hx hb dX1_isEvenNeed_22 (by decide) ?_
        refine lv_goto (tgt := 27) hx hb dX1_isEvenNeed_23 (by decide) ?_
        have hl : lv_has _ _ ([(0, .ref (hM 0)), (1, .int p1)]) := lv_sub hl [0, 1] rfl
        exact join2 _ _ _ _ ⟨1, (show 0 ≤ (1 : Int32).toInt ∧ (1 : Int32).toInt ≤ 1 from by decide), (show (1 : Int32).toInt ≠ 0 → p1.toInt < iM_plainRows.toInt from by first | (intro h9; exact absurd (by decide) h9) | (intro h9; omega)), rfl, hP, hD, hS, hl⟩
  · rintro H locs ls stk ⟨k0_j2, b_k0_j2, hev, rfl, hP, hD, hS, hl⟩
    refine W.widen (k := 0) (n := 0) (by decide +kernel) (by decide +kernel) ?_
    exact W.zret (v := k0_j2) hx hb hr (by rcases z01 (x := k0_j2) (b_k0_j2) with h9 | h9 <;> rw [h9] <;> rfl) (fun t9_ ht hW => ⟨⟨k0_j2, (), rfl, ⟨(b_k0_j2), (by (try dsimp only); exact (hev))⟩, by rw [ht]; exact hP, hD⟩, hS.F ht⟩) hS.2.2 dX1_isEvenNeed_27
theorem dX1_isTurned_0 : decode cX1_isTurned 0 = .ok (.aload_n 0, 1) := dk_42 (by decide +kernel)
theorem dX1_isTurned_1 : decode cX1_isTurned 1 = .ok (.iload_n 1, 1) := dk_27 (by decide +kernel)
theorem dX1_isTurned_2 : decode cX1_isTurned 2 = .ok (.invokevirtual 64, 3) := dk_182 (by decide +kernel)
theorem dX1_isTurned_5 : decode cX1_isTurned 5 = .ok (.istore_n 2, 1) := dk_61 (by decide +kernel)
theorem dX1_isTurned_6 : decode cX1_isTurned 6 = .ok (.iload_n 2, 1) := dk_28 (by decide +kernel)
theorem dX1_isTurned_7 : decode cX1_isTurned 7 = .ok (.iconst 2, 1) := dk_5 (by decide +kernel)
theorem dX1_isTurned_8 : decode cX1_isTurned 8 = .ok (.if_icmp .eq 20, 3) := dk_159 (by decide +kernel)
theorem dX1_isTurned_11 : decode cX1_isTurned 11 = .ok (.iload_n 2, 1) := dk_28 (by decide +kernel)
theorem dX1_isTurned_12 : decode cX1_isTurned 12 = .ok (.ifCond .ne 20, 3) := dk_154 (by decide +kernel)
theorem dX1_isTurned_15 : decode cX1_isTurned 15 = .ok (.aload_n 0, 1) := dk_42 (by decide +kernel)
theorem dX1_isTurned_16 : decode cX1_isTurned 16 = .ok (.aload_n 0, 1) := dk_42 (by decide +kernel)
theorem dX1_isTurned_17 : decode cX1_isTurned 17 = .ok (.iload_n 1, 1) := dk_27 (by decide +kernel)
theorem dX1_isTurned_18 : decode cX1_isTurned 18 = .ok (.invokevirtual 68, 3) := dk_182 (by decide +kernel)
theorem dX1_isTurned_21 : decode cX1_isTurned 21 = .ok (.iconst 0, 1) := dk_3 (by decide +kernel)
theorem dX1_isTurned_22 : decode cX1_isTurned 22 = .ok (.invokevirtual 71, 3) := dk_182 (by decide +kernel)
theorem dX1_isTurned_25 : decode cX1_isTurned 25 = .ok (.ifCond .ne 7, 3) := dk_154 (by decide +kernel)
theorem dX1_isTurned_28 : decode cX1_isTurned 28 = .ok (.iconst 1, 1) := dk_4 (by decide +kernel)
theorem dX1_isTurned_29 : decode cX1_isTurned 29 = .ok (.goto 4, 3) := dk_167 (by decide +kernel)
theorem dX1_isTurned_32 : decode cX1_isTurned 32 = .ok (.iconst 0, 1) := dk_3 (by decide +kernel)
theorem dX1_isTurned_33 : decode cX1_isTurned 33 = .ok (.ireturn, 1) := dk_172 (by decide +kernel)
def wsMX1_isTurned : List Cond := .code yX1_isTurned cX1_isTurned 3 (some .boolean) :: ([] ++ (wsV RX1 64 RX1 yX1_needKind wsMX1_needKind) ++ (wsV RX1 68 RX1 yX1_needOf wsMX1_needOf) ++ (wsV RX1 71 RX1 yX1_sign wsMX1_sign))
theorem gwsMX1_isTurned_0 : GoodIn wsMX1_isTurned (wsV RX1 64 RX1 yX1_needKind wsMX1_needKind) := goodIn_sub (fun _ h => List.mem_cons_of_mem _ (List.mem_append_left _ (List.mem_append_left _ (List.mem_append_right _ h)))) (gdV (by decide +kernel) gdwsMX1_needKind)
theorem gwsMX1_isTurned_1 : GoodIn wsMX1_isTurned (wsV RX1 68 RX1 yX1_needOf wsMX1_needOf) := goodIn_sub (fun _ h => List.mem_cons_of_mem _ (List.mem_append_left _ (List.mem_append_right _ h))) (gdV (by decide +kernel) gdwsMX1_needOf)
theorem gwsMX1_isTurned_2 : GoodIn wsMX1_isTurned (wsV RX1 71 RX1 yX1_sign wsMX1_sign) := goodIn_sub (fun _ h => List.mem_cons_of_mem _ (List.mem_append_right _ h)) (gdV (by decide +kernel) gdwsMX1_sign)
theorem gdwsMX1_isTurned : wsMX1_isTurned.all goodWord = true := gdC rfl (gdA (gdA (gdA (by decide +kernel : ([] : List Cond).all goodWord = true) (gdV (by decide +kernel) gdwsMX1_needKind)) (gdV (by decide +kernel) gdwsMX1_needOf)) (gdV (by decide +kernel) gdwsMX1_sign))
set_option maxHeartbeats 4000000 in
set_option maxRecDepth 100000 in
/-- turned -/
theorem m_X1_isTurned (l : Launch) (dC : Nat → ClassId) (dI : Nat → Nat → Nat) (hM : Nat → Nat) (aM : Nat → Nat) (kM : Nat → ClassId) (iM_stands : Int32) (iM_variables : Int32) (iM_rows : Int32) (iM_goals : Int32) (iM_differents : Int32) (iM_cases : Int32) (fM_from : Nat → Int32) (fM_to : Nat → Int32) (fM_whole : Nat → Int32) (fM_ways : Nat → Int32) (iM_plainRows : Int32) (fM_plainRow : Nat → Int32) (fM_kept : Nat → Int32) (fM_goalOver : Nat → Int32) (fM_goalUnder : Nat → Int32) (fM_goalMax : Nat → Int32) (fM_different : Nat → Int32) (p1 : Int32) (b_iM_stands : 0 ≤ iM_stands.toInt ∧ iM_stands.toInt ≤ 1) (b_iM_variables : 0 ≤ iM_variables.toInt ∧ iM_variables.toInt ≤ 8) (b_iM_rows : 0 ≤ iM_rows.toInt ∧ iM_rows.toInt ≤ 12) (b_iM_goals : 0 ≤ iM_goals.toInt ∧ iM_goals.toInt ≤ 3) (b_iM_differents : 0 ≤ iM_differents.toInt ∧ iM_differents.toInt ≤ 8) (b_iM_cases : 0 ≤ iM_cases.toInt ∧ iM_cases.toInt ≤ 200000) (b_fM_ways : ∀ q : Nat, 0 ≤ (fM_ways q).toInt ∧ (fM_ways q).toInt ≤ 3) (b_iM_plainRows : 0 ≤ iM_plainRows.toInt ∧ iM_plainRows.toInt ≤ 12) (b_fM_plainRow : ∀ q : Nat, 0 ≤ (fM_plainRow q).toInt ∧ (fM_plainRow q).toInt ≤ 11) (b_pr : iM_plainRows.toInt ≤ iM_rows.toInt) (b_p1 : 0 ≤ p1.toInt ∧ p1.toInt ≤ 27) (hni : p1.toInt < iM_plainRows.toInt + 2 * iM_variables.toInt) (sz : Nat) : Met l yX1_isTurned wsMX1_isTurned ({ frames := 1, cells := 0, slots := 0, locals := 22 }) (va_Pc [.ref (hM 0), .int p1] (fun U => U.heap.size = sz ∧ va_P (dC, dI) vwCl (WM hM aM kM iM_stands iM_variables iM_rows iM_goals iM_differents iM_cases fM_from fM_to fM_whole fM_ways iM_plainRows fM_plainRow fM_kept fM_goalOver fM_goalUnder fM_goalMax fM_different) U.heap ∧ va_K (dC, dI) vwCl (tM kM) U ∧ va_D (fun _ => True) (WM hM aM kM iM_stands iM_variables iM_rows iM_goals iM_differents iM_cases fM_from fM_to fM_whole fM_ways iM_plainRows fM_plainRow fM_kept fM_goalOver fM_goalUnder fM_goalMax fM_different))) (va_Qi (fun (r : Int32) (u : Unit) => (0 ≤ r.toInt ∧ r.toInt ≤ 1)) (fun (u : Unit) t => va_P (dC, dI) vwCl (WM hM aM kM iM_stands iM_variables iM_rows iM_goals iM_differents iM_cases fM_from fM_to fM_whole fM_ways iM_plainRows fM_plainRow fM_kept fM_goalOver fM_goalUnder fM_goalMax fM_different) t.heap ∧ va_D (va_A (WM hM aM kM iM_stands iM_variables iM_rows iM_goals iM_differents iM_cases fM_from fM_to fM_whole fM_ways iM_plainRows fM_plainRow fM_kept fM_goalOver fM_goalUnder fM_goalMax fM_different) sz) (WM hM aM kM iM_stands iM_variables iM_rows iM_goals iM_differents iM_cases fM_from fM_to fM_whole fM_ways iM_plainRows fM_plainRow fM_kept fM_goalOver fM_goalUnder fM_goalMax fM_different)) (va_A (WM hM aM kM iM_stands iM_variables iM_rows iM_goals iM_differents iM_cases fM_from fM_to fM_whole fM_ways iM_plainRows fM_plainRow fM_kept fM_goalOver fM_goalUnder fM_goalMax fM_different) sz)) 0 0 (va_A (WM hM aM kM iM_stands iM_variables iM_rows iM_goals iM_differents iM_cases fM_from fM_to fM_whole fM_ways iM_plainRows fM_plainRow fM_kept fM_goalOver fM_goalUnder fM_goalMax fM_different) sz) := by
  refine Met.ofW (cc := cX1_isTurned) (maxL := 3) (ret := (some .boolean)) (by decide) rfl ?_
  intro p e s m args below meth c s₁ B hml hv
  obtain ⟨rfl, hsz, hP, hK, hD0⟩ := hv
  have hx := B.exec
  have hb := B.bytes
  have hr := B.returns
  have hts := atoms_spec (ws := wsMX1_isTurned) B.pre
  have hown : s.vm.findClass RX1 = some m.cls := findClass_of_methodNamed B.named
  have hlocks := B.notSynchronized
  subst hsz
  have hD := hD0.self (sz := s.heap.size)
  generalize hAe : va_A (WM hM aM kM iM_stands iM_variables iM_rows iM_goals iM_differents iM_cases fM_from fM_to fM_whole fM_ways iM_plainRows fM_plainRow fM_kept fM_goalOver fM_goalUnder fM_goalMax fM_different) s.heap.size = A at hD ⊢
  have hA : ∀ q : Nat, s.heap.size ≤ q → A q := fun q h => by rw [← hAe]; exact Or.inr h
  have hS : va_S A s.heap s.heap [] := va_S.rf
  have hl := lv_entry ([.ref (hM 0), .int p1]) (n := 3) (Nat.le_of_ble_eq_true rfl)
  rw [lg_entry_eq]
  generalize (lg_sl ([.ref (hM 0), .int p1]) ++ List.replicate (3 - (lg_sl ([.ref (hM 0), .int p1])).length) Slot.unset).toArray = ls at hl ⊢
  have hl : lv_has ls 3 [(0, .ref (hM 0)), (1, .int p1)] := hl
  refine lv_aload_n hx hb dX1_isTurned_0 rfl (lv_at hl 0 rfl) ?_
  refine lv_iload_n hx hb dX1_isTurned_1 rfl (lv_at hl 1 rfl) ?_
  have hFc := allFree hD hS hA
  refine va_calli (va_runV (As := [.int p1]) (rest := []) ⟨hx, hb, hml, hown, hts⟩ (m_X1_needKind l dC dI hM aM kM iM_stands iM_variables iM_rows iM_goals iM_differents iM_cases fM_from fM_to fM_whole fM_ways iM_plainRows fM_plainRow fM_kept fM_goalOver fM_goalUnder fM_goalMax fM_different p1 (b_iM_stands) (b_iM_variables) (b_iM_rows) (b_iM_goals) (b_iM_differents) (b_iM_cases) b_fM_ways (b_iM_plainRows) b_fM_plainRow (by first | assumption | omega) (b_p1) (by first | assumption | omega | (rw [iI_t (by omega) (by omega)]; omega) | decide) s.heap.size) (cwV 1 hts gwsMX1_isTurned_0 rfl rfl rfl hd_yX1_needKind_RX1 (by decide +kernel)) (fz_pre (va_recv hK hP (ci := 1) (q0 := 0) rfl rfl) hP hK hD) rfl rfl hl.1 rfl (lv_room (Nat.le_of_ble_eq_true rfl)) dX1_isTurned_2 (by decide +kernel)) hS (fun q _ h => hFc q h) hFc (fun r1 u t9_ H locs ht hvm hw9 hB9 hz1 hk1 hS => ?_)
  obtain ⟨b_r1, f1_0⟩ := hw9
  have hP : va_P (dC, dI) vwCl (WM hM aM kM iM_stands iM_variables iM_rows iM_goals iM_differents iM_cases fM_from fM_to fM_whole fM_ways iM_plainRows fM_plainRow fM_kept fM_goalOver fM_goalUnder fM_goalMax fM_different) H := fz_P ht hB9.1
  have hD : va_D A (WM hM aM kM iM_stands iM_variables iM_rows iM_goals iM_differents iM_cases fM_from fM_to fM_whole fM_ways iM_plainRows fM_plainRow fM_kept fM_goalOver fM_goalUnder fM_goalMax fM_different) := hB9.2.weaken (fun _ q _ h => hFc q.1 h)
  refine lv_istore_n hx hb dX1_isTurned_5 rfl hl (by decide) rfl (fun ls (hl : lv_has ls _ ([(2, .int r1), (0, .ref (hM 0)), (1, .int p1)])) => ?_)
  refine lv_iload_n hx hb dX1_isTurned_6 rfl (lv_at hl 0 rfl) ?_
  refine lv_iconst (v := 2) hx hb dX1_isTurned_7 (by decide) ?_
  refine W.cut (pc := 33) (fun H locs ls stk => ∃ (k0_j2 : Int32), (0 ≤ k0_j2.toInt ∧ k0_j2.toInt ≤ 1) ∧  stk = [.int k0_j2] ∧ va_P (dC, dI) vwCl (WM hM aM kM iM_stands iM_variables iM_rows iM_goals iM_differents iM_cases fM_from fM_to fM_whole fM_ways iM_plainRows fM_plainRow fM_kept fM_goalOver fM_goalUnder fM_goalMax fM_different) H ∧ va_D A (WM hM aM kM iM_stands iM_variables iM_rows iM_goals iM_differents iM_cases fM_from fM_to fM_whole fM_ways iM_plainRows fM_plainRow fM_kept fM_goalOver fM_goalUnder fM_goalMax fM_different) ∧ va_S A s.heap H locs ∧ lv_has ls 3 [(2, .int r1), (0, .ref (hM 0)), (1, .int p1)]) (fun join2 => ?_) ?_
  · refine lv_icmp_eq (tgt := 28) hx hb dX1_isTurned_8 (by decide) (fun c_8 => ?_) (fun c_8 => ?_)
    · have t_8 : r1.toInt = 2 := toI_eq c_8 rfl (by decide : (2 : Int32).toInt = 2)
      refine lv_iconst (v := 1) hx hb dX1_isTurned_28 (by decide) ?_
      refine lv_goto (tgt := 33) hx hb dX1_isTurned_29 (by decide) ?_
      have hl : lv_has _ _ ([(2, .int r1), (0, .ref (hM 0)), (1, .int p1)]) := lv_sub hl [0, 1, 2] rfl
      exact join2 _ _ _ _ ⟨1, (show 0 ≤ (1 : Int32).toInt ∧ (1 : Int32).toInt ≤ 1 from by decide), rfl, hP, hD, hS, hl⟩
    · have t_8 : ¬ r1.toInt = 2 := toI_neq c_8 rfl (by decide : (2 : Int32).toInt = 2)
      refine lv_iload_n hx hb dX1_isTurned_11 rfl (lv_at hl 0 rfl) ?_
      refine lv_if_ne (tgt := 32) hx hb dX1_isTurned_12 (by decide) (fun c_12 => ?_) (fun c_12 => ?_)
      · have t_12 : r1.toInt ≠ 0 := toI_ne c_12 rfl (by decide : (0 : Int32).toInt = 0)
        refine lv_iconst (v := 0) hx hb dX1_isTurned_32 (by decide) ?_
        have hl : lv_has _ _ ([(2, .int r1), (0, .ref (hM 0)), (1, .int p1)]) := lv_sub hl [0, 1, 2] rfl
        exact join2 _ _ _ _ ⟨0, (show 0 ≤ (0 : Int32).toInt ∧ (0 : Int32).toInt ≤ 1 from by decide), rfl, hP, hD, hS, hl⟩
      · have t_12 : r1.toInt = 0 := toI_nne c_12 rfl (by decide : (0 : Int32).toInt = 0)
        refine lv_aload_n hx hb dX1_isTurned_15 rfl (lv_at hl 1 rfl) ?_
        refine lv_aload_n hx hb dX1_isTurned_16 rfl (lv_at hl 1 rfl) ?_
        refine lv_iload_n hx hb dX1_isTurned_17 rfl (lv_at hl 2 rfl) ?_
        have hFc := allFree hD hS hA
        refine va_calli (va_runV (As := [.int p1]) (rest := [.ref (hM 0)]) ⟨hx, hb, hml, hown, hts⟩ (m_X1_needOf l dC dI hM aM kM iM_stands iM_variables iM_rows iM_goals iM_differents iM_cases fM_from fM_to fM_whole fM_ways iM_plainRows fM_plainRow fM_kept fM_goalOver fM_goalUnder fM_goalMax fM_different p1 (b_iM_stands) (b_iM_variables) (b_iM_rows) (b_iM_goals) (b_iM_differents) (b_iM_cases) b_fM_ways (b_iM_plainRows) b_fM_plainRow (by first | assumption | omega) (b_p1) (by first | assumption | omega | (rw [iI_t (by omega) (by omega)]; omega) | decide) H.size) (cwV 1 hts gwsMX1_isTurned_1 rfl rfl rfl hd_yX1_needOf_RX1 (by decide +kernel)) (fz_pre (va_recv hK hP (ci := 1) (q0 := 0) rfl rfl) hP hK hD) rfl rfl hl.1 rfl (lv_room (Nat.le_of_ble_eq_true rfl)) dX1_isTurned_18 (by decide +kernel)) hS (fun q _ h => hFc q h) hFc (fun r4 u t9_ H locs ht hvm hw9 hB9 hz1 hk1 hS => ?_)
        obtain ⟨b_r4, f4_0⟩ := hw9
        have hP : va_P (dC, dI) vwCl (WM hM aM kM iM_stands iM_variables iM_rows iM_goals iM_differents iM_cases fM_from fM_to fM_whole fM_ways iM_plainRows fM_plainRow fM_kept fM_goalOver fM_goalUnder fM_goalMax fM_different) H := fz_P ht hB9.1
        have hD : va_D A (WM hM aM kM iM_stands iM_variables iM_rows iM_goals iM_differents iM_cases fM_from fM_to fM_whole fM_ways iM_plainRows fM_plainRow fM_kept fM_goalOver fM_goalUnder fM_goalMax fM_different) := hB9.2.weaken (fun _ q _ h => hFc q.1 h)
        refine lv_iconst (v := 0) hx hb dX1_isTurned_21 (by decide) ?_
        have hFc := allFree hD hS hA
        refine va_calli (va_runV (As := [.int r4, .int 0]) (rest := []) ⟨hx, hb, hml, hown, hts⟩ (m_X1_sign l dC dI hM aM kM iM_stands iM_variables iM_rows iM_goals iM_differents iM_cases fM_from fM_to fM_whole fM_ways iM_plainRows fM_plainRow fM_kept fM_goalOver fM_goalUnder fM_goalMax fM_different r4 0 (b_iM_stands) (b_iM_variables) (b_iM_rows) (b_iM_goals) (b_iM_differents) (b_iM_cases) b_fM_ways (b_iM_plainRows) b_fM_plainRow (by first | assumption | omega) (by first | exact b_r4 | assumption | exact ⟨by omega, by omega⟩) (show 0 ≤ (0 : Int32).toInt ∧ (0 : Int32).toInt ≤ 2 from by decide) H.size) (cwV 2 hts gwsMX1_isTurned_2 rfl rfl rfl hd_yX1_sign_RX1 (by decide +kernel)) (fz_pre (va_recv hK hP (ci := 1) (q0 := 0) rfl rfl) hP hK hD) rfl rfl hl.1 rfl (lv_room (Nat.le_of_ble_eq_true rfl)) dX1_isTurned_22 (by decide +kernel)) hS (fun q _ h => hFc q h) hFc (fun r5 u t9_ H locs ht hvm hw9 hB9 hz1 hk1 hS => ?_)
        clear hw9
        have hP : va_P (dC, dI) vwCl (WM hM aM kM iM_stands iM_variables iM_rows iM_goals iM_differents iM_cases fM_from fM_to fM_whole fM_ways iM_plainRows fM_plainRow fM_kept fM_goalOver fM_goalUnder fM_goalMax fM_different) H := fz_P ht hB9.1
        have hD : va_D A (WM hM aM kM iM_stands iM_variables iM_rows iM_goals iM_differents iM_cases fM_from fM_to fM_whole fM_ways iM_plainRows fM_plainRow fM_kept fM_goalOver fM_goalUnder fM_goalMax fM_different) := hB9.2.weaken (fun _ q _ h => hFc q.1 h)
        refine lv_if_ne (tgt := 32) hx hb dX1_isTurned_25 (by decide) (fun c_25 => ?_) (fun c_25 => ?_)
        · have t_25 : r5.toInt ≠ 0 := toI_ne c_25 rfl (by decide : (0 : Int32).toInt = 0)
          refine lv_iconst (v := 0) hx hb dX1_isTurned_32 (by decide) ?_
          have hl : lv_has _ _ ([(2, .int r1), (0, .ref (hM 0)), (1, .int p1)]) := lv_sub hl [0, 1, 2] rfl
          exact join2 _ _ _ _ ⟨0, (show 0 ≤ (0 : Int32).toInt ∧ (0 : Int32).toInt ≤ 1 from by decide), rfl, hP, hD, hS, hl⟩
        · have t_25 : r5.toInt = 0 := toI_nne c_25 rfl (by decide : (0 : Int32).toInt = 0)
          refine lv_iconst (v := 1) hx hb dX1_isTurned_28 (by decide) ?_
          refine lv_goto (tgt := 33) hx hb dX1_isTurned_29 (by decide) ?_
          have hl : lv_has _ _ ([(2, .int r1), (0, .ref (hM 0)), (1, .int p1)]) := lv_sub hl [0, 1, 2] rfl
          exact join2 _ _ _ _ ⟨1, (show 0 ≤ (1 : Int32).toInt ∧ (1 : Int32).toInt ≤ 1 from by decide), rfl, hP, hD, hS, hl⟩
  · rintro H locs ls stk ⟨k0_j2, b_k0_j2, rfl, hP, hD, hS, hl⟩
    refine W.widen (k := 0) (n := 0) (by decide +kernel) (by decide +kernel) ?_
    exact W.zret (v := k0_j2) hx hb hr (by rcases z01 (x := k0_j2) (b_k0_j2) with h9 | h9 <;> rw [h9] <;> rfl) (fun t9_ ht hW => ⟨⟨k0_j2, (), rfl, (b_k0_j2), by rw [ht]; exact hP, hD⟩, hS.F ht⟩) hS.2.2 dX1_isTurned_33
theorem dX1_needNumber_0 : decode cX1_needNumber 0 = .ok (.aload_n 0, 1) := dk_42 (by decide +kernel)
theorem dX1_needNumber_1 : decode cX1_needNumber 1 = .ok (.iload_n 1, 1) := dk_27 (by decide +kernel)
theorem dX1_needNumber_2 : decode cX1_needNumber 2 = .ok (.invokevirtual 68, 3) := dk_182 (by decide +kernel)
theorem dX1_needNumber_5 : decode cX1_needNumber 5 = .ok (.istore_n 3, 1) := dk_62 (by decide +kernel)
theorem dX1_needNumber_6 : decode cX1_needNumber 6 = .ok (.aload_n 0, 1) := dk_42 (by decide +kernel)
theorem dX1_needNumber_7 : decode cX1_needNumber 7 = .ok (.iload_n 1, 1) := dk_27 (by decide +kernel)
theorem dX1_needNumber_8 : decode cX1_needNumber 8 = .ok (.invokevirtual 64, 3) := dk_182 (by decide +kernel)
theorem dX1_needNumber_11 : decode cX1_needNumber 11 = .ok (.ifCond .ne 13, 3) := dk_154 (by decide +kernel)
theorem dX1_needNumber_14 : decode cX1_needNumber 14 = .ok (.aload_n 0, 1) := dk_42 (by decide +kernel)
theorem dX1_needNumber_15 : decode cX1_needNumber 15 = .ok (.iload_n 3, 1) := dk_29 (by decide +kernel)
theorem dX1_needNumber_16 : decode cX1_needNumber 16 = .ok (.iconst 0, 1) := dk_3 (by decide +kernel)
theorem dX1_needNumber_17 : decode cX1_needNumber 17 = .ok (.iload_n 2, 1) := dk_28 (by decide +kernel)
theorem dX1_needNumber_18 : decode cX1_needNumber 18 = .ok (.invokevirtual 75, 3) := dk_182 (by decide +kernel)
theorem dX1_needNumber_21 : decode cX1_needNumber 21 = .ok (.goto 13, 3) := dk_167 (by decide +kernel)
theorem dX1_needNumber_24 : decode cX1_needNumber 24 = .ok (.iload_n 2, 1) := dk_28 (by decide +kernel)
theorem dX1_needNumber_25 : decode cX1_needNumber 25 = .ok (.iload_n 3, 1) := dk_29 (by decide +kernel)
theorem dX1_needNumber_26 : decode cX1_needNumber 26 = .ok (.if_icmp .ne 7, 3) := dk_160 (by decide +kernel)
theorem dX1_needNumber_29 : decode cX1_needNumber 29 = .ok (.iconst 1, 1) := dk_4 (by decide +kernel)
theorem dX1_needNumber_30 : decode cX1_needNumber 30 = .ok (.goto 4, 3) := dk_167 (by decide +kernel)
theorem dX1_needNumber_33 : decode cX1_needNumber 33 = .ok (.iconst 0, 1) := dk_3 (by decide +kernel)
theorem dX1_needNumber_34 : decode cX1_needNumber 34 = .ok (.istore 4, 2) := dk_54 (by decide +kernel)
theorem dX1_needNumber_36 : decode cX1_needNumber 36 = .ok (.aload_n 0, 1) := dk_42 (by decide +kernel)
theorem dX1_needNumber_37 : decode cX1_needNumber 37 = .ok (.iload_n 1, 1) := dk_27 (by decide +kernel)
theorem dX1_needNumber_38 : decode cX1_needNumber 38 = .ok (.invokevirtual 79, 3) := dk_182 (by decide +kernel)
theorem dX1_needNumber_41 : decode cX1_needNumber 41 = .ok (.ifCond .eq 9, 3) := dk_153 (by decide +kernel)
theorem dX1_needNumber_44 : decode cX1_needNumber 44 = .ok (.iload 4, 2) := dk_21 (by decide +kernel)
theorem dX1_needNumber_46 : decode cX1_needNumber 46 = .ok (.ineg, 1) := dk_116 (by decide +kernel)
theorem dX1_needNumber_47 : decode cX1_needNumber 47 = .ok (.goto 5, 3) := dk_167 (by decide +kernel)
theorem dX1_needNumber_50 : decode cX1_needNumber 50 = .ok (.iload 4, 2) := dk_21 (by decide +kernel)
theorem dX1_needNumber_52 : decode cX1_needNumber 52 = .ok (.ireturn, 1) := dk_172 (by decide +kernel)
def wsMX1_needNumber : List Cond := .code yX1_needNumber cX1_needNumber 5 (some .int) :: ([] ++ (wsV RX1 68 RX1 yX1_needOf wsMX1_needOf) ++ (wsV RX1 64 RX1 yX1_needKind wsMX1_needKind) ++ (wsV RX1 75 RX1 yX1_number wsMX1_number) ++ (wsV RX1 79 RX1 yX1_isTurned wsMX1_isTurned))
theorem gwsMX1_needNumber_0 : GoodIn wsMX1_needNumber (wsV RX1 68 RX1 yX1_needOf wsMX1_needOf) := goodIn_sub (fun _ h => List.mem_cons_of_mem _ (List.mem_append_left _ (List.mem_append_left _ (List.mem_append_left _ (List.mem_append_right _ h))))) (gdV (by decide +kernel) gdwsMX1_needOf)
theorem gwsMX1_needNumber_1 : GoodIn wsMX1_needNumber (wsV RX1 64 RX1 yX1_needKind wsMX1_needKind) := goodIn_sub (fun _ h => List.mem_cons_of_mem _ (List.mem_append_left _ (List.mem_append_left _ (List.mem_append_right _ h)))) (gdV (by decide +kernel) gdwsMX1_needKind)
theorem gwsMX1_needNumber_2 : GoodIn wsMX1_needNumber (wsV RX1 75 RX1 yX1_number wsMX1_number) := goodIn_sub (fun _ h => List.mem_cons_of_mem _ (List.mem_append_left _ (List.mem_append_right _ h))) (gdV (by decide +kernel) gdwsMX1_number)
theorem gwsMX1_needNumber_3 : GoodIn wsMX1_needNumber (wsV RX1 79 RX1 yX1_isTurned wsMX1_isTurned) := goodIn_sub (fun _ h => List.mem_cons_of_mem _ (List.mem_append_right _ h)) (gdV (by decide +kernel) gdwsMX1_isTurned)
theorem gdwsMX1_needNumber : wsMX1_needNumber.all goodWord = true := gdC rfl (gdA (gdA (gdA (gdA (by decide +kernel : ([] : List Cond).all goodWord = true) (gdV (by decide +kernel) gdwsMX1_needOf)) (gdV (by decide +kernel) gdwsMX1_needKind)) (gdV (by decide +kernel) gdwsMX1_number)) (gdV (by decide +kernel) gdwsMX1_isTurned))
set_option maxHeartbeats 4000000 in
set_option maxRecDepth 100000 in
/-- a number of a need -/
theorem m_X1_needNumber (l : Launch) (dC : Nat → ClassId) (dI : Nat → Nat → Nat) (hM : Nat → Nat) (aM : Nat → Nat) (kM : Nat → ClassId) (iM_stands : Int32) (iM_variables : Int32) (iM_rows : Int32) (iM_goals : Int32) (iM_differents : Int32) (iM_cases : Int32) (fM_from : Nat → Int32) (fM_to : Nat → Int32) (fM_whole : Nat → Int32) (fM_ways : Nat → Int32) (iM_plainRows : Int32) (fM_plainRow : Nat → Int32) (fM_kept : Nat → Int32) (fM_goalOver : Nat → Int32) (fM_goalUnder : Nat → Int32) (fM_goalMax : Nat → Int32) (fM_different : Nat → Int32) (p1 : Int32) (p2 : Int32) (b_iM_stands : 0 ≤ iM_stands.toInt ∧ iM_stands.toInt ≤ 1) (b_iM_variables : 0 ≤ iM_variables.toInt ∧ iM_variables.toInt ≤ 8) (b_iM_rows : 0 ≤ iM_rows.toInt ∧ iM_rows.toInt ≤ 12) (b_iM_goals : 0 ≤ iM_goals.toInt ∧ iM_goals.toInt ≤ 3) (b_iM_differents : 0 ≤ iM_differents.toInt ∧ iM_differents.toInt ≤ 8) (b_iM_cases : 0 ≤ iM_cases.toInt ∧ iM_cases.toInt ≤ 200000) (b_fM_ways : ∀ q : Nat, 0 ≤ (fM_ways q).toInt ∧ (fM_ways q).toInt ≤ 3) (b_iM_plainRows : 0 ≤ iM_plainRows.toInt ∧ iM_plainRows.toInt ≤ 12) (b_fM_plainRow : ∀ q : Nat, 0 ≤ (fM_plainRow q).toInt ∧ (fM_plainRow q).toInt ≤ 11) (b_pr : iM_plainRows.toInt ≤ iM_rows.toInt) (b_p1 : 0 ≤ p1.toInt ∧ p1.toInt ≤ 27) (b_p2 : 0 ≤ p2.toInt ∧ p2.toInt ≤ 7) (hni : p1.toInt < iM_plainRows.toInt + 2 * iM_variables.toInt) (sz : Nat) : Met l yX1_needNumber wsMX1_needNumber ({ frames := 2, cells := 0, slots := 0, locals := 44 }) (va_Pc [.ref (hM 0), .int p1, .int p2] (fun U => U.heap.size = sz ∧ va_P (dC, dI) vwCl (WM hM aM kM iM_stands iM_variables iM_rows iM_goals iM_differents iM_cases fM_from fM_to fM_whole fM_ways iM_plainRows fM_plainRow fM_kept fM_goalOver fM_goalUnder fM_goalMax fM_different) U.heap ∧ va_K (dC, dI) vwCl (tM kM) U ∧ va_D (fun _ => True) (WM hM aM kM iM_stands iM_variables iM_rows iM_goals iM_differents iM_cases fM_from fM_to fM_whole fM_ways iM_plainRows fM_plainRow fM_kept fM_goalOver fM_goalUnder fM_goalMax fM_different))) (va_Qi (fun (r : Int32) (u : Unit) => True) (fun (u : Unit) t => va_P (dC, dI) vwCl (WM hM aM kM iM_stands iM_variables iM_rows iM_goals iM_differents iM_cases fM_from fM_to fM_whole fM_ways iM_plainRows fM_plainRow fM_kept fM_goalOver fM_goalUnder fM_goalMax fM_different) t.heap ∧ va_D (va_A (WM hM aM kM iM_stands iM_variables iM_rows iM_goals iM_differents iM_cases fM_from fM_to fM_whole fM_ways iM_plainRows fM_plainRow fM_kept fM_goalOver fM_goalUnder fM_goalMax fM_different) sz) (WM hM aM kM iM_stands iM_variables iM_rows iM_goals iM_differents iM_cases fM_from fM_to fM_whole fM_ways iM_plainRows fM_plainRow fM_kept fM_goalOver fM_goalUnder fM_goalMax fM_different)) (va_A (WM hM aM kM iM_stands iM_variables iM_rows iM_goals iM_differents iM_cases fM_from fM_to fM_whole fM_ways iM_plainRows fM_plainRow fM_kept fM_goalOver fM_goalUnder fM_goalMax fM_different) sz)) 0 0 (va_A (WM hM aM kM iM_stands iM_variables iM_rows iM_goals iM_differents iM_cases fM_from fM_to fM_whole fM_ways iM_plainRows fM_plainRow fM_kept fM_goalOver fM_goalUnder fM_goalMax fM_different) sz) := by
  refine Met.ofW (cc := cX1_needNumber) (maxL := 5) (ret := (some .int)) (by decide) rfl ?_
  intro p e s m args below meth c s₁ B hml hv
  obtain ⟨rfl, hsz, hP, hK, hD0⟩ := hv
  have hx := B.exec
  have hb := B.bytes
  have hr := B.returns
  have hts := atoms_spec (ws := wsMX1_needNumber) B.pre
  have hown : s.vm.findClass RX1 = some m.cls := findClass_of_methodNamed B.named
  have hlocks := B.notSynchronized
  subst hsz
  have hD := hD0.self (sz := s.heap.size)
  generalize hAe : va_A (WM hM aM kM iM_stands iM_variables iM_rows iM_goals iM_differents iM_cases fM_from fM_to fM_whole fM_ways iM_plainRows fM_plainRow fM_kept fM_goalOver fM_goalUnder fM_goalMax fM_different) s.heap.size = A at hD ⊢
  have hA : ∀ q : Nat, s.heap.size ≤ q → A q := fun q h => by rw [← hAe]; exact Or.inr h
  have hS : va_S A s.heap s.heap [] := va_S.rf
  have hl := lv_entry ([.ref (hM 0), .int p1, .int p2]) (n := 5) (Nat.le_of_ble_eq_true rfl)
  rw [lg_entry_eq]
  generalize (lg_sl ([.ref (hM 0), .int p1, .int p2]) ++ List.replicate (5 - (lg_sl ([.ref (hM 0), .int p1, .int p2])).length) Slot.unset).toArray = ls at hl ⊢
  have hl : lv_has ls 5 [(0, .ref (hM 0)), (1, .int p1), (2, .int p2)] := hl
  refine lv_aload_n hx hb dX1_needNumber_0 rfl (lv_at hl 0 rfl) ?_
  refine lv_iload_n hx hb dX1_needNumber_1 rfl (lv_at hl 1 rfl) ?_
  have hFc := allFree hD hS hA
  refine va_calli (va_runV (As := [.int p1]) (rest := []) ⟨hx, hb, hml, hown, hts⟩ (m_X1_needOf l dC dI hM aM kM iM_stands iM_variables iM_rows iM_goals iM_differents iM_cases fM_from fM_to fM_whole fM_ways iM_plainRows fM_plainRow fM_kept fM_goalOver fM_goalUnder fM_goalMax fM_different p1 (b_iM_stands) (b_iM_variables) (b_iM_rows) (b_iM_goals) (b_iM_differents) (b_iM_cases) b_fM_ways (b_iM_plainRows) b_fM_plainRow (by first | assumption | omega) (b_p1) (by first | assumption | omega | (rw [iI_t (by omega) (by omega)]; omega) | decide) s.heap.size) (cwV 1 hts gwsMX1_needNumber_0 rfl rfl rfl hd_yX1_needOf_RX1 (by decide +kernel)) (fz_pre (va_recv hK hP (ci := 1) (q0 := 0) rfl rfl) hP hK hD) rfl rfl hl.1 rfl (lv_room (Nat.le_of_ble_eq_true rfl)) dX1_needNumber_2 (by decide +kernel)) hS (fun q _ h => hFc q h) hFc (fun r1 u t9_ H locs ht hvm hw9 hB9 hz1 hk1 hS => ?_)
  obtain ⟨b_r1, f1_0⟩ := hw9
  have hP : va_P (dC, dI) vwCl (WM hM aM kM iM_stands iM_variables iM_rows iM_goals iM_differents iM_cases fM_from fM_to fM_whole fM_ways iM_plainRows fM_plainRow fM_kept fM_goalOver fM_goalUnder fM_goalMax fM_different) H := fz_P ht hB9.1
  have hD : va_D A (WM hM aM kM iM_stands iM_variables iM_rows iM_goals iM_differents iM_cases fM_from fM_to fM_whole fM_ways iM_plainRows fM_plainRow fM_kept fM_goalOver fM_goalUnder fM_goalMax fM_different) := hB9.2.weaken (fun _ q _ h => hFc q.1 h)
  refine lv_istore_n hx hb dX1_needNumber_5 rfl hl (by decide) rfl (fun ls (hl : lv_has ls _ ([(3, .int r1), (0, .ref (hM 0)), (1, .int p1), (2, .int p2)])) => ?_)
  refine lv_aload_n hx hb dX1_needNumber_6 rfl (lv_at hl 1 rfl) ?_
  refine lv_iload_n hx hb dX1_needNumber_7 rfl (lv_at hl 2 rfl) ?_
  have hFc := allFree hD hS hA
  refine va_calli (va_runV (As := [.int p1]) (rest := []) ⟨hx, hb, hml, hown, hts⟩ (m_X1_needKind l dC dI hM aM kM iM_stands iM_variables iM_rows iM_goals iM_differents iM_cases fM_from fM_to fM_whole fM_ways iM_plainRows fM_plainRow fM_kept fM_goalOver fM_goalUnder fM_goalMax fM_different p1 (b_iM_stands) (b_iM_variables) (b_iM_rows) (b_iM_goals) (b_iM_differents) (b_iM_cases) b_fM_ways (b_iM_plainRows) b_fM_plainRow (by first | assumption | omega) (b_p1) (by first | assumption | omega | (rw [iI_t (by omega) (by omega)]; omega) | decide) H.size) (cwV 1 hts gwsMX1_needNumber_1 rfl rfl rfl hd_yX1_needKind_RX1 (by decide +kernel)) (fz_pre (va_recv hK hP (ci := 1) (q0 := 0) rfl rfl) hP hK hD) rfl rfl hl.1 rfl (lv_room (Nat.le_of_ble_eq_true rfl)) dX1_needNumber_8 (by decide +kernel)) hS (fun q _ h => hFc q h) hFc (fun r2 u t9_ H locs ht hvm hw9 hB9 hz1 hk1 hS => ?_)
  obtain ⟨b_r2, f2_0⟩ := hw9
  have hP : va_P (dC, dI) vwCl (WM hM aM kM iM_stands iM_variables iM_rows iM_goals iM_differents iM_cases fM_from fM_to fM_whole fM_ways iM_plainRows fM_plainRow fM_kept fM_goalOver fM_goalUnder fM_goalMax fM_different) H := fz_P ht hB9.1
  have hD : va_D A (WM hM aM kM iM_stands iM_variables iM_rows iM_goals iM_differents iM_cases fM_from fM_to fM_whole fM_ways iM_plainRows fM_plainRow fM_kept fM_goalOver fM_goalUnder fM_goalMax fM_different) := hB9.2.weaken (fun _ q _ h => hFc q.1 h)
  refine W.cut (pc := 34) (fun H locs ls stk => ∃ (k0_j3 : Int32),  stk = [.int k0_j3] ∧ va_P (dC, dI) vwCl (WM hM aM kM iM_stands iM_variables iM_rows iM_goals iM_differents iM_cases fM_from fM_to fM_whole fM_ways iM_plainRows fM_plainRow fM_kept fM_goalOver fM_goalUnder fM_goalMax fM_different) H ∧ va_D A (WM hM aM kM iM_stands iM_variables iM_rows iM_goals iM_differents iM_cases fM_from fM_to fM_whole fM_ways iM_plainRows fM_plainRow fM_kept fM_goalOver fM_goalUnder fM_goalMax fM_different) ∧ va_S A s.heap H locs ∧ lv_has ls 5 [(3, .int r1), (0, .ref (hM 0)), (1, .int p1), (2, .int p2)]) (fun join3 => ?_) ?_
  · refine lv_if_ne (tgt := 24) hx hb dX1_needNumber_11 (by decide) (fun c_11 => ?_) (fun c_11 => ?_)
    · have t_11 : r2.toInt ≠ 0 := toI_ne c_11 rfl (by decide : (0 : Int32).toInt = 0)
      refine lv_iload_n hx hb dX1_needNumber_24 rfl (lv_at hl 3 rfl) ?_
      refine lv_iload_n hx hb dX1_needNumber_25 rfl (lv_at hl 0 rfl) ?_
      refine lv_icmp_ne (tgt := 33) hx hb dX1_needNumber_26 (by decide) (fun c_26 => ?_) (fun c_26 => ?_)
      · have t_26 : p2.toInt ≠ r1.toInt := toI_ne c_26 rfl rfl
        refine lv_iconst (v := 0) hx hb dX1_needNumber_33 (by decide) ?_
        have hl : lv_has _ _ ([(3, .int r1), (0, .ref (hM 0)), (1, .int p1), (2, .int p2)]) := lv_sub hl [0, 1, 2, 3] rfl
        exact join3 _ _ _ _ ⟨0, rfl, hP, hD, hS, hl⟩
      · have t_26 : p2.toInt = r1.toInt := toI_nne c_26 rfl rfl
        refine lv_iconst (v := 1) hx hb dX1_needNumber_29 (by decide) ?_
        refine lv_goto (tgt := 34) hx hb dX1_needNumber_30 (by decide) ?_
        have hl : lv_has _ _ ([(3, .int r1), (0, .ref (hM 0)), (1, .int p1), (2, .int p2)]) := lv_sub hl [0, 1, 2, 3] rfl
        exact join3 _ _ _ _ ⟨1, rfl, hP, hD, hS, hl⟩
    · have t_11 : r2.toInt = 0 := toI_nne c_11 rfl (by decide : (0 : Int32).toInt = 0)
      refine lv_aload_n hx hb dX1_needNumber_14 rfl (lv_at hl 1 rfl) ?_
      refine lv_iload_n hx hb dX1_needNumber_15 rfl (lv_at hl 0 rfl) ?_
      refine lv_iconst (v := 0) hx hb dX1_needNumber_16 (by decide) ?_
      refine lv_iload_n hx hb dX1_needNumber_17 rfl (lv_at hl 3 rfl) ?_
      have hFc := allFree hD hS hA
      refine va_calli (va_runV (As := [.int r1, .int 0, .int p2]) (rest := []) ⟨hx, hb, hml, hown, hts⟩ (m_X1_number l dC dI hM aM kM iM_stands iM_variables iM_rows iM_goals iM_differents iM_cases fM_from fM_to fM_whole fM_ways iM_plainRows fM_plainRow fM_kept fM_goalOver fM_goalUnder fM_goalMax fM_different r1 0 p2 (b_iM_stands) (b_iM_variables) (b_iM_rows) (b_iM_goals) (b_iM_differents) (b_iM_cases) b_fM_ways (b_iM_plainRows) b_fM_plainRow (by first | assumption | omega) (by first | exact b_r1 | assumption | exact ⟨by omega, by omega⟩) (show 0 ≤ (0 : Int32).toInt ∧ (0 : Int32).toInt ≤ 2 from by decide) (⟨b_p2.1, Int.le_trans b_p2.2 (by decide)⟩) H.size) (cwV 3 hts gwsMX1_needNumber_2 rfl rfl rfl hd_yX1_number_RX1 (by decide +kernel)) (fz_pre (va_recv hK hP (ci := 1) (q0 := 0) rfl rfl) hP hK hD) rfl rfl hl.1 rfl (lv_room (Nat.le_of_ble_eq_true rfl)) dX1_needNumber_18 (by decide +kernel)) hS (fun q _ h => hFc q h) hFc (fun r4 u t9_ H locs ht hvm hw9 hB9 hz1 hk1 hS => ?_)
      clear hw9
      have hP : va_P (dC, dI) vwCl (WM hM aM kM iM_stands iM_variables iM_rows iM_goals iM_differents iM_cases fM_from fM_to fM_whole fM_ways iM_plainRows fM_plainRow fM_kept fM_goalOver fM_goalUnder fM_goalMax fM_different) H := fz_P ht hB9.1
      have hD : va_D A (WM hM aM kM iM_stands iM_variables iM_rows iM_goals iM_differents iM_cases fM_from fM_to fM_whole fM_ways iM_plainRows fM_plainRow fM_kept fM_goalOver fM_goalUnder fM_goalMax fM_different) := hB9.2.weaken (fun _ q _ h => hFc q.1 h)
      refine lv_goto (tgt := 34) hx hb dX1_needNumber_21 (by decide) ?_
      have hl : lv_has _ _ ([(3, .int r1), (0, .ref (hM 0)), (1, .int p1), (2, .int p2)]) := lv_sub hl [0, 1, 2, 3] rfl
      exact join3 _ _ _ _ ⟨r4, rfl, hP, hD, hS, hl⟩
  · rintro H locs ls stk ⟨k0_j3, rfl, hP, hD, hS, hl⟩
    refine lv_istore hx hb dX1_needNumber_34 hl (by decide) rfl (fun ls (hl : lv_has ls _ ([(4, .int k0_j3), (3, .int r1), (0, .ref (hM 0)), (1, .int p1), (2, .int p2)])) => ?_)
    refine lv_aload_n hx hb dX1_needNumber_36 rfl (lv_at hl 2 rfl) ?_
    refine lv_iload_n hx hb dX1_needNumber_37 rfl (lv_at hl 3 rfl) ?_
    have hFc := allFree hD hS hA
    refine va_calli (va_runV (As := [.int p1]) (rest := []) ⟨hx, hb, hml, hown, hts⟩ (m_X1_isTurned l dC dI hM aM kM iM_stands iM_variables iM_rows iM_goals iM_differents iM_cases fM_from fM_to fM_whole fM_ways iM_plainRows fM_plainRow fM_kept fM_goalOver fM_goalUnder fM_goalMax fM_different p1 (b_iM_stands) (b_iM_variables) (b_iM_rows) (b_iM_goals) (b_iM_differents) (b_iM_cases) b_fM_ways (b_iM_plainRows) b_fM_plainRow (by first | assumption | omega) (b_p1) (by first | assumption | omega | (rw [iI_t (by omega) (by omega)]; omega) | decide) H.size) (cwV 1 hts gwsMX1_needNumber_3 rfl rfl rfl hd_yX1_isTurned_RX1 (by decide +kernel)) (fz_pre (va_recv hK hP (ci := 1) (q0 := 0) rfl rfl) hP hK hD) rfl rfl hl.1 rfl (lv_room (Nat.le_of_ble_eq_true rfl)) dX1_needNumber_38 (by decide +kernel)) hS (fun q _ h => hFc q h) hFc (fun r5 u t9_ H locs ht hvm hw9 hB9 hz1 hk1 hS => ?_)
    have b_r5 := hw9
    try dsimp only at b_r5
    have hP : va_P (dC, dI) vwCl (WM hM aM kM iM_stands iM_variables iM_rows iM_goals iM_differents iM_cases fM_from fM_to fM_whole fM_ways iM_plainRows fM_plainRow fM_kept fM_goalOver fM_goalUnder fM_goalMax fM_different) H := fz_P ht hB9.1
    have hD : va_D A (WM hM aM kM iM_stands iM_variables iM_rows iM_goals iM_differents iM_cases fM_from fM_to fM_whole fM_ways iM_plainRows fM_plainRow fM_kept fM_goalOver fM_goalUnder fM_goalMax fM_different) := hB9.2.weaken (fun _ q _ h => hFc q.1 h)
    refine W.cut (pc := 52) (fun H locs ls stk => ∃ (k0_j4 : Int32),  stk = [.int k0_j4] ∧ va_P (dC, dI) vwCl (WM hM aM kM iM_stands iM_variables iM_rows iM_goals iM_differents iM_cases fM_from fM_to fM_whole fM_ways iM_plainRows fM_plainRow fM_kept fM_goalOver fM_goalUnder fM_goalMax fM_different) H ∧ va_D A (WM hM aM kM iM_stands iM_variables iM_rows iM_goals iM_differents iM_cases fM_from fM_to fM_whole fM_ways iM_plainRows fM_plainRow fM_kept fM_goalOver fM_goalUnder fM_goalMax fM_different) ∧ va_S A s.heap H locs ∧ lv_has ls 5 [(4, .int k0_j3), (3, .int r1), (0, .ref (hM 0)), (1, .int p1), (2, .int p2)]) (fun join4 => ?_) ?_
    · refine lv_if_eq (tgt := 50) hx hb dX1_needNumber_41 (by decide) (fun c_41 => ?_) (fun c_41 => ?_)
      · have t_41 : r5.toInt = 0 := toI_eq c_41 rfl (by decide : (0 : Int32).toInt = 0)
        refine lv_iload hx hb dX1_needNumber_50 (lv_at hl 0 rfl) ?_
        have hl : lv_has _ _ ([(4, .int k0_j3), (3, .int r1), (0, .ref (hM 0)), (1, .int p1), (2, .int p2)]) := lv_sub hl [0, 1, 2, 3, 4] rfl
        exact join4 _ _ _ _ ⟨k0_j3, rfl, hP, hD, hS, hl⟩
      · have t_41 : ¬ r5.toInt = 0 := toI_neq c_41 rfl (by decide : (0 : Int32).toInt = 0)
        refine lv_iload hx hb dX1_needNumber_44 (lv_at hl 0 rfl) ?_
        refine lv_ineg hx hb dX1_needNumber_46 ?_
        refine lv_topi (fun y7 hy7 => ?_)
        obtain rfl : (iI (-k0_j3.toInt)) = y7 := (hy7.trans (iI_neg2 (iI_of _))).symm
        refine lv_goto (tgt := 52) hx hb dX1_needNumber_47 (by decide) ?_
        have hl : lv_has _ _ ([(4, .int k0_j3), (3, .int r1), (0, .ref (hM 0)), (1, .int p1), (2, .int p2)]) := lv_sub hl [0, 1, 2, 3, 4] rfl
        exact join4 _ _ _ _ ⟨(iI (-k0_j3.toInt)), rfl, hP, hD, hS, hl⟩
    · rintro H locs ls stk ⟨k0_j4, rfl, hP, hD, hS, hl⟩
      refine W.widen (k := 0) (n := 0) (by decide +kernel) (by decide +kernel) ?_
      exact W.iret (v := k0_j4) hx hb hr (fun t9_ ht hW => ⟨⟨k0_j4, (), rfl, trivial, by rw [ht]; exact hP, hD⟩, hS.F ht⟩) hS.2.2 dX1_needNumber_52
theorem dX1_needBound_0 : decode cX1_needBound 0 = .ok (.aload_n 0, 1) := dk_42 (by decide +kernel)
theorem dX1_needBound_1 : decode cX1_needBound 1 = .ok (.iload_n 1, 1) := dk_27 (by decide +kernel)
theorem dX1_needBound_2 : decode cX1_needBound 2 = .ok (.invokevirtual 64, 3) := dk_182 (by decide +kernel)
theorem dX1_needBound_5 : decode cX1_needBound 5 = .ok (.istore_n 2, 1) := dk_61 (by decide +kernel)
theorem dX1_needBound_6 : decode cX1_needBound 6 = .ok (.aload_n 0, 1) := dk_42 (by decide +kernel)
theorem dX1_needBound_7 : decode cX1_needBound 7 = .ok (.iload_n 1, 1) := dk_27 (by decide +kernel)
theorem dX1_needBound_8 : decode cX1_needBound 8 = .ok (.invokevirtual 68, 3) := dk_182 (by decide +kernel)
theorem dX1_needBound_11 : decode cX1_needBound 11 = .ok (.istore_n 3, 1) := dk_62 (by decide +kernel)
theorem dX1_needBound_12 : decode cX1_needBound 12 = .ok (.iload_n 2, 1) := dk_28 (by decide +kernel)
theorem dX1_needBound_13 : decode cX1_needBound 13 = .ok (.ifCond .ne 12, 3) := dk_154 (by decide +kernel)
theorem dX1_needBound_16 : decode cX1_needBound 16 = .ok (.aload_n 0, 1) := dk_42 (by decide +kernel)
theorem dX1_needBound_17 : decode cX1_needBound 17 = .ok (.iload_n 3, 1) := dk_29 (by decide +kernel)
theorem dX1_needBound_18 : decode cX1_needBound 18 = .ok (.iconst 0, 1) := dk_3 (by decide +kernel)
theorem dX1_needBound_19 : decode cX1_needBound 19 = .ok (.invokevirtual 83, 3) := dk_182 (by decide +kernel)
theorem dX1_needBound_22 : decode cX1_needBound 22 = .ok (.goto 23, 3) := dk_167 (by decide +kernel)
theorem dX1_needBound_25 : decode cX1_needBound 25 = .ok (.iload_n 2, 1) := dk_28 (by decide +kernel)
theorem dX1_needBound_26 : decode cX1_needBound 26 = .ok (.iconst 1, 1) := dk_4 (by decide +kernel)
theorem dX1_needBound_27 : decode cX1_needBound 27 = .ok (.if_icmp .ne 12, 3) := dk_160 (by decide +kernel)
theorem dX1_needBound_30 : decode cX1_needBound 30 = .ok (.aload_n 0, 1) := dk_42 (by decide +kernel)
theorem dX1_needBound_31 : decode cX1_needBound 31 = .ok (.getfield 9, 3) := dk_180 (by decide +kernel)
theorem dX1_needBound_34 : decode cX1_needBound 34 = .ok (.iload_n 3, 1) := dk_29 (by decide +kernel)
theorem dX1_needBound_35 : decode cX1_needBound 35 = .ok (.iaload, 1) := dk_46 (by decide +kernel)
theorem dX1_needBound_36 : decode cX1_needBound 36 = .ok (.goto 9, 3) := dk_167 (by decide +kernel)
theorem dX1_needBound_39 : decode cX1_needBound 39 = .ok (.aload_n 0, 1) := dk_42 (by decide +kernel)
theorem dX1_needBound_40 : decode cX1_needBound 40 = .ok (.getfield 13, 3) := dk_180 (by decide +kernel)
theorem dX1_needBound_43 : decode cX1_needBound 43 = .ok (.iload_n 3, 1) := dk_29 (by decide +kernel)
theorem dX1_needBound_44 : decode cX1_needBound 44 = .ok (.iaload, 1) := dk_46 (by decide +kernel)
theorem dX1_needBound_45 : decode cX1_needBound 45 = .ok (.istore 4, 2) := dk_54 (by decide +kernel)
theorem dX1_needBound_47 : decode cX1_needBound 47 = .ok (.aload_n 0, 1) := dk_42 (by decide +kernel)
theorem dX1_needBound_48 : decode cX1_needBound 48 = .ok (.iload_n 1, 1) := dk_27 (by decide +kernel)
theorem dX1_needBound_49 : decode cX1_needBound 49 = .ok (.invokevirtual 79, 3) := dk_182 (by decide +kernel)
theorem dX1_needBound_52 : decode cX1_needBound 52 = .ok (.ifCond .eq 9, 3) := dk_153 (by decide +kernel)
theorem dX1_needBound_55 : decode cX1_needBound 55 = .ok (.iload 4, 2) := dk_21 (by decide +kernel)
theorem dX1_needBound_57 : decode cX1_needBound 57 = .ok (.ineg, 1) := dk_116 (by decide +kernel)
theorem dX1_needBound_58 : decode cX1_needBound 58 = .ok (.goto 5, 3) := dk_167 (by decide +kernel)
theorem dX1_needBound_61 : decode cX1_needBound 61 = .ok (.iload 4, 2) := dk_21 (by decide +kernel)
theorem dX1_needBound_63 : decode cX1_needBound 63 = .ok (.ireturn, 1) := dk_172 (by decide +kernel)
def wsMX1_needBound : List Cond := .code yX1_needBound cX1_needBound 5 (some .int) :: ([.fieldLink RX1 13 "OptimaWorks$Model" "to" "[I", .fieldLink RX1 9 "OptimaWorks$Model" "from" "[I"] ++ wsX10 ++ (wsV RX1 64 RX1 yX1_needKind wsMX1_needKind) ++ (wsV RX1 68 RX1 yX1_needOf wsMX1_needOf) ++ (wsV RX1 83 RX1 yX1_rightSide wsMX1_rightSide) ++ (wsV RX1 79 RX1 yX1_isTurned wsMX1_isTurned))
theorem iwsMX1_needBound_in1 : ∀ w ∈ wsX10, w ∈ wsMX1_needBound := fun _ h => List.mem_cons_of_mem _ (List.mem_append_left _ (List.mem_append_left _ (List.mem_append_left _ (List.mem_append_left _ (List.mem_append_right _ h)))))
theorem gwsMX1_needBound_0 : GoodIn wsMX1_needBound (wsV RX1 64 RX1 yX1_needKind wsMX1_needKind) := goodIn_sub (fun _ h => List.mem_cons_of_mem _ (List.mem_append_left _ (List.mem_append_left _ (List.mem_append_left _ (List.mem_append_right _ h))))) (gdV (by decide +kernel) gdwsMX1_needKind)
theorem gwsMX1_needBound_1 : GoodIn wsMX1_needBound (wsV RX1 68 RX1 yX1_needOf wsMX1_needOf) := goodIn_sub (fun _ h => List.mem_cons_of_mem _ (List.mem_append_left _ (List.mem_append_left _ (List.mem_append_right _ h)))) (gdV (by decide +kernel) gdwsMX1_needOf)
theorem gwsMX1_needBound_2 : GoodIn wsMX1_needBound (wsV RX1 83 RX1 yX1_rightSide wsMX1_rightSide) := goodIn_sub (fun _ h => List.mem_cons_of_mem _ (List.mem_append_left _ (List.mem_append_right _ h))) (gdV (by decide +kernel) gdwsMX1_rightSide)
theorem gwsMX1_needBound_3 : GoodIn wsMX1_needBound (wsV RX1 79 RX1 yX1_isTurned wsMX1_isTurned) := goodIn_sub (fun _ h => List.mem_cons_of_mem _ (List.mem_append_right _ h)) (gdV (by decide +kernel) gdwsMX1_isTurned)
theorem gdwsMX1_needBound : wsMX1_needBound.all goodWord = true := gdC rfl (gdA (gdA (gdA (gdA (gdA (by decide +kernel : ([.fieldLink RX1 13 "OptimaWorks$Model" "to" "[I", .fieldLink RX1 9 "OptimaWorks$Model" "from" "[I"] : List Cond).all goodWord = true) gdwsX10) (gdV (by decide +kernel) gdwsMX1_needKind)) (gdV (by decide +kernel) gdwsMX1_needOf)) (gdV (by decide +kernel) gdwsMX1_rightSide)) (gdV (by decide +kernel) gdwsMX1_isTurned))
set_option maxHeartbeats 4000000 in
set_option maxRecDepth 100000 in
/-- the bound of a need -/
theorem m_X1_needBound (l : Launch) (dC : Nat → ClassId) (dI : Nat → Nat → Nat) (hM : Nat → Nat) (aM : Nat → Nat) (kM : Nat → ClassId) (iM_stands : Int32) (iM_variables : Int32) (iM_rows : Int32) (iM_goals : Int32) (iM_differents : Int32) (iM_cases : Int32) (fM_from : Nat → Int32) (fM_to : Nat → Int32) (fM_whole : Nat → Int32) (fM_ways : Nat → Int32) (iM_plainRows : Int32) (fM_plainRow : Nat → Int32) (fM_kept : Nat → Int32) (fM_goalOver : Nat → Int32) (fM_goalUnder : Nat → Int32) (fM_goalMax : Nat → Int32) (fM_different : Nat → Int32) (p1 : Int32) (b_iM_stands : 0 ≤ iM_stands.toInt ∧ iM_stands.toInt ≤ 1) (b_iM_variables : 0 ≤ iM_variables.toInt ∧ iM_variables.toInt ≤ 8) (b_iM_rows : 0 ≤ iM_rows.toInt ∧ iM_rows.toInt ≤ 12) (b_iM_goals : 0 ≤ iM_goals.toInt ∧ iM_goals.toInt ≤ 3) (b_iM_differents : 0 ≤ iM_differents.toInt ∧ iM_differents.toInt ≤ 8) (b_iM_cases : 0 ≤ iM_cases.toInt ∧ iM_cases.toInt ≤ 200000) (b_fM_ways : ∀ q : Nat, 0 ≤ (fM_ways q).toInt ∧ (fM_ways q).toInt ≤ 3) (b_iM_plainRows : 0 ≤ iM_plainRows.toInt ∧ iM_plainRows.toInt ≤ 12) (b_fM_plainRow : ∀ q : Nat, 0 ≤ (fM_plainRow q).toInt ∧ (fM_plainRow q).toInt ≤ 11) (b_pr : iM_plainRows.toInt ≤ iM_rows.toInt) (b_p1 : 0 ≤ p1.toInt ∧ p1.toInt ≤ 27) (hni : p1.toInt < iM_plainRows.toInt + 2 * iM_variables.toInt) (sz : Nat) : Met l yX1_needBound wsMX1_needBound ({ frames := 2, cells := 0, slots := 0, locals := 44 }) (va_Pc [.ref (hM 0), .int p1] (fun U => U.heap.size = sz ∧ va_P (dC, dI) vwCl (WM hM aM kM iM_stands iM_variables iM_rows iM_goals iM_differents iM_cases fM_from fM_to fM_whole fM_ways iM_plainRows fM_plainRow fM_kept fM_goalOver fM_goalUnder fM_goalMax fM_different) U.heap ∧ va_K (dC, dI) vwCl (tM kM) U ∧ va_D (fun _ => True) (WM hM aM kM iM_stands iM_variables iM_rows iM_goals iM_differents iM_cases fM_from fM_to fM_whole fM_ways iM_plainRows fM_plainRow fM_kept fM_goalOver fM_goalUnder fM_goalMax fM_different))) (va_Qi (fun (r : Int32) (u : Unit) => True) (fun (u : Unit) t => va_P (dC, dI) vwCl (WM hM aM kM iM_stands iM_variables iM_rows iM_goals iM_differents iM_cases fM_from fM_to fM_whole fM_ways iM_plainRows fM_plainRow fM_kept fM_goalOver fM_goalUnder fM_goalMax fM_different) t.heap ∧ va_D (va_A (WM hM aM kM iM_stands iM_variables iM_rows iM_goals iM_differents iM_cases fM_from fM_to fM_whole fM_ways iM_plainRows fM_plainRow fM_kept fM_goalOver fM_goalUnder fM_goalMax fM_different) sz) (WM hM aM kM iM_stands iM_variables iM_rows iM_goals iM_differents iM_cases fM_from fM_to fM_whole fM_ways iM_plainRows fM_plainRow fM_kept fM_goalOver fM_goalUnder fM_goalMax fM_different)) (va_A (WM hM aM kM iM_stands iM_variables iM_rows iM_goals iM_differents iM_cases fM_from fM_to fM_whole fM_ways iM_plainRows fM_plainRow fM_kept fM_goalOver fM_goalUnder fM_goalMax fM_different) sz)) 0 0 (va_A (WM hM aM kM iM_stands iM_variables iM_rows iM_goals iM_differents iM_cases fM_from fM_to fM_whole fM_ways iM_plainRows fM_plainRow fM_kept fM_goalOver fM_goalUnder fM_goalMax fM_different) sz) := by
  refine Met.ofW (cc := cX1_needBound) (maxL := 5) (ret := (some .int)) (by decide) rfl ?_
  intro p e s m args below meth c s₁ B hml hv
  obtain ⟨rfl, hsz, hP, hK, hD0⟩ := hv
  have hx := B.exec
  have hb := B.bytes
  have hr := B.returns
  have hts := atoms_spec (ws := wsMX1_needBound) B.pre
  have hown : s.vm.findClass RX1 = some m.cls := findClass_of_methodNamed B.named
  have hlocks := B.notSynchronized
  subst hsz
  have hD := hD0.self (sz := s.heap.size)
  generalize hAe : va_A (WM hM aM kM iM_stands iM_variables iM_rows iM_goals iM_differents iM_cases fM_from fM_to fM_whole fM_ways iM_plainRows fM_plainRow fM_kept fM_goalOver fM_goalUnder fM_goalMax fM_different) s.heap.size = A at hD ⊢
  have hA : ∀ q : Nat, s.heap.size ≤ q → A q := fun q h => by rw [← hAe]; exact Or.inr h
  have hS : va_S A s.heap s.heap [] := va_S.rf
  have hl := lv_entry ([.ref (hM 0), .int p1]) (n := 5) (Nat.le_of_ble_eq_true rfl)
  rw [lg_entry_eq]
  generalize (lg_sl ([.ref (hM 0), .int p1]) ++ List.replicate (5 - (lg_sl ([.ref (hM 0), .int p1])).length) Slot.unset).toArray = ls at hl ⊢
  have hl : lv_has ls 5 [(0, .ref (hM 0)), (1, .int p1)] := hl
  refine lv_aload_n hx hb dX1_needBound_0 rfl (lv_at hl 0 rfl) ?_
  refine lv_iload_n hx hb dX1_needBound_1 rfl (lv_at hl 1 rfl) ?_
  have hFc := allFree hD hS hA
  refine va_calli (va_runV (As := [.int p1]) (rest := []) ⟨hx, hb, hml, hown, hts⟩ (m_X1_needKind l dC dI hM aM kM iM_stands iM_variables iM_rows iM_goals iM_differents iM_cases fM_from fM_to fM_whole fM_ways iM_plainRows fM_plainRow fM_kept fM_goalOver fM_goalUnder fM_goalMax fM_different p1 (b_iM_stands) (b_iM_variables) (b_iM_rows) (b_iM_goals) (b_iM_differents) (b_iM_cases) b_fM_ways (b_iM_plainRows) b_fM_plainRow (by first | assumption | omega) (b_p1) (by first | assumption | omega | (rw [iI_t (by omega) (by omega)]; omega) | decide) s.heap.size) (cwV 1 hts gwsMX1_needBound_0 rfl rfl rfl hd_yX1_needKind_RX1 (by decide +kernel)) (fz_pre (va_recv hK hP (ci := 1) (q0 := 0) rfl rfl) hP hK hD) rfl rfl hl.1 rfl (lv_room (Nat.le_of_ble_eq_true rfl)) dX1_needBound_2 (by decide +kernel)) hS (fun q _ h => hFc q h) hFc (fun r1 u t9_ H locs ht hvm hw9 hB9 hz1 hk1 hS => ?_)
  obtain ⟨b_r1, f1_0⟩ := hw9
  have hP : va_P (dC, dI) vwCl (WM hM aM kM iM_stands iM_variables iM_rows iM_goals iM_differents iM_cases fM_from fM_to fM_whole fM_ways iM_plainRows fM_plainRow fM_kept fM_goalOver fM_goalUnder fM_goalMax fM_different) H := fz_P ht hB9.1
  have hD : va_D A (WM hM aM kM iM_stands iM_variables iM_rows iM_goals iM_differents iM_cases fM_from fM_to fM_whole fM_ways iM_plainRows fM_plainRow fM_kept fM_goalOver fM_goalUnder fM_goalMax fM_different) := hB9.2.weaken (fun _ q _ h => hFc q.1 h)
  refine lv_istore_n hx hb dX1_needBound_5 rfl hl (by decide) rfl (fun ls (hl : lv_has ls _ ([(2, .int r1), (0, .ref (hM 0)), (1, .int p1)])) => ?_)
  refine lv_aload_n hx hb dX1_needBound_6 rfl (lv_at hl 1 rfl) ?_
  refine lv_iload_n hx hb dX1_needBound_7 rfl (lv_at hl 2 rfl) ?_
  have hFc := allFree hD hS hA
  refine va_calli (va_runV (As := [.int p1]) (rest := []) ⟨hx, hb, hml, hown, hts⟩ (m_X1_needOf l dC dI hM aM kM iM_stands iM_variables iM_rows iM_goals iM_differents iM_cases fM_from fM_to fM_whole fM_ways iM_plainRows fM_plainRow fM_kept fM_goalOver fM_goalUnder fM_goalMax fM_different p1 (b_iM_stands) (b_iM_variables) (b_iM_rows) (b_iM_goals) (b_iM_differents) (b_iM_cases) b_fM_ways (b_iM_plainRows) b_fM_plainRow (by first | assumption | omega) (b_p1) (by first | assumption | omega | (rw [iI_t (by omega) (by omega)]; omega) | decide) H.size) (cwV 1 hts gwsMX1_needBound_1 rfl rfl rfl hd_yX1_needOf_RX1 (by decide +kernel)) (fz_pre (va_recv hK hP (ci := 1) (q0 := 0) rfl rfl) hP hK hD) rfl rfl hl.1 rfl (lv_room (Nat.le_of_ble_eq_true rfl)) dX1_needBound_8 (by decide +kernel)) hS (fun q _ h => hFc q h) hFc (fun r2 u t9_ H locs ht hvm hw9 hB9 hz1 hk1 hS => ?_)
  obtain ⟨b_r2, f2_0⟩ := hw9
  have hP : va_P (dC, dI) vwCl (WM hM aM kM iM_stands iM_variables iM_rows iM_goals iM_differents iM_cases fM_from fM_to fM_whole fM_ways iM_plainRows fM_plainRow fM_kept fM_goalOver fM_goalUnder fM_goalMax fM_different) H := fz_P ht hB9.1
  have hD : va_D A (WM hM aM kM iM_stands iM_variables iM_rows iM_goals iM_differents iM_cases fM_from fM_to fM_whole fM_ways iM_plainRows fM_plainRow fM_kept fM_goalOver fM_goalUnder fM_goalMax fM_different) := hB9.2.weaken (fun _ q _ h => hFc q.1 h)
  refine lv_istore_n hx hb dX1_needBound_11 rfl hl (by decide) rfl (fun ls (hl : lv_has ls _ ([(3, .int r2), (2, .int r1), (0, .ref (hM 0)), (1, .int p1)])) => ?_)
  refine lv_iload_n hx hb dX1_needBound_12 rfl (lv_at hl 1 rfl) ?_
  refine W.cut (pc := 45) (fun H locs ls stk => ∃ (k0_j3 : Int32),  stk = [.int k0_j3] ∧ va_P (dC, dI) vwCl (WM hM aM kM iM_stands iM_variables iM_rows iM_goals iM_differents iM_cases fM_from fM_to fM_whole fM_ways iM_plainRows fM_plainRow fM_kept fM_goalOver fM_goalUnder fM_goalMax fM_different) H ∧ va_D A (WM hM aM kM iM_stands iM_variables iM_rows iM_goals iM_differents iM_cases fM_from fM_to fM_whole fM_ways iM_plainRows fM_plainRow fM_kept fM_goalOver fM_goalUnder fM_goalMax fM_different) ∧ va_S A s.heap H locs ∧ lv_has ls 5 [(3, .int r2), (2, .int r1), (0, .ref (hM 0)), (1, .int p1)]) (fun join3 => ?_) ?_
  · refine lv_if_ne (tgt := 25) hx hb dX1_needBound_13 (by decide) (fun c_13 => ?_) (fun c_13 => ?_)
    · have t_13 : r1.toInt ≠ 0 := toI_ne c_13 rfl (by decide : (0 : Int32).toInt = 0)
      refine lv_iload_n hx hb dX1_needBound_25 rfl (lv_at hl 1 rfl) ?_
      refine lv_iconst (v := 1) hx hb dX1_needBound_26 (by decide) ?_
      refine lv_icmp_ne (tgt := 39) hx hb dX1_needBound_27 (by decide) (fun c_27 => ?_) (fun c_27 => ?_)
      · have t_27 : r1.toInt ≠ 1 := toI_ne c_27 rfl (by decide : (1 : Int32).toInt = 1)
        refine lv_aload_n hx hb dX1_needBound_39 rfl (lv_at hl 2 rfl) ?_
        refine va_get (D := (dC, dI)) (ci := 1) (v := .ref (aM 1)) (C := RX1) (T := TX1) (N := 17) hx hb hts iwsMX1_needBound_in1 hown hK hP 0 rfl rfl 7 (by decide) (hts (.fieldLink RX1 13 "OptimaWorks$Model" "to" "[I") (by decide +kernel)) (fun _ h9 => h9) rfl dX1_needBound_40 ?_
        refine lv_iload_n hx hb dX1_needBound_43 rfl (lv_at hl 0 rfl) ?_
        refine va_iald (cA := kM 1) (n := 8) (f := fM_to) hx hb hK hP 2 1 rfl rfl (vp_in_iff.mpr ⟨(by omega), (by omega)⟩) dX1_needBound_44 ?_
        refine lv_topi (fun v6 hv6 => ?_)
        clear hv6
        have hl : lv_has _ _ ([(3, .int r2), (2, .int r1), (0, .ref (hM 0)), (1, .int p1)]) := lv_sub hl [0, 1, 2, 3] rfl
        exact join3 _ _ _ _ ⟨v6, rfl, hP, hD, hS, hl⟩
      · have t_27 : r1.toInt = 1 := toI_nne c_27 rfl (by decide : (1 : Int32).toInt = 1)
        refine lv_aload_n hx hb dX1_needBound_30 rfl (lv_at hl 2 rfl) ?_
        refine va_get (D := (dC, dI)) (ci := 1) (v := .ref (aM 0)) (C := RX1) (T := TX1) (N := 17) hx hb hts iwsMX1_needBound_in1 hown hK hP 0 rfl rfl 6 (by decide) (hts (.fieldLink RX1 9 "OptimaWorks$Model" "from" "[I") (by decide +kernel)) (fun _ h9 => h9) rfl dX1_needBound_31 ?_
        refine lv_iload_n hx hb dX1_needBound_34 rfl (lv_at hl 0 rfl) ?_
        refine va_iald (cA := kM 0) (n := 8) (f := fM_from) hx hb hK hP 1 0 rfl rfl (vp_in_iff.mpr ⟨(by omega), (by omega)⟩) dX1_needBound_35 ?_
        refine lv_topi (fun v7 hv7 => ?_)
        clear hv7
        refine lv_goto (tgt := 45) hx hb dX1_needBound_36 (by decide) ?_
        have hl : lv_has _ _ ([(3, .int r2), (2, .int r1), (0, .ref (hM 0)), (1, .int p1)]) := lv_sub hl [0, 1, 2, 3] rfl
        exact join3 _ _ _ _ ⟨v7, rfl, hP, hD, hS, hl⟩
    · have t_13 : r1.toInt = 0 := toI_nne c_13 rfl (by decide : (0 : Int32).toInt = 0)
      refine lv_aload_n hx hb dX1_needBound_16 rfl (lv_at hl 2 rfl) ?_
      refine lv_iload_n hx hb dX1_needBound_17 rfl (lv_at hl 0 rfl) ?_
      refine lv_iconst (v := 0) hx hb dX1_needBound_18 (by decide) ?_
      have hFc := allFree hD hS hA
      refine va_calli (va_runV (As := [.int r2, .int 0]) (rest := []) ⟨hx, hb, hml, hown, hts⟩ (m_X1_rightSide l dC dI hM aM kM iM_stands iM_variables iM_rows iM_goals iM_differents iM_cases fM_from fM_to fM_whole fM_ways iM_plainRows fM_plainRow fM_kept fM_goalOver fM_goalUnder fM_goalMax fM_different r2 0 (b_iM_stands) (b_iM_variables) (b_iM_rows) (b_iM_goals) (b_iM_differents) (b_iM_cases) b_fM_ways (b_iM_plainRows) b_fM_plainRow (by first | assumption | omega) (by first | exact b_r2 | assumption | exact ⟨by omega, by omega⟩) (show 0 ≤ (0 : Int32).toInt ∧ (0 : Int32).toInt ≤ 2 from by decide) H.size) (cwV 2 hts gwsMX1_needBound_2 rfl rfl rfl hd_yX1_rightSide_RX1 (by decide +kernel)) (fz_pre (va_recv hK hP (ci := 1) (q0 := 0) rfl rfl) hP hK hD) rfl rfl hl.1 rfl (lv_room (Nat.le_of_ble_eq_true rfl)) dX1_needBound_19 (by decide +kernel)) hS (fun q _ h => hFc q h) hFc (fun r8 u t9_ H locs ht hvm hw9 hB9 hz1 hk1 hS => ?_)
      clear hw9
      have hP : va_P (dC, dI) vwCl (WM hM aM kM iM_stands iM_variables iM_rows iM_goals iM_differents iM_cases fM_from fM_to fM_whole fM_ways iM_plainRows fM_plainRow fM_kept fM_goalOver fM_goalUnder fM_goalMax fM_different) H := fz_P ht hB9.1
      have hD : va_D A (WM hM aM kM iM_stands iM_variables iM_rows iM_goals iM_differents iM_cases fM_from fM_to fM_whole fM_ways iM_plainRows fM_plainRow fM_kept fM_goalOver fM_goalUnder fM_goalMax fM_different) := hB9.2.weaken (fun _ q _ h => hFc q.1 h)
      refine lv_goto (tgt := 45) hx hb dX1_needBound_22 (by decide) ?_
      have hl : lv_has _ _ ([(3, .int r2), (2, .int r1), (0, .ref (hM 0)), (1, .int p1)]) := lv_sub hl [0, 1, 2, 3] rfl
      exact join3 _ _ _ _ ⟨r8, rfl, hP, hD, hS, hl⟩
  · rintro H locs ls stk ⟨k0_j3, rfl, hP, hD, hS, hl⟩
    refine lv_istore hx hb dX1_needBound_45 hl (by decide) rfl (fun ls (hl : lv_has ls _ ([(4, .int k0_j3), (3, .int r2), (2, .int r1), (0, .ref (hM 0)), (1, .int p1)])) => ?_)
    refine lv_aload_n hx hb dX1_needBound_47 rfl (lv_at hl 3 rfl) ?_
    refine lv_iload_n hx hb dX1_needBound_48 rfl (lv_at hl 4 rfl) ?_
    have hFc := allFree hD hS hA
    refine va_calli (va_runV (As := [.int p1]) (rest := []) ⟨hx, hb, hml, hown, hts⟩ (m_X1_isTurned l dC dI hM aM kM iM_stands iM_variables iM_rows iM_goals iM_differents iM_cases fM_from fM_to fM_whole fM_ways iM_plainRows fM_plainRow fM_kept fM_goalOver fM_goalUnder fM_goalMax fM_different p1 (b_iM_stands) (b_iM_variables) (b_iM_rows) (b_iM_goals) (b_iM_differents) (b_iM_cases) b_fM_ways (b_iM_plainRows) b_fM_plainRow (by first | assumption | omega) (b_p1) (by first | assumption | omega | (rw [iI_t (by omega) (by omega)]; omega) | decide) H.size) (cwV 1 hts gwsMX1_needBound_3 rfl rfl rfl hd_yX1_isTurned_RX1 (by decide +kernel)) (fz_pre (va_recv hK hP (ci := 1) (q0 := 0) rfl rfl) hP hK hD) rfl rfl hl.1 rfl (lv_room (Nat.le_of_ble_eq_true rfl)) dX1_needBound_49 (by decide +kernel)) hS (fun q _ h => hFc q h) hFc (fun r9 u t9_ H locs ht hvm hw9 hB9 hz1 hk1 hS => ?_)
    have b_r9 := hw9
    try dsimp only at b_r9
    have hP : va_P (dC, dI) vwCl (WM hM aM kM iM_stands iM_variables iM_rows iM_goals iM_differents iM_cases fM_from fM_to fM_whole fM_ways iM_plainRows fM_plainRow fM_kept fM_goalOver fM_goalUnder fM_goalMax fM_different) H := fz_P ht hB9.1
    have hD : va_D A (WM hM aM kM iM_stands iM_variables iM_rows iM_goals iM_differents iM_cases fM_from fM_to fM_whole fM_ways iM_plainRows fM_plainRow fM_kept fM_goalOver fM_goalUnder fM_goalMax fM_different) := hB9.2.weaken (fun _ q _ h => hFc q.1 h)
    refine W.cut (pc := 63) (fun H locs ls stk => ∃ (k0_j4 : Int32),  stk = [.int k0_j4] ∧ va_P (dC, dI) vwCl (WM hM aM kM iM_stands iM_variables iM_rows iM_goals iM_differents iM_cases fM_from fM_to fM_whole fM_ways iM_plainRows fM_plainRow fM_kept fM_goalOver fM_goalUnder fM_goalMax fM_different) H ∧ va_D A (WM hM aM kM iM_stands iM_variables iM_rows iM_goals iM_differents iM_cases fM_from fM_to fM_whole fM_ways iM_plainRows fM_plainRow fM_kept fM_goalOver fM_goalUnder fM_goalMax fM_different) ∧ va_S A s.heap H locs ∧ lv_has ls 5 [(4, .int k0_j3), (3, .int r2), (2, .int r1), (0, .ref (hM 0)), (1, .int p1)]) (fun join4 => ?_) ?_
    · refine lv_if_eq (tgt := 61) hx hb dX1_needBound_52 (by decide) (fun c_52 => ?_) (fun c_52 => ?_)
      · have t_52 : r9.toInt = 0 := toI_eq c_52 rfl (by decide : (0 : Int32).toInt = 0)
        refine lv_iload hx hb dX1_needBound_61 (lv_at hl 0 rfl) ?_
        have hl : lv_has _ _ ([(4, .int k0_j3), (3, .int r2), (2, .int r1), (0, .ref (hM 0)), (1, .int p1)]) := lv_sub hl [0, 1, 2, 3, 4] rfl
        exact join4 _ _ _ _ ⟨k0_j3, rfl, hP, hD, hS, hl⟩
      · have t_52 : ¬ r9.toInt = 0 := toI_neq c_52 rfl (by decide : (0 : Int32).toInt = 0)
        refine lv_iload hx hb dX1_needBound_55 (lv_at hl 0 rfl) ?_
        refine lv_ineg hx hb dX1_needBound_57 ?_
        refine lv_topi (fun y11 hy11 => ?_)
        obtain rfl : (iI (-k0_j3.toInt)) = y11 := (hy11.trans (iI_neg2 (iI_of _))).symm
        refine lv_goto (tgt := 63) hx hb dX1_needBound_58 (by decide) ?_
        have hl : lv_has _ _ ([(4, .int k0_j3), (3, .int r2), (2, .int r1), (0, .ref (hM 0)), (1, .int p1)]) := lv_sub hl [0, 1, 2, 3, 4] rfl
        exact join4 _ _ _ _ ⟨(iI (-k0_j3.toInt)), rfl, hP, hD, hS, hl⟩
    · rintro H locs ls stk ⟨k0_j4, rfl, hP, hD, hS, hl⟩
      refine W.widen (k := 0) (n := 0) (by decide +kernel) (by decide +kernel) ?_
      exact W.iret (v := k0_j4) hx hb hr (fun t9_ ht hW => ⟨⟨k0_j4, (), rfl, trivial, by rw [ht]; exact hP, hD⟩, hS.F ht⟩) hS.2.2 dX1_needBound_63

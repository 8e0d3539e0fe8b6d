section
theorem hd_yX1_keepNumber_RX1 : yX1_keepNumber.cls = RX1 ∧ yX1_keepNumber.cls ≠ "java/lang/invoke/MethodHandle" ∧ yX1_keepNumber.cls ≠ "java/lang/invoke/VarHandle" ∧ (parseMethodDescriptor yX1_keepNumber.desc).map (fun d => d.parameters.length) = some 4 := by decide +kernel
theorem hd_yX10_stretchWay_RX10 : yX10_stretchWay.cls = RX10 ∧ yX10_stretchWay.cls ≠ "java/lang/invoke/MethodHandle" ∧ yX10_stretchWay.cls ≠ "java/lang/invoke/VarHandle" ∧ (parseMethodDescriptor yX10_stretchWay.desc).map (fun d => d.parameters.length) = some 3 := by decide +kernel
theorem hd_yX1_clearWay_RX1 : yX1_clearWay.cls = RX1 ∧ yX1_clearWay.cls ≠ "java/lang/invoke/MethodHandle" ∧ yX1_clearWay.cls ≠ "java/lang/invoke/VarHandle" ∧ (parseMethodDescriptor yX1_clearWay.desc).map (fun d => d.parameters.length) = some 2 := by decide +kernel
theorem hd_yX10_scaled_RX10 : yX10_scaled.cls = RX10 ∧ yX10_scaled.cls ≠ "java/lang/invoke/MethodHandle" ∧ yX10_scaled.cls ≠ "java/lang/invoke/VarHandle" ∧ (parseMethodDescriptor yX10_scaled.desc).map (fun d => d.parameters.length) = some 4 := by decide +kernel
theorem hd_yX1_keepRight_RX1 : yX1_keepRight.cls = RX1 ∧ yX1_keepRight.cls ≠ "java/lang/invoke/MethodHandle" ∧ yX1_keepRight.cls ≠ "java/lang/invoke/VarHandle" ∧ (parseMethodDescriptor yX1_keepRight.desc).map (fun d => d.parameters.length) = some 4 := by decide +kernel
theorem hd_yX10_leaveDifference_RX10 : yX10_leaveDifference.cls = RX10 ∧ yX10_leaveDifference.cls ≠ "java/lang/invoke/MethodHandle" ∧ yX10_leaveDifference.cls ≠ "java/lang/invoke/VarHandle" ∧ (parseMethodDescriptor yX10_leaveDifference.desc).map (fun d => d.parameters.length) = some 1 := by decide +kernel
theorem hd_yX10_members_RX10 : yX10_members.cls = RX10 ∧ yX10_members.cls ≠ "java/lang/invoke/MethodHandle" ∧ yX10_members.cls ≠ "java/lang/invoke/VarHandle" ∧ (parseMethodDescriptor yX10_members.desc).map (fun d => d.parameters.length) = some 2 := by decide +kernel
theorem dX10_signOf_0 : decode cX10_signOf 0 = .ok (.iload_n 0, 1) := dk_26 (by decide +kernel)
theorem dX10_signOf_1 : decode cX10_signOf 1 = .ok (.sipush 301, 3) := dk_17 (by decide +kernel)
theorem dX10_signOf_4 : decode cX10_signOf 4 = .ok (.if_icmp .ne 7, 3) := dk_160 (by decide +kernel)
theorem dX10_signOf_7 : decode cX10_signOf 7 = .ok (.iconst 0, 1) := dk_3 (by decide +kernel)
theorem dX10_signOf_8 : decode cX10_signOf 8 = .ok (.goto 15, 3) := dk_167 (by decide +kernel)
theorem dX10_signOf_11 : decode cX10_signOf 11 = .ok (.iload_n 0, 1) := dk_26 (by decide +kernel)
theorem dX10_signOf_12 : decode cX10_signOf 12 = .ok (.sipush 302, 3) := dk_17 (by decide +kernel)
theorem dX10_signOf_15 : decode cX10_signOf 15 = .ok (.if_icmp .ne 7, 3) := dk_160 (by decide +kernel)
theorem dX10_signOf_18 : decode cX10_signOf 18 = .ok (.iconst 1, 1) := dk_4 (by decide +kernel)
theorem dX10_signOf_19 : decode cX10_signOf 19 = .ok (.goto 4, 3) := dk_167 (by decide +kernel)
theorem dX10_signOf_22 : decode cX10_signOf 22 = .ok (.iconst 2, 1) := dk_5 (by decide +kernel)
theorem dX10_signOf_23 : decode cX10_signOf 23 = .ok (.ireturn, 1) := dk_172 (by decide +kernel)
def wsMX10_signOf : List Cond := .code yX10_signOf cX10_signOf 1 (some .int) :: ([])
theorem gdwsMX10_signOf : wsMX10_signOf.all goodWord = true := gdC rfl (by decide +kernel : ([] : List Cond).all goodWord = true)
set_option maxHeartbeats 4000000 in
set_option maxRecDepth 100000 in
/-- the sign of a mark -/
theorem m_X10_signOf (l : Launch) (dC : Nat → ClassId) (dI : Nat → Nat → Nat) (p1 : Int32) (sz : Nat) : Met l yX10_signOf wsMX10_signOf ({ frames := 0, cells := 0, slots := 0, locals := 0 }) (va_Pc [.int p1] (fun U => U.heap.size = sz ∧ va_P (dC, dI) vwCl [] U.heap ∧ va_K (dC, dI) vwCl [] U ∧ va_D (fun _ => True) [])) (va_Qi (fun (r : Int32) (u : Unit) => (0 ≤ r.toInt ∧ r.toInt ≤ 2)) (fun (u : Unit) t => True) (va_A [] sz)) 0 0 (va_A [] sz) := by
  refine Met.ofW (cc := cX10_signOf) (maxL := 1) (ret := (some .int)) (by decide) rfl ?_
  intro p e s m args below meth c s₁ B hml hv
  obtain ⟨rfl, hsz, hP, hK, hD0⟩ := hv
  have hx := B.exec
  have hb := B.bytes
  have hr := B.returns
  have hts := atoms_spec (ws := wsMX10_signOf) B.pre
  have hown : s.vm.findClass RX10 = some m.cls := findClass_of_methodNamed B.named
  have hlocks := B.notSynchronized
  subst hsz
  have hD := hD0.self (sz := s.heap.size)
  generalize hAe : va_A [] s.heap.size = A at hD ⊢
  have hA : ∀ q : Nat, s.heap.size ≤ q → A q := fun q h => by rw [← hAe]; exact Or.inr h
  have hS : va_S A s.heap s.heap [] := va_S.rf
  have hl := lv_entry ([.int p1]) (n := 1) (Nat.le_of_ble_eq_true rfl)
  rw [lg_entry_eq]
  generalize (lg_sl ([.int p1]) ++ List.replicate (1 - (lg_sl ([.int p1])).length) Slot.unset).toArray = ls at hl ⊢
  have hl : lv_has ls 1 [(0, .int p1)] := hl
  refine lv_iload_n hx hb dX10_signOf_0 rfl (lv_at hl 0 rfl) ?_
  refine lv_sipush (v := 301) hx hb dX10_signOf_1 (by decide) ?_
  refine W.cut (pc := 23) (fun H locs ls stk => ∃ (k0_j2 : Int32), (0 ≤ k0_j2.toInt ∧ k0_j2.toInt ≤ 2) ∧  stk = [.int k0_j2] ∧ va_P (dC, dI) vwCl ([]) H ∧ va_D A ([]) ∧ va_S A s.heap H locs ∧ lv_has ls 1 [(0, .int p1)]) (fun join2 => ?_) ?_
  · refine lv_icmp_ne (tgt := 11) hx hb dX10_signOf_4 (by decide) (fun c_4 => ?_) (fun c_4 => ?_)
    · have t_4 : p1.toInt ≠ 301 := toI_ne c_4 rfl (by decide : (301 : Int32).toInt = 301)
      refine lv_iload_n hx hb dX10_signOf_11 rfl (lv_at hl 0 rfl) ?_
      refine lv_sipush (v := 302) hx hb dX10_signOf_12 (by decide) ?_
      refine lv_icmp_ne (tgt := 22) hx hb dX10_signOf_15 (by decide) (fun c_15 => ?_) (fun c_15 => ?_)
      · have t_15 : p1.toInt ≠ 302 := toI_ne c_15 rfl (by decide : (302 : Int32).toInt = 302)
        refine lv_iconst (v := 2) hx hb dX10_signOf_22 (by decide) ?_
        have hl : lv_has _ _ ([(0, .int p1)]) := lv_sub hl [0] rfl
        exact join2 _ _ _ _ ⟨2, (show 0 ≤ (2 : Int32).toInt ∧ (2 : Int32).toInt ≤ 2 from by decide), rfl, hP, hD, hS, hl⟩
      · have t_15 : p1.toInt = 302 := toI_nne c_15 rfl (by decide : (302 : Int32).toInt = 302)
        refine lv_iconst (v := 1) hx hb dX10_signOf_18 (by decide) ?_
        refine lv_goto (tgt := 23) hx hb dX10_signOf_19 (by decide) ?_
        have hl : lv_has _ _ ([(0, .int p1)]) := lv_sub hl [0] rfl
        exact join2 _ _ _ _ ⟨1, (show 0 ≤ (1 : Int32).toInt ∧ (1 : Int32).toInt ≤ 2 from by decide), rfl, hP, hD, hS, hl⟩
    · have t_4 : p1.toInt = 301 := toI_nne c_4 rfl (by decide : (301 : Int32).toInt = 301)
      refine lv_iconst (v := 0) hx hb dX10_signOf_7 (by decide) ?_
      refine lv_goto (tgt := 23) hx hb dX10_signOf_8 (by decide) ?_
      have hl : lv_has _ _ ([(0, .int p1)]) := lv_sub hl [0] rfl
      exact join2 _ _ _ _ ⟨0, (show 0 ≤ (0 : Int32).toInt ∧ (0 : Int32).toInt ≤ 2 from by decide), rfl, hP, hD, hS, hl⟩
  · rintro H locs ls stk ⟨k0_j2, b_k0_j2, rfl, hP, hD, hS, hl⟩
    refine W.widen (k := 0) (n := 0) (by decide +kernel) (by decide +kernel) ?_
    exact W.iret (v := k0_j2) hx hb hr (fun t9_ ht hW => ⟨⟨k0_j2, (), rfl, (b_k0_j2), trivial⟩, hS.F ht⟩) hS.2.2 dX10_signOf_23
theorem dX10_leaveDifference_0 : decode cX10_leaveDifference 0 = .ok (.aload_n 0, 1) := dk_42 (by decide +kernel)
theorem dX10_leaveDifference_1 : decode cX10_leaveDifference 1 = .ok (.getfield 36, 3) := dk_180 (by decide +kernel)
theorem dX10_leaveDifference_4 : decode cX10_leaveDifference 4 = .ok (.iload_n 1, 1) := dk_27 (by decide +kernel)
theorem dX10_leaveDifference_5 : decode cX10_leaveDifference 5 = .ok (.laload, 1) := dk_47 (by decide +kernel)
theorem dX10_leaveDifference_6 : decode cX10_leaveDifference 6 = .ok (.aload_n 0, 1) := dk_42 (by decide +kernel)
theorem dX10_leaveDifference_7 : decode cX10_leaveDifference 7 = .ok (.getfield 39, 3) := dk_180 (by decide +kernel)
theorem dX10_leaveDifference_10 : decode cX10_leaveDifference 10 = .ok (.bipush 9, 2) := dk_16 (by decide +kernel)
theorem dX10_leaveDifference_12 : decode cX10_leaveDifference 12 = .ok (.iload_n 1, 1) := dk_27 (by decide +kernel)
theorem dX10_leaveDifference_13 : decode cX10_leaveDifference 13 = .ok (.iadd, 1) := dk_96 (by decide +kernel)
theorem dX10_leaveDifference_14 : decode cX10_leaveDifference 14 = .ok (.laload, 1) := dk_47 (by decide +kernel)
theorem dX10_leaveDifference_15 : decode cX10_leaveDifference 15 = .ok (.lmul, 1) := dk_105 (by decide +kernel)
theorem dX10_leaveDifference_16 : decode cX10_leaveDifference 16 = .ok (.aload_n 0, 1) := dk_42 (by decide +kernel)
theorem dX10_leaveDifference_17 : decode cX10_leaveDifference 17 = .ok (.getfield 36, 3) := dk_180 (by decide +kernel)
theorem dX10_leaveDifference_20 : decode cX10_leaveDifference 20 = .ok (.bipush 9, 2) := dk_16 (by decide +kernel)
theorem dX10_leaveDifference_22 : decode cX10_leaveDifference 22 = .ok (.iload_n 1, 1) := dk_27 (by decide +kernel)
theorem dX10_leaveDifference_23 : decode cX10_leaveDifference 23 = .ok (.iadd, 1) := dk_96 (by decide +kernel)
theorem dX10_leaveDifference_24 : decode cX10_leaveDifference 24 = .ok (.laload, 1) := dk_47 (by decide +kernel)
theorem dX10_leaveDifference_25 : decode cX10_leaveDifference 25 = .ok (.aload_n 0, 1) := dk_42 (by decide +kernel)
theorem dX10_leaveDifference_26 : decode cX10_leaveDifference 26 = .ok (.getfield 39, 3) := dk_180 (by decide +kernel)
theorem dX10_leaveDifference_29 : decode cX10_leaveDifference 29 = .ok (.iload_n 1, 1) := dk_27 (by decide +kernel)
theorem dX10_leaveDifference_30 : decode cX10_leaveDifference 30 = .ok (.laload, 1) := dk_47 (by decide +kernel)
theorem dX10_leaveDifference_31 : decode cX10_leaveDifference 31 = .ok (.lmul, 1) := dk_105 (by decide +kernel)
theorem dX10_leaveDifference_32 : decode cX10_leaveDifference 32 = .ok (.lsub, 1) := dk_101 (by decide +kernel)
theorem dX10_leaveDifference_33 : decode cX10_leaveDifference 33 = .ok (.lstore_n 2, 1) := dk_65 (by decide +kernel)
theorem dX10_leaveDifference_34 : decode cX10_leaveDifference 34 = .ok (.aload_n 0, 1) := dk_42 (by decide +kernel)
theorem dX10_leaveDifference_35 : decode cX10_leaveDifference 35 = .ok (.getfield 39, 3) := dk_180 (by decide +kernel)
theorem dX10_leaveDifference_38 : decode cX10_leaveDifference 38 = .ok (.iload_n 1, 1) := dk_27 (by decide +kernel)
theorem dX10_leaveDifference_39 : decode cX10_leaveDifference 39 = .ok (.laload, 1) := dk_47 (by decide +kernel)
theorem dX10_leaveDifference_40 : decode cX10_leaveDifference 40 = .ok (.aload_n 0, 1) := dk_42 (by decide +kernel)
theorem dX10_leaveDifference_41 : decode cX10_leaveDifference 41 = .ok (.getfield 39, 3) := dk_180 (by decide +kernel)
theorem dX10_leaveDifference_44 : decode cX10_leaveDifference 44 = .ok (.bipush 9, 2) := dk_16 (by decide +kernel)
theorem dX10_leaveDifference_46 : decode cX10_leaveDifference 46 = .ok (.iload_n 1, 1) := dk_27 (by decide +kernel)
theorem dX10_leaveDifference_47 : decode cX10_leaveDifference 47 = .ok (.iadd, 1) := dk_96 (by decide +kernel)
theorem dX10_leaveDifference_48 : decode cX10_leaveDifference 48 = .ok (.laload, 1) := dk_47 (by decide +kernel)
theorem dX10_leaveDifference_49 : decode cX10_leaveDifference 49 = .ok (.lmul, 1) := dk_105 (by decide +kernel)
theorem dX10_leaveDifference_50 : decode cX10_leaveDifference 50 = .ok (.lstore 4, 2) := dk_55 (by decide +kernel)
theorem dX10_leaveDifference_52 : decode cX10_leaveDifference 52 = .ok (.lload_n 2, 1) := dk_32 (by decide +kernel)
theorem dX10_leaveDifference_53 : decode cX10_leaveDifference 53 = .ok (.lload 4, 2) := dk_22 (by decide +kernel)
theorem dX10_leaveDifference_55 : decode cX10_leaveDifference 55 = .ok (.invokestatic 183, 3) := dk_184 (by decide +kernel)
theorem dX10_leaveDifference_58 : decode cX10_leaveDifference 58 = .ok (.lstore 6, 2) := dk_55 (by decide +kernel)
theorem dX10_leaveDifference_60 : decode cX10_leaveDifference 60 = .ok (.aload_n 0, 1) := dk_42 (by decide +kernel)
theorem dX10_leaveDifference_61 : decode cX10_leaveDifference 61 = .ok (.getfield 36, 3) := dk_180 (by decide +kernel)
theorem dX10_leaveDifference_64 : decode cX10_leaveDifference 64 = .ok (.iload_n 1, 1) := dk_27 (by decide +kernel)
theorem dX10_leaveDifference_65 : decode cX10_leaveDifference 65 = .ok (.lload_n 2, 1) := dk_32 (by decide +kernel)
theorem dX10_leaveDifference_66 : decode cX10_leaveDifference 66 = .ok (.lload 6, 2) := dk_22 (by decide +kernel)
theorem dX10_leaveDifference_68 : decode cX10_leaveDifference 68 = .ok (.ldiv, 1) := dk_109 (by decide +kernel)
theorem dX10_leaveDifference_69 : decode cX10_leaveDifference 69 = .ok (.lastore, 1) := dk_80 (by decide +kernel)
theorem dX10_leaveDifference_70 : decode cX10_leaveDifference 70 = .ok (.aload_n 0, 1) := dk_42 (by decide +kernel)
theorem dX10_leaveDifference_71 : decode cX10_leaveDifference 71 = .ok (.getfield 39, 3) := dk_180 (by decide +kernel)
theorem dX10_leaveDifference_74 : decode cX10_leaveDifference 74 = .ok (.iload_n 1, 1) := dk_27 (by decide +kernel)
theorem dX10_leaveDifference_75 : decode cX10_leaveDifference 75 = .ok (.lload 4, 2) := dk_22 (by decide +kernel)
theorem dX10_leaveDifference_77 : decode cX10_leaveDifference 77 = .ok (.lload 6, 2) := dk_22 (by decide +kernel)
theorem dX10_leaveDifference_79 : decode cX10_leaveDifference 79 = .ok (.ldiv, 1) := dk_109 (by decide +kernel)
theorem dX10_leaveDifference_80 : decode cX10_leaveDifference 80 = .ok (.lastore, 1) := dk_80 (by decide +kernel)
theorem dX10_leaveDifference_81 : decode cX10_leaveDifference 81 = .ok (.return_, 1) := dk_177 (by decide +kernel)
def wsMX10_leaveDifference : List Cond := .code yX10_leaveDifference cX10_leaveDifference 8 none :: ([.fieldLink RX10 36 "OptimaWorks$Worker" "over" "[J", .fieldLink RX10 39 "OptimaWorks$Worker" "under" "[J"] ++ wsX100 ++ (va_wsS RX10 183 yX10_divisor wsMX10_divisor))
theorem iwsMX10_leaveDifference_in10 : ∀ w ∈ wsX100, w ∈ wsMX10_leaveDifference := fun _ h => List.mem_cons_of_mem _ (List.mem_append_left _ (List.mem_append_right _ h))
theorem gwsMX10_leaveDifference_0 : GoodIn wsMX10_leaveDifference (va_wsS RX10 183 yX10_divisor wsMX10_divisor) := goodIn_sub (fun _ h => List.mem_cons_of_mem _ (List.mem_append_right _ h)) (gdS (by decide +kernel) gdwsMX10_divisor)
theorem gdwsMX10_leaveDifference : wsMX10_leaveDifference.all goodWord = true := gdC rfl (gdA (gdA (by decide +kernel : ([.fieldLink RX10 36 "OptimaWorks$Worker" "over" "[J", .fieldLink RX10 39 "OptimaWorks$Worker" "under" "[J"] : List Cond).all goodWord = true) gdwsX100) (gdS (by decide +kernel) gdwsMX10_divisor))
theorem hm_m_X10_leaveDifference_0 : (.fieldLink RX10 36 "OptimaWorks$Worker" "over" "[J" : Cond) ∈ wsMX10_leaveDifference := by decide +kernel
theorem hm_m_X10_leaveDifference_1 : (.fieldLink RX10 39 "OptimaWorks$Worker" "under" "[J" : Cond) ∈ wsMX10_leaveDifference := by decide +kernel
set_option maxHeartbeats 4000000 in
set_option maxRecDepth 100000 in
/-- the difference of two numbers -/
theorem m_X10_leaveDifference (l : Launch) (dC : Nat → ClassId) (dI : Nat → Nat → Nat) (hL : Nat → Nat) (aL : Nat → Nat) (kL : Nat → ClassId) (hT : Nat → Nat) (hM : Nat → Nat) (xL_tree : Value) (iL_names : Int32) (gL_key : Nat → Int64) (fL_kind : Nat → Int32) (fL_one : Nat → Int32) (fL_two : Nat → Int32) (fL_base : Nat → Int32) (iL_params : Int32) (fL_paramOver : Nat → Int32) (dL_paramOver : Nat) (nL_params : Nat) (fL_paramUnder : Nat → Int32) (dL_paramUnder : Nat) (nL_pu : Nat) (gL_over : Nat → Int64) (gL_under : Nat → Int64) (fL_bound : Nat → Int32) (iL_nameAt : Int32) (iL_startAt : Int32) (iL_steps : Int32) (jL_scaleOver : Int64) (jL_scaleUnder : Int64) (p1 : Int32) (b_iL_names : 0 ≤ iL_names.toInt ∧ iL_names.toInt ≤ 40) (b_fL_kind : ∀ q : Nat, 0 ≤ (fL_kind q).toInt ∧ (fL_kind q).toInt ≤ 5) (b_fL_two : ∀ q : Nat, (-1) ≤ (fL_two q).toInt ∧ (fL_two q).toInt ≤ 39) (b_fL_base : ∀ q : Nat, 0 ≤ (fL_base q).toInt ∧ (fL_base q).toInt ≤ 2560) (b_iL_params : 0 ≤ iL_params.toInt ∧ iL_params.toInt ≤ 2560) (b_nL_params : 0 ≤ nL_params ∧ nL_params ≤ 2560) (b_nm : NmL iL_names fL_kind fL_one fL_two fL_base nL_params) (b_pm : iL_params.toInt ≤ ((nL_params : Nat) : Int)) (b_pu : nL_pu = nL_params) (b_p1 : 0 ≤ p1.toInt ∧ p1.toInt ≤ 8) (sz : Nat) : Met l yX10_leaveDifference wsMX10_leaveDifference ({ frames := 2, cells := 0, slots := 0, locals := 43 }) (va_Pc [.ref (hL 0), .int p1] (fun U => U.heap.size = sz ∧ va_P (dC, dI) vwCl (WL hL aL kL hT hM xL_tree iL_names gL_key fL_kind fL_one fL_two fL_base iL_params fL_paramOver dL_paramOver nL_params fL_paramUnder dL_paramUnder nL_pu gL_over gL_under fL_bound iL_nameAt iL_startAt iL_steps jL_scaleOver jL_scaleUnder) U.heap ∧ va_K (dC, dI) vwCl (tL kL) U ∧ va_D (fun _ => True) (WL hL aL kL hT hM xL_tree iL_names gL_key fL_kind fL_one fL_two fL_base iL_params fL_paramOver dL_paramOver nL_params fL_paramUnder dL_paramUnder nL_pu gL_over gL_under fL_bound iL_nameAt iL_startAt iL_steps jL_scaleOver jL_scaleUnder))) (va_Qv (fun (u : (Nat → Int64) × (Nat → Int64)) => True) (fun (u : (Nat → Int64) × (Nat → Int64)) t => va_P (dC, dI) vwCl (WL hL aL kL hT hM xL_tree iL_names gL_key fL_kind fL_one fL_two fL_base iL_params fL_paramOver dL_paramOver nL_params fL_paramUnder dL_paramUnder nL_pu (u.1) (u.2) fL_bound iL_nameAt iL_startAt iL_steps jL_scaleOver jL_scaleUnder) t.heap ∧ va_D (va_A (WL hL aL kL hT hM xL_tree iL_names gL_key fL_kind fL_one fL_two fL_base iL_params fL_paramOver dL_paramOver nL_params fL_paramUnder dL_paramUnder nL_pu gL_over gL_under fL_bound iL_nameAt iL_startAt iL_steps jL_scaleOver jL_scaleUnder) sz) (WL hL aL kL hT hM xL_tree iL_names gL_key fL_kind fL_one fL_two fL_base iL_params fL_paramOver dL_paramOver nL_params fL_paramUnder dL_paramUnder nL_pu (u.1) (u.2) fL_bound iL_nameAt iL_startAt iL_steps jL_scaleOver jL_scaleUnder)) (va_A (WL hL aL kL hT hM xL_tree iL_names gL_key fL_kind fL_one fL_two fL_base iL_params fL_paramOver dL_paramOver nL_params fL_paramUnder dL_paramUnder nL_pu gL_over gL_under fL_bound iL_nameAt iL_startAt iL_steps jL_scaleOver jL_scaleUnder) sz)) 0 0 (va_A (WL hL aL kL hT hM xL_tree iL_names gL_key fL_kind fL_one fL_two fL_base iL_params fL_paramOver dL_paramOver nL_params fL_paramUnder dL_paramUnder nL_pu gL_over gL_under fL_bound iL_nameAt iL_startAt iL_steps jL_scaleOver jL_scaleUnder) sz) := by
  refine Met.ofW (cc := cX10_leaveDifference) (maxL := 8) (ret := none) (by decide) rfl ?_
  intro p e s m args below meth c s₁ B hml hv
  obtain ⟨rfl, hsz, hP, hK, hD0⟩ := hv
  have hx := B.exec
  have hb := B.bytes
  have hr := B.returns
  have hts := atoms_spec (ws := wsMX10_leaveDifference) B.pre
  have hown : s.vm.findClass RX10 = some m.cls := findClass_of_methodNamed B.named
  have hlocks := B.notSynchronized
  subst hsz
  have hD := hD0.self (sz := s.heap.size)
  generalize hAe : va_A (WL hL aL kL hT hM xL_tree iL_names gL_key fL_kind fL_one fL_two fL_base iL_params fL_paramOver dL_paramOver nL_params fL_paramUnder dL_paramUnder nL_pu gL_over gL_under fL_bound iL_nameAt iL_startAt iL_steps jL_scaleOver jL_scaleUnder) s.heap.size = A at hD ⊢
  have hA : ∀ q : Nat, s.heap.size ≤ q → A q := fun q h => by rw [← hAe]; exact Or.inr h
  have hS : va_S A s.heap s.heap [] := va_S.rf
  have hl := lv_entry ([.ref (hL 0), .int p1]) (n := 8) (Nat.le_of_ble_eq_true rfl)
  rw [lg_entry_eq]
  generalize (lg_sl ([.ref (hL 0), .int p1]) ++ List.replicate (8 - (lg_sl ([.ref (hL 0), .int p1])).length) Slot.unset).toArray = ls at hl ⊢
  have hl : lv_has ls 8 [(0, .ref (hL 0)), (1, .int p1)] := hl
  refine lv_aload_n hx hb dX10_leaveDifference_0 rfl (lv_at hl 0 rfl) ?_
  refine va_get (D := (dC, dI)) (ci := 10) (v := .ref (aL 7)) (C := RX10) (T := TX10) (N := 20) hx hb hts iwsMX10_leaveDifference_in10 hown hK hP 0 rfl rfl 12 (by decide) (hts _ hm_m_X10_leaveDifference_0) (fun _ h9 => h9) rfl dX10_leaveDifference_1 ?_
  refine lv_iload_n hx hb dX10_leaveDifference_4 rfl (lv_at hl 1 rfl) ?_
  refine va_lald (cA := kL 7) (n := 360) (f := gL_over) hx hb hK hP 8 7 rfl rfl (vp_in_iff.mpr ⟨b_p1.1, (Int.lt_of_le_of_lt (b_p1.2) (by decide))⟩) dX10_leaveDifference_5 ?_
  refine lv_topl (fun v1 hv1 => ?_)
  clear hv1
  refine lv_aload_n hx hb dX10_leaveDifference_6 rfl (lv_at hl 0 rfl) ?_
  refine va_get (D := (dC, dI)) (ci := 10) (v := .ref (aL 8)) (C := RX10) (T := TX10) (N := 20) hx hb hts iwsMX10_leaveDifference_in10 hown hK hP 0 rfl rfl 13 (by decide) (hts _ hm_m_X10_leaveDifference_1) (fun _ h9 => h9) rfl dX10_leaveDifference_7 ?_
  refine lv_bipush (v := 9) hx hb dX10_leaveDifference_10 (by decide) ?_
  refine lv_iload_n hx hb dX10_leaveDifference_12 rfl (lv_at hl 1 rfl) ?_
  refine lv_iadd hx hb dX10_leaveDifference_13 ?_
  refine lv_topi (fun y2 hy2 => ?_)
  obtain rfl : (iI (9 + p1.toInt)) = y2 := (hy2.trans (iI_add2 (by decide : (9 : Int32) = iI 9) (iI_of _))).symm
  refine va_lald (cA := kL 8) (n := 360) (f := gL_under) hx hb hK hP 9 8 rfl rfl (vp_iI (Int.le_trans (by decide) (Int.add_le_add (Int.le_refl _) (b_p1.1))) (Int.lt_of_le_of_lt (Int.add_le_add (Int.le_refl _) (b_p1.2)) (by decide)) (by decide)) dX10_leaveDifference_14 ?_
  refine lv_topl (fun v3 hv3 => ?_)
  clear hv3
  refine lv_lmul hx hb dX10_leaveDifference_15 ?_
  refine lv_topl (fun v4 hv4 => ?_)
  clear hv4
  refine lv_aload_n hx hb dX10_leaveDifference_16 rfl (lv_at hl 0 rfl) ?_
  refine va_get (D := (dC, dI)) (ci := 10) (v := .ref (aL 7)) (C := RX10) (T := TX10) (N := 20) hx hb hts iwsMX10_leaveDifference_in10 hown hK hP 0 rfl rfl 12 (by decide) (hts _ hm_m_X10_leaveDifference_0) (fun _ h9 => h9) rfl dX10_leaveDifference_17 ?_
  refine lv_bipush (v := 9) hx hb dX10_leaveDifference_20 (by decide) ?_
  refine lv_iload_n hx hb dX10_leaveDifference_22 rfl (lv_at hl 1 rfl) ?_
  refine lv_iadd hx hb dX10_leaveDifference_23 ?_
  refine lv_topi (fun y5 hy5 => ?_)
  obtain rfl : (iI (9 + p1.toInt)) = y5 := (hy5.trans (iI_add2 (by decide : (9 : Int32) = iI 9) (iI_of _))).symm
  refine va_lald (cA := kL 7) (n := 360) (f := gL_over) hx hb hK hP 8 7 rfl rfl (vp_iI (Int.le_trans (by decide) (Int.add_le_add (Int.le_refl _) (b_p1.1))) (Int.lt_of_le_of_lt (Int.add_le_add (Int.le_refl _) (b_p1.2)) (by decide)) (by decide)) dX10_leaveDifference_24 ?_
  refine lv_topl (fun v6 hv6 => ?_)
  clear hv6
  refine lv_aload_n hx hb dX10_leaveDifference_25 rfl (lv_at hl 0 rfl) ?_
  refine va_get (D := (dC, dI)) (ci := 10) (v := .ref (aL 8)) (C := RX10) (T := TX10) (N := 20) hx hb hts iwsMX10_leaveDifference_in10 hown hK hP 0 rfl rfl 13 (by decide) (hts _ hm_m_X10_leaveDifference_1) (fun _ h9 => h9) rfl dX10_leaveDifference_26 ?_
  refine lv_iload_n hx hb dX10_leaveDifference_29 rfl (lv_at hl 1 rfl) ?_
  refine va_lald (cA := kL 8) (n := 360) (f := gL_under) hx hb hK hP 9 8 rfl rfl (vp_in_iff.mpr ⟨b_p1.1, (Int.lt_of_le_of_lt (b_p1.2) (by decide))⟩) dX10_leaveDifference_30 ?_
  refine lv_topl (fun v7 hv7 => ?_)
  clear hv7
  refine lv_lmul hx hb dX10_leaveDifference_31 ?_
  refine lv_topl (fun v8 hv8 => ?_)
  clear hv8
  refine lv_lsub hx hb dX10_leaveDifference_32 ?_
  refine lv_topl (fun v9 hv9 => ?_)
  clear hv9
  refine lv_lstore_n hx hb dX10_leaveDifference_33 rfl hl (by decide) rfl (fun ls (hl : lv_has ls _ ([(2, .long v9), (0, .ref (hL 0)), (1, .int p1)])) => ?_)
  refine lv_aload_n hx hb dX10_leaveDifference_34 rfl (lv_at hl 1 rfl) ?_
  refine va_get (D := (dC, dI)) (ci := 10) (v := .ref (aL 8)) (C := RX10) (T := TX10) (N := 20) hx hb hts iwsMX10_leaveDifference_in10 hown hK hP 0 rfl rfl 13 (by decide) (hts _ hm_m_X10_leaveDifference_1) (fun _ h9 => h9) rfl dX10_leaveDifference_35 ?_
  refine lv_iload_n hx hb dX10_leaveDifference_38 rfl (lv_at hl 2 rfl) ?_
  refine va_lald (cA := kL 8) (n := 360) (f := gL_under) hx hb hK hP 9 8 rfl rfl (vp_in_iff.mpr ⟨b_p1.1, (Int.lt_of_le_of_lt (b_p1.2) (by decide))⟩) dX10_leaveDifference_39 ?_
  refine lv_topl (fun v10 hv10 => ?_)
  clear hv10
  refine lv_aload_n hx hb dX10_leaveDifference_40 rfl (lv_at hl 1 rfl) ?_
  refine va_get (D := (dC, dI)) (ci := 10) (v := .ref (aL 8)) (C := RX10) (T := TX10) (N := 20) hx hb hts iwsMX10_leaveDifference_in10 hown hK hP 0 rfl rfl 13 (by decide) (hts _ hm_m_X10_leaveDifference_1) (fun _ h9 => h9) rfl dX10_leaveDifference_41 ?_
  refine lv_bipush (v := 9) hx hb dX10_leaveDifference_44 (by decide) ?_
  refine lv_iload_n hx hb dX10_leaveDifference_46 rfl (lv_at hl 2 rfl) ?_
  refine lv_iadd hx hb dX10_leaveDifference_47 ?_
  refine lv_topi (fun y11 hy11 => ?_)
  obtain rfl : (iI (9 + p1.toInt)) = y11 := (hy11.trans (iI_add2 (by decide : (9 : Int32) = iI 9) (iI_of _))).symm
  refine va_lald (cA := kL 8) (n := 360) (f := gL_under) hx hb hK hP 9 8 rfl rfl (vp_iI (Int.le_trans (by decide) (Int.add_le_add (Int.le_refl _) (b_p1.1))) (Int.lt_of_le_of_lt (Int.add_le_add (Int.le_refl _) (b_p1.2)) (by decide)) (by decide)) dX10_leaveDifference_48 ?_
  refine lv_topl (fun v12 hv12 => ?_)
  clear hv12
  refine lv_lmul hx hb dX10_leaveDifference_49 ?_
  refine lv_topl (fun v13 hv13 => ?_)
  clear hv13
  refine lv_lstore hx hb dX10_leaveDifference_50 hl (by decide) rfl (fun ls (hl : lv_has ls _ ([(4, .long v13), (2, .long v9), (0, .ref (hL 0)), (1, .int p1)])) => ?_)
  refine lv_lload_n hx hb dX10_leaveDifference_52 rfl (lv_at hl 1 rfl) ?_
  refine lv_lload hx hb dX10_leaveDifference_53 (lv_at hl 0 rfl) ?_
  have hFc := noneFree hS hA
  refine va_calll (va_runS (As := [.long v9, .long v13]) (rest := []) ⟨hx, hb, hml, hown, hts⟩ (m_X10_divisor l dC dI v9 v13 s.heap.size) (va_cwS 2 hts gwsMX10_leaveDifference_0 rfl rfl rfl (by decide +kernel) ⟨by decide +kernel, by decide +kernel⟩) ⟨fun a U g mk q => by obtain ⟨q0, q1, qP, qK, qD⟩ := q; exact ⟨q0, q1, qP, va_K.moved (u := U) (U := U.calling g mk a) (Vm.Alike.refl U.vm) qK, qD⟩, fun U hU9 hW => ⟨rfl, by rw [hU9], by rw [hU9]; exact nilP, va_K.moved hW.alike (hK.sub (tys' := []) [] rfl), nilD⟩⟩ rfl rfl hl.1 rfl (lv_room (Nat.le_of_ble_eq_true rfl)) dX10_leaveDifference_55 (by decide +kernel)) hS (fun q _ h => hFc q h) hFc (fun r14 u t9_ H1 locs ht hvm hw9 hB9 hz1 hk1 hS => ?_)
  have f14_0 := hw9
  try dsimp only at f14_0
  clear hB9
  have hP := keepAll hP hk1
  generalize H1 = H at hP hS ⊢
  have hP : va_P (dC, dI) vwCl (WL hL aL kL hT hM xL_tree iL_names gL_key fL_kind fL_one fL_two fL_base iL_params fL_paramOver dL_paramOver nL_params fL_paramUnder dL_paramUnder nL_pu gL_over gL_under fL_bound iL_nameAt iL_startAt iL_steps jL_scaleOver jL_scaleUnder) H := hP
  have hD := fz_sd hP (hD) rfl
  refine lv_lstore hx hb dX10_leaveDifference_58 hl (by decide) rfl (fun ls (hl : lv_has ls _ ([(6, .long r14), (4, .long v13), (2, .long v9), (0, .ref (hL 0)), (1, .int p1)])) => ?_)
  refine lv_aload_n hx hb dX10_leaveDifference_60 rfl (lv_at hl 3 rfl) ?_
  refine va_get (D := (dC, dI)) (ci := 10) (v := .ref (aL 7)) (C := RX10) (T := TX10) (N := 20) hx hb hts iwsMX10_leaveDifference_in10 hown hK hP 0 rfl rfl 12 (by decide) (hts _ hm_m_X10_leaveDifference_0) (fun _ h9 => h9) rfl dX10_leaveDifference_61 ?_
  refine lv_iload_n hx hb dX10_leaveDifference_64 rfl (lv_at hl 4 rfl) ?_
  refine lv_lload_n hx hb dX10_leaveDifference_65 rfl (lv_at hl 2 rfl) ?_
  refine lv_lload hx hb dX10_leaveDifference_66 (lv_at hl 0 rfl) ?_
  refine lv_ldiv hx hb dX10_leaveDifference_68 (nz_l (x := r14) rfl (by omega)) ?_
  refine lv_topl (fun v15 hv15 => ?_)
  clear hv15
  refine va_last (cA := kL 7) (n := 360) (f := gL_over) hx hb hK hP hD hS 8 7 rfl rfl (vp_in_iff.mpr ⟨b_p1.1, (Int.lt_of_le_of_lt (b_p1.2) (by decide))⟩) dX10_leaveDifference_69 (fun H locs hP hD hS => ?_)
  obtain ⟨u16, hu16⟩ : ∃ f9, f9 = vp_updL gL_over (p1).toNatClampNeg v15 := ⟨_, rfl⟩
  have hP : va_P (dC, dI) vwCl (WL hL aL kL hT hM xL_tree iL_names gL_key fL_kind fL_one fL_two fL_base iL_params fL_paramOver dL_paramOver nL_params fL_paramUnder dL_paramUnder nL_pu u16 gL_under fL_bound iL_nameAt iL_startAt iL_steps jL_scaleOver jL_scaleUnder) H := by rw [hu16]; exact hP
  have hD : va_D A (WL hL aL kL hT hM xL_tree iL_names gL_key fL_kind fL_one fL_two fL_base iL_params fL_paramOver dL_paramOver nL_params fL_paramUnder dL_paramUnder nL_pu u16 gL_under fL_bound iL_nameAt iL_startAt iL_steps jL_scaleOver jL_scaleUnder) := by rw [hu16]; exact hD
  clear hu16
  refine lv_aload_n hx hb dX10_leaveDifference_70 rfl (lv_at hl 3 rfl) ?_
  refine va_get (D := (dC, dI)) (ci := 10) (v := .ref (aL 8)) (C := RX10) (T := TX10) (N := 20) hx hb hts iwsMX10_leaveDifference_in10 hown hK hP 0 rfl rfl 13 (by decide) (hts _ hm_m_X10_leaveDifference_1) (fun _ h9 => h9) rfl dX10_leaveDifference_71 ?_
  refine lv_iload_n hx hb dX10_leaveDifference_74 rfl (lv_at hl 4 rfl) ?_
  refine lv_lload hx hb dX10_leaveDifference_75 (lv_at hl 1 rfl) ?_
  refine lv_lload hx hb dX10_leaveDifference_77 (lv_at hl 0 rfl) ?_
  refine lv_ldiv hx hb dX10_leaveDifference_79 (nz_l (x := r14) rfl (by omega)) ?_
  refine lv_topl (fun v17 hv17 => ?_)
  clear hv17
  refine va_last (cA := kL 8) (n := 360) (f := gL_under) hx hb hK hP hD hS 9 8 rfl rfl (vp_in_iff.mpr ⟨b_p1.1, (Int.lt_of_le_of_lt (b_p1.2) (by decide))⟩) dX10_leaveDifference_80 (fun H locs hP hD hS => ?_)
  obtain ⟨u18, hu18⟩ : ∃ f9, f9 = vp_updL gL_under (p1).toNatClampNeg v17 := ⟨_, rfl⟩
  have hP : va_P (dC, dI) vwCl (WL hL aL kL hT hM xL_tree iL_names gL_key fL_kind fL_one fL_two fL_base iL_params fL_paramOver dL_paramOver nL_params fL_paramUnder dL_paramUnder nL_pu u16 u18 fL_bound iL_nameAt iL_startAt iL_steps jL_scaleOver jL_scaleUnder) H := by rw [hu18]; exact hP
  have hD : va_D A (WL hL aL kL hT hM xL_tree iL_names gL_key fL_kind fL_one fL_two fL_base iL_params fL_paramOver dL_paramOver nL_params fL_paramUnder dL_paramUnder nL_pu u16 u18 fL_bound iL_nameAt iL_startAt iL_steps jL_scaleOver jL_scaleUnder) := by rw [hu18]; exact hD
  clear hu18
  refine W.widen (k := 0) (n := 0) (by decide +kernel) (by decide +kernel) ?_
  exact W.vret hx hb hr (fun t9_ ht hW => ⟨⟨(u16, u18), rfl, trivial, by rw [ht]; exact hP, hD⟩, hS.F ht⟩) hS.2.2 dX10_leaveDifference_81
theorem dX10_product_0 : decode cX10_product 0 = .ok (.lload_n 0, 1) := dk_30 (by decide +kernel)
theorem dX10_product_1 : decode cX10_product 1 = .ok (.iload 4, 2) := dk_21 (by decide +kernel)
theorem dX10_product_3 : decode cX10_product 3 = .ok (.i2l, 1) := dk_133 (by decide +kernel)
theorem dX10_product_4 : decode cX10_product 4 = .ok (.lcmp, 1) := dk_148 (by decide +kernel)
theorem dX10_product_5 : decode cX10_product 5 = .ok (.ifCond .gt 21, 3) := dk_157 (by decide +kernel)
theorem dX10_product_8 : decode cX10_product 8 = .ok (.lload_n 2, 1) := dk_32 (by decide +kernel)
theorem dX10_product_9 : decode cX10_product 9 = .ok (.iload 4, 2) := dk_21 (by decide +kernel)
theorem dX10_product_11 : decode cX10_product 11 = .ok (.i2l, 1) := dk_133 (by decide +kernel)
theorem dX10_product_12 : decode cX10_product 12 = .ok (.lcmp, 1) := dk_148 (by decide +kernel)
theorem dX10_product_13 : decode cX10_product 13 = .ok (.ifCond .gt 13, 3) := dk_157 (by decide +kernel)
theorem dX10_product_16 : decode cX10_product 16 = .ok (.lload_n 0, 1) := dk_30 (by decide +kernel)
theorem dX10_product_17 : decode cX10_product 17 = .ok (.lload_n 2, 1) := dk_32 (by decide +kernel)
theorem dX10_product_18 : decode cX10_product 18 = .ok (.lmul, 1) := dk_105 (by decide +kernel)
theorem dX10_product_19 : decode cX10_product 19 = .ok (.iload 4, 2) := dk_21 (by decide +kernel)
theorem dX10_product_21 : decode cX10_product 21 = .ok (.i2l, 1) := dk_133 (by decide +kernel)
theorem dX10_product_22 : decode cX10_product 22 = .ok (.lcmp, 1) := dk_148 (by decide +kernel)
theorem dX10_product_23 : decode cX10_product 23 = .ok (.ifCond .le 10, 3) := dk_158 (by decide +kernel)
theorem dX10_product_26 : decode cX10_product 26 = .ok (.iload 4, 2) := dk_21 (by decide +kernel)
theorem dX10_product_28 : decode cX10_product 28 = .ok (.iconst 1, 1) := dk_4 (by decide +kernel)
theorem dX10_product_29 : decode cX10_product 29 = .ok (.iadd, 1) := dk_96 (by decide +kernel)
theorem dX10_product_30 : decode cX10_product 30 = .ok (.goto 7, 3) := dk_167 (by decide +kernel)
theorem dX10_product_33 : decode cX10_product 33 = .ok (.lload_n 0, 1) := dk_30 (by decide +kernel)
theorem dX10_product_34 : decode cX10_product 34 = .ok (.lload_n 2, 1) := dk_32 (by decide +kernel)
theorem dX10_product_35 : decode cX10_product 35 = .ok (.lmul, 1) := dk_105 (by decide +kernel)
theorem dX10_product_36 : decode cX10_product 36 = .ok (.l2i, 1) := dk_136 (by decide +kernel)
theorem dX10_product_37 : decode cX10_product 37 = .ok (.ireturn, 1) := dk_172 (by decide +kernel)
def wsMX10_product : List Cond := .code yX10_product cX10_product 5 (some .int) :: ([])
theorem gdwsMX10_product : wsMX10_product.all goodWord = true := gdC rfl (by decide +kernel : ([] : List Cond).all goodWord = true)
set_option maxHeartbeats 4000000 in
set_option maxRecDepth 100000 in
/-- a product within a limit -/
theorem m_X10_product (l : Launch) (dC : Nat → ClassId) (dI : Nat → Nat → Nat) (p1 : Int64) (p2 : Int64) (p3 : Int32) (sz : Nat) : Met l yX10_product wsMX10_product ({ frames := 0, cells := 0, slots := 0, locals := 0 }) (va_Pc [.long p1, .long p2, .int p3] (fun U => U.heap.size = sz ∧ va_P (dC, dI) vwCl [] U.heap ∧ va_K (dC, dI) vwCl [] U ∧ va_D (fun _ => True) [])) (va_Qi (fun (r : Int32) (u : Unit) => True) (fun (u : Unit) t => True) (va_A [] sz)) 0 0 (va_A [] sz) := by
  refine Met.ofW (cc := cX10_product) (maxL := 5) (ret := (some .int)) (by decide) rfl ?_
  intro p e s m args below meth c s₁ B hml hv
  obtain ⟨rfl, hsz, hP, hK, hD0⟩ := hv
  have hx := B.exec
  have hb := B.bytes
  have hr := B.returns
  have hts := atoms_spec (ws := wsMX10_product) B.pre
  have hown : s.vm.findClass RX10 = some m.cls := findClass_of_methodNamed B.named
  have hlocks := B.notSynchronized
  subst hsz
  have hD := hD0.self (sz := s.heap.size)
  generalize hAe : va_A [] s.heap.size = A at hD ⊢
  have hA : ∀ q : Nat, s.heap.size ≤ q → A q := fun q h => by rw [← hAe]; exact Or.inr h
  have hS : va_S A s.heap s.heap [] := va_S.rf
  have hl := lv_entry ([.long p1, .long p2, .int p3]) (n := 5) (Nat.le_of_ble_eq_true rfl)
  rw [lg_entry_eq]
  generalize (lg_sl ([.long p1, .long p2, .int p3]) ++ List.replicate (5 - (lg_sl ([.long p1, .long p2, .int p3])).length) Slot.unset).toArray = ls at hl ⊢
  have hl : lv_has ls 5 [(0, .long p1), (2, .long p2), (4, .int p3)] := hl
  refine lv_lload_n hx hb dX10_product_0 rfl (lv_at hl 0 rfl) ?_
  refine lv_iload hx hb dX10_product_1 (lv_at hl 2 rfl) ?_
  refine lv_i2l hx hb dX10_product_3 rfl ?_
  refine lv_topl (fun v1 hv1 => ?_)
  clear hv1
  refine W.lcmp hx hb dX10_product_4 ?_
  refine W.cut (pc := 37) (fun H locs ls stk => ∃ (k0_j2 : Int32),  stk = [.int k0_j2] ∧ va_P (dC, dI) vwCl ([]) H ∧ va_D A ([]) ∧ va_S A s.heap H locs ∧ lv_has ls 5 [(0, .long p1), (2, .long p2), (4, .int p3)]) (fun join2 => ?_) ?_
  · refine lv_if_gt (tgt := 26) hx hb dX10_product_5 (by decide) (fun c_5 => ?_) (fun c_5 => ?_)
    · have t_5 : p1.toInt > v1.toInt := toL_gt c_5 rfl rfl
      refine lv_iload hx hb dX10_product_26 (lv_at hl 2 rfl) ?_
      refine lv_iconst (v := 1) hx hb dX10_product_28 (by decide) ?_
      refine lv_iadd hx hb dX10_product_29 ?_
      refine lv_topi (fun y10 hy10 => ?_)
      obtain rfl : (iI (p3.toInt + 1)) = y10 := (hy10.trans (iI_add2 (iI_of _) (by decide : (1 : Int32) = iI 1))).symm
      refine lv_goto (tgt := 37) hx hb dX10_product_30 (by decide) ?_
      have hl : lv_has _ _ ([(0, .long p1), (2, .long p2), (4, .int p3)]) := lv_sub hl [0, 1, 2] rfl
      exact join2 _ _ _ _ ⟨(iI (p3.toInt + 1)), rfl, hP, hD, hS, hl⟩
    · have t_5 : ¬ p1.toInt > v1.toInt := toL_ngt c_5 rfl rfl
      refine lv_lload_n hx hb dX10_product_8 rfl (lv_at hl 1 rfl) ?_
      refine lv_iload hx hb dX10_product_9 (lv_at hl 2 rfl) ?_
      refine lv_i2l hx hb dX10_product_11 rfl ?_
      refine lv_topl (fun v11 hv11 => ?_)
      clear hv11
      refine W.lcmp hx hb dX10_product_12 ?_
      refine lv_if_gt (tgt := 26) hx hb dX10_product_13 (by decide) (fun c_13 => ?_) (fun c_13 => ?_)
      · have t_13 : p2.toInt > v11.toInt := toL_gt c_13 rfl rfl
        refine lv_iload hx hb dX10_product_26 (lv_at hl 2 rfl) ?_
        refine lv_iconst (v := 1) hx hb dX10_product_28 (by decide) ?_
        refine lv_iadd hx hb dX10_product_29 ?_
        refine lv_topi (fun y12 hy12 => ?_)
        obtain rfl : (iI (p3.toInt + 1)) = y12 := (hy12.trans (iI_add2 (iI_of _) (by decide : (1 : Int32) = iI 1))).symm
        refine lv_goto (tgt := 37) hx hb dX10_product_30 (by decide) ?_
        have hl : lv_has _ _ ([(0, .long p1), (2, .long p2), (4, .int p3)]) := lv_sub hl [0, 1, 2] rfl
        exact join2 _ _ _ _ ⟨(iI (p3.toInt + 1)), rfl, hP, hD, hS, hl⟩
      · have t_13 : ¬ p2.toInt > v11.toInt := toL_ngt c_13 rfl rfl
        refine lv_lload_n hx hb dX10_product_16 rfl (lv_at hl 0 rfl) ?_
        refine lv_lload_n hx hb dX10_product_17 rfl (lv_at hl 1 rfl) ?_
        refine lv_lmul hx hb dX10_product_18 ?_
        refine lv_topl (fun v13 hv13 => ?_)
        clear hv13
        refine lv_iload hx hb dX10_product_19 (lv_at hl 2 rfl) ?_
        refine lv_i2l hx hb dX10_product_21 rfl ?_
        refine lv_topl (fun v14 hv14 => ?_)
        clear hv14
        refine W.lcmp hx hb dX10_product_22 ?_
        refine lv_if_le (tgt := 33) hx hb dX10_product_23 (by decide) (fun c_23 => ?_) (fun c_23 => ?_)
        · have t_23 : v13.toInt ≤ v14.toInt := toL_le c_23 rfl rfl
          refine lv_lload_n hx hb dX10_product_33 rfl (lv_at hl 0 rfl) ?_
          refine lv_lload_n hx hb dX10_product_34 rfl (lv_at hl 1 rfl) ?_
          refine lv_lmul hx hb dX10_product_35 ?_
          refine lv_topl (fun v15 hv15 => ?_)
          clear hv15
          refine lv_l2i hx hb dX10_product_36 rfl ?_
          refine lv_topi (fun v16 hv16 => ?_)
          clear hv16
          have hl : lv_has _ _ ([(0, .long p1), (2, .long p2), (4, .int p3)]) := lv_sub hl [0, 1, 2] rfl
          exact join2 _ _ _ _ ⟨v16, rfl, hP, hD, hS, hl⟩
        · have t_23 : ¬ v13.toInt ≤ v14.toInt := toL_nle c_23 rfl rfl
          refine lv_iload hx hb dX10_product_26 (lv_at hl 2 rfl) ?_
          refine lv_iconst (v := 1) hx hb dX10_product_28 (by decide) ?_
          refine lv_iadd hx hb dX10_product_29 ?_
          refine lv_topi (fun y17 hy17 => ?_)
          obtain rfl : (iI (p3.toInt + 1)) = y17 := (hy17.trans (iI_add2 (iI_of _) (by decide : (1 : Int32) = iI 1))).symm
          refine lv_goto (tgt := 37) hx hb dX10_product_30 (by decide) ?_
          have hl : lv_has _ _ ([(0, .long p1), (2, .long p2), (4, .int p3)]) := lv_sub hl [0, 1, 2] rfl
          exact join2 _ _ _ _ ⟨(iI (p3.toInt + 1)), rfl, hP, hD, hS, hl⟩
  · rintro H locs ls stk ⟨k0_j2, rfl, hP, hD, hS, hl⟩
    refine W.widen (k := 0) (n := 0) (by decide +kernel) (by decide +kernel) ?_
    exact W.iret (v := k0_j2) hx hb hr (fun t9_ ht hW => ⟨⟨k0_j2, (), rfl, trivial, trivial⟩, hS.F ht⟩) hS.2.2 dX10_product_37
theorem dX10_stretchWay_0 : decode cX10_stretchWay 0 = .ok (.iconst 0, 1) := dk_3 (by decide +kernel)
theorem dX10_stretchWay_1 : decode cX10_stretchWay 1 = .ok (.istore 4, 2) := dk_54 (by decide +kernel)
theorem dX10_stretchWay_3 : decode cX10_stretchWay 3 = .ok (.iload 4, 2) := dk_21 (by decide +kernel)
theorem dX10_stretchWay_5 : decode cX10_stretchWay 5 = .ok (.aload_n 0, 1) := dk_42 (by decide +kernel)
theorem dX10_stretchWay_6 : decode cX10_stretchWay 6 = .ok (.getfield 51, 3) := dk_180 (by decide +kernel)
theorem dX10_stretchWay_9 : decode cX10_stretchWay 9 = .ok (.getfield 93, 3) := dk_180 (by decide +kernel)
theorem dX10_stretchWay_12 : decode cX10_stretchWay 12 = .ok (.if_icmp .ge 53, 3) := dk_162 (by decide +kernel)
theorem dX10_stretchWay_15 : decode cX10_stretchWay 15 = .ok (.aload_n 0, 1) := dk_42 (by decide +kernel)
theorem dX10_stretchWay_16 : decode cX10_stretchWay 16 = .ok (.getfield 51, 3) := dk_180 (by decide +kernel)
theorem dX10_stretchWay_19 : decode cX10_stretchWay 19 = .ok (.iload_n 1, 1) := dk_27 (by decide +kernel)
theorem dX10_stretchWay_20 : decode cX10_stretchWay 20 = .ok (.iload_n 2, 1) := dk_28 (by decide +kernel)
theorem dX10_stretchWay_21 : decode cX10_stretchWay 21 = .ok (.iload 4, 2) := dk_21 (by decide +kernel)
theorem dX10_stretchWay_23 : decode cX10_stretchWay 23 = .ok (.invokevirtual 196, 3) := dk_182 (by decide +kernel)
theorem dX10_stretchWay_26 : decode cX10_stretchWay 26 = .ok (.iload_n 3, 1) := dk_29 (by decide +kernel)
theorem dX10_stretchWay_27 : decode cX10_stretchWay 27 = .ok (.imul, 1) := dk_104 (by decide +kernel)
theorem dX10_stretchWay_28 : decode cX10_stretchWay 28 = .ok (.istore 5, 2) := dk_54 (by decide +kernel)
theorem dX10_stretchWay_30 : decode cX10_stretchWay 30 = .ok (.iload 5, 2) := dk_21 (by decide +kernel)
theorem dX10_stretchWay_32 : decode cX10_stretchWay 32 = .ok (.bipush 99, 2) := dk_16 (by decide +kernel)
theorem dX10_stretchWay_34 : decode cX10_stretchWay 34 = .ok (.if_icmp .gt 10, 3) := dk_163 (by decide +kernel)
theorem dX10_stretchWay_37 : decode cX10_stretchWay 37 = .ok (.iload 5, 2) := dk_21 (by decide +kernel)
theorem dX10_stretchWay_39 : decode cX10_stretchWay 39 = .ok (.bipush (-99), 2) := dk_16 (by decide +kernel)
theorem dX10_stretchWay_41 : decode cX10_stretchWay 41 = .ok (.if_icmp .ge 5, 3) := dk_162 (by decide +kernel)
theorem dX10_stretchWay_44 : decode cX10_stretchWay 44 = .ok (.iconst 0, 1) := dk_3 (by decide +kernel)
theorem dX10_stretchWay_45 : decode cX10_stretchWay 45 = .ok (.ireturn, 1) := dk_172 (by decide +kernel)
theorem dX10_stretchWay_46 : decode cX10_stretchWay 46 = .ok (.aload_n 0, 1) := dk_42 (by decide +kernel)
theorem dX10_stretchWay_47 : decode cX10_stretchWay 47 = .ok (.getfield 51, 3) := dk_180 (by decide +kernel)
theorem dX10_stretchWay_50 : decode cX10_stretchWay 50 = .ok (.iload_n 1, 1) := dk_27 (by decide +kernel)
theorem dX10_stretchWay_51 : decode cX10_stretchWay 51 = .ok (.iload_n 2, 1) := dk_28 (by decide +kernel)
theorem dX10_stretchWay_52 : decode cX10_stretchWay 52 = .ok (.iload 4, 2) := dk_21 (by decide +kernel)
theorem dX10_stretchWay_54 : decode cX10_stretchWay 54 = .ok (.iload 5, 2) := dk_21 (by decide +kernel)
theorem dX10_stretchWay_56 : decode cX10_stretchWay 56 = .ok (.invokevirtual 169, 3) := dk_182 (by decide +kernel)
theorem dX10_stretchWay_59 : decode cX10_stretchWay 59 = .ok (.iinc 4 1, 3) := dk_132 (by decide +kernel)
theorem dX10_stretchWay_62 : decode cX10_stretchWay 62 = .ok (.goto (-59), 3) := dk_167 (by decide +kernel)
theorem dX10_stretchWay_65 : decode cX10_stretchWay 65 = .ok (.iconst 1, 1) := dk_4 (by decide +kernel)
theorem dX10_stretchWay_66 : decode cX10_stretchWay 66 = .ok (.ireturn, 1) := dk_172 (by decide +kernel)
def wsMX10_stretchWay : List Cond := .code yX10_stretchWay cX10_stretchWay 6 (some .boolean) :: ([.fieldLink RX10 51 "OptimaWorks$Worker" "model" "LOptimaWorks$Model;", .fieldLink RX10 93 "OptimaWorks$Model" "variables" "I"] ++ wsX10 ++ wsX100 ++ (wsV RX10 196 RX1 yX1_number wsMX1_number) ++ (wsV RX10 169 RX1 yX1_keepNumber wsMX1_keepNumber))
theorem iwsMX10_stretchWay_in1 : ∀ w ∈ wsX10, w ∈ wsMX10_stretchWay := fun _ h => List.mem_cons_of_mem _ (List.mem_append_left _ (List.mem_append_left _ (List.mem_append_left _ (List.mem_append_right _ h))))
theorem iwsMX10_stretchWay_in10 : ∀ w ∈ wsX100, w ∈ wsMX10_stretchWay := fun _ h => List.mem_cons_of_mem _ (List.mem_append_left _ (List.mem_append_left _ (List.mem_append_right _ h)))
theorem gwsMX10_stretchWay_0 : GoodIn wsMX10_stretchWay (wsV RX10 196 RX1 yX1_number wsMX1_number) := goodIn_sub (fun _ h => List.mem_cons_of_mem _ (List.mem_append_left _ (List.mem_append_right _ h))) (gdV (by decide +kernel) gdwsMX1_number)
theorem gwsMX10_stretchWay_1 : GoodIn wsMX10_stretchWay (wsV RX10 169 RX1 yX1_keepNumber wsMX1_keepNumber) := goodIn_sub (fun _ h => List.mem_cons_of_mem _ (List.mem_append_right _ h)) (gdV (by decide +kernel) gdwsMX1_keepNumber)
theorem gdwsMX10_stretchWay : wsMX10_stretchWay.all goodWord = true := gdC rfl (gdA (gdA (gdA (gdA (by decide +kernel : ([.fieldLink RX10 51 "OptimaWorks$Worker" "model" "LOptimaWorks$Model;", .fieldLink RX10 93 "OptimaWorks$Model" "variables" "I"] : List Cond).all goodWord = true) gdwsX10) gdwsX100) (gdV (by decide +kernel) gdwsMX1_number)) (gdV (by decide +kernel) gdwsMX1_keepNumber))
theorem hm_m_X10_stretchWay_0 : (.fieldLink RX10 51 "OptimaWorks$Worker" "model" "LOptimaWorks$Model;" : Cond) ∈ wsMX10_stretchWay := by decide +kernel
set_option maxHeartbeats 4000000 in
set_option maxRecDepth 100000 in
/-- a way times a number -/
theorem m_X10_stretchWay (l : Launch) (dC : Nat → ClassId) (dI : Nat → Nat → Nat) (hL : Nat → Nat) (aL : Nat → Nat) (kL : Nat → ClassId) (hT : Nat → Nat) (hM : Nat → Nat) (xL_tree : Value) (iL_names : Int32) (gL_key : Nat → Int64) (fL_kind : Nat → Int32) (fL_one : Nat → Int32) (fL_two : Nat → Int32) (fL_base : Nat → Int32) (iL_params : Int32) (fL_paramOver : Nat → Int32) (dL_paramOver : Nat) (nL_params : Nat) (fL_paramUnder : Nat → Int32) (dL_paramUnder : Nat) (nL_pu : Nat) (gL_over : Nat → Int64) (gL_under : Nat → Int64) (fL_bound : Nat → Int32) (iL_nameAt : Int32) (iL_startAt : Int32) (iL_steps : Int32) (jL_scaleOver : Int64) (jL_scaleUnder : Int64) (aM : Nat → Nat) (kM : Nat → ClassId) (iM_stands : Int32) (iM_variables : Int32) (iM_rows : Int32) (iM_goals : Int32) (iM_differents : Int32) (iM_cases : Int32) (fM_from : Nat → Int32) (fM_to : Nat → Int32) (fM_whole : Nat → Int32) (fM_ways : Nat → Int32) (iM_plainRows : Int32) (fM_plainRow : Nat → Int32) (fM_kept : Nat → Int32) (fM_goalOver : Nat → Int32) (fM_goalUnder : Nat → Int32) (fM_goalMax : Nat → Int32) (fM_different : Nat → Int32) (p1 : Int32) (p2 : Int32) (p3 : Int32) (b_iL_names : 0 ≤ iL_names.toInt ∧ iL_names.toInt ≤ 40) (b_fL_kind : ∀ q : Nat, 0 ≤ (fL_kind q).toInt ∧ (fL_kind q).toInt ≤ 5) (b_fL_two : ∀ q : Nat, (-1) ≤ (fL_two q).toInt ∧ (fL_two q).toInt ≤ 39) (b_fL_base : ∀ q : Nat, 0 ≤ (fL_base q).toInt ∧ (fL_base q).toInt ≤ 2560) (b_iL_params : 0 ≤ iL_params.toInt ∧ iL_params.toInt ≤ 2560) (b_nL_params : 0 ≤ nL_params ∧ nL_params ≤ 2560) (b_nm : NmL iL_names fL_kind fL_one fL_two fL_base nL_params) (b_pm : iL_params.toInt ≤ ((nL_params : Nat) : Int)) (b_pu : nL_pu = nL_params) (b_iM_stands : 0 ≤ iM_stands.toInt ∧ iM_stands.toInt ≤ 1) (b_iM_variables : 0 ≤ iM_variables.toInt ∧ iM_variables.toInt ≤ 8) (b_iM_rows : 0 ≤ iM_rows.toInt ∧ iM_rows.toInt ≤ 12) (b_iM_goals : 0 ≤ iM_goals.toInt ∧ iM_goals.toInt ≤ 3) (b_iM_differents : 0 ≤ iM_differents.toInt ∧ iM_differents.toInt ≤ 8) (b_iM_cases : 0 ≤ iM_cases.toInt ∧ iM_cases.toInt ≤ 200000) (b_fM_ways : ∀ q : Nat, 0 ≤ (fM_ways q).toInt ∧ (fM_ways q).toInt ≤ 3) (b_iM_plainRows : 0 ≤ iM_plainRows.toInt ∧ iM_plainRows.toInt ≤ 12) (b_fM_plainRow : ∀ q : Nat, 0 ≤ (fM_plainRow q).toInt ∧ (fM_plainRow q).toInt ≤ 11) (b_pr : iM_plainRows.toInt ≤ iM_rows.toInt) (b_p1 : 0 ≤ p1.toInt ∧ p1.toInt ≤ 11) (b_p2 : 0 ≤ p2.toInt ∧ p2.toInt ≤ 2) (sz : Nat) : Met l yX10_stretchWay wsMX10_stretchWay ({ frames := 1, cells := 0, slots := 0, locals := 24 }) (va_Pc [.ref (hL 0), .int p1, .int p2, .int p3] (fun U => U.heap.size = sz ∧ va_P (dC, dI) vwCl (WL hL aL kL hT hM xL_tree iL_names gL_key fL_kind fL_one fL_two fL_base iL_params fL_paramOver dL_paramOver nL_params fL_paramUnder dL_paramUnder nL_pu gL_over gL_under fL_bound iL_nameAt iL_startAt iL_steps jL_scaleOver jL_scaleUnder ++ (WM hM aM kM iM_stands iM_variables iM_rows iM_goals iM_differents iM_cases fM_from fM_to fM_whole fM_ways iM_plainRows fM_plainRow fM_kept fM_goalOver fM_goalUnder fM_goalMax fM_different)) U.heap ∧ va_K (dC, dI) vwCl (tL kL ++ (tM kM)) U ∧ va_D (fun _ => True) (WL hL aL kL hT hM xL_tree iL_names gL_key fL_kind fL_one fL_two fL_base iL_params fL_paramOver dL_paramOver nL_params fL_paramUnder dL_paramUnder nL_pu gL_over gL_under fL_bound iL_nameAt iL_startAt iL_steps jL_scaleOver jL_scaleUnder ++ (WM hM aM kM iM_stands iM_variables iM_rows iM_goals iM_differents iM_cases fM_from fM_to fM_whole fM_ways iM_plainRows fM_plainRow fM_kept fM_goalOver fM_goalUnder fM_goalMax fM_different)))) (va_Qi (fun (r : Int32) (u : Nat → Int32) => (0 ≤ r.toInt ∧ r.toInt ≤ 1)) (fun (u : Nat → Int32) t => va_P (dC, dI) vwCl (WL hL aL kL hT hM xL_tree iL_names gL_key fL_kind fL_one fL_two fL_base iL_params fL_paramOver dL_paramOver nL_params fL_paramUnder dL_paramUnder nL_pu gL_over gL_under fL_bound iL_nameAt iL_startAt iL_steps jL_scaleOver jL_scaleUnder ++ (WM hM aM kM iM_stands iM_variables iM_rows iM_goals iM_differents iM_cases fM_from fM_to fM_whole fM_ways iM_plainRows fM_plainRow u fM_goalOver fM_goalUnder fM_goalMax fM_different)) t.heap ∧ va_D (va_A (WL hL aL kL hT hM xL_tree iL_names gL_key fL_kind fL_one fL_two fL_base iL_params fL_paramOver dL_paramOver nL_params fL_paramUnder dL_paramUnder nL_pu gL_over gL_under fL_bound iL_nameAt iL_startAt iL_steps jL_scaleOver jL_scaleUnder ++ (WM hM aM kM iM_stands iM_variables iM_rows iM_goals iM_differents iM_cases fM_from fM_to fM_whole fM_ways iM_plainRows fM_plainRow fM_kept fM_goalOver fM_goalUnder fM_goalMax fM_different)) sz) (WL hL aL kL hT hM xL_tree iL_names gL_key fL_kind fL_one fL_two fL_base iL_params fL_paramOver dL_paramOver nL_params fL_paramUnder dL_paramUnder nL_pu gL_over gL_under fL_bound iL_nameAt iL_startAt iL_steps jL_scaleOver jL_scaleUnder ++ (WM hM aM kM iM_stands iM_variables iM_rows iM_goals iM_differents iM_cases fM_from fM_to fM_whole fM_ways iM_plainRows fM_plainRow u fM_goalOver fM_goalUnder fM_goalMax fM_different))) (va_A (WL hL aL kL hT hM xL_tree iL_names gL_key fL_kind fL_one fL_two fL_base iL_params fL_paramOver dL_paramOver nL_params fL_paramUnder dL_paramUnder nL_pu gL_over gL_under fL_bound iL_nameAt iL_startAt iL_steps jL_scaleOver jL_scaleUnder ++ (WM hM aM kM iM_stands iM_variables iM_rows iM_goals iM_differents iM_cases fM_from fM_to fM_whole fM_ways iM_plainRows fM_plainRow fM_kept fM_goalOver fM_goalUnder fM_goalMax fM_different)) sz)) 0 0 (va_A (WL hL aL kL hT hM xL_tree iL_names gL_key fL_kind fL_one fL_two fL_base iL_params fL_paramOver dL_paramOver nL_params fL_paramUnder dL_paramUnder nL_pu gL_over gL_under fL_bound iL_nameAt iL_startAt iL_steps jL_scaleOver jL_scaleUnder ++ (WM hM aM kM iM_stands iM_variables iM_rows iM_goals iM_differents iM_cases fM_from fM_to fM_whole fM_ways iM_plainRows fM_plainRow fM_kept fM_goalOver fM_goalUnder fM_goalMax fM_different)) sz) := by
  refine Met.ofW (cc := cX10_stretchWay) (maxL := 6) (ret := (some .boolean)) (by decide) rfl ?_
  intro p e s m args below meth c s₁ B hml hv
  obtain ⟨rfl, hsz, hP, hK, hD0⟩ := hv
  have hx := B.exec
  have hb := B.bytes
  have hr := B.returns
  have hts := atoms_spec (ws := wsMX10_stretchWay) B.pre
  have hown : s.vm.findClass RX10 = some m.cls := findClass_of_methodNamed B.named
  have hlocks := B.notSynchronized
  subst hsz
  have hD := hD0.self (sz := s.heap.size)
  generalize hAe : va_A (WL hL aL kL hT hM xL_tree iL_names gL_key fL_kind fL_one fL_two fL_base iL_params fL_paramOver dL_paramOver nL_params fL_paramUnder dL_paramUnder nL_pu gL_over gL_under fL_bound iL_nameAt iL_startAt iL_steps jL_scaleOver jL_scaleUnder ++ (WM hM aM kM iM_stands iM_variables iM_rows iM_goals iM_differents iM_cases fM_from fM_to fM_whole fM_ways iM_plainRows fM_plainRow fM_kept fM_goalOver fM_goalUnder fM_goalMax fM_different)) s.heap.size = A at hD ⊢
  have hA : ∀ q : Nat, s.heap.size ≤ q → A q := fun q h => by rw [← hAe]; exact Or.inr h
  have hS : va_S A s.heap s.heap [] := va_S.rf
  have hl := lv_entry ([.ref (hL 0), .int p1, .int p2, .int p3]) (n := 6) (Nat.le_of_ble_eq_true rfl)
  rw [lg_entry_eq]
  generalize (lg_sl ([.ref (hL 0), .int p1, .int p2, .int p3]) ++ List.replicate (6 - (lg_sl ([.ref (hL 0), .int p1, .int p2, .int p3])).length) Slot.unset).toArray = ls at hl ⊢
  have hl : lv_has ls 6 [(0, .ref (hL 0)), (1, .int p1), (2, .int p2), (3, .int p3)] := hl
  refine lv_iconst (v := 0) hx hb dX10_stretchWay_0 (by decide) ?_
  refine lv_istore hx hb dX10_stretchWay_1 hl (by decide) rfl (fun ls (hl : lv_has ls _ ([(4, .int 0), (0, .ref (hL 0)), (1, .int p1), (2, .int p2), (3, .int p3)])) => ?_)
  have hl : lv_has _ _ ([(4, .int 0), (0, .ref (hL 0)), (1, .int p1), (2, .int p2), (3, .int p3)]) := lv_sub hl [0, 1, 2, 3, 4] rfl
  refine (fun (loop : ∀ (n9 : Nat) (fM_kept_x3 : Nat → Int32) (l4_x3 : Int32) (H : Heap) (locs : List Loc) (ls : Array Slot), (0 ≤ l4_x3.toInt ∧ l4_x3.toInt ≤ 8) → (8 - l4_x3.toInt < ((n9 : Nat) : Int)) → va_P (dC, dI) vwCl (WL hL aL kL hT hM xL_tree iL_names gL_key fL_kind fL_one fL_two fL_base iL_params fL_paramOver dL_paramOver nL_params fL_paramUnder dL_paramUnder nL_pu gL_over gL_under fL_bound iL_nameAt iL_startAt iL_steps jL_scaleOver jL_scaleUnder ++ (WM hM aM kM iM_stands iM_variables iM_rows iM_goals iM_differents iM_cases fM_from fM_to fM_whole fM_ways iM_plainRows fM_plainRow fM_kept_x3 fM_goalOver fM_goalUnder fM_goalMax fM_different)) H → va_D A (WL hL aL kL hT hM xL_tree iL_names gL_key fL_kind fL_one fL_two fL_base iL_params fL_paramOver dL_paramOver nL_params fL_paramUnder dL_paramUnder nL_pu gL_over gL_under fL_bound iL_nameAt iL_startAt iL_steps jL_scaleOver jL_scaleUnder ++ (WM hM aM kM iM_stands iM_variables iM_rows iM_goals iM_differents iM_cases fM_from fM_to fM_whole fM_ways iM_plainRows fM_plainRow fM_kept_x3 fM_goalOver fM_goalUnder fM_goalMax fM_different)) → va_S A s.heap H locs → lv_has ls 6 [(4, .int l4_x3), (0, .ref (hL 0)), (1, .int p1), (2, .int p2), (3, .int p3)] → W p l e _ s m _ below meth c H locs 0 0 _ (F0 m 3 ls [])) => loop (9) fM_kept 0 _ _ _ (show 0 ≤ (0 : Int32).toInt ∧ (0 : Int32).toInt ≤ 8 from by decide) ((by have e9 : (0 : Int32).toInt = 0 := (by decide : (0 : Int32).toInt = 0); omega)) hP hD hS hl) ?_
  intro n9
  induction n9 with
  | zero => intro fM_kept_x3 l4_x3 H locs ls b_l4_x3 hf9; exact False.elim (by omega)
  | succ n9 ihx3 =>
    intro fM_kept_x3 l4_x3 H locs ls b_l4_x3 hfx3 hP hD hS hl
    refine lv_iload hx hb dX10_stretchWay_3 (lv_at hl 0 rfl) ?_
    refine lv_aload_n hx hb dX10_stretchWay_5 rfl (lv_at hl 1 rfl) ?_
    refine va_get (D := (dC, dI)) (ci := 10) (v := .ref (hM 0)) (C := RX10) (T := TX10) (N := 20) hx hb hts iwsMX10_stretchWay_in10 hown hK hP 0 rfl rfl 1 (by decide) (hts _ hm_m_X10_stretchWay_0) (fun _ h9 => h9) rfl dX10_stretchWay_6 ?_
    refine va_get (D := (dC, dI)) (ci := 1) (v := .int iM_variables) (C := RX1) (T := TX1) (N := 17) hx hb hts iwsMX10_stretchWay_in1 hown hK hP 11 rfl rfl 1 (by decide) (hts (.fieldLink RX10 93 "OptimaWorks$Model" "variables" "I") (by decide +kernel)) (fun _ h9 => h9) rfl dX10_stretchWay_9 ?_
    refine lv_icmp_ge (tgt := 65) hx hb dX10_stretchWay_12 (by decide) (fun c_12 => ?_) (fun c_12 => ?_)
    · have t_12 : l4_x3.toInt ≥ iM_variables.toInt := toI_ge c_12 rfl rfl
      refine lv_iconst (v := 1) hx hb dX10_stretchWay_65 (by decide) ?_
      refine W.widen (k := 0) (n := 0) (by decide +kernel) (by decide +kernel) ?_
      exact W.zret (v := 1) hx hb hr rfl (fun t9_ ht hW => ⟨⟨(1 : Int32), fM_kept_x3, rfl, (show 0 ≤ (1 : Int32).toInt ∧ (1 : Int32).toInt ≤ 1 from by decide), by rw [ht]; exact hP, hD⟩, hS.F ht⟩) hS.2.2 dX10_stretchWay_66
    · have t_12 : ¬ l4_x3.toInt ≥ iM_variables.toInt := toI_nge c_12 rfl rfl
      refine lv_aload_n hx hb dX10_stretchWay_15 rfl (lv_at hl 1 rfl) ?_
      refine va_get (D := (dC, dI)) (ci := 10) (v := .ref (hM 0)) (C := RX10) (T := TX10) (N := 20) hx hb hts iwsMX10_stretchWay_in10 hown hK hP 0 rfl rfl 1 (by decide) (hts _ hm_m_X10_stretchWay_0) (fun _ h9 => h9) rfl dX10_stretchWay_16 ?_
      refine lv_iload_n hx hb dX10_stretchWay_19 rfl (lv_at hl 2 rfl) ?_
      refine lv_iload_n hx hb dX10_stretchWay_20 rfl (lv_at hl 3 rfl) ?_
      refine lv_iload hx hb dX10_stretchWay_21 (lv_at hl 0 rfl) ?_
      have p9 := cj_2_1 (WL hL aL kL hT hM xL_tree iL_names gL_key fL_kind fL_one fL_two fL_base iL_params fL_paramOver dL_paramOver nL_params fL_paramUnder dL_paramUnder nL_pu gL_over gL_under fL_bound iL_nameAt iL_startAt iL_steps jL_scaleOver jL_scaleUnder) (WM hM aM kM iM_stands iM_variables iM_rows iM_goals iM_differents iM_cases fM_from fM_to fM_whole fM_ways iM_plainRows fM_plainRow fM_kept_x3 fM_goalOver fM_goalUnder fM_goalMax fM_different)
      have hPc := hP.mem (fun q h => p9.mem_iff.mpr (List.mem_append_left _ h))
      have hDc := (hD.perm p9).left
      have hKc : va_K (dC, dI) vwCl (tM kM) _ := hK.sub [10, 11, 12, 13, 14, 15, 16, 17, 18, 19] rfl
      have hFc := freeG p9 hD hS hA
      refine va_calli (va_runV (As := [.int p1, .int p2, .int l4_x3]) (rest := []) ⟨hx, hb, hml, hown, hts⟩ (m_X1_number l dC dI hM aM kM iM_stands iM_variables iM_rows iM_goals iM_differents iM_cases fM_from fM_to fM_whole fM_ways iM_plainRows fM_plainRow fM_kept_x3 fM_goalOver fM_goalUnder fM_goalMax fM_different p1 p2 l4_x3 (b_iM_stands) (b_iM_variables) (b_iM_rows) (b_iM_goals) (b_iM_differents) (b_iM_cases) b_fM_ways (b_iM_plainRows) b_fM_plainRow (by first | with_reducible assumption | omega | assumption) (b_p1) (b_p2) (b_l4_x3) H.size) (cwV 3 hts gwsMX10_stretchWay_0 rfl rfl rfl hd_yX1_number_RX1 (by decide +kernel)) (fz_pre (va_recv hK hP (ci := 1) (q0 := 11) rfl rfl) hPc hKc hDc) rfl rfl hl.1 rfl (lv_room (Nat.le_of_ble_eq_true rfl)) dX10_stretchWay_23 (by decide +kernel)) hS (fun q _ h => hFc q h) hFc (fun r7 u t9_ H locs ht hvm hw9 hB9 hz1 hk1 hS => ?_)
      clear hw9
      have p8 := p9
      obtain ⟨hP, hD⟩ := frameG p9 p8 hP hD hk1 hFc (fz_P ht hB9.1) hB9.2
      refine lv_iload_n hx hb dX10_stretchWay_26 rfl (lv_at hl 4 rfl) ?_
      refine lv_imul hx hb dX10_stretchWay_27 ?_
      refine lv_topi (fun y8 hy8 => ?_)
      obtain rfl : (iI (r7.toInt * p3.toInt)) = y8 := (hy8.trans (iI_mul2 (iI_of _) (iI_of _))).symm
      refine lv_istore hx hb dX10_stretchWay_28 hl (by decide) rfl (fun ls (hl : lv_has ls _ ([(5, .int (iI (r7.toInt * p3.toInt))), (4, .int l4_x3), (0, .ref (hL 0)), (1, .int p1), (2, .int p2), (3, .int p3)])) => ?_)
      refine lv_iload hx hb dX10_stretchWay_30 (lv_at hl 0 rfl) ?_
      refine lv_bipush (v := 99) hx hb dX10_stretchWay_32 (by decide) ?_
      refine lv_icmp_gt (tgt := 44) hx hb dX10_stretchWay_34 (by decide) (fun c_34 => ?_) (fun c_34 => ?_)
      · first | (have t_34 : (r7.toInt * p3.toInt) > 99 := toI_gt c_34 (iI_t (by omega) (by omega)) (by decide : (99 : Int32).toInt = 99)) | skip
        refine lv_iconst (v := 0) hx hb dX10_stretchWay_44 (by decide) ?_
        refine W.widen (k := 0) (n := 0) (by decide +kernel) (by decide +kernel) ?_
        exact W.zret (v := 0) hx hb hr rfl (fun t9_ ht hW => ⟨⟨(0 : Int32), fM_kept_x3, rfl, (show 0 ≤ (0 : Int32).toInt ∧ (0 : Int32).toInt ≤ 1 from by decide), by rw [ht]; exact hP, hD⟩, hS.F ht⟩) hS.2.2 dX10_stretchWay_45
      · first | (have t_34 : ¬ (r7.toInt * p3.toInt) > 99 := toI_ngt c_34 (iI_t (by omega) (by omega)) (by decide : (99 : Int32).toInt = 99)) | skip
        refine lv_iload hx hb dX10_stretchWay_37 (lv_at hl 0 rfl) ?_
        refine lv_bipush (v := (-99)) hx hb dX10_stretchWay_39 (by decide) ?_
        refine lv_icmp_ge (tgt := 46) hx hb dX10_stretchWay_41 (by decide) (fun c_41 => ?_) (fun c_41 => ?_)
        · first | (have t_41 : (r7.toInt * p3.toInt) ≥ (-99) := toI_ge c_41 (iI_t (by omega) (by omega)) (by decide : ((-99) : Int32).toInt = (-99))) | skip
          refine lv_aload_n hx hb dX10_stretchWay_46 rfl (lv_at hl 2 rfl) ?_
          refine va_get (D := (dC, dI)) (ci := 10) (v := .ref (hM 0)) (C := RX10) (T := TX10) (N := 20) hx hb hts iwsMX10_stretchWay_in10 hown hK hP 0 rfl rfl 1 (by decide) (hts _ hm_m_X10_stretchWay_0) (fun _ h9 => h9) rfl dX10_stretchWay_47 ?_
          refine lv_iload_n hx hb dX10_stretchWay_50 rfl (lv_at hl 3 rfl) ?_
          refine lv_iload_n hx hb dX10_stretchWay_51 rfl (lv_at hl 4 rfl) ?_
          refine lv_iload hx hb dX10_stretchWay_52 (lv_at hl 1 rfl) ?_
          refine lv_iload hx hb dX10_stretchWay_54 (lv_at hl 0 rfl) ?_
          have p9 := cj_2_1 (WL hL aL kL hT hM xL_tree iL_names gL_key fL_kind fL_one fL_two fL_base iL_params fL_paramOver dL_paramOver nL_params fL_paramUnder dL_paramUnder nL_pu gL_over gL_under fL_bound iL_nameAt iL_startAt iL_steps jL_scaleOver jL_scaleUnder) (WM hM aM kM iM_stands iM_variables iM_rows iM_goals iM_differents iM_cases fM_from fM_to fM_whole fM_ways iM_plainRows fM_plainRow fM_kept_x3 fM_goalOver fM_goalUnder fM_goalMax fM_different)
          have hPc := hP.mem (fun q h => p9.mem_iff.mpr (List.mem_append_left _ h))
          have hDc := (hD.perm p9).left
          have hKc : va_K (dC, dI) vwCl (tM kM) _ := hK.sub [10, 11, 12, 13, 14, 15, 16, 17, 18, 19] rfl
          have hFc := freeG p9 hD hS hA
          refine va_callv (va_runV (As := [.int p1, .int p2, .int l4_x3, .int (iI (r7.toInt * p3.toInt))]) (rest := []) ⟨hx, hb, hml, hown, hts⟩ (m_X1_keepNumber l dC dI hM aM kM iM_stands iM_variables iM_rows iM_goals iM_differents iM_cases fM_from fM_to fM_whole fM_ways iM_plainRows fM_plainRow fM_kept_x3 fM_goalOver fM_goalUnder fM_goalMax fM_different p1 p2 l4_x3 (iI (r7.toInt * p3.toInt)) (b_iM_stands) (b_iM_variables) (b_iM_rows) (b_iM_goals) (b_iM_differents) (b_iM_cases) b_fM_ways (b_iM_plainRows) b_fM_plainRow (by first | with_reducible assumption | omega | assumption) (b_p1) (b_p2) (b_l4_x3) H.size) (cwV 4 hts gwsMX10_stretchWay_1 rfl rfl rfl hd_yX1_keepNumber_RX1 (by decide +kernel)) (fz_pre (va_recv hK hP (ci := 1) (q0 := 11) rfl rfl) hPc hKc hDc) rfl rfl hl.1 rfl (lv_room (Nat.le_of_ble_eq_true rfl)) dX10_stretchWay_56 (by decide +kernel)) hS (fun q _ h => hFc q h) hFc (fun fM_kept_9 t9_ H locs ht hvm hw9 hB9 hz1 hk1 hS => ?_)
          clear hw9
          have p8 := cj_2_1 (WL hL aL kL hT hM xL_tree iL_names gL_key fL_kind fL_one fL_two fL_base iL_params fL_paramOver dL_paramOver nL_params fL_paramUnder dL_paramUnder nL_pu gL_over gL_under fL_bound iL_nameAt iL_startAt iL_steps jL_scaleOver jL_scaleUnder) (WM hM aM kM iM_stands iM_variables iM_rows iM_goals iM_differents iM_cases fM_from fM_to fM_whole fM_ways iM_plainRows fM_plainRow fM_kept_9 fM_goalOver fM_goalUnder fM_goalMax fM_different)
          obtain ⟨hP, hD⟩ := frameG p9 p8 hP hD hk1 hFc (fz_P ht hB9.1) hB9.2
          refine lv_iinc (v := (iI (l4_x3.toInt + 1))) hx hb dX10_stretchWay_59 hl (k := 1) rfl (iI_add2 (iI_of _) (by decide : (1 : Int32) = iI 1)) (by decide) rfl (fun ls (hl : lv_has ls _ ([(4, .int (iI (l4_x3.toInt + 1))), (5, .int (iI (r7.toInt * p3.toInt))), (0, .ref (hL 0)), (1, .int p1), (2, .int p2), (3, .int p3)])) => ?_)
          refine lv_goto (tgt := 3) hx hb dX10_stretchWay_62 (by decide) ?_
          have hl : lv_has _ _ ([(4, .int (iI (l4_x3.toInt + 1))), (0, .ref (hL 0)), (1, .int p1), (2, .int p2), (3, .int p3)]) := lv_sub hl [0, 2, 3, 4, 5] rfl
          exact ihx3 fM_kept_9 (iI (l4_x3.toInt + 1)) _ _ _ (iI_rng (Int.le_trans (by decide) (Int.add_le_add (b_l4_x3.1) (Int.le_refl _))) (by omega) (by decide) (by decide)) (by have e9 : ((iI (l4_x3.toInt + 1))).toInt = (l4_x3.toInt + 1) := (iI_t (Int.le_trans (by decide) (Int.add_le_add (b_l4_x3.1) (Int.le_refl _))) (Int.le_trans (Int.add_le_add (b_l4_x3.2) (Int.le_refl _)) (by decide))); omega) hP hD hS hl
        · first | (have t_41 : ¬ (r7.toInt * p3.toInt) ≥ (-99) := toI_nge c_41 (iI_t (by omega) (by omega)) (by decide : ((-99) : Int32).toInt = (-99))) | skip
          refine lv_iconst (v := 0) hx hb dX10_stretchWay_44 (by decide) ?_
          refine W.widen (k := 0) (n := 0) (by decide +kernel) (by decide +kernel) ?_
          exact W.zret (v := 0) hx hb hr rfl (fun t9_ ht hW => ⟨⟨(0 : Int32), fM_kept_x3, rfl, (show 0 ≤ (0 : Int32).toInt ∧ (0 : Int32).toInt ≤ 1 from by decide), by rw [ht]; exact hP, hD⟩, hS.F ht⟩) hS.2.2 dX10_stretchWay_45
theorem dX10_scaled_0 : decode cX10_scaled 0 = .ok (.aload_n 0, 1) := dk_42 (by decide +kernel)
theorem dX10_scaled_1 : decode cX10_scaled 1 = .ok (.getfield 36, 3) := dk_180 (by decide +kernel)
theorem dX10_scaled_4 : decode cX10_scaled 4 = .ok (.iload_n 3, 1) := dk_29 (by decide +kernel)
theorem dX10_scaled_5 : decode cX10_scaled 5 = .ok (.laload, 1) := dk_47 (by decide +kernel)
theorem dX10_scaled_6 : decode cX10_scaled 6 = .ok (.invokestatic 179, 3) := dk_184 (by decide +kernel)
theorem dX10_scaled_9 : decode cX10_scaled 9 = .ok (.lstore 5, 2) := dk_55 (by decide +kernel)
theorem dX10_scaled_11 : decode cX10_scaled 11 = .ok (.lload 5, 2) := dk_22 (by decide +kernel)
theorem dX10_scaled_13 : decode cX10_scaled 13 = .ok (.lconst 0, 1) := dk_9 (by decide +kernel)
theorem dX10_scaled_14 : decode cX10_scaled 14 = .ok (.lcmp, 1) := dk_148 (by decide +kernel)
theorem dX10_scaled_15 : decode cX10_scaled 15 = .ok (.ifCond .ne 5, 3) := dk_154 (by decide +kernel)
theorem dX10_scaled_18 : decode cX10_scaled 18 = .ok (.iconst 0, 1) := dk_3 (by decide +kernel)
theorem dX10_scaled_19 : decode cX10_scaled 19 = .ok (.ireturn, 1) := dk_172 (by decide +kernel)
theorem dX10_scaled_20 : decode cX10_scaled 20 = .ok (.iconst 1, 1) := dk_4 (by decide +kernel)
theorem dX10_scaled_21 : decode cX10_scaled 21 = .ok (.istore 7, 2) := dk_54 (by decide +kernel)
theorem dX10_scaled_23 : decode cX10_scaled 23 = .ok (.aload_n 0, 1) := dk_42 (by decide +kernel)
theorem dX10_scaled_24 : decode cX10_scaled 24 = .ok (.getfield 155, 3) := dk_180 (by decide +kernel)
theorem dX10_scaled_27 : decode cX10_scaled 27 = .ok (.lconst 0, 1) := dk_9 (by decide +kernel)
theorem dX10_scaled_28 : decode cX10_scaled 28 = .ok (.lcmp, 1) := dk_148 (by decide +kernel)
theorem dX10_scaled_29 : decode cX10_scaled 29 = .ok (.ifCond .ne 22, 3) := dk_154 (by decide +kernel)
theorem dX10_scaled_32 : decode cX10_scaled 32 = .ok (.aload_n 0, 1) := dk_42 (by decide +kernel)
theorem dX10_scaled_33 : decode cX10_scaled 33 = .ok (.aload_n 0, 1) := dk_42 (by decide +kernel)
theorem dX10_scaled_34 : decode cX10_scaled 34 = .ok (.getfield 39, 3) := dk_180 (by decide +kernel)
theorem dX10_scaled_37 : decode cX10_scaled 37 = .ok (.iload_n 3, 1) := dk_29 (by decide +kernel)
theorem dX10_scaled_38 : decode cX10_scaled 38 = .ok (.laload, 1) := dk_47 (by decide +kernel)
theorem dX10_scaled_39 : decode cX10_scaled 39 = .ok (.putfield 155, 3) := dk_181 (by decide +kernel)
theorem dX10_scaled_42 : decode cX10_scaled 42 = .ok (.aload_n 0, 1) := dk_42 (by decide +kernel)
theorem dX10_scaled_43 : decode cX10_scaled 43 = .ok (.lload 5, 2) := dk_22 (by decide +kernel)
theorem dX10_scaled_45 : decode cX10_scaled 45 = .ok (.putfield 159, 3) := dk_181 (by decide +kernel)
theorem dX10_scaled_48 : decode cX10_scaled 48 = .ok (.goto 158, 3) := dk_167 (by decide +kernel)
theorem dX10_scaled_51 : decode cX10_scaled 51 = .ok (.aload_n 0, 1) := dk_42 (by decide +kernel)
theorem dX10_scaled_52 : decode cX10_scaled 52 = .ok (.getfield 155, 3) := dk_180 (by decide +kernel)
theorem dX10_scaled_55 : decode cX10_scaled 55 = .ok (.aload_n 0, 1) := dk_42 (by decide +kernel)
theorem dX10_scaled_56 : decode cX10_scaled 56 = .ok (.getfield 39, 3) := dk_180 (by decide +kernel)
theorem dX10_scaled_59 : decode cX10_scaled 59 = .ok (.iload_n 3, 1) := dk_29 (by decide +kernel)
theorem dX10_scaled_60 : decode cX10_scaled 60 = .ok (.laload, 1) := dk_47 (by decide +kernel)
theorem dX10_scaled_61 : decode cX10_scaled 61 = .ok (.invokestatic 183, 3) := dk_184 (by decide +kernel)
theorem dX10_scaled_64 : decode cX10_scaled 64 = .ok (.lstore 8, 2) := dk_55 (by decide +kernel)
theorem dX10_scaled_66 : decode cX10_scaled 66 = .ok (.lload 5, 2) := dk_22 (by decide +kernel)
theorem dX10_scaled_68 : decode cX10_scaled 68 = .ok (.aload_n 0, 1) := dk_42 (by decide +kernel)
theorem dX10_scaled_69 : decode cX10_scaled 69 = .ok (.getfield 159, 3) := dk_180 (by decide +kernel)
theorem dX10_scaled_72 : decode cX10_scaled 72 = .ok (.invokestatic 183, 3) := dk_184 (by decide +kernel)
theorem dX10_scaled_75 : decode cX10_scaled 75 = .ok (.lstore 10, 2) := dk_55 (by decide +kernel)
theorem dX10_scaled_77 : decode cX10_scaled 77 = .ok (.iload_n 3, 1) := dk_29 (by decide +kernel)
theorem dX10_scaled_78 : decode cX10_scaled 78 = .ok (.ifCond .ne 8, 3) := dk_154 (by decide +kernel)
theorem dX10_scaled_81 : decode cX10_scaled 81 = .ok (.ldc 187, 2) := dk_18 (by decide +kernel)
theorem dX10_scaled_83 : decode cX10_scaled 83 = .ok (.goto 5, 3) := dk_167 (by decide +kernel)
theorem dX10_scaled_86 : decode cX10_scaled 86 = .ok (.bipush 99, 2) := dk_16 (by decide +kernel)
theorem dX10_scaled_88 : decode cX10_scaled 88 = .ok (.istore 12, 2) := dk_54 (by decide +kernel)
theorem dX10_scaled_90 : decode cX10_scaled 90 = .ok (.aload_n 0, 1) := dk_42 (by decide +kernel)
theorem dX10_scaled_91 : decode cX10_scaled 91 = .ok (.getfield 155, 3) := dk_180 (by decide +kernel)
theorem dX10_scaled_94 : decode cX10_scaled 94 = .ok (.lload 8, 2) := dk_22 (by decide +kernel)
theorem dX10_scaled_96 : decode cX10_scaled 96 = .ok (.ldiv, 1) := dk_109 (by decide +kernel)
theorem dX10_scaled_97 : decode cX10_scaled 97 = .ok (.lload 5, 2) := dk_22 (by decide +kernel)
theorem dX10_scaled_99 : decode cX10_scaled 99 = .ok (.lload 10, 2) := dk_22 (by decide +kernel)
theorem dX10_scaled_101 : decode cX10_scaled 101 = .ok (.ldiv, 1) := dk_109 (by decide +kernel)
theorem dX10_scaled_102 : decode cX10_scaled 102 = .ok (.iload 12, 2) := dk_21 (by decide +kernel)
theorem dX10_scaled_104 : decode cX10_scaled 104 = .ok (.invokestatic 188, 3) := dk_184 (by decide +kernel)
theorem dX10_scaled_107 : decode cX10_scaled 107 = .ok (.istore 7, 2) := dk_54 (by decide +kernel)
theorem dX10_scaled_109 : decode cX10_scaled 109 = .ok (.aload_n 0, 1) := dk_42 (by decide +kernel)
theorem dX10_scaled_110 : decode cX10_scaled 110 = .ok (.getfield 159, 3) := dk_180 (by decide +kernel)
theorem dX10_scaled_113 : decode cX10_scaled 113 = .ok (.lload 10, 2) := dk_22 (by decide +kernel)
theorem dX10_scaled_115 : decode cX10_scaled 115 = .ok (.ldiv, 1) := dk_109 (by decide +kernel)
theorem dX10_scaled_116 : decode cX10_scaled 116 = .ok (.aload_n 0, 1) := dk_42 (by decide +kernel)
theorem dX10_scaled_117 : decode cX10_scaled 117 = .ok (.getfield 39, 3) := dk_180 (by decide +kernel)
theorem dX10_scaled_120 : decode cX10_scaled 120 = .ok (.iload_n 3, 1) := dk_29 (by decide +kernel)
theorem dX10_scaled_121 : decode cX10_scaled 121 = .ok (.laload, 1) := dk_47 (by decide +kernel)
theorem dX10_scaled_122 : decode cX10_scaled 122 = .ok (.lload 8, 2) := dk_22 (by decide +kernel)
theorem dX10_scaled_124 : decode cX10_scaled 124 = .ok (.ldiv, 1) := dk_109 (by decide +kernel)
theorem dX10_scaled_125 : decode cX10_scaled 125 = .ok (.bipush 99, 2) := dk_16 (by decide +kernel)
theorem dX10_scaled_127 : decode cX10_scaled 127 = .ok (.invokestatic 188, 3) := dk_184 (by decide +kernel)
theorem dX10_scaled_130 : decode cX10_scaled 130 = .ok (.istore 13, 2) := dk_54 (by decide +kernel)
theorem dX10_scaled_132 : decode cX10_scaled 132 = .ok (.iload 7, 2) := dk_21 (by decide +kernel)
theorem dX10_scaled_134 : decode cX10_scaled 134 = .ok (.iload 12, 2) := dk_21 (by decide +kernel)
theorem dX10_scaled_136 : decode cX10_scaled 136 = .ok (.if_icmp .gt 21, 3) := dk_163 (by decide +kernel)
theorem dX10_scaled_139 : decode cX10_scaled 139 = .ok (.iload 13, 2) := dk_21 (by decide +kernel)
theorem dX10_scaled_141 : decode cX10_scaled 141 = .ok (.bipush 99, 2) := dk_16 (by decide +kernel)
theorem dX10_scaled_143 : decode cX10_scaled 143 = .ok (.if_icmp .gt 14, 3) := dk_163 (by decide +kernel)
theorem dX10_scaled_146 : decode cX10_scaled 146 = .ok (.aload_n 0, 1) := dk_42 (by decide +kernel)
theorem dX10_scaled_147 : decode cX10_scaled 147 = .ok (.iload_n 1, 1) := dk_27 (by decide +kernel)
theorem dX10_scaled_148 : decode cX10_scaled 148 = .ok (.iload_n 2, 1) := dk_28 (by decide +kernel)
theorem dX10_scaled_149 : decode cX10_scaled 149 = .ok (.iload 13, 2) := dk_21 (by decide +kernel)
theorem dX10_scaled_151 : decode cX10_scaled 151 = .ok (.invokevirtual 192, 3) := dk_182 (by decide +kernel)
theorem dX10_scaled_154 : decode cX10_scaled 154 = .ok (.ifCond .ne 14, 3) := dk_154 (by decide +kernel)
theorem dX10_scaled_157 : decode cX10_scaled 157 = .ok (.aload_n 0, 1) := dk_42 (by decide +kernel)
theorem dX10_scaled_158 : decode cX10_scaled 158 = .ok (.getfield 47, 3) := dk_180 (by decide +kernel)
theorem dX10_scaled_161 : decode cX10_scaled 161 = .ok (.bipush 9, 2) := dk_16 (by decide +kernel)
theorem dX10_scaled_163 : decode cX10_scaled 163 = .ok (.iload 4, 2) := dk_21 (by decide +kernel)
theorem dX10_scaled_165 : decode cX10_scaled 165 = .ok (.invokevirtual 90, 3) := dk_182 (by decide +kernel)
theorem dX10_scaled_168 : decode cX10_scaled 168 = .ok (.iload 13, 2) := dk_21 (by decide +kernel)
theorem dX10_scaled_170 : decode cX10_scaled 170 = .ok (.i2l, 1) := dk_133 (by decide +kernel)
theorem dX10_scaled_171 : decode cX10_scaled 171 = .ok (.aload_n 0, 1) := dk_42 (by decide +kernel)
theorem dX10_scaled_172 : decode cX10_scaled 172 = .ok (.getfield 159, 3) := dk_180 (by decide +kernel)
theorem dX10_scaled_175 : decode cX10_scaled 175 = .ok (.invokestatic 183, 3) := dk_184 (by decide +kernel)
theorem dX10_scaled_178 : decode cX10_scaled 178 = .ok (.lstore 14, 2) := dk_55 (by decide +kernel)
theorem dX10_scaled_180 : decode cX10_scaled 180 = .ok (.aload_n 0, 1) := dk_42 (by decide +kernel)
theorem dX10_scaled_181 : decode cX10_scaled 181 = .ok (.dup, 1) := dk_89 (by decide +kernel)
theorem dX10_scaled_182 : decode cX10_scaled 182 = .ok (.getfield 155, 3) := dk_180 (by decide +kernel)
theorem dX10_scaled_185 : decode cX10_scaled 185 = .ok (.iload 13, 2) := dk_21 (by decide +kernel)
theorem dX10_scaled_187 : decode cX10_scaled 187 = .ok (.i2l, 1) := dk_133 (by decide +kernel)
theorem dX10_scaled_188 : decode cX10_scaled 188 = .ok (.lload 14, 2) := dk_22 (by decide +kernel)
theorem dX10_scaled_190 : decode cX10_scaled 190 = .ok (.ldiv, 1) := dk_109 (by decide +kernel)
theorem dX10_scaled_191 : decode cX10_scaled 191 = .ok (.lmul, 1) := dk_105 (by decide +kernel)
theorem dX10_scaled_192 : decode cX10_scaled 192 = .ok (.putfield 155, 3) := dk_181 (by decide +kernel)
theorem dX10_scaled_195 : decode cX10_scaled 195 = .ok (.aload_n 0, 1) := dk_42 (by decide +kernel)
theorem dX10_scaled_196 : decode cX10_scaled 196 = .ok (.dup, 1) := dk_89 (by decide +kernel)
theorem dX10_scaled_197 : decode cX10_scaled 197 = .ok (.getfield 159, 3) := dk_180 (by decide +kernel)
theorem dX10_scaled_200 : decode cX10_scaled 200 = .ok (.lload 14, 2) := dk_22 (by decide +kernel)
theorem dX10_scaled_202 : decode cX10_scaled 202 = .ok (.ldiv, 1) := dk_109 (by decide +kernel)
theorem dX10_scaled_203 : decode cX10_scaled 203 = .ok (.putfield 159, 3) := dk_181 (by decide +kernel)
theorem dX10_scaled_206 : decode cX10_scaled 206 = .ok (.aload_n 0, 1) := dk_42 (by decide +kernel)
theorem dX10_scaled_207 : decode cX10_scaled 207 = .ok (.getfield 36, 3) := dk_180 (by decide +kernel)
theorem dX10_scaled_210 : decode cX10_scaled 210 = .ok (.iload_n 3, 1) := dk_29 (by decide +kernel)
theorem dX10_scaled_211 : decode cX10_scaled 211 = .ok (.laload, 1) := dk_47 (by decide +kernel)
theorem dX10_scaled_212 : decode cX10_scaled 212 = .ok (.lconst 0, 1) := dk_9 (by decide +kernel)
theorem dX10_scaled_213 : decode cX10_scaled 213 = .ok (.lcmp, 1) := dk_148 (by decide +kernel)
theorem dX10_scaled_214 : decode cX10_scaled 214 = .ok (.ifCond .ge 9, 3) := dk_156 (by decide +kernel)
theorem dX10_scaled_217 : decode cX10_scaled 217 = .ok (.iload 7, 2) := dk_21 (by decide +kernel)
theorem dX10_scaled_219 : decode cX10_scaled 219 = .ok (.ineg, 1) := dk_116 (by decide +kernel)
theorem dX10_scaled_220 : decode cX10_scaled 220 = .ok (.goto 5, 3) := dk_167 (by decide +kernel)
theorem dX10_scaled_223 : decode cX10_scaled 223 = .ok (.iload 7, 2) := dk_21 (by decide +kernel)
theorem dX10_scaled_225 : decode cX10_scaled 225 = .ok (.ireturn, 1) := dk_172 (by decide +kernel)
def wsMX10_scaled : List Cond := .code yX10_scaled cX10_scaled 16 (some .int) :: ([.fieldLink RX10 36 "OptimaWorks$Worker" "over" "[J", .methodLink RX10 179 Lib.MathLoose.abs_long.x, .static Lib.MathLoose.abs_long.x, .initialized "java/lang/Math", .code Lib.MathLoose.abs_long.x Lib.MathLoose.abs_long.code 2 (some .long), .fieldLink RX10 155 "OptimaWorks$Worker" "scaleOver" "J", .fieldLink RX10 39 "OptimaWorks$Worker" "under" "[J", .fieldLink RX10 159 "OptimaWorks$Worker" "scaleUnder" "J", .constant RX10 187 99999, .fieldLink RX10 47 "OptimaWorks$Worker" "words" "LOptimaWorks$Words;"] ++ wsX100 ++ (va_wsS RX10 183 yX10_divisor wsMX10_divisor) ++ (va_wsS RX10 188 yX10_product wsMX10_product) ++ (wsV RX10 90 RX9 yX9_fail wsMX9_fail) ++ (wsV RX10 192 RX10 yX10_stretchWay wsMX10_stretchWay))
theorem iwsMX10_scaled_in10 : ∀ w ∈ wsX100, w ∈ wsMX10_scaled := fun _ h => List.mem_cons_of_mem _ (List.mem_append_left _ (List.mem_append_left _ (List.mem_append_left _ (List.mem_append_left _ (List.mem_append_right _ h)))))
theorem gwsMX10_scaled_0 : GoodIn wsMX10_scaled (va_wsS RX10 183 yX10_divisor wsMX10_divisor) := goodIn_sub (fun _ h => List.mem_cons_of_mem _ (List.mem_append_left _ (List.mem_append_left _ (List.mem_append_left _ (List.mem_append_right _ h))))) (gdS (by decide +kernel) gdwsMX10_divisor)
theorem gwsMX10_scaled_1 : GoodIn wsMX10_scaled (va_wsS RX10 188 yX10_product wsMX10_product) := goodIn_sub (fun _ h => List.mem_cons_of_mem _ (List.mem_append_left _ (List.mem_append_left _ (List.mem_append_right _ h)))) (gdS (by decide +kernel) gdwsMX10_product)
theorem gwsMX10_scaled_2 : GoodIn wsMX10_scaled (wsV RX10 90 RX9 yX9_fail wsMX9_fail) := goodIn_sub (fun _ h => List.mem_cons_of_mem _ (List.mem_append_left _ (List.mem_append_right _ h))) (gdV (by decide +kernel) gdwsMX9_fail)
theorem gwsMX10_scaled_3 : GoodIn wsMX10_scaled (wsV RX10 192 RX10 yX10_stretchWay wsMX10_stretchWay) := goodIn_sub (fun _ h => List.mem_cons_of_mem _ (List.mem_append_right _ h)) (gdV (by decide +kernel) gdwsMX10_stretchWay)
theorem gdwsMX10_scaled : wsMX10_scaled.all goodWord = true := gdC rfl (gdA (gdA (gdA (gdA (gdA (by decide +kernel : ([.fieldLink RX10 36 "OptimaWorks$Worker" "over" "[J", .methodLink RX10 179 Lib.MathLoose.abs_long.x, .static Lib.MathLoose.abs_long.x, .initialized "java/lang/Math", .code Lib.MathLoose.abs_long.x Lib.MathLoose.abs_long.code 2 (some .long), .fieldLink RX10 155 "OptimaWorks$Worker" "scaleOver" "J", .fieldLink RX10 39 "OptimaWorks$Worker" "under" "[J", .fieldLink RX10 159 "OptimaWorks$Worker" "scaleUnder" "J", .constant RX10 187 99999, .fieldLink RX10 47 "OptimaWorks$Worker" "words" "LOptimaWorks$Words;"] : List Cond).all goodWord = true) gdwsX100) (gdS (by decide +kernel) gdwsMX10_divisor)) (gdS (by decide +kernel) gdwsMX10_product)) (gdV (by decide +kernel) gdwsMX9_fail)) (gdV (by decide +kernel) gdwsMX10_stretchWay))
theorem hm_m_X10_scaled_0 : (.fieldLink RX10 36 "OptimaWorks$Worker" "over" "[J" : Cond) ∈ wsMX10_scaled := by decide +kernel
theorem hm_m_X10_scaled_1 : (.fieldLink RX10 155 "OptimaWorks$Worker" "scaleOver" "J" : Cond) ∈ wsMX10_scaled := by decide +kernel
theorem hm_m_X10_scaled_2 : (.fieldLink RX10 39 "OptimaWorks$Worker" "under" "[J" : Cond) ∈ wsMX10_scaled := by decide +kernel
theorem hm_m_X10_scaled_3 : (.fieldLink RX10 159 "OptimaWorks$Worker" "scaleUnder" "J" : Cond) ∈ wsMX10_scaled := by decide +kernel
theorem hm_m_X10_scaled_4 : (.fieldLink RX10 47 "OptimaWorks$Worker" "words" "LOptimaWorks$Words;" : Cond) ∈ wsMX10_scaled := by decide +kernel
set_option maxHeartbeats 4000000 in
set_option maxRecDepth 100000 in
/-- a number as kept -/
theorem m_X10_scaled (l : Launch) (hst : l.stackTraces = false) (dC : Nat → ClassId) (dI : Nat → Nat → Nat) (hL : Nat → Nat) (aL : Nat → Nat) (kL : Nat → ClassId) (hT : Nat → Nat) (hM : Nat → Nat) (xL_tree : Value) (iL_names : Int32) (gL_key : Nat → Int64) (fL_kind : Nat → Int32) (fL_one : Nat → Int32) (fL_two : Nat → Int32) (fL_base : Nat → Int32) (iL_params : Int32) (fL_paramOver : Nat → Int32) (dL_paramOver : Nat) (nL_params : Nat) (fL_paramUnder : Nat → Int32) (dL_paramUnder : Nat) (nL_pu : Nat) (gL_over : Nat → Int64) (gL_under : Nat → Int64) (fL_bound : Nat → Int32) (iL_nameAt : Int32) (iL_startAt : Int32) (iL_steps : Int32) (jL_scaleOver : Int64) (jL_scaleUnder : Int64) (aT : Nat → Nat) (kT : Nat → ClassId) (fT_tape : Nat → Int32) (dT_tape : Nat) (nT_tape : Nat) (iT_length : Int32) (iT_fault : Int32) (iT_place : Int32) (iT_kind : Int32) (iT_at : Int32) (iT_number : Int32) (jT_name : Int64) (iT_next : Int32) (aM : Nat → Nat) (kM : Nat → ClassId) (iM_stands : Int32) (iM_variables : Int32) (iM_rows : Int32) (iM_goals : Int32) (iM_differents : Int32) (iM_cases : Int32) (fM_from : Nat → Int32) (fM_to : Nat → Int32) (fM_whole : Nat → Int32) (fM_ways : Nat → Int32) (iM_plainRows : Int32) (fM_plainRow : Nat → Int32) (fM_kept : Nat → Int32) (fM_goalOver : Nat → Int32) (fM_goalUnder : Nat → Int32) (fM_goalMax : Nat → Int32) (fM_different : Nat → Int32) (p1 : Int32) (p2 : Int32) (p3 : Int32) (p4 : Int32) (b_iL_names : 0 ≤ iL_names.toInt ∧ iL_names.toInt ≤ 40) (b_fL_kind : ∀ q : Nat, 0 ≤ (fL_kind q).toInt ∧ (fL_kind q).toInt ≤ 5) (b_fL_two : ∀ q : Nat, (-1) ≤ (fL_two q).toInt ∧ (fL_two q).toInt ≤ 39) (b_fL_base : ∀ q : Nat, 0 ≤ (fL_base q).toInt ∧ (fL_base q).toInt ≤ 2560) (b_iL_params : 0 ≤ iL_params.toInt ∧ iL_params.toInt ≤ 2560) (b_nL_params : 0 ≤ nL_params ∧ nL_params ≤ 2560) (b_nm : NmL iL_names fL_kind fL_one fL_two fL_base nL_params) (b_pm : iL_params.toInt ≤ ((nL_params : Nat) : Int)) (b_pu : nL_pu = nL_params) (b_fT_tape : ∀ q : Nat, (-128) ≤ (fT_tape q).toInt ∧ (fT_tape q).toInt ≤ 127) (b_nT_tape : 64 ≤ nT_tape ∧ nT_tape ≤ 2560) (b_iT_length : 0 ≤ iT_length.toInt ∧ iT_length.toInt ≤ 1280) (b_iT_at : 0 ≤ iT_at.toInt ∧ iT_at.toInt ≤ 1282) (b_iT_number : 0 ≤ iT_number.toInt ∧ iT_number.toInt ≤ 999999) (b_iT_next : 0 ≤ iT_next.toInt ∧ iT_next.toInt ≤ 1282) (b_len : iT_length.toInt ≤ ((nT_tape : Nat) : Int)) (b_iM_stands : 0 ≤ iM_stands.toInt ∧ iM_stands.toInt ≤ 1) (b_iM_variables : 0 ≤ iM_variables.toInt ∧ iM_variables.toInt ≤ 8) (b_iM_rows : 0 ≤ iM_rows.toInt ∧ iM_rows.toInt ≤ 12) (b_iM_goals : 0 ≤ iM_goals.toInt ∧ iM_goals.toInt ≤ 3) (b_iM_differents : 0 ≤ iM_differents.toInt ∧ iM_differents.toInt ≤ 8) (b_iM_cases : 0 ≤ iM_cases.toInt ∧ iM_cases.toInt ≤ 200000) (b_fM_ways : ∀ q : Nat, 0 ≤ (fM_ways q).toInt ∧ (fM_ways q).toInt ≤ 3) (b_iM_plainRows : 0 ≤ iM_plainRows.toInt ∧ iM_plainRows.toInt ≤ 12) (b_fM_plainRow : ∀ q : Nat, 0 ≤ (fM_plainRow q).toInt ∧ (fM_plainRow q).toInt ≤ 11) (b_pr : iM_plainRows.toInt ≤ iM_rows.toInt) (b_p1 : 0 ≤ p1.toInt ∧ p1.toInt ≤ 11) (b_p2 : 0 ≤ p2.toInt ∧ p2.toInt ≤ 2) (b_p3 : 0 ≤ p3.toInt ∧ p3.toInt ≤ 8) (sz : Nat) : vx_Met l yX10_scaled wsMX10_scaled ({ frames := 7, cells := 1, slots := 6, locals := 103 }) (va_Pc [.ref (hL 0), .int p1, .int p2, .int p3, .int p4] (fun U => U.heap.size = sz ∧ va_P (dC, dI) vwCl (WL hL aL kL hT hM xL_tree iL_names gL_key fL_kind fL_one fL_two fL_base iL_params fL_paramOver dL_paramOver nL_params fL_paramUnder dL_paramUnder nL_pu gL_over gL_under fL_bound iL_nameAt iL_startAt iL_steps jL_scaleOver jL_scaleUnder ++ (WT hT aT kT fT_tape dT_tape nT_tape iT_length iT_fault iT_place iT_kind iT_at iT_number jT_name iT_next ++ (WM hM aM kM iM_stands iM_variables iM_rows iM_goals iM_differents iM_cases fM_from fM_to fM_whole fM_ways iM_plainRows fM_plainRow fM_kept fM_goalOver fM_goalUnder fM_goalMax fM_different))) U.heap ∧ va_K (dC, dI) vwCl (tL kL ++ (tT kT ++ (tM kM))) U ∧ va_D (fun _ => True) (WL hL aL kL hT hM xL_tree iL_names gL_key fL_kind fL_one fL_two fL_base iL_params fL_paramOver dL_paramOver nL_params fL_paramUnder dL_paramUnder nL_pu gL_over gL_under fL_bound iL_nameAt iL_startAt iL_steps jL_scaleOver jL_scaleUnder ++ (WT hT aT kT fT_tape dT_tape nT_tape iT_length iT_fault iT_place iT_kind iT_at iT_number jT_name iT_next ++ (WM hM aM kM iM_stands iM_variables iM_rows iM_goals iM_differents iM_cases fM_from fM_to fM_whole fM_ways iM_plainRows fM_plainRow fM_kept fM_goalOver fM_goalUnder fM_goalMax fM_different))) ∧ CE (va_A (WL hL aL kL hT hM xL_tree iL_names gL_key fL_kind fL_one fL_two fL_base iL_params fL_paramOver dL_paramOver nL_params fL_paramUnder dL_paramUnder nL_pu gL_over gL_under fL_bound iL_nameAt iL_startAt iL_steps jL_scaleOver jL_scaleUnder ++ (WT hT aT kT fT_tape dT_tape nT_tape iT_length iT_fault iT_place iT_kind iT_at iT_number jT_name iT_next ++ (WM hM aM kM iM_stands iM_variables iM_rows iM_goals iM_differents iM_cases fM_from fM_to fM_whole fM_ways iM_plainRows fM_plainRow fM_kept fM_goalOver fM_goalUnder fM_goalMax fM_different))) sz) U U.heap)) (va_Qi (fun (r : Int32) (u : (Int64) × (Int64) × (Int32) × (Int32) × (Nat → Int32)) => True) (fun (u : (Int64) × (Int64) × (Int32) × (Int32) × (Nat → Int32)) t => va_P (dC, dI) vwCl (WL hL aL kL hT hM xL_tree iL_names gL_key fL_kind fL_one fL_two fL_base iL_params fL_paramOver dL_paramOver nL_params fL_paramUnder dL_paramUnder nL_pu gL_over gL_under fL_bound iL_nameAt iL_startAt iL_steps (u.1) (u.2.1) ++ (WT hT aT kT fT_tape dT_tape nT_tape iT_length (u.2.2.1) (u.2.2.2.1) iT_kind iT_at iT_number jT_name iT_next ++ (WM hM aM kM iM_stands iM_variables iM_rows iM_goals iM_differents iM_cases fM_from fM_to fM_whole fM_ways iM_plainRows fM_plainRow (u.2.2.2.2) fM_goalOver fM_goalUnder fM_goalMax fM_different))) t.heap ∧ va_D (va_A (WL hL aL kL hT hM xL_tree iL_names gL_key fL_kind fL_one fL_two fL_base iL_params fL_paramOver dL_paramOver nL_params fL_paramUnder dL_paramUnder nL_pu gL_over gL_under fL_bound iL_nameAt iL_startAt iL_steps jL_scaleOver jL_scaleUnder ++ (WT hT aT kT fT_tape dT_tape nT_tape iT_length iT_fault iT_place iT_kind iT_at iT_number jT_name iT_next ++ (WM hM aM kM iM_stands iM_variables iM_rows iM_goals iM_differents iM_cases fM_from fM_to fM_whole fM_ways iM_plainRows fM_plainRow fM_kept fM_goalOver fM_goalUnder fM_goalMax fM_different))) sz) (WL hL aL kL hT hM xL_tree iL_names gL_key fL_kind fL_one fL_two fL_base iL_params fL_paramOver dL_paramOver nL_params fL_paramUnder dL_paramUnder nL_pu gL_over gL_under fL_bound iL_nameAt iL_startAt iL_steps (u.1) (u.2.1) ++ (WT hT aT kT fT_tape dT_tape nT_tape iT_length (u.2.2.1) (u.2.2.2.1) iT_kind iT_at iT_number jT_name iT_next ++ (WM hM aM kM iM_stands iM_variables iM_rows iM_goals iM_differents iM_cases fM_from fM_to fM_whole fM_ways iM_plainRows fM_plainRow (u.2.2.2.2) fM_goalOver fM_goalUnder fM_goalMax fM_different))) ∧ t.heap.size = sz) (va_A (WL hL aL kL hT hM xL_tree iL_names gL_key fL_kind fL_one fL_two fL_base iL_params fL_paramOver dL_paramOver nL_params fL_paramUnder dL_paramUnder nL_pu gL_over gL_under fL_bound iL_nameAt iL_startAt iL_steps jL_scaleOver jL_scaleUnder ++ (WT hT aT kT fT_tape dT_tape nT_tape iT_length iT_fault iT_place iT_kind iT_at iT_number jT_name iT_next ++ (WM hM aM kM iM_stands iM_variables iM_rows iM_goals iM_differents iM_cases fM_from fM_to fM_whole fM_ways iM_plainRows fM_plainRow fM_kept fM_goalOver fM_goalUnder fM_goalMax fM_different))) sz)) (vx_X (fun (u : (Int64) × (Int64) × (Int32) × (Int32) × (Nat → Int32)) => True) (fun E (u : (Int64) × (Int64) × (Int32) × (Int32) × (Nat → Int32)) t => (E = "java/lang/IllegalArgumentException") ∧ va_P (dC, dI) vwCl (WL hL aL kL hT hM xL_tree iL_names gL_key fL_kind fL_one fL_two fL_base iL_params fL_paramOver dL_paramOver nL_params fL_paramUnder dL_paramUnder nL_pu gL_over gL_under fL_bound iL_nameAt iL_startAt iL_steps (u.1) (u.2.1) ++ (WT hT aT kT fT_tape dT_tape nT_tape iT_length (u.2.2.1) (u.2.2.2.1) iT_kind iT_at iT_number jT_name iT_next ++ (WM hM aM kM iM_stands iM_variables iM_rows iM_goals iM_differents iM_cases fM_from fM_to fM_whole fM_ways iM_plainRows fM_plainRow (u.2.2.2.2) fM_goalOver fM_goalUnder fM_goalMax fM_different))) t.heap ∧ va_D (va_A (WL hL aL kL hT hM xL_tree iL_names gL_key fL_kind fL_one fL_two fL_base iL_params fL_paramOver dL_paramOver nL_params fL_paramUnder dL_paramUnder nL_pu gL_over gL_under fL_bound iL_nameAt iL_startAt iL_steps jL_scaleOver jL_scaleUnder ++ (WT hT aT kT fT_tape dT_tape nT_tape iT_length iT_fault iT_place iT_kind iT_at iT_number jT_name iT_next ++ (WM hM aM kM iM_stands iM_variables iM_rows iM_goals iM_differents iM_cases fM_from fM_to fM_whole fM_ways iM_plainRows fM_plainRow fM_kept fM_goalOver fM_goalUnder fM_goalMax fM_different))) sz) (WL hL aL kL hT hM xL_tree iL_names gL_key fL_kind fL_one fL_two fL_base iL_params fL_paramOver dL_paramOver nL_params fL_paramUnder dL_paramUnder nL_pu gL_over gL_under fL_bound iL_nameAt iL_startAt iL_steps (u.1) (u.2.1) ++ (WT hT aT kT fT_tape dT_tape nT_tape iT_length (u.2.2.1) (u.2.2.2.1) iT_kind iT_at iT_number jT_name iT_next ++ (WM hM aM kM iM_stands iM_variables iM_rows iM_goals iM_differents iM_cases fM_from fM_to fM_whole fM_ways iM_plainRows fM_plainRow (u.2.2.2.2) fM_goalOver fM_goalUnder fM_goalMax fM_different)))) (va_A (WL hL aL kL hT hM xL_tree iL_names gL_key fL_kind fL_one fL_two fL_base iL_params fL_paramOver dL_paramOver nL_params fL_paramUnder dL_paramUnder nL_pu gL_over gL_under fL_bound iL_nameAt iL_startAt iL_steps jL_scaleOver jL_scaleUnder ++ (WT hT aT kT fT_tape dT_tape nT_tape iT_length iT_fault iT_place iT_kind iT_at iT_number jT_name iT_next ++ (WM hM aM kM iM_stands iM_variables iM_rows iM_goals iM_differents iM_cases fM_from fM_to fM_whole fM_ways iM_plainRows fM_plainRow fM_kept fM_goalOver fM_goalUnder fM_goalMax fM_different))) sz)) 1 6 (va_A (WL hL aL kL hT hM xL_tree iL_names gL_key fL_kind fL_one fL_two fL_base iL_params fL_paramOver dL_paramOver nL_params fL_paramUnder dL_paramUnder nL_pu gL_over gL_under fL_bound iL_nameAt iL_startAt iL_steps jL_scaleOver jL_scaleUnder ++ (WT hT aT kT fT_tape dT_tape nT_tape iT_length iT_fault iT_place iT_kind iT_at iT_number jT_name iT_next ++ (WM hM aM kM iM_stands iM_variables iM_rows iM_goals iM_differents iM_cases fM_from fM_to fM_whole fM_ways iM_plainRows fM_plainRow fM_kept fM_goalOver fM_goalUnder fM_goalMax fM_different))) sz) := by
  refine vx_ofW (cc := cX10_scaled) (maxL := 16) (ret := (some .int)) (by decide) rfl ?_
  intro p e s m args below meth c s₁ B hml htab hv
  obtain ⟨rfl, hsz, hP, hK, hD0, hE⟩ := hv
  have hx := B.exec
  have hb := B.bytes
  have hr := B.returns
  have hts := atoms_spec (ws := wsMX10_scaled) B.pre
  have hown : s.vm.findClass RX10 = some m.cls := findClass_of_methodNamed B.named
  have hlocks := B.notSynchronized
  subst hsz
  have hD := hD0.self (sz := s.heap.size)
  generalize hAe : va_A (WL hL aL kL hT hM xL_tree iL_names gL_key fL_kind fL_one fL_two fL_base iL_params fL_paramOver dL_paramOver nL_params fL_paramUnder dL_paramUnder nL_pu gL_over gL_under fL_bound iL_nameAt iL_startAt iL_steps jL_scaleOver jL_scaleUnder ++ (WT hT aT kT fT_tape dT_tape nT_tape iT_length iT_fault iT_place iT_kind iT_at iT_number jT_name iT_next ++ (WM hM aM kM iM_stands iM_variables iM_rows iM_goals iM_differents iM_cases fM_from fM_to fM_whole fM_ways iM_plainRows fM_plainRow fM_kept fM_goalOver fM_goalUnder fM_goalMax fM_different))) s.heap.size = A at hD hE ⊢
  have hA : ∀ q : Nat, s.heap.size ≤ q → A q := fun q h => by rw [← hAe]; exact Or.inr h
  have hS : va_S A s.heap s.heap [] := va_S.rf
  have hl := lv_entry ([.ref (hL 0), .int p1, .int p2, .int p3, .int p4]) (n := 16) (Nat.le_of_ble_eq_true rfl)
  rw [lg_entry_eq]
  generalize (lg_sl ([.ref (hL 0), .int p1, .int p2, .int p3, .int p4]) ++ List.replicate (16 - (lg_sl ([.ref (hL 0), .int p1, .int p2, .int p3, .int p4])).length) Slot.unset).toArray = ls at hl ⊢
  have hl : lv_has ls 16 [(0, .ref (hL 0)), (1, .int p1), (2, .int p2), (3, .int p3), (4, .int p4)] := hl
  refine lv_aload_n hx hb dX10_scaled_0 rfl (lv_at hl 0 rfl) ?_
  refine va_get (D := (dC, dI)) (ci := 10) (v := .ref (aL 7)) (C := RX10) (T := TX10) (N := 20) hx hb hts iwsMX10_scaled_in10 hown hK hP 0 rfl rfl 12 (by decide) (hts _ hm_m_X10_scaled_0) (fun _ h9 => h9) rfl dX10_scaled_1 ?_
  refine lv_iload_n hx hb dX10_scaled_4 rfl (lv_at hl 3 rfl) ?_
  refine va_lald (cA := kL 7) (n := 360) (f := gL_over) hx hb hK hP 8 7 rfl rfl (vp_in_iff.mpr ⟨b_p3.1, (Int.lt_of_le_of_lt (b_p3.2) (by decide))⟩) dX10_scaled_5 ?_
  refine lv_topl (fun v1 hv1 => ?_)
  clear hv1
  refine va_mabs_long hx hb (by rw [hml]; exact hl.1.symm) hown (hts (.methodLink RX10 179 Lib.MathLoose.abs_long.x) (by decide +kernel)) (hts (.static Lib.MathLoose.abs_long.x) (by decide +kernel)) (hts (.initialized "java/lang/Math") (by decide +kernel)) (hts (.code Lib.MathLoose.abs_long.x Lib.MathLoose.abs_long.code 2 (some .long)) (by decide +kernel)) (by decide +kernel) (Nat.le_of_ble_eq_true rfl) (by decide +kernel) (by decide +kernel) dX10_scaled_6 ?_
  refine lv_topl (fun v2 hv2 => ?_)
  clear hv2
  refine lv_lstore hx hb dX10_scaled_9 hl (by decide) rfl (fun ls (hl : lv_has ls _ ([(5, .long v2), (0, .ref (hL 0)), (1, .int p1), (2, .int p2), (3, .int p3), (4, .int p4)])) => ?_)
  refine lv_lload hx hb dX10_scaled_11 (lv_at hl 0 rfl) ?_
  refine lv_lconst (v := 0) hx hb dX10_scaled_13 (by decide) ?_
  refine W.lcmp hx hb dX10_scaled_14 ?_
  refine lv_if_ne (tgt := 20) hx hb dX10_scaled_15 (by decide) (fun c_15 => ?_) (fun c_15 => ?_)
  · have t_15 : v2.toInt ≠ 0 := toL_ne c_15 rfl (by decide : (0 : Int64).toInt = 0)
    refine lv_iconst (v := 1) hx hb dX10_scaled_20 (by decide) ?_
    refine lv_istore hx hb dX10_scaled_21 hl (by decide) rfl (fun ls (hl : lv_has ls _ ([(7, .int 1), (5, .long v2), (0, .ref (hL 0)), (1, .int p1), (2, .int p2), (3, .int p3), (4, .int p4)])) => ?_)
    refine lv_aload_n hx hb dX10_scaled_23 rfl (lv_at hl 2 rfl) ?_
    refine va_get (D := (dC, dI)) (ci := 10) (v := .long jL_scaleOver) (C := RX10) (T := TX10) (N := 20) hx hb hts iwsMX10_scaled_in10 hown hK hP 0 rfl rfl 18 (by decide) (hts _ hm_m_X10_scaled_1) (fun _ h9 => h9) rfl dX10_scaled_24 ?_
    refine lv_lconst (v := 0) hx hb dX10_scaled_27 (by decide) ?_
    refine W.lcmp hx hb dX10_scaled_28 ?_
    refine W.cut (pc := 206) (fun H locs ls stk => ∃ (jL_scaleOver_j6 : Int64) (jL_scaleUnder_j6 : Int64) (fM_kept_j6 : Nat → Int32) (l7_j6 : Int32),  stk = [] ∧ va_P (dC, dI) vwCl (WL hL aL kL hT hM xL_tree iL_names gL_key fL_kind fL_one fL_two fL_base iL_params fL_paramOver dL_paramOver nL_params fL_paramUnder dL_paramUnder nL_pu gL_over gL_under fL_bound iL_nameAt iL_startAt iL_steps jL_scaleOver_j6 jL_scaleUnder_j6 ++ (WT hT aT kT fT_tape dT_tape nT_tape iT_length iT_fault iT_place iT_kind iT_at iT_number jT_name iT_next ++ (WM hM aM kM iM_stands iM_variables iM_rows iM_goals iM_differents iM_cases fM_from fM_to fM_whole fM_ways iM_plainRows fM_plainRow fM_kept_j6 fM_goalOver fM_goalUnder fM_goalMax fM_different))) H ∧ va_D A (WL hL aL kL hT hM xL_tree iL_names gL_key fL_kind fL_one fL_two fL_base iL_params fL_paramOver dL_paramOver nL_params fL_paramUnder dL_paramUnder nL_pu gL_over gL_under fL_bound iL_nameAt iL_startAt iL_steps jL_scaleOver_j6 jL_scaleUnder_j6 ++ (WT hT aT kT fT_tape dT_tape nT_tape iT_length iT_fault iT_place iT_kind iT_at iT_number jT_name iT_next ++ (WM hM aM kM iM_stands iM_variables iM_rows iM_goals iM_differents iM_cases fM_from fM_to fM_whole fM_ways iM_plainRows fM_plainRow fM_kept_j6 fM_goalOver fM_goalUnder fM_goalMax fM_different))) ∧ va_S A s.heap H locs ∧ lv_has ls 16 [(7, .int l7_j6), (5, .long v2), (0, .ref (hL 0)), (1, .int p1), (2, .int p2), (3, .int p3), (4, .int p4)]) (fun join6 => ?_) ?_
    · refine lv_if_ne (tgt := 51) hx hb dX10_scaled_29 (by decide) (fun c_29 => ?_) (fun c_29 => ?_)
      · have t_29 : jL_scaleOver.toInt ≠ 0 := toL_ne c_29 rfl (by decide : (0 : Int64).toInt = 0)
        refine lv_aload_n hx hb dX10_scaled_51 rfl (lv_at hl 2 rfl) ?_
        refine va_get (D := (dC, dI)) (ci := 10) (v := .long jL_scaleOver) (C := RX10) (T := TX10) (N := 20) hx hb hts iwsMX10_scaled_in10 hown hK hP 0 rfl rfl 18 (by decide) (hts _ hm_m_X10_scaled_1) (fun _ h9 => h9) rfl dX10_scaled_52 ?_
        refine lv_aload_n hx hb dX10_scaled_55 rfl (lv_at hl 2 rfl) ?_
        refine va_get (D := (dC, dI)) (ci := 10) (v := .ref (aL 8)) (C := RX10) (T := TX10) (N := 20) hx hb hts iwsMX10_scaled_in10 hown hK hP 0 rfl rfl 13 (by decide) (hts _ hm_m_X10_scaled_2) (fun _ h9 => h9) rfl dX10_scaled_56 ?_
        refine lv_iload_n hx hb dX10_scaled_59 rfl (lv_at hl 5 rfl) ?_
        refine va_lald (cA := kL 8) (n := 360) (f := gL_under) hx hb hK hP 9 8 rfl rfl (vp_in_iff.mpr ⟨b_p3.1, (Int.lt_of_le_of_lt (b_p3.2) (by decide))⟩) dX10_scaled_60 ?_
        refine lv_topl (fun v32 hv32 => ?_)
        clear hv32
        have hFc := noneFree hS hA
        refine va_calll (va_runS (As := [.long jL_scaleOver, .long v32]) (rest := []) ⟨hx, hb, hml, hown, hts⟩ (m_X10_divisor l dC dI jL_scaleOver v32 s.heap.size) (va_cwS 2 hts gwsMX10_scaled_0 rfl rfl rfl (by decide +kernel) ⟨by decide +kernel, by decide +kernel⟩) ⟨fun a U g mk q => by obtain ⟨q0, q1, qP, qK, qD⟩ := q; exact ⟨q0, q1, qP, va_K.moved (u := U) (U := U.calling g mk a) (Vm.Alike.refl U.vm) qK, qD⟩, fun U hU9 hW => ⟨rfl, by rw [hU9], by rw [hU9]; exact nilP, va_K.moved hW.alike (hK.sub (tys' := []) [] rfl), nilD⟩⟩ rfl rfl hl.1 rfl (lv_room (Nat.le_of_ble_eq_true rfl)) dX10_scaled_61 (by decide +kernel)) hS (fun q _ h => hFc q h) hFc (fun r33 u t9_ H1 locs ht hvm hw9 hB9 hz1 hk1 hS => ?_)
        have f33_0 := hw9
        try dsimp only at f33_0
        clear hB9
        have hP := keepAll hP hk1
        generalize H1 = H at hP hS ⊢
        have hP : va_P (dC, dI) vwCl (WL hL aL kL hT hM xL_tree iL_names gL_key fL_kind fL_one fL_two fL_base iL_params fL_paramOver dL_paramOver nL_params fL_paramUnder dL_paramUnder nL_pu gL_over gL_under fL_bound iL_nameAt iL_startAt iL_steps jL_scaleOver jL_scaleUnder ++ (WT hT aT kT fT_tape dT_tape nT_tape iT_length iT_fault iT_place iT_kind iT_at iT_number jT_name iT_next ++ (WM hM aM kM iM_stands iM_variables iM_rows iM_goals iM_differents iM_cases fM_from fM_to fM_whole fM_ways iM_plainRows fM_plainRow fM_kept fM_goalOver fM_goalUnder fM_goalMax fM_different))) H := hP
        have hD := fz_sd hP (hD) rfl
        refine lv_lstore hx hb dX10_scaled_64 hl (by decide) rfl (fun ls (hl : lv_has ls _ ([(8, .long r33), (7, .int 1), (5, .long v2), (0, .ref (hL 0)), (1, .int p1), (2, .int p2), (3, .int p3), (4, .int p4)])) => ?_)
        refine lv_lload hx hb dX10_scaled_66 (lv_at hl 2 rfl) ?_
        refine lv_aload_n hx hb dX10_scaled_68 rfl (lv_at hl 3 rfl) ?_
        refine va_get (D := (dC, dI)) (ci := 10) (v := .long jL_scaleUnder) (C := RX10) (T := TX10) (N := 20) hx hb hts iwsMX10_scaled_in10 hown hK hP 0 rfl rfl 19 (by decide) (hts _ hm_m_X10_scaled_3) (fun _ h9 => h9) rfl dX10_scaled_69 ?_
        have hFc := noneFree hS hA
        refine va_calll (va_runS (As := [.long v2, .long jL_scaleUnder]) (rest := []) ⟨hx, hb, hml, hown, hts⟩ (m_X10_divisor l dC dI v2 jL_scaleUnder H.size) (va_cwS 2 hts gwsMX10_scaled_0 rfl rfl rfl (by decide +kernel) ⟨by decide +kernel, by decide +kernel⟩) ⟨fun a U g mk q => by obtain ⟨q0, q1, qP, qK, qD⟩ := q; exact ⟨q0, q1, qP, va_K.moved (u := U) (U := U.calling g mk a) (Vm.Alike.refl U.vm) qK, qD⟩, fun U hU9 hW => ⟨rfl, by rw [hU9], by rw [hU9]; exact nilP, va_K.moved hW.alike (hK.sub (tys' := []) [] rfl), nilD⟩⟩ rfl rfl hl.1 rfl (lv_room (Nat.le_of_ble_eq_true rfl)) dX10_scaled_72 (by decide +kernel)) hS (fun q _ h => hFc q h) hFc (fun r34 u t9_ H1 locs ht hvm hw9 hB9 hz1 hk1 hS => ?_)
        have f34_0 := hw9
        try dsimp only at f34_0
        clear hB9
        have hP := keepAll hP hk1
        generalize H1 = H at hP hS ⊢
        have hP : va_P (dC, dI) vwCl (WL hL aL kL hT hM xL_tree iL_names gL_key fL_kind fL_one fL_two fL_base iL_params fL_paramOver dL_paramOver nL_params fL_paramUnder dL_paramUnder nL_pu gL_over gL_under fL_bound iL_nameAt iL_startAt iL_steps jL_scaleOver jL_scaleUnder ++ (WT hT aT kT fT_tape dT_tape nT_tape iT_length iT_fault iT_place iT_kind iT_at iT_number jT_name iT_next ++ (WM hM aM kM iM_stands iM_variables iM_rows iM_goals iM_differents iM_cases fM_from fM_to fM_whole fM_ways iM_plainRows fM_plainRow fM_kept fM_goalOver fM_goalUnder fM_goalMax fM_different))) H := hP
        have hD := fz_sd hP (hD) rfl
        refine lv_lstore hx hb dX10_scaled_75 hl (by decide) rfl (fun ls (hl : lv_has ls _ ([(10, .long r34), (8, .long r33), (7, .int 1), (5, .long v2), (0, .ref (hL 0)), (1, .int p1), (2, .int p2), (3, .int p3), (4, .int p4)])) => ?_)
        refine lv_iload_n hx hb dX10_scaled_77 rfl (lv_at hl 7 rfl) ?_
        refine W.cut (pc := 88) (fun H locs ls stk => ∃ (k0_j7 : Int32), (99 ≤ k0_j7.toInt ∧ k0_j7.toInt ≤ 99999) ∧  stk = [.int k0_j7] ∧ va_P (dC, dI) vwCl (WL hL aL kL hT hM xL_tree iL_names gL_key fL_kind fL_one fL_two fL_base iL_params fL_paramOver dL_paramOver nL_params fL_paramUnder dL_paramUnder nL_pu gL_over gL_under fL_bound iL_nameAt iL_startAt iL_steps jL_scaleOver jL_scaleUnder ++ (WT hT aT kT fT_tape dT_tape nT_tape iT_length iT_fault iT_place iT_kind iT_at iT_number jT_name iT_next ++ (WM hM aM kM iM_stands iM_variables iM_rows iM_goals iM_differents iM_cases fM_from fM_to fM_whole fM_ways iM_plainRows fM_plainRow fM_kept fM_goalOver fM_goalUnder fM_goalMax fM_different))) H ∧ va_D A (WL hL aL kL hT hM xL_tree iL_names gL_key fL_kind fL_one fL_two fL_base iL_params fL_paramOver dL_paramOver nL_params fL_paramUnder dL_paramUnder nL_pu gL_over gL_under fL_bound iL_nameAt iL_startAt iL_steps jL_scaleOver jL_scaleUnder ++ (WT hT aT kT fT_tape dT_tape nT_tape iT_length iT_fault iT_place iT_kind iT_at iT_number jT_name iT_next ++ (WM hM aM kM iM_stands iM_variables iM_rows iM_goals iM_differents iM_cases fM_from fM_to fM_whole fM_ways iM_plainRows fM_plainRow fM_kept fM_goalOver fM_goalUnder fM_goalMax fM_different))) ∧ va_S A s.heap H locs ∧ lv_has ls 16 [(10, .long r34), (8, .long r33), (7, .int 1), (5, .long v2), (0, .ref (hL 0)), (1, .int p1), (2, .int p2), (3, .int p3), (4, .int p4)]) (fun join7 => ?_) ?_
        · refine lv_if_ne (tgt := 86) hx hb dX10_scaled_78 (by decide) (fun c_78 => ?_) (fun c_78 => ?_)
          · have t_78 : p3.toInt ≠ 0 := toI_ne c_78 rfl (by decide : (0 : Int32).toInt = 0)
            refine lv_bipush (v := 99) hx hb dX10_scaled_86 (by decide) ?_
            have hl : lv_has _ _ ([(10, .long r34), (8, .long r33), (7, .int 1), (5, .long v2), (0, .ref (hL 0)), (1, .int p1), (2, .int p2), (3, .int p3), (4, .int p4)]) := lv_sub hl [0, 1, 2, 3, 4, 5, 6, 7, 8] rfl
            exact join7 _ _ _ _ ⟨99, (show 99 ≤ (99 : Int32).toInt ∧ (99 : Int32).toInt ≤ 99999 from by decide), rfl, hP, hD, hS, hl⟩
          · have t_78 : p3.toInt = 0 := toI_nne c_78 rfl (by decide : (0 : Int32).toInt = 0)
            refine lv_ldc (v := 99999) hx hb hown (hts (.constant RX10 187 99999) (by decide +kernel)) dX10_scaled_81 ?_
            refine lv_goto (tgt := 88) hx hb dX10_scaled_83 (by decide) ?_
            have hl : lv_has _ _ ([(10, .long r34), (8, .long r33), (7, .int 1), (5, .long v2), (0, .ref (hL 0)), (1, .int p1), (2, .int p2), (3, .int p3), (4, .int p4)]) := lv_sub hl [0, 1, 2, 3, 4, 5, 6, 7, 8] rfl
            exact join7 _ _ _ _ ⟨99999, (show 99 ≤ (99999 : Int32).toInt ∧ (99999 : Int32).toInt ≤ 99999 from by decide), rfl, hP, hD, hS, hl⟩
        · rintro H locs ls stk ⟨k0_j7, b_k0_j7, rfl, hP, hD, hS, hl⟩
          refine lv_istore hx hb dX10_scaled_88 hl (by decide) rfl (fun ls (hl : lv_has ls _ ([(12, .int k0_j7), (10, .long r34), (8, .long r33), (7, .int 1), (5, .long v2), (0, .ref (hL 0)), (1, .int p1), (2, .int p2), (3, .int p3), (4, .int p4)])) => ?_)
          refine lv_aload_n hx hb dX10_scaled_90 rfl (lv_at hl 5 rfl) ?_
          refine va_get (D := (dC, dI)) (ci := 10) (v := .long jL_scaleOver) (C := RX10) (T := TX10) (N := 20) hx hb hts iwsMX10_scaled_in10 hown hK hP 0 rfl rfl 18 (by decide) (hts _ hm_m_X10_scaled_1) (fun _ h9 => h9) rfl dX10_scaled_91 ?_
          refine lv_lload hx hb dX10_scaled_94 (lv_at hl 2 rfl) ?_
          refine lv_ldiv hx hb dX10_scaled_96 (nz_l (x := r33) rfl (by omega)) ?_
          refine lv_topl (fun v35 hv35 => ?_)
          clear hv35
          refine lv_lload hx hb dX10_scaled_97 (lv_at hl 4 rfl) ?_
          refine lv_lload hx hb dX10_scaled_99 (lv_at hl 1 rfl) ?_
          refine lv_ldiv hx hb dX10_scaled_101 (nz_l (x := r34) rfl (by omega)) ?_
          refine lv_topl (fun v36 hv36 => ?_)
          clear hv36
          refine lv_iload hx hb dX10_scaled_102 (lv_at hl 0 rfl) ?_
          have hFc := noneFree hS hA
          refine va_calli (va_runS (As := [.long v35, .long v36, .int k0_j7]) (rest := []) ⟨hx, hb, hml, hown, hts⟩ (m_X10_product l dC dI v35 v36 k0_j7 H.size) (va_cwS 3 hts gwsMX10_scaled_1 rfl rfl rfl (by decide +kernel) ⟨by decide +kernel, by decide +kernel⟩) ⟨fun a U g mk q => by obtain ⟨q0, q1, qP, qK, qD⟩ := q; exact ⟨q0, q1, qP, va_K.moved (u := U) (U := U.calling g mk a) (Vm.Alike.refl U.vm) qK, qD⟩, fun U hU9 hW => ⟨rfl, by rw [hU9], by rw [hU9]; exact nilP, va_K.moved hW.alike (hK.sub (tys' := []) [] rfl), nilD⟩⟩ rfl rfl hl.1 rfl (lv_room (Nat.le_of_ble_eq_true rfl)) dX10_scaled_104 (by decide +kernel)) hS (fun q _ h => hFc q h) hFc (fun r37 u t9_ H1 locs ht hvm hw9 hB9 hz1 hk1 hS => ?_)
          clear hw9
          clear hB9
          have hP := keepAll hP hk1
          generalize H1 = H at hP hS ⊢
          have hP : va_P (dC, dI) vwCl (WL hL aL kL hT hM xL_tree iL_names gL_key fL_kind fL_one fL_two fL_base iL_params fL_paramOver dL_paramOver nL_params fL_paramUnder dL_paramUnder nL_pu gL_over gL_under fL_bound iL_nameAt iL_startAt iL_steps jL_scaleOver jL_scaleUnder ++ (WT hT aT kT fT_tape dT_tape nT_tape iT_length iT_fault iT_place iT_kind iT_at iT_number jT_name iT_next ++ (WM hM aM kM iM_stands iM_variables iM_rows iM_goals iM_differents iM_cases fM_from fM_to fM_whole fM_ways iM_plainRows fM_plainRow fM_kept fM_goalOver fM_goalUnder fM_goalMax fM_different))) H := hP
          have hD := fz_sd hP (hD) rfl
          refine lv_istore hx hb dX10_scaled_107 hl (by decide) rfl (fun ls (hl : lv_has ls _ ([(7, .int r37), (12, .int k0_j7), (10, .long r34), (8, .long r33), (5, .long v2), (0, .ref (hL 0)), (1, .int p1), (2, .int p2), (3, .int p3), (4, .int p4)])) => ?_)
          refine lv_aload_n hx hb dX10_scaled_109 rfl (lv_at hl 5 rfl) ?_
          refine va_get (D := (dC, dI)) (ci := 10) (v := .long jL_scaleUnder) (C := RX10) (T := TX10) (N := 20) hx hb hts iwsMX10_scaled_in10 hown hK hP 0 rfl rfl 19 (by decide) (hts _ hm_m_X10_scaled_3) (fun _ h9 => h9) rfl dX10_scaled_110 ?_
          refine lv_lload hx hb dX10_scaled_113 (lv_at hl 2 rfl) ?_
          refine lv_ldiv hx hb dX10_scaled_115 (nz_l (x := r34) rfl (by omega)) ?_
          refine lv_topl (fun v38 hv38 => ?_)
          clear hv38
          refine lv_aload_n hx hb dX10_scaled_116 rfl (lv_at hl 5 rfl) ?_
          refine va_get (D := (dC, dI)) (ci := 10) (v := .ref (aL 8)) (C := RX10) (T := TX10) (N := 20) hx hb hts iwsMX10_scaled_in10 hown hK hP 0 rfl rfl 13 (by decide) (hts _ hm_m_X10_scaled_2) (fun _ h9 => h9) rfl dX10_scaled_117 ?_
          refine lv_iload_n hx hb dX10_scaled_120 rfl (lv_at hl 8 rfl) ?_
          refine va_lald (cA := kL 8) (n := 360) (f := gL_under) hx hb hK hP 9 8 rfl rfl (vp_in_iff.mpr ⟨b_p3.1, (Int.lt_of_le_of_lt (b_p3.2) (by decide))⟩) dX10_scaled_121 ?_
          refine lv_topl (fun v39 hv39 => ?_)
          clear hv39
          refine lv_lload hx hb dX10_scaled_122 (lv_at hl 3 rfl) ?_
          refine lv_ldiv hx hb dX10_scaled_124 (nz_l (x := r33) rfl (by omega)) ?_
          refine lv_topl (fun v40 hv40 => ?_)
          clear hv40
          refine lv_bipush (v := 99) hx hb dX10_scaled_125 (by decide) ?_
          have hFc := noneFree hS hA
          refine va_calli (va_runS (As := [.long v38, .long v40, .int 99]) (rest := []) ⟨hx, hb, hml, hown, hts⟩ (m_X10_product l dC dI v38 v40 99 H.size) (va_cwS 3 hts gwsMX10_scaled_1 rfl rfl rfl (by decide +kernel) ⟨by decide +kernel, by decide +kernel⟩) ⟨fun a U g mk q => by obtain ⟨q0, q1, qP, qK, qD⟩ := q; exact ⟨q0, q1, qP, va_K.moved (u := U) (U := U.calling g mk a) (Vm.Alike.refl U.vm) qK, qD⟩, fun U hU9 hW => ⟨rfl, by rw [hU9], by rw [hU9]; exact nilP, va_K.moved hW.alike (hK.sub (tys' := []) [] rfl), nilD⟩⟩ rfl rfl hl.1 rfl (lv_room (Nat.le_of_ble_eq_true rfl)) dX10_scaled_127 (by decide +kernel)) hS (fun q _ h => hFc q h) hFc (fun r41 u t9_ H1 locs ht hvm hw9 hB9 hz1 hk1 hS => ?_)
          clear hw9
          clear hB9
          have hP := keepAll hP hk1
          generalize H1 = H at hP hS ⊢
          have hP : va_P (dC, dI) vwCl (WL hL aL kL hT hM xL_tree iL_names gL_key fL_kind fL_one fL_two fL_base iL_params fL_paramOver dL_paramOver nL_params fL_paramUnder dL_paramUnder nL_pu gL_over gL_under fL_bound iL_nameAt iL_startAt iL_steps jL_scaleOver jL_scaleUnder ++ (WT hT aT kT fT_tape dT_tape nT_tape iT_length iT_fault iT_place iT_kind iT_at iT_number jT_name iT_next ++ (WM hM aM kM iM_stands iM_variables iM_rows iM_goals iM_differents iM_cases fM_from fM_to fM_whole fM_ways iM_plainRows fM_plainRow fM_kept fM_goalOver fM_goalUnder fM_goalMax fM_different))) H := hP
          have hD := fz_sd hP (hD) rfl
          refine lv_istore hx hb dX10_scaled_130 hl (by decide) rfl (fun ls (hl : lv_has ls _ ([(13, .int r41), (7, .int r37), (12, .int k0_j7), (10, .long r34), (8, .long r33), (5, .long v2), (0, .ref (hL 0)), (1, .int p1), (2, .int p2), (3, .int p3), (4, .int p4)])) => ?_)
          refine lv_iload hx hb dX10_scaled_132 (lv_at hl 1 rfl) ?_
          refine lv_iload hx hb dX10_scaled_134 (lv_at hl 2 rfl) ?_
          refine lv_icmp_gt (tgt := 157) hx hb dX10_scaled_136 (by decide) (fun c_136 => ?_) (fun c_136 => ?_)
          · have t_136 : r37.toInt > k0_j7.toInt := toI_gt c_136 rfl rfl
            refine lv_aload_n hx hb dX10_scaled_157 rfl (lv_at hl 6 rfl) ?_
            refine va_get (D := (dC, dI)) (ci := 10) (v := .ref (hT 0)) (C := RX10) (T := TX10) (N := 20) hx hb hts iwsMX10_scaled_in10 hown hK hP 0 rfl rfl 0 (by decide) (hts _ hm_m_X10_scaled_4) (fun _ h9 => h9) rfl dX10_scaled_158 ?_
            refine lv_bipush (v := 9) hx hb dX10_scaled_161 (by decide) ?_
            refine lv_iload hx hb dX10_scaled_163 (lv_at hl 10 rfl) ?_
            have p9 := cj_3_1 (WL hL aL kL hT hM xL_tree iL_names gL_key fL_kind fL_one fL_two fL_base iL_params fL_paramOver dL_paramOver nL_params fL_paramUnder dL_paramUnder nL_pu gL_over gL_under fL_bound iL_nameAt iL_startAt iL_steps jL_scaleOver jL_scaleUnder) (WT hT aT kT fT_tape dT_tape nT_tape iT_length iT_fault iT_place iT_kind iT_at iT_number jT_name iT_next) (WM hM aM kM iM_stands iM_variables iM_rows iM_goals iM_differents iM_cases fM_from fM_to fM_whole fM_ways iM_plainRows fM_plainRow fM_kept fM_goalOver fM_goalUnder fM_goalMax fM_different)
            have hPc := hP.mem (fun q h => p9.mem_iff.mpr (List.mem_append_left _ h))
            have hDc := (hD.perm p9).left
            have hKc : va_K (dC, dI) vwCl (tT kT) _ := hK.sub [10] rfl
            have hFc := freeG p9 hD hS hA
            refine vx_callv (vx_runV (As := [.int 9, .int p4]) (rest := []) ⟨hx, hb, hml, hown, hts⟩ (m_X9_fail l hst dC dI hT aT kT fT_tape dT_tape nT_tape iT_length iT_fault iT_place iT_kind iT_at iT_number jT_name iT_next 9 p4 b_fT_tape (by first | exact b_nT_tape | with_reducible assumption | exact ⟨by omega, by omega⟩ | assumption) (b_iT_length) (b_iT_at) (b_iT_number) (b_iT_next) (by first | with_reducible assumption | omega | assumption) H.size) (cwV 2 hts gwsMX10_scaled_2 rfl rfl rfl hd_yX9_fail_RX9 (by decide +kernel)) (fz_preE (va_recv hK hP (ci := 9) (q0 := 11) rfl rfl) hPc hKc hDc (fun a U g mk qE => qE.call) (fun U hU9 hW => by rw [hU9]; exact (((hE : CE A s s.heap).kept hS.2.1).narrow (fun q h => hFc q h)).warm hW)) rfl rfl hl.1 rfl (lv_room (Nat.le_of_ble_eq_true rfl)) dX10_scaled_165 (by decide +kernel)) hS (fun q _ h => hFc q h) hFc (fun q _ h => hFc q h) (fun E ce q9 u t9_ H locs ht hvm hw9 hB9 hz1 hk1 hS hc1 hc2 hc3 => ?_) (fun u t9_ H1 locs ht hvm hw9 hB9 hz1 hk1 hS => ?_)
            · revert u hw9 hB9
              refine fz_p2 ?_
              intro iT_fault_46 iT_place_46 hw9 hB9
              try dsimp only at hw9 hB9
              revert hB9
              refine fz_a2 ?_
              intro hEx hB9
              clear hw9
              have p8 := cj_3_1 (WL hL aL kL hT hM xL_tree iL_names gL_key fL_kind fL_one fL_two fL_base iL_params fL_paramOver dL_paramOver nL_params fL_paramUnder dL_paramUnder nL_pu gL_over gL_under fL_bound iL_nameAt iL_startAt iL_steps jL_scaleOver jL_scaleUnder) (WT hT aT kT fT_tape dT_tape nT_tape iT_length iT_fault_46 iT_place_46 iT_kind iT_at iT_number jT_name iT_next) (WM hM aM kM iM_stands iM_variables iM_rows iM_goals iM_differents iM_cases fM_from fM_to fM_whole fM_ways iM_plainRows fM_plainRow fM_kept fM_goalOver fM_goalUnder fM_goalMax fM_different)
              obtain ⟨hP, hD⟩ := frameG p9 p8 hP hD hk1 hFc (fz_P ht hB9.1) hB9.2
              exact vx_out (fun x hx9 => (htab x hx9).elim) hlocks hc1 hc2 hc3 (fun t9_ ht hvm => ⟨(jL_scaleOver, jL_scaleUnder, iT_fault_46, iT_place_46, fM_kept), trivial, ⟨(by have h9 := hEx; exact h9), by rw [ht]; exact hP, hD⟩, hS.F ht⟩) hS.2.2 (by decide +kernel) (by decide +kernel)
            exact False.elim hw9
          · have t_136 : ¬ r37.toInt > k0_j7.toInt := toI_ngt c_136 rfl rfl
            refine lv_iload hx hb dX10_scaled_139 (lv_at hl 0 rfl) ?_
            refine lv_bipush (v := 99) hx hb dX10_scaled_141 (by decide) ?_
            refine lv_icmp_gt (tgt := 157) hx hb dX10_scaled_143 (by decide) (fun c_143 => ?_) (fun c_143 => ?_)
            · have t_143 : r41.toInt > 99 := toI_gt c_143 rfl (by decide : (99 : Int32).toInt = 99)
              refine lv_aload_n hx hb dX10_scaled_157 rfl (lv_at hl 6 rfl) ?_
              refine va_get (D := (dC, dI)) (ci := 10) (v := .ref (hT 0)) (C := RX10) (T := TX10) (N := 20) hx hb hts iwsMX10_scaled_in10 hown hK hP 0 rfl rfl 0 (by decide) (hts _ hm_m_X10_scaled_4) (fun _ h9 => h9) rfl dX10_scaled_158 ?_
              refine lv_bipush (v := 9) hx hb dX10_scaled_161 (by decide) ?_
              refine lv_iload hx hb dX10_scaled_163 (lv_at hl 10 rfl) ?_
              have p9 := cj_3_1 (WL hL aL kL hT hM xL_tree iL_names gL_key fL_kind fL_one fL_two fL_base iL_params fL_paramOver dL_paramOver nL_params fL_paramUnder dL_paramUnder nL_pu gL_over gL_under fL_bound iL_nameAt iL_startAt iL_steps jL_scaleOver jL_scaleUnder) (WT hT aT kT fT_tape dT_tape nT_tape iT_length iT_fault iT_place iT_kind iT_at iT_number jT_name iT_next) (WM hM aM kM iM_stands iM_variables iM_rows iM_goals iM_differents iM_cases fM_from fM_to fM_whole fM_ways iM_plainRows fM_plainRow fM_kept fM_goalOver fM_goalUnder fM_goalMax fM_different)
              have hPc := hP.mem (fun q h => p9.mem_iff.mpr (List.mem_append_left _ h))
              have hDc := (hD.perm p9).left
              have hKc : va_K (dC, dI) vwCl (tT kT) _ := hK.sub [10] rfl
              have hFc := freeG p9 hD hS hA
              refine vx_callv (vx_runV (As := [.int 9, .int p4]) (rest := []) ⟨hx, hb, hml, hown, hts⟩ (m_X9_fail l hst dC dI hT aT kT fT_tape dT_tape nT_tape iT_length iT_fault iT_place iT_kind iT_at iT_number jT_name iT_next 9 p4 b_fT_tape (by first | exact b_nT_tape | with_reducible assumption | exact ⟨by omega, by omega⟩ | assumption) (b_iT_length) (b_iT_at) (b_iT_number) (b_iT_next) (by first | with_reducible assumption | omega | assumption) H.size) (cwV 2 hts gwsMX10_scaled_2 rfl rfl rfl hd_yX9_fail_RX9 (by decide +kernel)) (fz_preE (va_recv hK hP (ci := 9) (q0 := 11) rfl rfl) hPc hKc hDc (fun a U g mk qE => qE.call) (fun U hU9 hW => by rw [hU9]; exact (((hE : CE A s s.heap).kept hS.2.1).narrow (fun q h => hFc q h)).warm hW)) rfl rfl hl.1 rfl (lv_room (Nat.le_of_ble_eq_true rfl)) dX10_scaled_165 (by decide +kernel)) hS (fun q _ h => hFc q h) hFc (fun q _ h => hFc q h) (fun E ce q9 u t9_ H locs ht hvm hw9 hB9 hz1 hk1 hS hc1 hc2 hc3 => ?_) (fun u t9_ H1 locs ht hvm hw9 hB9 hz1 hk1 hS => ?_)
              · revert u hw9 hB9
                refine fz_p2 ?_
                intro iT_fault_50 iT_place_50 hw9 hB9
                try dsimp only at hw9 hB9
                revert hB9
                refine fz_a2 ?_
                intro hEx hB9
                clear hw9
                have p8 := cj_3_1 (WL hL aL kL hT hM xL_tree iL_names gL_key fL_kind fL_one fL_two fL_base iL_params fL_paramOver dL_paramOver nL_params fL_paramUnder dL_paramUnder nL_pu gL_over gL_under fL_bound iL_nameAt iL_startAt iL_steps jL_scaleOver jL_scaleUnder) (WT hT aT kT fT_tape dT_tape nT_tape iT_length iT_fault_50 iT_place_50 iT_kind iT_at iT_number jT_name iT_next) (WM hM aM kM iM_stands iM_variables iM_rows iM_goals iM_differents iM_cases fM_from fM_to fM_whole fM_ways iM_plainRows fM_plainRow fM_kept fM_goalOver fM_goalUnder fM_goalMax fM_different)
                obtain ⟨hP, hD⟩ := frameG p9 p8 hP hD hk1 hFc (fz_P ht hB9.1) hB9.2
                exact vx_out (fun x hx9 => (htab x hx9).elim) hlocks hc1 hc2 hc3 (fun t9_ ht hvm => ⟨(jL_scaleOver, jL_scaleUnder, iT_fault_50, iT_place_50, fM_kept), trivial, ⟨(by have h9 := hEx; exact h9), by rw [ht]; exact hP, hD⟩, hS.F ht⟩) hS.2.2 (by decide +kernel) (by decide +kernel)
              exact False.elim hw9
            · have t_143 : ¬ r41.toInt > 99 := toI_ngt c_143 rfl (by decide : (99 : Int32).toInt = 99)
              refine lv_aload_n hx hb dX10_scaled_146 rfl (lv_at hl 6 rfl) ?_
              refine lv_iload_n hx hb dX10_scaled_147 rfl (lv_at hl 7 rfl) ?_
              refine lv_iload_n hx hb dX10_scaled_148 rfl (lv_at hl 8 rfl) ?_
              refine lv_iload hx hb dX10_scaled_149 (lv_at hl 0 rfl) ?_
              have p9 := cj_3_0_2 (WL hL aL kL hT hM xL_tree iL_names gL_key fL_kind fL_one fL_two fL_base iL_params fL_paramOver dL_paramOver nL_params fL_paramUnder dL_paramUnder nL_pu gL_over gL_under fL_bound iL_nameAt iL_startAt iL_steps jL_scaleOver jL_scaleUnder) (WT hT aT kT fT_tape dT_tape nT_tape iT_length iT_fault iT_place iT_kind iT_at iT_number jT_name iT_next) (WM hM aM kM iM_stands iM_variables iM_rows iM_goals iM_differents iM_cases fM_from fM_to fM_whole fM_ways iM_plainRows fM_plainRow fM_kept fM_goalOver fM_goalUnder fM_goalMax fM_different)
              have hPc := hP.mem (fun q h => p9.mem_iff.mpr (List.mem_append_left _ h))
              have hDc := (hD.perm p9).left
              have hKc : va_K (dC, dI) vwCl (tL kL ++ (tM kM)) _ := hK.sub [0, 1, 2, 3, 4, 5, 6, 7, 8, 9, 11, 12, 13, 14, 15, 16, 17, 18, 19, 20] rfl
              have hFc := freeG p9 hD hS hA
              refine va_calli (va_runV (As := [.int p1, .int p2, .int r41]) (rest := []) ⟨hx, hb, hml, hown, hts⟩ (m_X10_stretchWay l dC dI hL aL kL hT hM xL_tree iL_names gL_key fL_kind fL_one fL_two fL_base iL_params fL_paramOver dL_paramOver nL_params fL_paramUnder dL_paramUnder nL_pu gL_over gL_under fL_bound iL_nameAt iL_startAt iL_steps jL_scaleOver jL_scaleUnder aM kM iM_stands iM_variables iM_rows iM_goals iM_differents iM_cases fM_from fM_to fM_whole fM_ways iM_plainRows fM_plainRow fM_kept fM_goalOver fM_goalUnder fM_goalMax fM_different p1 p2 r41 (b_iL_names) b_fL_kind b_fL_two b_fL_base (b_iL_params) (by first | exact b_nL_params | with_reducible assumption | exact ⟨by omega, by omega⟩ | assumption) (by first | with_reducible assumption | omega | (rw [iI_t (by omega) (by omega)]; omega) | assumption) (by first | with_reducible assumption | omega | (rw [iI_t (by omega) (by omega)]; omega) | assumption) (by first | with_reducible assumption | omega | (rw [iI_t (by omega) (by omega)]; omega) | assumption) (b_iM_stands) (b_iM_variables) (b_iM_rows) (b_iM_goals) (b_iM_differents) (b_iM_cases) b_fM_ways (b_iM_plainRows) b_fM_plainRow (by first | with_reducible assumption | omega | assumption) (b_p1) (b_p2) H.size) (cwV 3 hts gwsMX10_scaled_3 rfl rfl rfl hd_yX10_stretchWay_RX10 (by decide +kernel)) (fz_pre (va_recv hK hP (ci := 10) (q0 := 0) rfl rfl) hPc hKc hDc) rfl rfl hl.1 rfl (lv_room (Nat.le_of_ble_eq_true rfl)) dX10_scaled_151 (by decide +kernel)) hS (fun q _ h => hFc q h) hFc (fun r51 fM_kept_51 t9_ H locs ht hvm hw9 hB9 hz1 hk1 hS => ?_)
              have b_r51 := hw9
              try dsimp only at b_r51
              have p8 := cj_3_0_2 (WL hL aL kL hT hM xL_tree iL_names gL_key fL_kind fL_one fL_two fL_base iL_params fL_paramOver dL_paramOver nL_params fL_paramUnder dL_paramUnder nL_pu gL_over gL_under fL_bound iL_nameAt iL_startAt iL_steps jL_scaleOver jL_scaleUnder) (WT hT aT kT fT_tape dT_tape nT_tape iT_length iT_fault iT_place iT_kind iT_at iT_number jT_name iT_next) (WM hM aM kM iM_stands iM_variables iM_rows iM_goals iM_differents iM_cases fM_from fM_to fM_whole fM_ways iM_plainRows fM_plainRow fM_kept_51 fM_goalOver fM_goalUnder fM_goalMax fM_different)
              obtain ⟨hP, hD⟩ := frameG p9 p8 hP hD hk1 hFc (fz_P ht hB9.1) hB9.2
              refine lv_if_ne (tgt := 168) hx hb dX10_scaled_154 (by decide) (fun c_154 => ?_) (fun c_154 => ?_)
              · have t_154 : r51.toInt ≠ 0 := toI_ne c_154 rfl (by decide : (0 : Int32).toInt = 0)
                refine lv_iload hx hb dX10_scaled_168 (lv_at hl 0 rfl) ?_
                refine lv_i2l hx hb dX10_scaled_170 rfl ?_
                refine lv_topl (fun v53 hv53 => ?_)
                clear hv53
                refine lv_aload_n hx hb dX10_scaled_171 rfl (lv_at hl 6 rfl) ?_
                refine va_get (D := (dC, dI)) (ci := 10) (v := .long jL_scaleUnder) (C := RX10) (T := TX10) (N := 20) hx hb hts iwsMX10_scaled_in10 hown hK hP 0 rfl rfl 19 (by decide) (hts _ hm_m_X10_scaled_3) (fun _ h9 => h9) rfl dX10_scaled_172 ?_
                have hFc := noneFree hS hA
                refine va_calll (va_runS (As := [.long v53, .long jL_scaleUnder]) (rest := []) ⟨hx, hb, hml, hown, hts⟩ (m_X10_divisor l dC dI v53 jL_scaleUnder H.size) (va_cwS 2 hts gwsMX10_scaled_0 rfl rfl rfl (by decide +kernel) ⟨by decide +kernel, by decide +kernel⟩) ⟨fun a U g mk q => by obtain ⟨q0, q1, qP, qK, qD⟩ := q; exact ⟨q0, q1, qP, va_K.moved (u := U) (U := U.calling g mk a) (Vm.Alike.refl U.vm) qK, qD⟩, fun U hU9 hW => ⟨rfl, by rw [hU9], by rw [hU9]; exact nilP, va_K.moved hW.alike (hK.sub (tys' := []) [] rfl), nilD⟩⟩ rfl rfl hl.1 rfl (lv_room (Nat.le_of_ble_eq_true rfl)) dX10_scaled_175 (by decide +kernel)) hS (fun q _ h => hFc q h) hFc (fun r54 u t9_ H1 locs ht hvm hw9 hB9 hz1 hk1 hS => ?_)
                have f54_0 := hw9
                try dsimp only at f54_0
                clear hB9
                have hP := keepAll hP hk1
                generalize H1 = H at hP hS ⊢
                have hP : va_P (dC, dI) vwCl (WL hL aL kL hT hM xL_tree iL_names gL_key fL_kind fL_one fL_two fL_base iL_params fL_paramOver dL_paramOver nL_params fL_paramUnder dL_paramUnder nL_pu gL_over gL_under fL_bound iL_nameAt iL_startAt iL_steps jL_scaleOver jL_scaleUnder ++ (WT hT aT kT fT_tape dT_tape nT_tape iT_length iT_fault iT_place iT_kind iT_at iT_number jT_name iT_next ++ (WM hM aM kM iM_stands iM_variables iM_rows iM_goals iM_differents iM_cases fM_from fM_to fM_whole fM_ways iM_plainRows fM_plainRow fM_kept_51 fM_goalOver fM_goalUnder fM_goalMax fM_different))) H := hP
                have hD := fz_sd hP (hD) rfl
                refine lv_lstore hx hb dX10_scaled_178 hl (by decide) rfl (fun ls (hl : lv_has ls _ ([(14, .long r54), (13, .int r41), (7, .int r37), (12, .int k0_j7), (10, .long r34), (8, .long r33), (5, .long v2), (0, .ref (hL 0)), (1, .int p1), (2, .int p2), (3, .int p3), (4, .int p4)])) => ?_)
                refine lv_aload_n hx hb dX10_scaled_180 rfl (lv_at hl 7 rfl) ?_
                refine lv_dup hx hb dX10_scaled_181 rfl ?_
                refine va_get (D := (dC, dI)) (ci := 10) (v := .long jL_scaleOver) (C := RX10) (T := TX10) (N := 20) hx hb hts iwsMX10_scaled_in10 hown hK hP 0 rfl rfl 18 (by decide) (hts _ hm_m_X10_scaled_1) (fun _ h9 => h9) rfl dX10_scaled_182 ?_
                refine lv_iload hx hb dX10_scaled_185 (lv_at hl 1 rfl) ?_
                refine lv_i2l hx hb dX10_scaled_187 rfl ?_
                refine lv_topl (fun v55 hv55 => ?_)
                clear hv55
                refine lv_lload hx hb dX10_scaled_188 (lv_at hl 0 rfl) ?_
                refine lv_ldiv hx hb dX10_scaled_190 (nz_l (x := r54) rfl (by omega)) ?_
                refine lv_topl (fun v56 hv56 => ?_)
                clear hv56
                refine lv_lmul hx hb dX10_scaled_191 ?_
                refine lv_topl (fun v57 hv57 => ?_)
                clear hv57
                refine va_put (D := (dC, dI)) (ci := 10) (v := .long v57) (ty := .long) (C := RX10) (T := TX10) (N := 20) hx hb hts iwsMX10_scaled_in10 tyX10 tyX10_ok nmX10 hown hK hP hD hS 0 rfl rfl 18 (by decide) (hts _ hm_m_X10_scaled_1) (fun _ h9 => h9) rfl (by decide +kernel) rfl rfl (Nat.le_of_ble_eq_true rfl) dX10_scaled_192 (fun H locs hP hD hS => ?_)
                have hP : va_P (dC, dI) vwCl (WL hL aL kL hT hM xL_tree iL_names gL_key fL_kind fL_one fL_two fL_base iL_params fL_paramOver dL_paramOver nL_params fL_paramUnder dL_paramUnder nL_pu gL_over gL_under fL_bound iL_nameAt iL_startAt iL_steps v57 jL_scaleUnder ++ (WT hT aT kT fT_tape dT_tape nT_tape iT_length iT_fault iT_place iT_kind iT_at iT_number jT_name iT_next ++ (WM hM aM kM iM_stands iM_variables iM_rows iM_goals iM_differents iM_cases fM_from fM_to fM_whole fM_ways iM_plainRows fM_plainRow fM_kept_51 fM_goalOver fM_goalUnder fM_goalMax fM_different))) H := hP
                have hD := fz_sd hP (hD) rfl
                refine lv_aload_n hx hb dX10_scaled_195 rfl (lv_at hl 7 rfl) ?_
                refine lv_dup hx hb dX10_scaled_196 rfl ?_
                refine va_get (D := (dC, dI)) (ci := 10) (v := .long jL_scaleUnder) (C := RX10) (T := TX10) (N := 20) hx hb hts iwsMX10_scaled_in10 hown hK hP 0 rfl rfl 19 (by decide) (hts _ hm_m_X10_scaled_3) (fun _ h9 => h9) rfl dX10_scaled_197 ?_
                refine lv_lload hx hb dX10_scaled_200 (lv_at hl 0 rfl) ?_
                refine lv_ldiv hx hb dX10_scaled_202 (nz_l (x := r54) rfl (by omega)) ?_
                refine lv_topl (fun v58 hv58 => ?_)
                clear hv58
                refine va_put (D := (dC, dI)) (ci := 10) (v := .long v58) (ty := .long) (C := RX10) (T := TX10) (N := 20) hx hb hts iwsMX10_scaled_in10 tyX10 tyX10_ok nmX10 hown hK hP hD hS 0 rfl rfl 19 (by decide) (hts _ hm_m_X10_scaled_3) (fun _ h9 => h9) rfl (by decide +kernel) rfl rfl (Nat.le_of_ble_eq_true rfl) dX10_scaled_203 (fun H locs hP hD hS => ?_)
                have hP : va_P (dC, dI) vwCl (WL hL aL kL hT hM xL_tree iL_names gL_key fL_kind fL_one fL_two fL_base iL_params fL_paramOver dL_paramOver nL_params fL_paramUnder dL_paramUnder nL_pu gL_over gL_under fL_bound iL_nameAt iL_startAt iL_steps v57 v58 ++ (WT hT aT kT fT_tape dT_tape nT_tape iT_length iT_fault iT_place iT_kind iT_at iT_number jT_name iT_next ++ (WM hM aM kM iM_stands iM_variables iM_rows iM_goals iM_differents iM_cases fM_from fM_to fM_whole fM_ways iM_plainRows fM_plainRow fM_kept_51 fM_goalOver fM_goalUnder fM_goalMax fM_different))) H := hP
                have hD := fz_sd hP (hD) rfl
                have hl : lv_has _ _ ([(7, .int r37), (5, .long v2), (0, .ref (hL 0)), (1, .int p1), (2, .int p2), (3, .int p3), (4, .int p4)]) := lv_sub hl [2, 6, 7, 8, 9, 10, 11] rfl
                exact join6 _ _ _ _ ⟨v57, v58, fM_kept_51, r37, rfl, hP, hD, hS, hl⟩
              · have t_154 : r51.toInt = 0 := toI_nne c_154 rfl (by decide : (0 : Int32).toInt = 0)
                refine lv_aload_n hx hb dX10_scaled_157 rfl (lv_at hl 6 rfl) ?_
                refine va_get (D := (dC, dI)) (ci := 10) (v := .ref (hT 0)) (C := RX10) (T := TX10) (N := 20) hx hb hts iwsMX10_scaled_in10 hown hK hP 0 rfl rfl 0 (by decide) (hts _ hm_m_X10_scaled_4) (fun _ h9 => h9) rfl dX10_scaled_158 ?_
                refine lv_bipush (v := 9) hx hb dX10_scaled_161 (by decide) ?_
                refine lv_iload hx hb dX10_scaled_163 (lv_at hl 10 rfl) ?_
                have p9 := cj_3_1 (WL hL aL kL hT hM xL_tree iL_names gL_key fL_kind fL_one fL_two fL_base iL_params fL_paramOver dL_paramOver nL_params fL_paramUnder dL_paramUnder nL_pu gL_over gL_under fL_bound iL_nameAt iL_startAt iL_steps jL_scaleOver jL_scaleUnder) (WT hT aT kT fT_tape dT_tape nT_tape iT_length iT_fault iT_place iT_kind iT_at iT_number jT_name iT_next) (WM hM aM kM iM_stands iM_variables iM_rows iM_goals iM_differents iM_cases fM_from fM_to fM_whole fM_ways iM_plainRows fM_plainRow fM_kept_51 fM_goalOver fM_goalUnder fM_goalMax fM_different)
                have hPc := hP.mem (fun q h => p9.mem_iff.mpr (List.mem_append_left _ h))
                have hDc := (hD.perm p9).left
                have hKc : va_K (dC, dI) vwCl (tT kT) _ := hK.sub [10] rfl
                have hFc := freeG p9 hD hS hA
                refine vx_callv (vx_runV (As := [.int 9, .int p4]) (rest := []) ⟨hx, hb, hml, hown, hts⟩ (m_X9_fail l hst dC dI hT aT kT fT_tape dT_tape nT_tape iT_length iT_fault iT_place iT_kind iT_at iT_number jT_name iT_next 9 p4 b_fT_tape (by first | exact b_nT_tape | with_reducible assumption | exact ⟨by omega, by omega⟩ | assumption) (b_iT_length) (b_iT_at) (b_iT_number) (b_iT_next) (by first | with_reducible assumption | omega | assumption) H.size) (cwV 2 hts gwsMX10_scaled_2 rfl rfl rfl hd_yX9_fail_RX9 (by decide +kernel)) (fz_preE (va_recv hK hP (ci := 9) (q0 := 11) rfl rfl) hPc hKc hDc (fun a U g mk qE => qE.call) (fun U hU9 hW => by rw [hU9]; exact (((hE : CE A s s.heap).kept hS.2.1).narrow (fun q h => hFc q h)).warm hW)) rfl rfl hl.1 rfl (lv_room (Nat.le_of_ble_eq_true rfl)) dX10_scaled_165 (by decide +kernel)) hS (fun q _ h => hFc q h) hFc (fun q _ h => hFc q h) (fun E ce q9 u t9_ H locs ht hvm hw9 hB9 hz1 hk1 hS hc1 hc2 hc3 => ?_) (fun u t9_ H1 locs ht hvm hw9 hB9 hz1 hk1 hS => ?_)
                · revert u hw9 hB9
                  refine fz_p2 ?_
                  intro iT_fault_59 iT_place_59 hw9 hB9
                  try dsimp only at hw9 hB9
                  revert hB9
                  refine fz_a2 ?_
                  intro hEx hB9
                  clear hw9
                  have p8 := cj_3_1 (WL hL aL kL hT hM xL_tree iL_names gL_key fL_kind fL_one fL_two fL_base iL_params fL_paramOver dL_paramOver nL_params fL_paramUnder dL_paramUnder nL_pu gL_over gL_under fL_bound iL_nameAt iL_startAt iL_steps jL_scaleOver jL_scaleUnder) (WT hT aT kT fT_tape dT_tape nT_tape iT_length iT_fault_59 iT_place_59 iT_kind iT_at iT_number jT_name iT_next) (WM hM aM kM iM_stands iM_variables iM_rows iM_goals iM_differents iM_cases fM_from fM_to fM_whole fM_ways iM_plainRows fM_plainRow fM_kept_51 fM_goalOver fM_goalUnder fM_goalMax fM_different)
                  obtain ⟨hP, hD⟩ := frameG p9 p8 hP hD hk1 hFc (fz_P ht hB9.1) hB9.2
                  exact vx_out (fun x hx9 => (htab x hx9).elim) hlocks hc1 hc2 hc3 (fun t9_ ht hvm => ⟨(jL_scaleOver, jL_scaleUnder, iT_fault_59, iT_place_59, fM_kept_51), trivial, ⟨(by have h9 := hEx; exact h9), by rw [ht]; exact hP, hD⟩, hS.F ht⟩) hS.2.2 (by decide +kernel) (by decide +kernel)
                exact False.elim hw9
      · have t_29 : jL_scaleOver.toInt = 0 := toL_nne c_29 rfl (by decide : (0 : Int64).toInt = 0)
        refine lv_aload_n hx hb dX10_scaled_32 rfl (lv_at hl 2 rfl) ?_
        refine lv_aload_n hx hb dX10_scaled_33 rfl (lv_at hl 2 rfl) ?_
        refine va_get (D := (dC, dI)) (ci := 10) (v := .ref (aL 8)) (C := RX10) (T := TX10) (N := 20) hx hb hts iwsMX10_scaled_in10 hown hK hP 0 rfl rfl 13 (by decide) (hts _ hm_m_X10_scaled_2) (fun _ h9 => h9) rfl dX10_scaled_34 ?_
        refine lv_iload_n hx hb dX10_scaled_37 rfl (lv_at hl 5 rfl) ?_
        refine va_lald (cA := kL 8) (n := 360) (f := gL_under) hx hb hK hP 9 8 rfl rfl (vp_in_iff.mpr ⟨b_p3.1, (Int.lt_of_le_of_lt (b_p3.2) (by decide))⟩) dX10_scaled_38 ?_
        refine lv_topl (fun v60 hv60 => ?_)
        clear hv60
        refine va_put (D := (dC, dI)) (ci := 10) (v := .long v60) (ty := .long) (C := RX10) (T := TX10) (N := 20) hx hb hts iwsMX10_scaled_in10 tyX10 tyX10_ok nmX10 hown hK hP hD hS 0 rfl rfl 18 (by decide) (hts _ hm_m_X10_scaled_1) (fun _ h9 => h9) rfl (by decide +kernel) rfl rfl (Nat.le_of_ble_eq_true rfl) dX10_scaled_39 (fun H locs hP hD hS => ?_)
        have hP : va_P (dC, dI) vwCl (WL hL aL kL hT hM xL_tree iL_names gL_key fL_kind fL_one fL_two fL_base iL_params fL_paramOver dL_paramOver nL_params fL_paramUnder dL_paramUnder nL_pu gL_over gL_under fL_bound iL_nameAt iL_startAt iL_steps v60 jL_scaleUnder ++ (WT hT aT kT fT_tape dT_tape nT_tape iT_length iT_fault iT_place iT_kind iT_at iT_number jT_name iT_next ++ (WM hM aM kM iM_stands iM_variables iM_rows iM_goals iM_differents iM_cases fM_from fM_to fM_whole fM_ways iM_plainRows fM_plainRow fM_kept fM_goalOver fM_goalUnder fM_goalMax fM_different))) H := hP
        have hD := fz_sd hP (hD) rfl
        refine lv_aload_n hx hb dX10_scaled_42 rfl (lv_at hl 2 rfl) ?_
        refine lv_lload hx hb dX10_scaled_43 (lv_at hl 1 rfl) ?_
        refine va_put (D := (dC, dI)) (ci := 10) (v := .long v2) (ty := .long) (C := RX10) (T := TX10) (N := 20) hx hb hts iwsMX10_scaled_in10 tyX10 tyX10_ok nmX10 hown hK hP hD hS 0 rfl rfl 19 (by decide) (hts _ hm_m_X10_scaled_3) (fun _ h9 => h9) rfl (by decide +kernel) rfl rfl (Nat.le_of_ble_eq_true rfl) dX10_scaled_45 (fun H locs hP hD hS => ?_)
        have hP : va_P (dC, dI) vwCl (WL hL aL kL hT hM xL_tree iL_names gL_key fL_kind fL_one fL_two fL_base iL_params fL_paramOver dL_paramOver nL_params fL_paramUnder dL_paramUnder nL_pu gL_over gL_under fL_bound iL_nameAt iL_startAt iL_steps v60 v2 ++ (WT hT aT kT fT_tape dT_tape nT_tape iT_length iT_fault iT_place iT_kind iT_at iT_number jT_name iT_next ++ (WM hM aM kM iM_stands iM_variables iM_rows iM_goals iM_differents iM_cases fM_from fM_to fM_whole fM_ways iM_plainRows fM_plainRow fM_kept fM_goalOver fM_goalUnder fM_goalMax fM_different))) H := hP
        have hD := fz_sd hP (hD) rfl
        refine lv_goto (tgt := 206) hx hb dX10_scaled_48 (by decide) ?_
        have hl : lv_has _ _ ([(7, .int 1), (5, .long v2), (0, .ref (hL 0)), (1, .int p1), (2, .int p2), (3, .int p3), (4, .int p4)]) := lv_sub hl [0, 1, 2, 3, 4, 5, 6] rfl
        exact join6 _ _ _ _ ⟨v60, v2, fM_kept, 1, rfl, hP, hD, hS, hl⟩
    · intro H locs ls stk
      refine fz_e4 ?_
      intro jL_scaleOver_j6 jL_scaleUnder_j6 fM_kept_j6 l7_j6
      refine fz_a5 ?_
      intro hst9_0 hP hD hS hl
      subst hst9_0
      refine lv_aload_n hx hb dX10_scaled_206 rfl (lv_at hl 2 rfl) ?_
      refine va_get (D := (dC, dI)) (ci := 10) (v := .ref (aL 7)) (C := RX10) (T := TX10) (N := 20) hx hb hts iwsMX10_scaled_in10 hown hK hP 0 rfl rfl 12 (by decide) (hts _ hm_m_X10_scaled_0) (fun _ h9 => h9) rfl dX10_scaled_207 ?_
      refine lv_iload_n hx hb dX10_scaled_210 rfl (lv_at hl 5 rfl) ?_
      refine va_lald (cA := kL 7) (n := 360) (f := gL_over) hx hb hK hP 8 7 rfl rfl (vp_in_iff.mpr ⟨b_p3.1, (Int.lt_of_le_of_lt (b_p3.2) (by decide))⟩) dX10_scaled_211 ?_
      refine lv_topl (fun v61 hv61 => ?_)
      clear hv61
      refine lv_lconst (v := 0) hx hb dX10_scaled_212 (by decide) ?_
      refine W.lcmp hx hb dX10_scaled_213 ?_
      refine W.cut (pc := 225) (fun H locs ls stk => ∃ (k0_j8 : Int32),  stk = [.int k0_j8] ∧ va_P (dC, dI) vwCl (WL hL aL kL hT hM xL_tree iL_names gL_key fL_kind fL_one fL_two fL_base iL_params fL_paramOver dL_paramOver nL_params fL_paramUnder dL_paramUnder nL_pu gL_over gL_under fL_bound iL_nameAt iL_startAt iL_steps jL_scaleOver_j6 jL_scaleUnder_j6 ++ (WT hT aT kT fT_tape dT_tape nT_tape iT_length iT_fault iT_place iT_kind iT_at iT_number jT_name iT_next ++ (WM hM aM kM iM_stands iM_variables iM_rows iM_goals iM_differents iM_cases fM_from fM_to fM_whole fM_ways iM_plainRows fM_plainRow fM_kept_j6 fM_goalOver fM_goalUnder fM_goalMax fM_different))) H ∧ va_D A (WL hL aL kL hT hM xL_tree iL_names gL_key fL_kind fL_one fL_two fL_base iL_params fL_paramOver dL_paramOver nL_params fL_paramUnder dL_paramUnder nL_pu gL_over gL_under fL_bound iL_nameAt iL_startAt iL_steps jL_scaleOver_j6 jL_scaleUnder_j6 ++ (WT hT aT kT fT_tape dT_tape nT_tape iT_length iT_fault iT_place iT_kind iT_at iT_number jT_name iT_next ++ (WM hM aM kM iM_stands iM_variables iM_rows iM_goals iM_differents iM_cases fM_from fM_to fM_whole fM_ways iM_plainRows fM_plainRow fM_kept_j6 fM_goalOver fM_goalUnder fM_goalMax fM_different))) ∧ va_S A s.heap H locs ∧ lv_has ls 16 [(7, .int l7_j6), (5, .long v2), (0, .ref (hL 0)), (1, .int p1), (2, .int p2), (3, .int p3), (4, .int p4)]) (fun join8 => ?_) ?_
      · refine lv_if_ge (tgt := 223) hx hb dX10_scaled_214 (by decide) (fun c_214 => ?_) (fun c_214 => ?_)
        · have t_214 : v61.toInt ≥ 0 := toL_ge c_214 rfl (by decide : (0 : Int64).toInt = 0)
          refine lv_iload hx hb dX10_scaled_223 (lv_at hl 0 rfl) ?_
          have hl : lv_has _ _ ([(7, .int l7_j6), (5, .long v2), (0, .ref (hL 0)), (1, .int p1), (2, .int p2), (3, .int p3), (4, .int p4)]) := lv_sub hl [0, 1, 2, 3, 4, 5, 6] rfl
          exact join8 _ _ _ _ ⟨l7_j6, rfl, hP, hD, hS, hl⟩
        · have t_214 : ¬ v61.toInt ≥ 0 := toL_nge c_214 rfl (by decide : (0 : Int64).toInt = 0)
          refine lv_iload hx hb dX10_scaled_217 (lv_at hl 0 rfl) ?_
          refine lv_ineg hx hb dX10_scaled_219 ?_
          refine lv_topi (fun y63 hy63 => ?_)
          obtain rfl : (iI (-l7_j6.toInt)) = y63 := (hy63.trans (iI_neg2 (iI_of _))).symm
          refine lv_goto (tgt := 225) hx hb dX10_scaled_220 (by decide) ?_
          have hl : lv_has _ _ ([(7, .int l7_j6), (5, .long v2), (0, .ref (hL 0)), (1, .int p1), (2, .int p2), (3, .int p3), (4, .int p4)]) := lv_sub hl [0, 1, 2, 3, 4, 5, 6] rfl
          exact join8 _ _ _ _ ⟨(iI (-l7_j6.toInt)), rfl, hP, hD, hS, hl⟩
      · rintro H locs ls stk ⟨k0_j8, rfl, hP, hD, hS, hl⟩
        refine vx_ret ?_
        refine W.known (fun hz9 _ => ?_)
        refine W.widen (k := 1) (n := 6) (by decide +kernel) (by decide +kernel) ?_
        exact W.iret (v := k0_j8) hx hb hr (fun t9_ ht hW => ⟨⟨k0_j8, (jL_scaleOver_j6, jL_scaleUnder_j6, iT_fault, iT_place, fM_kept_j6), rfl, trivial, by rw [ht]; exact hP, hD, by rw [ht]; first | done | exact Nat.le_antisymm hz9 hS.1⟩, hS.F ht⟩) hS.2.2 dX10_scaled_225
  · have t_15 : v2.toInt = 0 := toL_nne c_15 rfl (by decide : (0 : Int64).toInt = 0)
    refine lv_iconst (v := 0) hx hb dX10_scaled_18 (by decide) ?_
    refine vx_ret ?_
    refine W.known (fun hz9 _ => ?_)
    refine W.widen (k := 1) (n := 6) (by decide +kernel) (by decide +kernel) ?_
    exact W.iret (v := 0) hx hb hr (fun t9_ ht hW => ⟨⟨(0 : Int32), (jL_scaleOver, jL_scaleUnder, iT_fault, iT_place, fM_kept), rfl, trivial, by rw [ht]; exact hP, hD, by rw [ht]; first | done | exact Nat.le_antisymm hz9 hS.1⟩, hS.F ht⟩) hS.2.2 dX10_scaled_19
theorem dX10_keepWay_0 : decode cX10_keepWay 0 = .ok (.aload_n 0, 1) := dk_42 (by decide +kernel)
theorem dX10_keepWay_1 : decode cX10_keepWay 1 = .ok (.getfield 55, 3) := dk_180 (by decide +kernel)
theorem dX10_keepWay_4 : decode cX10_keepWay 4 = .ok (.iload_n 3, 1) := dk_29 (by decide +kernel)
theorem dX10_keepWay_5 : decode cX10_keepWay 5 = .ok (.iconst 1, 1) := dk_4 (by decide +kernel)
theorem dX10_keepWay_6 : decode cX10_keepWay 6 = .ok (.iadd, 1) := dk_96 (by decide +kernel)
theorem dX10_keepWay_7 : decode cX10_keepWay 7 = .ok (.iaload, 1) := dk_46 (by decide +kernel)
theorem dX10_keepWay_8 : decode cX10_keepWay 8 = .ok (.istore 4, 2) := dk_54 (by decide +kernel)
theorem dX10_keepWay_10 : decode cX10_keepWay 10 = .ok (.aload_n 0, 1) := dk_42 (by decide +kernel)
theorem dX10_keepWay_11 : decode cX10_keepWay 11 = .ok (.getfield 51, 3) := dk_180 (by decide +kernel)
theorem dX10_keepWay_14 : decode cX10_keepWay 14 = .ok (.iload_n 1, 1) := dk_27 (by decide +kernel)
theorem dX10_keepWay_15 : decode cX10_keepWay 15 = .ok (.iload_n 2, 1) := dk_28 (by decide +kernel)
theorem dX10_keepWay_16 : decode cX10_keepWay 16 = .ok (.invokevirtual 152, 3) := dk_182 (by decide +kernel)
theorem dX10_keepWay_19 : decode cX10_keepWay 19 = .ok (.aload_n 0, 1) := dk_42 (by decide +kernel)
theorem dX10_keepWay_20 : decode cX10_keepWay 20 = .ok (.lconst 0, 1) := dk_9 (by decide +kernel)
theorem dX10_keepWay_21 : decode cX10_keepWay 21 = .ok (.putfield 155, 3) := dk_181 (by decide +kernel)
theorem dX10_keepWay_24 : decode cX10_keepWay 24 = .ok (.aload_n 0, 1) := dk_42 (by decide +kernel)
theorem dX10_keepWay_25 : decode cX10_keepWay 25 = .ok (.lconst 1, 1) := dk_10 (by decide +kernel)
theorem dX10_keepWay_26 : decode cX10_keepWay 26 = .ok (.putfield 159, 3) := dk_181 (by decide +kernel)
theorem dX10_keepWay_29 : decode cX10_keepWay 29 = .ok (.iconst 0, 1) := dk_3 (by decide +kernel)
theorem dX10_keepWay_30 : decode cX10_keepWay 30 = .ok (.istore 5, 2) := dk_54 (by decide +kernel)
theorem dX10_keepWay_32 : decode cX10_keepWay 32 = .ok (.iload 5, 2) := dk_21 (by decide +kernel)
theorem dX10_keepWay_34 : decode cX10_keepWay 34 = .ok (.aload_n 0, 1) := dk_42 (by decide +kernel)
theorem dX10_keepWay_35 : decode cX10_keepWay 35 = .ok (.getfield 51, 3) := dk_180 (by decide +kernel)
theorem dX10_keepWay_38 : decode cX10_keepWay 38 = .ok (.getfield 93, 3) := dk_180 (by decide +kernel)
theorem dX10_keepWay_41 : decode cX10_keepWay 41 = .ok (.if_icmp .gt 15, 3) := dk_163 (by decide +kernel)
theorem dX10_keepWay_44 : decode cX10_keepWay 44 = .ok (.aload_n 0, 1) := dk_42 (by decide +kernel)
theorem dX10_keepWay_45 : decode cX10_keepWay 45 = .ok (.iload 5, 2) := dk_21 (by decide +kernel)
theorem dX10_keepWay_47 : decode cX10_keepWay 47 = .ok (.invokevirtual 162, 3) := dk_182 (by decide +kernel)
theorem dX10_keepWay_50 : decode cX10_keepWay 50 = .ok (.iinc 5 1, 3) := dk_132 (by decide +kernel)
theorem dX10_keepWay_53 : decode cX10_keepWay 53 = .ok (.goto (-21), 3) := dk_167 (by decide +kernel)
theorem dX10_keepWay_56 : decode cX10_keepWay 56 = .ok (.iconst 1, 1) := dk_4 (by decide +kernel)
theorem dX10_keepWay_57 : decode cX10_keepWay 57 = .ok (.istore 5, 2) := dk_54 (by decide +kernel)
theorem dX10_keepWay_59 : decode cX10_keepWay 59 = .ok (.iload 5, 2) := dk_21 (by decide +kernel)
theorem dX10_keepWay_61 : decode cX10_keepWay 61 = .ok (.aload_n 0, 1) := dk_42 (by decide +kernel)
theorem dX10_keepWay_62 : decode cX10_keepWay 62 = .ok (.getfield 51, 3) := dk_180 (by decide +kernel)
theorem dX10_keepWay_65 : decode cX10_keepWay 65 = .ok (.getfield 93, 3) := dk_180 (by decide +kernel)
theorem dX10_keepWay_68 : decode cX10_keepWay 68 = .ok (.if_icmp .gt 36, 3) := dk_163 (by decide +kernel)
theorem dX10_keepWay_71 : decode cX10_keepWay 71 = .ok (.aload_n 0, 1) := dk_42 (by decide +kernel)
theorem dX10_keepWay_72 : decode cX10_keepWay 72 = .ok (.iload_n 1, 1) := dk_27 (by decide +kernel)
theorem dX10_keepWay_73 : decode cX10_keepWay 73 = .ok (.iload_n 2, 1) := dk_28 (by decide +kernel)
theorem dX10_keepWay_74 : decode cX10_keepWay 74 = .ok (.iload 5, 2) := dk_21 (by decide +kernel)
theorem dX10_keepWay_76 : decode cX10_keepWay 76 = .ok (.iload 4, 2) := dk_21 (by decide +kernel)
theorem dX10_keepWay_78 : decode cX10_keepWay 78 = .ok (.invokevirtual 165, 3) := dk_182 (by decide +kernel)
theorem dX10_keepWay_81 : decode cX10_keepWay 81 = .ok (.istore 6, 2) := dk_54 (by decide +kernel)
theorem dX10_keepWay_83 : decode cX10_keepWay 83 = .ok (.aload_n 0, 1) := dk_42 (by decide +kernel)
theorem dX10_keepWay_84 : decode cX10_keepWay 84 = .ok (.getfield 51, 3) := dk_180 (by decide +kernel)
theorem dX10_keepWay_87 : decode cX10_keepWay 87 = .ok (.iload_n 1, 1) := dk_27 (by decide +kernel)
theorem dX10_keepWay_88 : decode cX10_keepWay 88 = .ok (.iload_n 2, 1) := dk_28 (by decide +kernel)
theorem dX10_keepWay_89 : decode cX10_keepWay 89 = .ok (.iload 5, 2) := dk_21 (by decide +kernel)
theorem dX10_keepWay_91 : decode cX10_keepWay 91 = .ok (.iconst 1, 1) := dk_4 (by decide +kernel)
theorem dX10_keepWay_92 : decode cX10_keepWay 92 = .ok (.isub, 1) := dk_100 (by decide +kernel)
theorem dX10_keepWay_93 : decode cX10_keepWay 93 = .ok (.iload 6, 2) := dk_21 (by decide +kernel)
theorem dX10_keepWay_95 : decode cX10_keepWay 95 = .ok (.invokevirtual 169, 3) := dk_182 (by decide +kernel)
theorem dX10_keepWay_98 : decode cX10_keepWay 98 = .ok (.iinc 5 1, 3) := dk_132 (by decide +kernel)
theorem dX10_keepWay_101 : decode cX10_keepWay 101 = .ok (.goto (-42), 3) := dk_167 (by decide +kernel)
theorem dX10_keepWay_104 : decode cX10_keepWay 104 = .ok (.aload_n 0, 1) := dk_42 (by decide +kernel)
theorem dX10_keepWay_105 : decode cX10_keepWay 105 = .ok (.iload_n 1, 1) := dk_27 (by decide +kernel)
theorem dX10_keepWay_106 : decode cX10_keepWay 106 = .ok (.iload_n 2, 1) := dk_28 (by decide +kernel)
theorem dX10_keepWay_107 : decode cX10_keepWay 107 = .ok (.iconst 0, 1) := dk_3 (by decide +kernel)
theorem dX10_keepWay_108 : decode cX10_keepWay 108 = .ok (.iload 4, 2) := dk_21 (by decide +kernel)
theorem dX10_keepWay_110 : decode cX10_keepWay 110 = .ok (.invokevirtual 165, 3) := dk_182 (by decide +kernel)
theorem dX10_keepWay_113 : decode cX10_keepWay 113 = .ok (.istore 5, 2) := dk_54 (by decide +kernel)
theorem dX10_keepWay_115 : decode cX10_keepWay 115 = .ok (.aload_n 0, 1) := dk_42 (by decide +kernel)
theorem dX10_keepWay_116 : decode cX10_keepWay 116 = .ok (.getfield 51, 3) := dk_180 (by decide +kernel)
theorem dX10_keepWay_119 : decode cX10_keepWay 119 = .ok (.iload_n 1, 1) := dk_27 (by decide +kernel)
theorem dX10_keepWay_120 : decode cX10_keepWay 120 = .ok (.iload_n 2, 1) := dk_28 (by decide +kernel)
theorem dX10_keepWay_121 : decode cX10_keepWay 121 = .ok (.iload 5, 2) := dk_21 (by decide +kernel)
theorem dX10_keepWay_123 : decode cX10_keepWay 123 = .ok (.ineg, 1) := dk_116 (by decide +kernel)
theorem dX10_keepWay_124 : decode cX10_keepWay 124 = .ok (.aload_n 0, 1) := dk_42 (by decide +kernel)
theorem dX10_keepWay_125 : decode cX10_keepWay 125 = .ok (.getfield 55, 3) := dk_180 (by decide +kernel)
theorem dX10_keepWay_128 : decode cX10_keepWay 128 = .ok (.iload_n 3, 1) := dk_29 (by decide +kernel)
theorem dX10_keepWay_129 : decode cX10_keepWay 129 = .ok (.iconst 2, 1) := dk_5 (by decide +kernel)
theorem dX10_keepWay_130 : decode cX10_keepWay 130 = .ok (.iadd, 1) := dk_96 (by decide +kernel)
theorem dX10_keepWay_131 : decode cX10_keepWay 131 = .ok (.iaload, 1) := dk_46 (by decide +kernel)
theorem dX10_keepWay_132 : decode cX10_keepWay 132 = .ok (.invokestatic 173, 3) := dk_184 (by decide +kernel)
theorem dX10_keepWay_135 : decode cX10_keepWay 135 = .ok (.invokevirtual 176, 3) := dk_182 (by decide +kernel)
theorem dX10_keepWay_138 : decode cX10_keepWay 138 = .ok (.return_, 1) := dk_177 (by decide +kernel)
def wsMX10_keepWay : List Cond := .code yX10_keepWay cX10_keepWay 7 none :: ([.fieldLink RX10 55 "OptimaWorks$Worker" "tree" "[I", .fieldLink RX10 51 "OptimaWorks$Worker" "model" "LOptimaWorks$Model;", .fieldLink RX10 155 "OptimaWorks$Worker" "scaleOver" "J", .fieldLink RX10 159 "OptimaWorks$Worker" "scaleUnder" "J", .fieldLink RX10 93 "OptimaWorks$Model" "variables" "I"] ++ wsX10 ++ wsX100 ++ (wsV RX10 152 RX1 yX1_clearWay wsMX1_clearWay) ++ (wsV RX10 162 RX10 yX10_leaveDifference wsMX10_leaveDifference) ++ (wsV RX10 165 RX10 yX10_scaled wsMX10_scaled) ++ (wsV RX10 169 RX1 yX1_keepNumber wsMX1_keepNumber) ++ (va_wsS RX10 173 yX10_signOf wsMX10_signOf) ++ (wsV RX10 176 RX1 yX1_keepRight wsMX1_keepRight))
theorem iwsMX10_keepWay_in1 : ∀ w ∈ wsX10, w ∈ wsMX10_keepWay := fun _ h => List.mem_cons_of_mem _ (List.mem_append_left _ (List.mem_append_left _ (List.mem_append_left _ (List.mem_append_left _ (List.mem_append_left _ (List.mem_append_left _ (List.mem_append_left _ (List.mem_append_right _ h))))))))
theorem iwsMX10_keepWay_in10 : ∀ w ∈ wsX100, w ∈ wsMX10_keepWay := fun _ h => List.mem_cons_of_mem _ (List.mem_append_left _ (List.mem_append_left _ (List.mem_append_left _ (List.mem_append_left _ (List.mem_append_left _ (List.mem_append_left _ (List.mem_append_right _ h)))))))
theorem gwsMX10_keepWay_0 : GoodIn wsMX10_keepWay (wsV RX10 152 RX1 yX1_clearWay wsMX1_clearWay) := goodIn_sub (fun _ h => List.mem_cons_of_mem _ (List.mem_append_left _ (List.mem_append_left _ (List.mem_append_left _ (List.mem_append_left _ (List.mem_append_left _ (List.mem_append_right _ h))))))) (gdV (by decide +kernel) gdwsMX1_clearWay)
theorem gwsMX10_keepWay_1 : GoodIn wsMX10_keepWay (wsV RX10 162 RX10 yX10_leaveDifference wsMX10_leaveDifference) := goodIn_sub (fun _ h => List.mem_cons_of_mem _ (List.mem_append_left _ (List.mem_append_left _ (List.mem_append_left _ (List.mem_append_left _ (List.mem_append_right _ h)))))) (gdV (by decide +kernel) gdwsMX10_leaveDifference)
theorem gwsMX10_keepWay_2 : GoodIn wsMX10_keepWay (wsV RX10 165 RX10 yX10_scaled wsMX10_scaled) := goodIn_sub (fun _ h => List.mem_cons_of_mem _ (List.mem_append_left _ (List.mem_append_left _ (List.mem_append_left _ (List.mem_append_right _ h))))) (gdV (by decide +kernel) gdwsMX10_scaled)
theorem gwsMX10_keepWay_3 : GoodIn wsMX10_keepWay (wsV RX10 169 RX1 yX1_keepNumber wsMX1_keepNumber) := goodIn_sub (fun _ h => List.mem_cons_of_mem _ (List.mem_append_left _ (List.mem_append_left _ (List.mem_append_right _ h)))) (gdV (by decide +kernel) gdwsMX1_keepNumber)
theorem gwsMX10_keepWay_4 : GoodIn wsMX10_keepWay (va_wsS RX10 173 yX10_signOf wsMX10_signOf) := goodIn_sub (fun _ h => List.mem_cons_of_mem _ (List.mem_append_left _ (List.mem_append_right _ h))) (gdS (by decide +kernel) gdwsMX10_signOf)
theorem gwsMX10_keepWay_5 : GoodIn wsMX10_keepWay (wsV RX10 176 RX1 yX1_keepRight wsMX1_keepRight) := goodIn_sub (fun _ h => List.mem_cons_of_mem _ (List.mem_append_right _ h)) (gdV (by decide +kernel) gdwsMX1_keepRight)
theorem gdwsMX10_keepWay : wsMX10_keepWay.all goodWord = true := gdC rfl (gdA (gdA (gdA (gdA (gdA (gdA (gdA (gdA (by decide +kernel : ([.fieldLink RX10 55 "OptimaWorks$Worker" "tree" "[I", .fieldLink RX10 51 "OptimaWorks$Worker" "model" "LOptimaWorks$Model;", .fieldLink RX10 155 "OptimaWorks$Worker" "scaleOver" "J", .fieldLink RX10 159 "OptimaWorks$Worker" "scaleUnder" "J", .fieldLink RX10 93 "OptimaWorks$Model" "variables" "I"] : List Cond).all goodWord = true) gdwsX10) gdwsX100) (gdV (by decide +kernel) gdwsMX1_clearWay)) (gdV (by decide +kernel) gdwsMX10_leaveDifference)) (gdV (by decide +kernel) gdwsMX10_scaled)) (gdV (by decide +kernel) gdwsMX1_keepNumber)) (gdS (by decide +kernel) gdwsMX10_signOf)) (gdV (by decide +kernel) gdwsMX1_keepRight))
theorem hm_m_X10_keepWay_0 : (.fieldLink RX10 55 "OptimaWorks$Worker" "tree" "[I" : Cond) ∈ wsMX10_keepWay := by decide +kernel
theorem hm_m_X10_keepWay_1 : (.fieldLink RX10 51 "OptimaWorks$Worker" "model" "LOptimaWorks$Model;" : Cond) ∈ wsMX10_keepWay := by decide +kernel
theorem hm_m_X10_keepWay_2 : (.fieldLink RX10 93 "OptimaWorks$Model" "variables" "I" : Cond) ∈ wsMX10_keepWay := by decide +kernel
set_option maxHeartbeats 4000000 in
set_option maxRecDepth 100000 in
/-- a way is kept -/
theorem m_X10_keepWay (l : Launch) (hst : l.stackTraces = false) (dC : Nat → ClassId) (dI : Nat → Nat → Nat) (hL : Nat → Nat) (aL : Nat → Nat) (kL : Nat → ClassId) (hT : Nat → Nat) (hM : Nat → Nat) (iL_names : Int32) (gL_key : Nat → Int64) (fL_kind : Nat → Int32) (fL_one : Nat → Int32) (fL_two : Nat → Int32) (fL_base : Nat → Int32) (iL_params : Int32) (fL_paramOver : Nat → Int32) (dL_paramOver : Nat) (nL_params : Nat) (fL_paramUnder : Nat → Int32) (dL_paramUnder : Nat) (nL_pu : Nat) (gL_over : Nat → Int64) (gL_under : Nat → Int64) (fL_bound : Nat → Int32) (iL_nameAt : Int32) (iL_startAt : Int32) (iL_steps : Int32) (jL_scaleOver : Int64) (jL_scaleUnder : Int64) (hF : Nat → Nat) (aF : Nat → Nat) (kF : Nat → ClassId) (dF_tree : Nat) (nF_tree : Nat) (fF_tree : Nat → Int32) (aT : Nat → Nat) (kT : Nat → ClassId) (fT_tape : Nat → Int32) (dT_tape : Nat) (nT_tape : Nat) (iT_length : Int32) (iT_fault : Int32) (iT_place : Int32) (iT_kind : Int32) (iT_at : Int32) (iT_number : Int32) (jT_name : Int64) (iT_next : Int32) (aM : Nat → Nat) (kM : Nat → ClassId) (iM_stands : Int32) (iM_variables : Int32) (iM_rows : Int32) (iM_goals : Int32) (iM_differents : Int32) (iM_cases : Int32) (fM_from : Nat → Int32) (fM_to : Nat → Int32) (fM_whole : Nat → Int32) (fM_ways : Nat → Int32) (iM_plainRows : Int32) (fM_plainRow : Nat → Int32) (fM_kept : Nat → Int32) (fM_goalOver : Nat → Int32) (fM_goalUnder : Nat → Int32) (fM_goalMax : Nat → Int32) (fM_different : Nat → Int32) (p1 : Int32) (p2 : Int32) (p3 : Int32) (b_iL_names : 0 ≤ iL_names.toInt ∧ iL_names.toInt ≤ 40) (b_fL_kind : ∀ q : Nat, 0 ≤ (fL_kind q).toInt ∧ (fL_kind q).toInt ≤ 5) (b_fL_two : ∀ q : Nat, (-1) ≤ (fL_two q).toInt ∧ (fL_two q).toInt ≤ 39) (b_fL_base : ∀ q : Nat, 0 ≤ (fL_base q).toInt ∧ (fL_base q).toInt ≤ 2560) (b_iL_params : 0 ≤ iL_params.toInt ∧ iL_params.toInt ≤ 2560) (b_nL_params : 0 ≤ nL_params ∧ nL_params ≤ 2560) (b_nm : NmL iL_names fL_kind fL_one fL_two fL_base nL_params) (b_pm : iL_params.toInt ≤ ((nL_params : Nat) : Int)) (b_pu : nL_pu = nL_params) (b_nF_tree : 7 ≤ nF_tree ∧ nF_tree ≤ 72200) (b_fT_tape : ∀ q : Nat, (-128) ≤ (fT_tape q).toInt ∧ (fT_tape q).toInt ≤ 127) (b_nT_tape : 64 ≤ nT_tape ∧ nT_tape ≤ 2560) (b_iT_length : 0 ≤ iT_length.toInt ∧ iT_length.toInt ≤ 1280) (b_iT_at : 0 ≤ iT_at.toInt ∧ iT_at.toInt ≤ 1282) (b_iT_number : 0 ≤ iT_number.toInt ∧ iT_number.toInt ≤ 999999) (b_iT_next : 0 ≤ iT_next.toInt ∧ iT_next.toInt ≤ 1282) (b_len : iT_length.toInt ≤ ((nT_tape : Nat) : Int)) (b_iM_stands : 0 ≤ iM_stands.toInt ∧ iM_stands.toInt ≤ 1) (b_iM_variables : 0 ≤ iM_variables.toInt ∧ iM_variables.toInt ≤ 8) (b_iM_rows : 0 ≤ iM_rows.toInt ∧ iM_rows.toInt ≤ 12) (b_iM_goals : 0 ≤ iM_goals.toInt ∧ iM_goals.toInt ≤ 3) (b_iM_differents : 0 ≤ iM_differents.toInt ∧ iM_differents.toInt ≤ 8) (b_iM_cases : 0 ≤ iM_cases.toInt ∧ iM_cases.toInt ≤ 200000) (b_fM_ways : ∀ q : Nat, 0 ≤ (fM_ways q).toInt ∧ (fM_ways q).toInt ≤ 3) (b_iM_plainRows : 0 ≤ iM_plainRows.toInt ∧ iM_plainRows.toInt ≤ 12) (b_fM_plainRow : ∀ q : Nat, 0 ≤ (fM_plainRow q).toInt ∧ (fM_plainRow q).toInt ≤ 11) (b_pr : iM_plainRows.toInt ≤ iM_rows.toInt) (b_p1 : 0 ≤ p1.toInt ∧ p1.toInt ≤ 11) (b_p2 : 0 ≤ p2.toInt ∧ p2.toInt ≤ 2) (hp3 : 7 ≤ p3.toInt ∧ p3.toInt + 7 ≤ ((nF_tree : Nat) : Int)) (sz : Nat) : vx_Met l yX10_keepWay wsMX10_keepWay ({ frames := 8, cells := 1, slots := 6, locals := 138 }) (va_Pc [.ref (hL 0), .int p1, .int p2, .int p3] (fun U => U.heap.size = sz ∧ va_P (dC, dI) vwCl (WL hL aL kL hT hM (.ref dF_tree) iL_names gL_key fL_kind fL_one fL_two fL_base iL_params fL_paramOver dL_paramOver nL_params fL_paramUnder dL_paramUnder nL_pu gL_over gL_under fL_bound iL_nameAt iL_startAt iL_steps jL_scaleOver jL_scaleUnder ++ (WF hF aF kF dF_tree nF_tree fF_tree ++ (WT hT aT kT fT_tape dT_tape nT_tape iT_length iT_fault iT_place iT_kind iT_at iT_number jT_name iT_next ++ (WM hM aM kM iM_stands iM_variables iM_rows iM_goals iM_differents iM_cases fM_from fM_to fM_whole fM_ways iM_plainRows fM_plainRow fM_kept fM_goalOver fM_goalUnder fM_goalMax fM_different)))) U.heap ∧ va_K (dC, dI) vwCl (tL kL ++ (tF kF ++ (tT kT ++ (tM kM)))) U ∧ va_D (fun _ => True) (WL hL aL kL hT hM (.ref dF_tree) iL_names gL_key fL_kind fL_one fL_two fL_base iL_params fL_paramOver dL_paramOver nL_params fL_paramUnder dL_paramUnder nL_pu gL_over gL_under fL_bound iL_nameAt iL_startAt iL_steps jL_scaleOver jL_scaleUnder ++ (WF hF aF kF dF_tree nF_tree fF_tree ++ (WT hT aT kT fT_tape dT_tape nT_tape iT_length iT_fault iT_place iT_kind iT_at iT_number jT_name iT_next ++ (WM hM aM kM iM_stands iM_variables iM_rows iM_goals iM_differents iM_cases fM_from fM_to fM_whole fM_ways iM_plainRows fM_plainRow fM_kept fM_goalOver fM_goalUnder fM_goalMax fM_different)))) ∧ CE (va_A (WL hL aL kL hT hM (.ref dF_tree) iL_names gL_key fL_kind fL_one fL_two fL_base iL_params fL_paramOver dL_paramOver nL_params fL_paramUnder dL_paramUnder nL_pu gL_over gL_under fL_bound iL_nameAt iL_startAt iL_steps jL_scaleOver jL_scaleUnder ++ (WF hF aF kF dF_tree nF_tree fF_tree ++ (WT hT aT kT fT_tape dT_tape nT_tape iT_length iT_fault iT_place iT_kind iT_at iT_number jT_name iT_next ++ (WM hM aM kM iM_stands iM_variables iM_rows iM_goals iM_differents iM_cases fM_from fM_to fM_whole fM_ways iM_plainRows fM_plainRow fM_kept fM_goalOver fM_goalUnder fM_goalMax fM_different)))) sz) U U.heap)) (va_Qv (fun (u : (Nat → Int64) × (Nat → Int64) × (Int64) × (Int64) × (Int32) × (Int32) × (Nat → Int32)) => True) (fun (u : (Nat → Int64) × (Nat → Int64) × (Int64) × (Int64) × (Int32) × (Int32) × (Nat → Int32)) t => va_P (dC, dI) vwCl (WL hL aL kL hT hM (.ref dF_tree) iL_names gL_key fL_kind fL_one fL_two fL_base iL_params fL_paramOver dL_paramOver nL_params fL_paramUnder dL_paramUnder nL_pu (u.1) (u.2.1) fL_bound iL_nameAt iL_startAt iL_steps (u.2.2.1) (u.2.2.2.1) ++ (WF hF aF kF dF_tree nF_tree fF_tree ++ (WT hT aT kT fT_tape dT_tape nT_tape iT_length (u.2.2.2.2.1) (u.2.2.2.2.2.1) iT_kind iT_at iT_number jT_name iT_next ++ (WM hM aM kM iM_stands iM_variables iM_rows iM_goals iM_differents iM_cases fM_from fM_to fM_whole fM_ways iM_plainRows fM_plainRow (u.2.2.2.2.2.2) fM_goalOver fM_goalUnder fM_goalMax fM_different)))) t.heap ∧ va_D (va_A (WL hL aL kL hT hM (.ref dF_tree) iL_names gL_key fL_kind fL_one fL_two fL_base iL_params fL_paramOver dL_paramOver nL_params fL_paramUnder dL_paramUnder nL_pu gL_over gL_under fL_bound iL_nameAt iL_startAt iL_steps jL_scaleOver jL_scaleUnder ++ (WF hF aF kF dF_tree nF_tree fF_tree ++ (WT hT aT kT fT_tape dT_tape nT_tape iT_length iT_fault iT_place iT_kind iT_at iT_number jT_name iT_next ++ (WM hM aM kM iM_stands iM_variables iM_rows iM_goals iM_differents iM_cases fM_from fM_to fM_whole fM_ways iM_plainRows fM_plainRow fM_kept fM_goalOver fM_goalUnder fM_goalMax fM_different)))) sz) (WL hL aL kL hT hM (.ref dF_tree) iL_names gL_key fL_kind fL_one fL_two fL_base iL_params fL_paramOver dL_paramOver nL_params fL_paramUnder dL_paramUnder nL_pu (u.1) (u.2.1) fL_bound iL_nameAt iL_startAt iL_steps (u.2.2.1) (u.2.2.2.1) ++ (WF hF aF kF dF_tree nF_tree fF_tree ++ (WT hT aT kT fT_tape dT_tape nT_tape iT_length (u.2.2.2.2.1) (u.2.2.2.2.2.1) iT_kind iT_at iT_number jT_name iT_next ++ (WM hM aM kM iM_stands iM_variables iM_rows iM_goals iM_differents iM_cases fM_from fM_to fM_whole fM_ways iM_plainRows fM_plainRow (u.2.2.2.2.2.2) fM_goalOver fM_goalUnder fM_goalMax fM_different)))) ∧ t.heap.size = sz) (va_A (WL hL aL kL hT hM (.ref dF_tree) iL_names gL_key fL_kind fL_one fL_two fL_base iL_params fL_paramOver dL_paramOver nL_params fL_paramUnder dL_paramUnder nL_pu gL_over gL_under fL_bound iL_nameAt iL_startAt iL_steps jL_scaleOver jL_scaleUnder ++ (WF hF aF kF dF_tree nF_tree fF_tree ++ (WT hT aT kT fT_tape dT_tape nT_tape iT_length iT_fault iT_place iT_kind iT_at iT_number jT_name iT_next ++ (WM hM aM kM iM_stands iM_variables iM_rows iM_goals iM_differents iM_cases fM_from fM_to fM_whole fM_ways iM_plainRows fM_plainRow fM_kept fM_goalOver fM_goalUnder fM_goalMax fM_different)))) sz)) (vx_X (fun (u : (Nat → Int64) × (Nat → Int64) × (Int64) × (Int64) × (Int32) × (Int32) × (Nat → Int32)) => True) (fun E (u : (Nat → Int64) × (Nat → Int64) × (Int64) × (Int64) × (Int32) × (Int32) × (Nat → Int32)) t => (E = "java/lang/IllegalArgumentException") ∧ va_P (dC, dI) vwCl (WL hL aL kL hT hM (.ref dF_tree) iL_names gL_key fL_kind fL_one fL_two fL_base iL_params fL_paramOver dL_paramOver nL_params fL_paramUnder dL_paramUnder nL_pu (u.1) (u.2.1) fL_bound iL_nameAt iL_startAt iL_steps (u.2.2.1) (u.2.2.2.1) ++ (WF hF aF kF dF_tree nF_tree fF_tree ++ (WT hT aT kT fT_tape dT_tape nT_tape iT_length (u.2.2.2.2.1) (u.2.2.2.2.2.1) iT_kind iT_at iT_number jT_name iT_next ++ (WM hM aM kM iM_stands iM_variables iM_rows iM_goals iM_differents iM_cases fM_from fM_to fM_whole fM_ways iM_plainRows fM_plainRow (u.2.2.2.2.2.2) fM_goalOver fM_goalUnder fM_goalMax fM_different)))) t.heap ∧ va_D (va_A (WL hL aL kL hT hM (.ref dF_tree) iL_names gL_key fL_kind fL_one fL_two fL_base iL_params fL_paramOver dL_paramOver nL_params fL_paramUnder dL_paramUnder nL_pu gL_over gL_under fL_bound iL_nameAt iL_startAt iL_steps jL_scaleOver jL_scaleUnder ++ (WF hF aF kF dF_tree nF_tree fF_tree ++ (WT hT aT kT fT_tape dT_tape nT_tape iT_length iT_fault iT_place iT_kind iT_at iT_number jT_name iT_next ++ (WM hM aM kM iM_stands iM_variables iM_rows iM_goals iM_differents iM_cases fM_from fM_to fM_whole fM_ways iM_plainRows fM_plainRow fM_kept fM_goalOver fM_goalUnder fM_goalMax fM_different)))) sz) (WL hL aL kL hT hM (.ref dF_tree) iL_names gL_key fL_kind fL_one fL_two fL_base iL_params fL_paramOver dL_paramOver nL_params fL_paramUnder dL_paramUnder nL_pu (u.1) (u.2.1) fL_bound iL_nameAt iL_startAt iL_steps (u.2.2.1) (u.2.2.2.1) ++ (WF hF aF kF dF_tree nF_tree fF_tree ++ (WT hT aT kT fT_tape dT_tape nT_tape iT_length (u.2.2.2.2.1) (u.2.2.2.2.2.1) iT_kind iT_at iT_number jT_name iT_next ++ (WM hM aM kM iM_stands iM_variables iM_rows iM_goals iM_differents iM_cases fM_from fM_to fM_whole fM_ways iM_plainRows fM_plainRow (u.2.2.2.2.2.2) fM_goalOver fM_goalUnder fM_goalMax fM_different))))) (va_A (WL hL aL kL hT hM (.ref dF_tree) iL_names gL_key fL_kind fL_one fL_two fL_base iL_params fL_paramOver dL_paramOver nL_params fL_paramUnder dL_paramUnder nL_pu gL_over gL_under fL_bound iL_nameAt iL_startAt iL_steps jL_scaleOver jL_scaleUnder ++ (WF hF aF kF dF_tree nF_tree fF_tree ++ (WT hT aT kT fT_tape dT_tape nT_tape iT_length iT_fault iT_place iT_kind iT_at iT_number jT_name iT_next ++ (WM hM aM kM iM_stands iM_variables iM_rows iM_goals iM_differents iM_cases fM_from fM_to fM_whole fM_ways iM_plainRows fM_plainRow fM_kept fM_goalOver fM_goalUnder fM_goalMax fM_different)))) sz)) 1 6 (va_A (WL hL aL kL hT hM (.ref dF_tree) iL_names gL_key fL_kind fL_one fL_two fL_base iL_params fL_paramOver dL_paramOver nL_params fL_paramUnder dL_paramUnder nL_pu gL_over gL_under fL_bound iL_nameAt iL_startAt iL_steps jL_scaleOver jL_scaleUnder ++ (WF hF aF kF dF_tree nF_tree fF_tree ++ (WT hT aT kT fT_tape dT_tape nT_tape iT_length iT_fault iT_place iT_kind iT_at iT_number jT_name iT_next ++ (WM hM aM kM iM_stands iM_variables iM_rows iM_goals iM_differents iM_cases fM_from fM_to fM_whole fM_ways iM_plainRows fM_plainRow fM_kept fM_goalOver fM_goalUnder fM_goalMax fM_different)))) sz) := by
  refine vx_ofW (cc := cX10_keepWay) (maxL := 7) (ret := none) (by decide) rfl ?_
  intro p e s m args below meth c s₁ B hml htab hv
  obtain ⟨rfl, hsz, hP, hK, hD0, hE⟩ := hv
  have hx := B.exec
  have hb := B.bytes
  have hr := B.returns
  have hts := atoms_spec (ws := wsMX10_keepWay) B.pre
  have hown : s.vm.findClass RX10 = some m.cls := findClass_of_methodNamed B.named
  have hlocks := B.notSynchronized
  subst hsz
  have hD := hD0.self (sz := s.heap.size)
  generalize hAe : va_A (WL hL aL kL hT hM (.ref dF_tree) iL_names gL_key fL_kind fL_one fL_two fL_base iL_params fL_paramOver dL_paramOver nL_params fL_paramUnder dL_paramUnder nL_pu gL_over gL_under fL_bound iL_nameAt iL_startAt iL_steps jL_scaleOver jL_scaleUnder ++ (WF hF aF kF dF_tree nF_tree fF_tree ++ (WT hT aT kT fT_tape dT_tape nT_tape iT_length iT_fault iT_place iT_kind iT_at iT_number jT_name iT_next ++ (WM hM aM kM iM_stands iM_variables iM_rows iM_goals iM_differents iM_cases fM_from fM_to fM_whole fM_ways iM_plainRows fM_plainRow fM_kept fM_goalOver fM_goalUnder fM_goalMax fM_different)))) s.heap.size = A at hD hE ⊢
  have hA : ∀ q : Nat, s.heap.size ≤ q → A q := fun q h => by rw [← hAe]; exact Or.inr h
  have hS : va_S A s.heap s.heap [] := va_S.rf
  have hl := lv_entry ([.ref (hL 0), .int p1, .int p2, .int p3]) (n := 7) (Nat.le_of_ble_eq_true rfl)
  rw [lg_entry_eq]
  generalize (lg_sl ([.ref (hL 0), .int p1, .int p2, .int p3]) ++ List.replicate (7 - (lg_sl ([.ref (hL 0), .int p1, .int p2, .int p3])).length) Slot.unset).toArray = ls at hl ⊢
  have hl : lv_has ls 7 [(0, .ref (hL 0)), (1, .int p1), (2, .int p2), (3, .int p3)] := hl
  refine lv_aload_n hx hb dX10_keepWay_0 rfl (lv_at hl 0 rfl) ?_
  refine va_get (D := (dC, dI)) (ci := 10) (v := .ref dF_tree) (C := RX10) (T := TX10) (N := 20) hx hb hts iwsMX10_keepWay_in10 hown hK hP 0 rfl rfl 2 (by decide) (hts _ hm_m_X10_keepWay_0) (fun _ h9 => h9) rfl dX10_keepWay_1 ?_
  refine lv_iload_n hx hb dX10_keepWay_4 rfl (lv_at hl 3 rfl) ?_
  refine lv_iconst (v := 1) hx hb dX10_keepWay_5 (by decide) ?_
  refine lv_iadd hx hb dX10_keepWay_6 ?_
  refine lv_topi (fun y1 hy1 => ?_)
  obtain rfl : (iI (p3.toInt + 1)) = y1 := (hy1.trans (iI_add2 (iI_of _) (by decide : (1 : Int32) = iI 1))).symm
  refine va_iald (cA := kF 0) (n := nF_tree) (f := fF_tree) hx hb hK hP 11 10 rfl rfl (vp_iI (by omega) (by omega) (by omega)) dX10_keepWay_7 ?_
  refine lv_topi (fun v2 hv2 => ?_)
  have b_v2 : v2.toInt = twL fF_tree (p3.toInt + 1) := by rw [hv2]; exact tw_i (by omega) (by omega)
  clear hv2
  refine lv_istore hx hb dX10_keepWay_8 hl (by decide) rfl (fun ls (hl : lv_has ls _ ([(4, .int v2), (0, .ref (hL 0)), (1, .int p1), (2, .int p2), (3, .int p3)])) => ?_)
  refine lv_aload_n hx hb dX10_keepWay_10 rfl (lv_at hl 1 rfl) ?_
  refine va_get (D := (dC, dI)) (ci := 10) (v := .ref (hM 0)) (C := RX10) (T := TX10) (N := 20) hx hb hts iwsMX10_keepWay_in10 hown hK hP 0 rfl rfl 1 (by decide) (hts _ hm_m_X10_keepWay_1) (fun _ h9 => h9) rfl dX10_keepWay_11 ?_
  refine lv_iload_n hx hb dX10_keepWay_14 rfl (lv_at hl 2 rfl) ?_
  refine lv_iload_n hx hb dX10_keepWay_15 rfl (lv_at hl 3 rfl) ?_
  have p9 := cj_4_3 (WL hL aL kL hT hM (.ref dF_tree) iL_names gL_key fL_kind fL_one fL_two fL_base iL_params fL_paramOver dL_paramOver nL_params fL_paramUnder dL_paramUnder nL_pu gL_over gL_under fL_bound iL_nameAt iL_startAt iL_steps jL_scaleOver jL_scaleUnder) (WF hF aF kF dF_tree nF_tree fF_tree) (WT hT aT kT fT_tape dT_tape nT_tape iT_length iT_fault iT_place iT_kind iT_at iT_number jT_name iT_next) (WM hM aM kM iM_stands iM_variables iM_rows iM_goals iM_differents iM_cases fM_from fM_to fM_whole fM_ways iM_plainRows fM_plainRow fM_kept fM_goalOver fM_goalUnder fM_goalMax fM_different)
  have hPc := hP.mem (fun q h => p9.mem_iff.mpr (List.mem_append_left _ h))
  have hDc := (hD.perm p9).left
  have hKc : va_K (dC, dI) vwCl (tM kM) _ := hK.sub [12, 13, 14, 15, 16, 17, 18, 19, 20, 21] rfl
  have hFc := freeG p9 hD hS hA
  refine va_callv (va_runV (As := [.int p1, .int p2]) (rest := []) ⟨hx, hb, hml, hown, hts⟩ (m_X1_clearWay l dC dI hM aM kM iM_stands iM_variables iM_rows iM_goals iM_differents iM_cases fM_from fM_to fM_whole fM_ways iM_plainRows fM_plainRow fM_kept fM_goalOver fM_goalUnder fM_goalMax fM_different p1 p2 (b_iM_stands) (b_iM_variables) (b_iM_rows) (b_iM_goals) (b_iM_differents) (b_iM_cases) b_fM_ways (b_iM_plainRows) b_fM_plainRow (by first | with_reducible assumption | omega | assumption) (b_p1) (b_p2) s.heap.size) (cwV 2 hts gwsMX10_keepWay_0 rfl rfl rfl hd_yX1_clearWay_RX1 (by decide +kernel)) (fz_pre (va_recv hK hP (ci := 1) (q0 := 14) rfl rfl) hPc hKc hDc) rfl rfl hl.1 rfl (lv_room (Nat.le_of_ble_eq_true rfl)) dX10_keepWay_16 (by decide +kernel)) hS (fun q _ h => hFc q h) hFc (fun fM_kept_3 t9_ H locs ht hvm hw9 hB9 hz1 hk1 hS => ?_)
  clear hw9
  have p8 := cj_4_3 (WL hL aL kL hT hM (.ref dF_tree) iL_names gL_key fL_kind fL_one fL_two fL_base iL_params fL_paramOver dL_paramOver nL_params fL_paramUnder dL_paramUnder nL_pu gL_over gL_under fL_bound iL_nameAt iL_startAt iL_steps jL_scaleOver jL_scaleUnder) (WF hF aF kF dF_tree nF_tree fF_tree) (WT hT aT kT fT_tape dT_tape nT_tape iT_length iT_fault iT_place iT_kind iT_at iT_number jT_name iT_next) (WM hM aM kM iM_stands iM_variables iM_rows iM_goals iM_differents iM_cases fM_from fM_to fM_whole fM_ways iM_plainRows fM_plainRow fM_kept_3 fM_goalOver fM_goalUnder fM_goalMax fM_different)
  obtain ⟨hP, hD⟩ := frameG p9 p8 hP hD hk1 hFc (fz_P ht hB9.1) hB9.2
  refine lv_aload_n hx hb dX10_keepWay_19 rfl (lv_at hl 1 rfl) ?_
  refine lv_lconst (v := 0) hx hb dX10_keepWay_20 (by decide) ?_
  refine va_put (D := (dC, dI)) (ci := 10) (v := .long 0) (ty := .long) (C := RX10) (T := TX10) (N := 20) hx hb hts iwsMX10_keepWay_in10 tyX10 tyX10_ok nmX10 hown hK hP hD hS 0 rfl rfl 18 (by decide) (hts (.fieldLink RX10 155 "OptimaWorks$Worker" "scaleOver" "J") (by decide +kernel)) (fun _ h9 => h9) rfl (by decide +kernel) rfl rfl (Nat.le_of_ble_eq_true rfl) dX10_keepWay_21 (fun H locs hP hD hS => ?_)
  have hP : va_P (dC, dI) vwCl (WL hL aL kL hT hM (.ref dF_tree) iL_names gL_key fL_kind fL_one fL_two fL_base iL_params fL_paramOver dL_paramOver nL_params fL_paramUnder dL_paramUnder nL_pu gL_over gL_under fL_bound iL_nameAt iL_startAt iL_steps 0 jL_scaleUnder ++ (WF hF aF kF dF_tree nF_tree fF_tree ++ (WT hT aT kT fT_tape dT_tape nT_tape iT_length iT_fault iT_place iT_kind iT_at iT_number jT_name iT_next ++ (WM hM aM kM iM_stands iM_variables iM_rows iM_goals iM_differents iM_cases fM_from fM_to fM_whole fM_ways iM_plainRows fM_plainRow fM_kept_3 fM_goalOver fM_goalUnder fM_goalMax fM_different)))) H := hP
  have hD := fz_sd hP (hD) rfl
  refine lv_aload_n hx hb dX10_keepWay_24 rfl (lv_at hl 1 rfl) ?_
  refine lv_lconst (v := 1) hx hb dX10_keepWay_25 (by decide) ?_
  refine va_put (D := (dC, dI)) (ci := 10) (v := .long 1) (ty := .long) (C := RX10) (T := TX10) (N := 20) hx hb hts iwsMX10_keepWay_in10 tyX10 tyX10_ok nmX10 hown hK hP hD hS 0 rfl rfl 19 (by decide) (hts (.fieldLink RX10 159 "OptimaWorks$Worker" "scaleUnder" "J") (by decide +kernel)) (fun _ h9 => h9) rfl (by decide +kernel) rfl rfl (Nat.le_of_ble_eq_true rfl) dX10_keepWay_26 (fun H locs hP hD hS => ?_)
  have hP : va_P (dC, dI) vwCl (WL hL aL kL hT hM (.ref dF_tree) iL_names gL_key fL_kind fL_one fL_two fL_base iL_params fL_paramOver dL_paramOver nL_params fL_paramUnder dL_paramUnder nL_pu gL_over gL_under fL_bound iL_nameAt iL_startAt iL_steps 0 1 ++ (WF hF aF kF dF_tree nF_tree fF_tree ++ (WT hT aT kT fT_tape dT_tape nT_tape iT_length iT_fault iT_place iT_kind iT_at iT_number jT_name iT_next ++ (WM hM aM kM iM_stands iM_variables iM_rows iM_goals iM_differents iM_cases fM_from fM_to fM_whole fM_ways iM_plainRows fM_plainRow fM_kept_3 fM_goalOver fM_goalUnder fM_goalMax fM_different)))) H := hP
  have hD := fz_sd hP (hD) rfl
  refine lv_iconst (v := 0) hx hb dX10_keepWay_29 (by decide) ?_
  refine lv_istore hx hb dX10_keepWay_30 hl (by decide) rfl (fun ls (hl : lv_has ls _ ([(5, .int 0), (4, .int v2), (0, .ref (hL 0)), (1, .int p1), (2, .int p2), (3, .int p3)])) => ?_)
  have hl : lv_has _ _ ([(5, .int 0), (4, .int v2), (0, .ref (hL 0)), (1, .int p1), (2, .int p2), (3, .int p3)]) := lv_sub hl [0, 1, 2, 3, 4, 5] rfl
  refine (fun (loop : ∀ (n9 : Nat) (gL_over_x32 : Nat → Int64) (gL_under_x32 : Nat → Int64) (l5_x32 : Int32) (H : Heap) (locs : List Loc) (ls : Array Slot), (0 ≤ l5_x32.toInt ∧ l5_x32.toInt ≤ 9) → (9 - l5_x32.toInt < ((n9 : Nat) : Int)) → va_P (dC, dI) vwCl (WL hL aL kL hT hM (.ref dF_tree) iL_names gL_key fL_kind fL_one fL_two fL_base iL_params fL_paramOver dL_paramOver nL_params fL_paramUnder dL_paramUnder nL_pu gL_over_x32 gL_under_x32 fL_bound iL_nameAt iL_startAt iL_steps 0 1 ++ (WF hF aF kF dF_tree nF_tree fF_tree ++ (WT hT aT kT fT_tape dT_tape nT_tape iT_length iT_fault iT_place iT_kind iT_at iT_number jT_name iT_next ++ (WM hM aM kM iM_stands iM_variables iM_rows iM_goals iM_differents iM_cases fM_from fM_to fM_whole fM_ways iM_plainRows fM_plainRow fM_kept_3 fM_goalOver fM_goalUnder fM_goalMax fM_different)))) H → va_D A (WL hL aL kL hT hM (.ref dF_tree) iL_names gL_key fL_kind fL_one fL_two fL_base iL_params fL_paramOver dL_paramOver nL_params fL_paramUnder dL_paramUnder nL_pu gL_over_x32 gL_under_x32 fL_bound iL_nameAt iL_startAt iL_steps 0 1 ++ (WF hF aF kF dF_tree nF_tree fF_tree ++ (WT hT aT kT fT_tape dT_tape nT_tape iT_length iT_fault iT_place iT_kind iT_at iT_number jT_name iT_next ++ (WM hM aM kM iM_stands iM_variables iM_rows iM_goals iM_differents iM_cases fM_from fM_to fM_whole fM_ways iM_plainRows fM_plainRow fM_kept_3 fM_goalOver fM_goalUnder fM_goalMax fM_different)))) → va_S A s.heap H locs → lv_has ls 7 [(5, .int l5_x32), (4, .int v2), (0, .ref (hL 0)), (1, .int p1), (2, .int p2), (3, .int p3)] → W p l e _ s m _ below meth c H locs 0 0 _ (F0 m 32 ls [])) => loop (10) gL_over gL_under 0 _ _ _ (show 0 ≤ (0 : Int32).toInt ∧ (0 : Int32).toInt ≤ 9 from by decide) ((by have e9 : (0 : Int32).toInt = 0 := (by decide : (0 : Int32).toInt = 0); omega)) hP hD hS hl) ?_
  intro n9
  induction n9 with
  | zero => intro gL_over_x32 gL_under_x32 l5_x32 H locs ls b_l5_x32 hf9; exact False.elim (by omega)
  | succ n9 ihx32 =>
    intro gL_over_x32 gL_under_x32 l5_x32 H locs ls b_l5_x32 hfx32 hP hD hS hl
    refine lv_iload hx hb dX10_keepWay_32 (lv_at hl 0 rfl) ?_
    refine lv_aload_n hx hb dX10_keepWay_34 rfl (lv_at hl 2 rfl) ?_
    refine va_get (D := (dC, dI)) (ci := 10) (v := .ref (hM 0)) (C := RX10) (T := TX10) (N := 20) hx hb hts iwsMX10_keepWay_in10 hown hK hP 0 rfl rfl 1 (by decide) (hts _ hm_m_X10_keepWay_1) (fun _ h9 => h9) rfl dX10_keepWay_35 ?_
    refine va_get (D := (dC, dI)) (ci := 1) (v := .int iM_variables) (C := RX1) (T := TX1) (N := 17) hx hb hts iwsMX10_keepWay_in1 hown hK hP 14 rfl rfl 1 (by decide) (hts _ hm_m_X10_keepWay_2) (fun _ h9 => h9) rfl dX10_keepWay_38 ?_
    refine lv_icmp_gt (tgt := 56) hx hb dX10_keepWay_41 (by decide) (fun c_41 => ?_) (fun c_41 => ?_)
    · have t_41 : l5_x32.toInt > iM_variables.toInt := toI_gt c_41 rfl rfl
      refine lv_iconst (v := 1) hx hb dX10_keepWay_56 (by decide) ?_
      refine lv_istore hx hb dX10_keepWay_57 hl (by decide) rfl (fun ls (hl : lv_has ls _ ([(5, .int 1), (4, .int v2), (0, .ref (hL 0)), (1, .int p1), (2, .int p2), (3, .int p3)])) => ?_)
      have hl : lv_has _ _ ([(5, .int 1), (4, .int v2), (0, .ref (hL 0)), (1, .int p1), (2, .int p2), (3, .int p3)]) := lv_sub hl [0, 1, 2, 3, 4, 5] rfl
      refine (fun (loop : ∀ (n9 : Nat) (jL_scaleOver_x59 : Int64) (jL_scaleUnder_x59 : Int64) (iT_fault_x59 : Int32) (iT_place_x59 : Int32) (fM_kept_x59 : Nat → Int32) (l5_x59 : Int32) (H : Heap) (locs : List Loc) (ls : Array Slot), (1 ≤ l5_x59.toInt ∧ l5_x59.toInt ≤ 9) → (9 - l5_x59.toInt < ((n9 : Nat) : Int)) → va_P (dC, dI) vwCl (WL hL aL kL hT hM (.ref dF_tree) iL_names gL_key fL_kind fL_one fL_two fL_base iL_params fL_paramOver dL_paramOver nL_params fL_paramUnder dL_paramUnder nL_pu gL_over_x32 gL_under_x32 fL_bound iL_nameAt iL_startAt iL_steps jL_scaleOver_x59 jL_scaleUnder_x59 ++ (WF hF aF kF dF_tree nF_tree fF_tree ++ (WT hT aT kT fT_tape dT_tape nT_tape iT_length iT_fault_x59 iT_place_x59 iT_kind iT_at iT_number jT_name iT_next ++ (WM hM aM kM iM_stands iM_variables iM_rows iM_goals iM_differents iM_cases fM_from fM_to fM_whole fM_ways iM_plainRows fM_plainRow fM_kept_x59 fM_goalOver fM_goalUnder fM_goalMax fM_different)))) H → va_D A (WL hL aL kL hT hM (.ref dF_tree) iL_names gL_key fL_kind fL_one fL_two fL_base iL_params fL_paramOver dL_paramOver nL_params fL_paramUnder dL_paramUnder nL_pu gL_over_x32 gL_under_x32 fL_bound iL_nameAt iL_startAt iL_steps jL_scaleOver_x59 jL_scaleUnder_x59 ++ (WF hF aF kF dF_tree nF_tree fF_tree ++ (WT hT aT kT fT_tape dT_tape nT_tape iT_length iT_fault_x59 iT_place_x59 iT_kind iT_at iT_number jT_name iT_next ++ (WM hM aM kM iM_stands iM_variables iM_rows iM_goals iM_differents iM_cases fM_from fM_to fM_whole fM_ways iM_plainRows fM_plainRow fM_kept_x59 fM_goalOver fM_goalUnder fM_goalMax fM_different)))) → va_S A s.heap H locs → lv_has ls 7 [(5, .int l5_x59), (4, .int v2), (0, .ref (hL 0)), (1, .int p1), (2, .int p2), (3, .int p3)] → W p l e _ s m _ below meth c H locs 0 0 _ (F0 m 59 ls [])) => loop (9) 0 1 iT_fault iT_place fM_kept_3 1 _ _ _ (show 1 ≤ (1 : Int32).toInt ∧ (1 : Int32).toInt ≤ 9 from by decide) ((by have e9 : (1 : Int32).toInt = 1 := (by decide : (1 : Int32).toInt = 1); omega)) hP hD hS hl) ?_
      intro n9
      induction n9 with
      | zero => intro jL_scaleOver_x59 jL_scaleUnder_x59 iT_fault_x59 iT_place_x59 fM_kept_x59 l5_x59 H locs ls b_l5_x59 hf9; exact False.elim (by omega)
      | succ n9 ihx59 =>
        intro jL_scaleOver_x59 jL_scaleUnder_x59 iT_fault_x59 iT_place_x59 fM_kept_x59 l5_x59 H locs ls b_l5_x59 hfx59 hP hD hS hl
        refine lv_iload hx hb dX10_keepWay_59 (lv_at hl 0 rfl) ?_
        refine lv_aload_n hx hb dX10_keepWay_61 rfl (lv_at hl 2 rfl) ?_
        refine va_get (D := (dC, dI)) (ci := 10) (v := .ref (hM 0)) (C := RX10) (T := TX10) (N := 20) hx hb hts iwsMX10_keepWay_in10 hown hK hP 0 rfl rfl 1 (by decide) (hts _ hm_m_X10_keepWay_1) (fun _ h9 => h9) rfl dX10_keepWay_62 ?_
        refine va_get (D := (dC, dI)) (ci := 1) (v := .int iM_variables) (C := RX1) (T := TX1) (N := 17) hx hb hts iwsMX10_keepWay_in1 hown hK hP 14 rfl rfl 1 (by decide) (hts _ hm_m_X10_keepWay_2) (fun _ h9 => h9) rfl dX10_keepWay_65 ?_
        refine lv_icmp_gt (tgt := 104) hx hb dX10_keepWay_68 (by decide) (fun c_68 => ?_) (fun c_68 => ?_)
        · have t_68 : l5_x59.toInt > iM_variables.toInt := toI_gt c_68 rfl rfl
          refine lv_aload_n hx hb dX10_keepWay_104 rfl (lv_at hl 2 rfl) ?_
          refine lv_iload_n hx hb dX10_keepWay_105 rfl (lv_at hl 3 rfl) ?_
          refine lv_iload_n hx hb dX10_keepWay_106 rfl (lv_at hl 4 rfl) ?_
          refine lv_iconst (v := 0) hx hb dX10_keepWay_107 (by decide) ?_
          refine lv_iload hx hb dX10_keepWay_108 (lv_at hl 1 rfl) ?_
          refine W.known (fun hz0 _ => ?_)
          have p9 := cj_4_0_2_3 (WL hL aL kL hT hM (.ref dF_tree) iL_names gL_key fL_kind fL_one fL_two fL_base iL_params fL_paramOver dL_paramOver nL_params fL_paramUnder dL_paramUnder nL_pu gL_over_x32 gL_under_x32 fL_bound iL_nameAt iL_startAt iL_steps jL_scaleOver_x59 jL_scaleUnder_x59) (WF hF aF kF dF_tree nF_tree fF_tree) (WT hT aT kT fT_tape dT_tape nT_tape iT_length iT_fault_x59 iT_place_x59 iT_kind iT_at iT_number jT_name iT_next) (WM hM aM kM iM_stands iM_variables iM_rows iM_goals iM_differents iM_cases fM_from fM_to fM_whole fM_ways iM_plainRows fM_plainRow fM_kept_x59 fM_goalOver fM_goalUnder fM_goalMax fM_different)
          have hPc := hP.mem (fun q h => p9.mem_iff.mpr (List.mem_append_left _ h))
          have hDc := (hD.perm p9).left
          have hKc : va_K (dC, dI) vwCl (tL kL ++ (tT kT ++ (tM kM))) _ := hK.sub [0, 1, 2, 3, 4, 5, 6, 7, 8, 9, 11, 12, 13, 14, 15, 16, 17, 18, 19, 20, 21] rfl
          have hFc := freeG p9 hD hS hA
          refine vx_calli (vx_runV (As := [.int p1, .int p2, .int 0, .int v2]) (rest := []) ⟨hx, hb, hml, hown, hts⟩ (m_X10_scaled l hst dC dI hL aL kL hT hM (.ref dF_tree) iL_names gL_key fL_kind fL_one fL_two fL_base iL_params fL_paramOver dL_paramOver nL_params fL_paramUnder dL_paramUnder nL_pu gL_over_x32 gL_under_x32 fL_bound iL_nameAt iL_startAt iL_steps jL_scaleOver_x59 jL_scaleUnder_x59 aT kT fT_tape dT_tape nT_tape iT_length iT_fault_x59 iT_place_x59 iT_kind iT_at iT_number jT_name iT_next aM kM iM_stands iM_variables iM_rows iM_goals iM_differents iM_cases fM_from fM_to fM_whole fM_ways iM_plainRows fM_plainRow fM_kept_x59 fM_goalOver fM_goalUnder fM_goalMax fM_different p1 p2 0 v2 (b_iL_names) b_fL_kind b_fL_two b_fL_base (b_iL_params) (by first | exact b_nL_params | with_reducible assumption | exact ⟨by omega, by omega⟩ | assumption) (by first | with_reducible assumption | omega | (rw [iI_t (by omega) (by omega)]; omega) | assumption) (by first | with_reducible assumption | omega | (rw [iI_t (by omega) (by omega)]; omega) | assumption) (by first | with_reducible assumption | omega | (rw [iI_t (by omega) (by omega)]; omega) | assumption) b_fT_tape (by first | exact b_nT_tape | with_reducible assumption | exact ⟨by omega, by omega⟩ | assumption) (b_iT_length) (b_iT_at) (b_iT_number) (b_iT_next) (by first | with_reducible assumption | omega | assumption) (b_iM_stands) (b_iM_variables) (b_iM_rows) (b_iM_goals) (b_iM_differents) (b_iM_cases) b_fM_ways (b_iM_plainRows) b_fM_plainRow (by first | with_reducible assumption | omega | assumption) (b_p1) (b_p2) (show 0 ≤ (0 : Int32).toInt ∧ (0 : Int32).toInt ≤ 8 from by decide) H.size) (cwV 4 hts gwsMX10_keepWay_2 rfl rfl rfl hd_yX10_scaled_RX10 (by decide +kernel)) (fz_preE (va_recv hK hP (ci := 10) (q0 := 0) rfl rfl) hPc hKc hDc (fun a U g mk qE => qE.call) (fun U hU9 hW => by rw [hU9]; exact (((hE : CE A s s.heap).kept hS.2.1).narrow (fun q h => hFc q h)).warm hW)) rfl rfl hl.1 rfl (lv_room (Nat.le_of_ble_eq_true rfl)) dX10_keepWay_110 (by decide +kernel)) hS (fun q _ h => hFc q h) hFc (fun q _ h => hFc q h) (fun E ce q9 u t9_ H locs ht hvm hw9 hB9 hz1 hk1 hS hc1 hc2 hc3 => ?_) (fun r108 u t9_ H locs ht hvm hw9 hB9 hz1 hk1 hS => ?_)
          · revert u hw9 hB9
            refine fz_p5 ?_
            intro jL_scaleOver_108 jL_scaleUnder_108 iT_fault_108 iT_place_108 fM_kept_108 hw9 hB9
            try dsimp only at hw9 hB9
            revert hB9
            refine fz_a2 ?_
            intro hEx hB9
            clear hw9
            have p8 := cj_4_0_2_3 (WL hL aL kL hT hM (.ref dF_tree) iL_names gL_key fL_kind fL_one fL_two fL_base iL_params fL_paramOver dL_paramOver nL_params fL_paramUnder dL_paramUnder nL_pu gL_over_x32 gL_under_x32 fL_bound iL_nameAt iL_startAt iL_steps jL_scaleOver_108 jL_scaleUnder_108) (WF hF aF kF dF_tree nF_tree fF_tree) (WT hT aT kT fT_tape dT_tape nT_tape iT_length iT_fault_108 iT_place_108 iT_kind iT_at iT_number jT_name iT_next) (WM hM aM kM iM_stands iM_variables iM_rows iM_goals iM_differents iM_cases fM_from fM_to fM_whole fM_ways iM_plainRows fM_plainRow fM_kept_108 fM_goalOver fM_goalUnder fM_goalMax fM_different)
            obtain ⟨hP, hD⟩ := frameG p9 p8 hP hD hk1 hFc (fz_P ht hB9.1) hB9.2
            exact vx_out (fun x hx9 => (htab x hx9).elim) hlocks hc1 hc2 hc3 (fun t9_ ht hvm => ⟨(gL_over_x32, gL_under_x32, jL_scaleOver_108, jL_scaleUnder_108, iT_fault_108, iT_place_108, fM_kept_108), trivial, ⟨(by have h9 := hEx; exact h9), by rw [ht]; exact hP, hD⟩, hS.F ht⟩) hS.2.2 (by decide +kernel) (by decide +kernel)
          revert u hw9 hB9
          refine fz_p5 ?_
          intro jL_scaleOver_108 jL_scaleUnder_108 iT_fault_108 iT_place_108 fM_kept_108 hw9 hB9
          try dsimp only at hw9 hB9
          clear hw9
          have hz8 := hB9.2.2
          rw [ht] at hz8
          have hz9 : H.size ≤ s.heap.size + 0 := by rw [hz8]; exact hz0
          refine W.tight (cells2 := 0) (slots2 := 0) hz9 (nS_0 hz9) ?_
          clear hz8 hz9
          have p8 := cj_4_0_2_3 (WL hL aL kL hT hM (.ref dF_tree) iL_names gL_key fL_kind fL_one fL_two fL_base iL_params fL_paramOver dL_paramOver nL_params fL_paramUnder dL_paramUnder nL_pu gL_over_x32 gL_under_x32 fL_bound iL_nameAt iL_startAt iL_steps jL_scaleOver_108 jL_scaleUnder_108) (WF hF aF kF dF_tree nF_tree fF_tree) (WT hT aT kT fT_tape dT_tape nT_tape iT_length iT_fault_108 iT_place_108 iT_kind iT_at iT_number jT_name iT_next) (WM hM aM kM iM_stands iM_variables iM_rows iM_goals iM_differents iM_cases fM_from fM_to fM_whole fM_ways iM_plainRows fM_plainRow fM_kept_108 fM_goalOver fM_goalUnder fM_goalMax fM_different)
          obtain ⟨hP, hD⟩ := frameG p9 p8 hP hD hk1 hFc (fz_P ht hB9.1) hB9.2.1
          refine lv_istore hx hb dX10_keepWay_113 hl (by decide) rfl (fun ls (hl : lv_has ls _ ([(5, .int r108), (4, .int v2), (0, .ref (hL 0)), (1, .int p1), (2, .int p2), (3, .int p3)])) => ?_)
          refine lv_aload_n hx hb dX10_keepWay_115 rfl (lv_at hl 2 rfl) ?_
          refine va_get (D := (dC, dI)) (ci := 10) (v := .ref (hM 0)) (C := RX10) (T := TX10) (N := 20) hx hb hts iwsMX10_keepWay_in10 hown hK hP 0 rfl rfl 1 (by decide) (hts _ hm_m_X10_keepWay_1) (fun _ h9 => h9) rfl dX10_keepWay_116 ?_
          refine lv_iload_n hx hb dX10_keepWay_119 rfl (lv_at hl 3 rfl) ?_
          refine lv_iload_n hx hb dX10_keepWay_120 rfl (lv_at hl 4 rfl) ?_
          refine lv_iload hx hb dX10_keepWay_121 (lv_at hl 0 rfl) ?_
          refine lv_ineg hx hb dX10_keepWay_123 ?_
          refine lv_topi (fun y109 hy109 => ?_)
          obtain rfl : (iI (-r108.toInt)) = y109 := (hy109.trans (iI_neg2 (iI_of _))).symm
          refine lv_aload_n hx hb dX10_keepWay_124 rfl (lv_at hl 2 rfl) ?_
          refine va_get (D := (dC, dI)) (ci := 10) (v := .ref dF_tree) (C := RX10) (T := TX10) (N := 20) hx hb hts iwsMX10_keepWay_in10 hown hK hP 0 rfl rfl 2 (by decide) (hts _ hm_m_X10_keepWay_0) (fun _ h9 => h9) rfl dX10_keepWay_125 ?_
          refine lv_iload_n hx hb dX10_keepWay_128 rfl (lv_at hl 5 rfl) ?_
          refine lv_iconst (v := 2) hx hb dX10_keepWay_129 (by decide) ?_
          refine lv_iadd hx hb dX10_keepWay_130 ?_
          refine lv_topi (fun y110 hy110 => ?_)
          obtain rfl : (iI (p3.toInt + 2)) = y110 := (hy110.trans (iI_add2 (iI_of _) (by decide : (2 : Int32) = iI 2))).symm
          refine va_iald (cA := kF 0) (n := nF_tree) (f := fF_tree) hx hb hK hP 11 10 rfl rfl (vp_iI (by omega) (by omega) (by omega)) dX10_keepWay_131 ?_
          refine lv_topi (fun v111 hv111 => ?_)
          have b_v111 : v111.toInt = twL fF_tree (p3.toInt + 2) := by rw [hv111]; exact tw_i (by omega) (by omega)
          clear hv111
          have hFc := noneFree hS hA
          refine va_calli (va_runS (As := [.int v111]) (rest := [.int (iI (-r108.toInt)), .int p2, .int p1, .ref (hM 0)]) ⟨hx, hb, hml, hown, hts⟩ (m_X10_signOf l dC dI v111 H.size) (va_cwS 1 hts gwsMX10_keepWay_4 rfl rfl rfl (by decide +kernel) ⟨by decide +kernel, by decide +kernel⟩) ⟨fun a U g mk q => by obtain ⟨q0, q1, qP, qK, qD⟩ := q; exact ⟨q0, q1, qP, va_K.moved (u := U) (U := U.calling g mk a) (Vm.Alike.refl U.vm) qK, qD⟩, fun U hU9 hW => ⟨rfl, by rw [hU9], by rw [hU9]; exact nilP, va_K.moved hW.alike (hK.sub (tys' := []) [] rfl), nilD⟩⟩ rfl rfl hl.1 rfl (lv_room (Nat.le_of_ble_eq_true rfl)) dX10_keepWay_132 (by decide +kernel)) hS (fun q _ h => hFc q h) hFc (fun r112 u t9_ H1 locs ht hvm hw9 hB9 hz1 hk1 hS => ?_)
          have b_r112 := hw9
          try dsimp only at b_r112
          clear hB9
          have hP := keepAll hP hk1
          generalize H1 = H at hP hS ⊢
          have hP : va_P (dC, dI) vwCl (WL hL aL kL hT hM (.ref dF_tree) iL_names gL_key fL_kind fL_one fL_two fL_base iL_params fL_paramOver dL_paramOver nL_params fL_paramUnder dL_paramUnder nL_pu gL_over_x32 gL_under_x32 fL_bound iL_nameAt iL_startAt iL_steps jL_scaleOver_108 jL_scaleUnder_108 ++ (WF hF aF kF dF_tree nF_tree fF_tree ++ (WT hT aT kT fT_tape dT_tape nT_tape iT_length iT_fault_108 iT_place_108 iT_kind iT_at iT_number jT_name iT_next ++ (WM hM aM kM iM_stands iM_variables iM_rows iM_goals iM_differents iM_cases fM_from fM_to fM_whole fM_ways iM_plainRows fM_plainRow fM_kept_108 fM_goalOver fM_goalUnder fM_goalMax fM_different)))) H := hP
          have hD := fz_sd hP (hD) rfl
          have p9 := cj_4_3 (WL hL aL kL hT hM (.ref dF_tree) iL_names gL_key fL_kind fL_one fL_two fL_base iL_params fL_paramOver dL_paramOver nL_params fL_paramUnder dL_paramUnder nL_pu gL_over_x32 gL_under_x32 fL_bound iL_nameAt iL_startAt iL_steps jL_scaleOver_108 jL_scaleUnder_108) (WF hF aF kF dF_tree nF_tree fF_tree) (WT hT aT kT fT_tape dT_tape nT_tape iT_length iT_fault_108 iT_place_108 iT_kind iT_at iT_number jT_name iT_next) (WM hM aM kM iM_stands iM_variables iM_rows iM_goals iM_differents iM_cases fM_from fM_to fM_whole fM_ways iM_plainRows fM_plainRow fM_kept_108 fM_goalOver fM_goalUnder fM_goalMax fM_different)
          have hPc := hP.mem (fun q h => p9.mem_iff.mpr (List.mem_append_left _ h))
          have hDc := (hD.perm p9).left
          have hKc : va_K (dC, dI) vwCl (tM kM) _ := hK.sub [12, 13, 14, 15, 16, 17, 18, 19, 20, 21] rfl
          have hFc := freeG p9 hD hS hA
          refine va_callv (va_runV (As := [.int p1, .int p2, .int (iI (-r108.toInt)), .int r112]) (rest := []) ⟨hx, hb, hml, hown, hts⟩ (m_X1_keepRight l dC dI hM aM kM iM_stands iM_variables iM_rows iM_goals iM_differents iM_cases fM_from fM_to fM_whole fM_ways iM_plainRows fM_plainRow fM_kept_108 fM_goalOver fM_goalUnder fM_goalMax fM_different p1 p2 (iI (-r108.toInt)) r112 (b_iM_stands) (b_iM_variables) (b_iM_rows) (b_iM_goals) (b_iM_differents) (b_iM_cases) b_fM_ways (b_iM_plainRows) b_fM_plainRow (by first | with_reducible assumption | omega | assumption) (b_p1) (b_p2) H.size) (cwV 4 hts gwsMX10_keepWay_5 rfl rfl rfl hd_yX1_keepRight_RX1 (by decide +kernel)) (fz_pre (va_recv hK hP (ci := 1) (q0 := 14) rfl rfl) hPc hKc hDc) rfl rfl hl.1 rfl (lv_room (Nat.le_of_ble_eq_true rfl)) dX10_keepWay_135 (by decide +kernel)) hS (fun q _ h => hFc q h) hFc (fun fM_kept_113 t9_ H locs ht hvm hw9 hB9 hz1 hk1 hS => ?_)
          clear hw9
          have p8 := cj_4_3 (WL hL aL kL hT hM (.ref dF_tree) iL_names gL_key fL_kind fL_one fL_two fL_base iL_params fL_paramOver dL_paramOver nL_params fL_paramUnder dL_paramUnder nL_pu gL_over_x32 gL_under_x32 fL_bound iL_nameAt iL_startAt iL_steps jL_scaleOver_108 jL_scaleUnder_108) (WF hF aF kF dF_tree nF_tree fF_tree) (WT hT aT kT fT_tape dT_tape nT_tape iT_length iT_fault_108 iT_place_108 iT_kind iT_at iT_number jT_name iT_next) (WM hM aM kM iM_stands iM_variables iM_rows iM_goals iM_differents iM_cases fM_from fM_to fM_whole fM_ways iM_plainRows fM_plainRow fM_kept_113 fM_goalOver fM_goalUnder fM_goalMax fM_different)
          obtain ⟨hP, hD⟩ := frameG p9 p8 hP hD hk1 hFc (fz_P ht hB9.1) hB9.2
          refine vx_ret ?_
          refine W.known (fun hz9 _ => ?_)
          refine W.widen (k := 1) (n := 6) (by decide +kernel) (by decide +kernel) ?_
          exact W.vret hx hb hr (fun t9_ ht hW => ⟨⟨(gL_over_x32, gL_under_x32, jL_scaleOver_108, jL_scaleUnder_108, iT_fault_108, iT_place_108, fM_kept_113), rfl, trivial, by rw [ht]; exact hP, hD, by rw [ht]; first | done | exact Nat.le_antisymm hz9 hS.1⟩, hS.F ht⟩) hS.2.2 dX10_keepWay_138
        · have t_68 : ¬ l5_x59.toInt > iM_variables.toInt := toI_ngt c_68 rfl rfl
          refine lv_aload_n hx hb dX10_keepWay_71 rfl (lv_at hl 2 rfl) ?_
          refine lv_iload_n hx hb dX10_keepWay_72 rfl (lv_at hl 3 rfl) ?_
          refine lv_iload_n hx hb dX10_keepWay_73 rfl (lv_at hl 4 rfl) ?_
          refine lv_iload hx hb dX10_keepWay_74 (lv_at hl 0 rfl) ?_
          refine lv_iload hx hb dX10_keepWay_76 (lv_at hl 1 rfl) ?_
          refine W.known (fun hz0 _ => ?_)
          have p9 := cj_4_0_2_3 (WL hL aL kL hT hM (.ref dF_tree) iL_names gL_key fL_kind fL_one fL_two fL_base iL_params fL_paramOver dL_paramOver nL_params fL_paramUnder dL_paramUnder nL_pu gL_over_x32 gL_under_x32 fL_bound iL_nameAt iL_startAt iL_steps jL_scaleOver_x59 jL_scaleUnder_x59) (WF hF aF kF dF_tree nF_tree fF_tree) (WT hT aT kT fT_tape dT_tape nT_tape iT_length iT_fault_x59 iT_place_x59 iT_kind iT_at iT_number jT_name iT_next) (WM hM aM kM iM_stands iM_variables iM_rows iM_goals iM_differents iM_cases fM_from fM_to fM_whole fM_ways iM_plainRows fM_plainRow fM_kept_x59 fM_goalOver fM_goalUnder fM_goalMax fM_different)
          have hPc := hP.mem (fun q h => p9.mem_iff.mpr (List.mem_append_left _ h))
          have hDc := (hD.perm p9).left
          have hKc : va_K (dC, dI) vwCl (tL kL ++ (tT kT ++ (tM kM))) _ := hK.sub [0, 1, 2, 3, 4, 5, 6, 7, 8, 9, 11, 12, 13, 14, 15, 16, 17, 18, 19, 20, 21] rfl
          have hFc := freeG p9 hD hS hA
          refine vx_calli (vx_runV (As := [.int p1, .int p2, .int l5_x59, .int v2]) (rest := []) ⟨hx, hb, hml, hown, hts⟩ (m_X10_scaled l hst dC dI hL aL kL hT hM (.ref dF_tree) iL_names gL_key fL_kind fL_one fL_two fL_base iL_params fL_paramOver dL_paramOver nL_params fL_paramUnder dL_paramUnder nL_pu gL_over_x32 gL_under_x32 fL_bound iL_nameAt iL_startAt iL_steps jL_scaleOver_x59 jL_scaleUnder_x59 aT kT fT_tape dT_tape nT_tape iT_length iT_fault_x59 iT_place_x59 iT_kind iT_at iT_number jT_name iT_next aM kM iM_stands iM_variables iM_rows iM_goals iM_differents iM_cases fM_from fM_to fM_whole fM_ways iM_plainRows fM_plainRow fM_kept_x59 fM_goalOver fM_goalUnder fM_goalMax fM_different p1 p2 l5_x59 v2 (b_iL_names) b_fL_kind b_fL_two b_fL_base (b_iL_params) (by first | exact b_nL_params | with_reducible assumption | exact ⟨by omega, by omega⟩ | assumption) (by first | with_reducible assumption | omega | (rw [iI_t (by omega) (by omega)]; omega) | assumption) (by first | with_reducible assumption | omega | (rw [iI_t (by omega) (by omega)]; omega) | assumption) (by first | with_reducible assumption | omega | (rw [iI_t (by omega) (by omega)]; omega) | assumption) b_fT_tape (by first | exact b_nT_tape | with_reducible assumption | exact ⟨by omega, by omega⟩ | assumption) (b_iT_length) (b_iT_at) (b_iT_number) (b_iT_next) (by first | with_reducible assumption | omega | assumption) (b_iM_stands) (b_iM_variables) (b_iM_rows) (b_iM_goals) (b_iM_differents) (b_iM_cases) b_fM_ways (b_iM_plainRows) b_fM_plainRow (by first | with_reducible assumption | omega | assumption) (b_p1) (b_p2) (by first | exact b_l5_x59 | with_reducible assumption | exact ⟨by omega, by omega⟩ | assumption) H.size) (cwV 4 hts gwsMX10_keepWay_2 rfl rfl rfl hd_yX10_scaled_RX10 (by decide +kernel)) (fz_preE (va_recv hK hP (ci := 10) (q0 := 0) rfl rfl) hPc hKc hDc (fun a U g mk qE => qE.call) (fun U hU9 hW => by rw [hU9]; exact (((hE : CE A s s.heap).kept hS.2.1).narrow (fun q h => hFc q h)).warm hW)) rfl rfl hl.1 rfl (lv_room (Nat.le_of_ble_eq_true rfl)) dX10_keepWay_78 (by decide +kernel)) hS (fun q _ h => hFc q h) hFc (fun q _ h => hFc q h) (fun E ce q9 u t9_ H locs ht hvm hw9 hB9 hz1 hk1 hS hc1 hc2 hc3 => ?_) (fun r114 u t9_ H locs ht hvm hw9 hB9 hz1 hk1 hS => ?_)
          · revert u hw9 hB9
            refine fz_p5 ?_
            intro jL_scaleOver_114 jL_scaleUnder_114 iT_fault_114 iT_place_114 fM_kept_114 hw9 hB9
            try dsimp only at hw9 hB9
            revert hB9
            refine fz_a2 ?_
            intro hEx hB9
            clear hw9
            have p8 := cj_4_0_2_3 (WL hL aL kL hT hM (.ref dF_tree) iL_names gL_key fL_kind fL_one fL_two fL_base iL_params fL_paramOver dL_paramOver nL_params fL_paramUnder dL_paramUnder nL_pu gL_over_x32 gL_under_x32 fL_bound iL_nameAt iL_startAt iL_steps jL_scaleOver_114 jL_scaleUnder_114) (WF hF aF kF dF_tree nF_tree fF_tree) (WT hT aT kT fT_tape dT_tape nT_tape iT_length iT_fault_114 iT_place_114 iT_kind iT_at iT_number jT_name iT_next) (WM hM aM kM iM_stands iM_variables iM_rows iM_goals iM_differents iM_cases fM_from fM_to fM_whole fM_ways iM_plainRows fM_plainRow fM_kept_114 fM_goalOver fM_goalUnder fM_goalMax fM_different)
            obtain ⟨hP, hD⟩ := frameG p9 p8 hP hD hk1 hFc (fz_P ht hB9.1) hB9.2
            exact vx_out (fun x hx9 => (htab x hx9).elim) hlocks hc1 hc2 hc3 (fun t9_ ht hvm => ⟨(gL_over_x32, gL_under_x32, jL_scaleOver_114, jL_scaleUnder_114, iT_fault_114, iT_place_114, fM_kept_114), trivial, ⟨(by have h9 := hEx; exact h9), by rw [ht]; exact hP, hD⟩, hS.F ht⟩) hS.2.2 (by decide +kernel) (by decide +kernel)
          revert u hw9 hB9
          refine fz_p5 ?_
          intro jL_scaleOver_114 jL_scaleUnder_114 iT_fault_114 iT_place_114 fM_kept_114 hw9 hB9
          try dsimp only at hw9 hB9
          clear hw9
          have hz8 := hB9.2.2
          rw [ht] at hz8
          have hz9 : H.size ≤ s.heap.size + 0 := by rw [hz8]; exact hz0
          refine W.tight (cells2 := 0) (slots2 := 0) hz9 (nS_0 hz9) ?_
          clear hz8 hz9
          have p8 := cj_4_0_2_3 (WL hL aL kL hT hM (.ref dF_tree) iL_names gL_key fL_kind fL_one fL_two fL_base iL_params fL_paramOver dL_paramOver nL_params fL_paramUnder dL_paramUnder nL_pu gL_over_x32 gL_under_x32 fL_bound iL_nameAt iL_startAt iL_steps jL_scaleOver_114 jL_scaleUnder_114) (WF hF aF kF dF_tree nF_tree fF_tree) (WT hT aT kT fT_tape dT_tape nT_tape iT_length iT_fault_114 iT_place_114 iT_kind iT_at iT_number jT_name iT_next) (WM hM aM kM iM_stands iM_variables iM_rows iM_goals iM_differents iM_cases fM_from fM_to fM_whole fM_ways iM_plainRows fM_plainRow fM_kept_114 fM_goalOver fM_goalUnder fM_goalMax fM_different)
          obtain ⟨hP, hD⟩ := frameG p9 p8 hP hD hk1 hFc (fz_P ht hB9.1) hB9.2.1
          refine lv_istore hx hb dX10_keepWay_81 hl (by decide) rfl (fun ls (hl : lv_has ls _ ([(6, .int r114), (5, .int l5_x59), (4, .int v2), (0, .ref (hL 0)), (1, .int p1), (2, .int p2), (3, .int p3)])) => ?_)
          refine lv_aload_n hx hb dX10_keepWay_83 rfl (lv_at hl 3 rfl) ?_
          refine va_get (D := (dC, dI)) (ci := 10) (v := .ref (hM 0)) (C := RX10) (T := TX10) (N := 20) hx hb hts iwsMX10_keepWay_in10 hown hK hP 0 rfl rfl 1 (by decide) (hts _ hm_m_X10_keepWay_1) (fun _ h9 => h9) rfl dX10_keepWay_84 ?_
          refine lv_iload_n hx hb dX10_keepWay_87 rfl (lv_at hl 4 rfl) ?_
          refine lv_iload_n hx hb dX10_keepWay_88 rfl (lv_at hl 5 rfl) ?_
          refine lv_iload hx hb dX10_keepWay_89 (lv_at hl 1 rfl) ?_
          refine lv_iconst (v := 1) hx hb dX10_keepWay_91 (by decide) ?_
          refine lv_isub hx hb dX10_keepWay_92 ?_
          refine lv_topi (fun y115 hy115 => ?_)
          obtain rfl : (iI (l5_x59.toInt - 1)) = y115 := (hy115.trans (iI_sub2 (iI_of _) (by decide : (1 : Int32) = iI 1))).symm
          refine lv_iload hx hb dX10_keepWay_93 (lv_at hl 0 rfl) ?_
          have p9 := cj_4_3 (WL hL aL kL hT hM (.ref dF_tree) iL_names gL_key fL_kind fL_one fL_two fL_base iL_params fL_paramOver dL_paramOver nL_params fL_paramUnder dL_paramUnder nL_pu gL_over_x32 gL_under_x32 fL_bound iL_nameAt iL_startAt iL_steps jL_scaleOver_114 jL_scaleUnder_114) (WF hF aF kF dF_tree nF_tree fF_tree) (WT hT aT kT fT_tape dT_tape nT_tape iT_length iT_fault_114 iT_place_114 iT_kind iT_at iT_number jT_name iT_next) (WM hM aM kM iM_stands iM_variables iM_rows iM_goals iM_differents iM_cases fM_from fM_to fM_whole fM_ways iM_plainRows fM_plainRow fM_kept_114 fM_goalOver fM_goalUnder fM_goalMax fM_different)
          have hPc := hP.mem (fun q h => p9.mem_iff.mpr (List.mem_append_left _ h))
          have hDc := (hD.perm p9).left
          have hKc : va_K (dC, dI) vwCl (tM kM) _ := hK.sub [12, 13, 14, 15, 16, 17, 18, 19, 20, 21] rfl
          have hFc := freeG p9 hD hS hA
          refine va_callv (va_runV (As := [.int p1, .int p2, .int (iI (l5_x59.toInt - 1)), .int r114]) (rest := []) ⟨hx, hb, hml, hown, hts⟩ (m_X1_keepNumber l dC dI hM aM kM iM_stands iM_variables iM_rows iM_goals iM_differents iM_cases fM_from fM_to fM_whole fM_ways iM_plainRows fM_plainRow fM_kept_114 fM_goalOver fM_goalUnder fM_goalMax fM_different p1 p2 (iI (l5_x59.toInt - 1)) r114 (b_iM_stands) (b_iM_variables) (b_iM_rows) (b_iM_goals) (b_iM_differents) (b_iM_cases) b_fM_ways (b_iM_plainRows) b_fM_plainRow (by first | with_reducible assumption | omega | assumption) (b_p1) (b_p2) (iI_rng (Int.le_trans (by decide) (Int.sub_le_sub (b_l5_x59.1) (Int.le_refl _))) (Int.le_trans (Int.sub_le_sub (b_l5_x59.2) (Int.le_refl _)) (by decide)) (by decide) (by decide)) H.size) (cwV 4 hts gwsMX10_keepWay_3 rfl rfl rfl hd_yX1_keepNumber_RX1 (by decide +kernel)) (fz_pre (va_recv hK hP (ci := 1) (q0 := 14) rfl rfl) hPc hKc hDc) rfl rfl hl.1 rfl (lv_room (Nat.le_of_ble_eq_true rfl)) dX10_keepWay_95 (by decide +kernel)) hS (fun q _ h => hFc q h) hFc (fun fM_kept_116 t9_ H locs ht hvm hw9 hB9 hz1 hk1 hS => ?_)
          clear hw9
          have p8 := cj_4_3 (WL hL aL kL hT hM (.ref dF_tree) iL_names gL_key fL_kind fL_one fL_two fL_base iL_params fL_paramOver dL_paramOver nL_params fL_paramUnder dL_paramUnder nL_pu gL_over_x32 gL_under_x32 fL_bound iL_nameAt iL_startAt iL_steps jL_scaleOver_114 jL_scaleUnder_114) (WF hF aF kF dF_tree nF_tree fF_tree) (WT hT aT kT fT_tape dT_tape nT_tape iT_length iT_fault_114 iT_place_114 iT_kind iT_at iT_number jT_name iT_next) (WM hM aM kM iM_stands iM_variables iM_rows iM_goals iM_differents iM_cases fM_from fM_to fM_whole fM_ways iM_plainRows fM_plainRow fM_kept_116 fM_goalOver fM_goalUnder fM_goalMax fM_different)
          obtain ⟨hP, hD⟩ := frameG p9 p8 hP hD hk1 hFc (fz_P ht hB9.1) hB9.2
          refine lv_iinc (v := (iI (l5_x59.toInt + 1))) hx hb dX10_keepWay_98 hl (k := 1) rfl (iI_add2 (iI_of _) (by decide : (1 : Int32) = iI 1)) (by decide) rfl (fun ls (hl : lv_has ls _ ([(5, .int (iI (l5_x59.toInt + 1))), (6, .int r114), (4, .int v2), (0, .ref (hL 0)), (1, .int p1), (2, .int p2), (3, .int p3)])) => ?_)
          refine lv_goto (tgt := 59) hx hb dX10_keepWay_101 (by decide) ?_
          have hl : lv_has _ _ ([(5, .int (iI (l5_x59.toInt + 1))), (4, .int v2), (0, .ref (hL 0)), (1, .int p1), (2, .int p2), (3, .int p3)]) := lv_sub hl [0, 2, 3, 4, 5, 6] rfl
          exact ihx59 jL_scaleOver_114 jL_scaleUnder_114 iT_fault_114 iT_place_114 fM_kept_116 (iI (l5_x59.toInt + 1)) _ _ _ (iI_rng (Int.le_trans (by decide) (Int.add_le_add (b_l5_x59.1) (Int.le_refl _))) (by omega) (by decide) (by decide)) (by have e9 : ((iI (l5_x59.toInt + 1))).toInt = (l5_x59.toInt + 1) := (iI_t (Int.le_trans (by decide) (Int.add_le_add (b_l5_x59.1) (Int.le_refl _))) (Int.le_trans (Int.add_le_add (b_l5_x59.2) (Int.le_refl _)) (by decide))); omega) hP hD hS hl
    · have t_41 : ¬ l5_x32.toInt > iM_variables.toInt := toI_ngt c_41 rfl rfl
      refine lv_aload_n hx hb dX10_keepWay_44 rfl (lv_at hl 2 rfl) ?_
      refine lv_iload hx hb dX10_keepWay_45 (lv_at hl 0 rfl) ?_
      have p9 := cj_4_0 (WL hL aL kL hT hM (.ref dF_tree) iL_names gL_key fL_kind fL_one fL_two fL_base iL_params fL_paramOver dL_paramOver nL_params fL_paramUnder dL_paramUnder nL_pu gL_over_x32 gL_under_x32 fL_bound iL_nameAt iL_startAt iL_steps 0 1) (WF hF aF kF dF_tree nF_tree fF_tree) (WT hT aT kT fT_tape dT_tape nT_tape iT_length iT_fault iT_place iT_kind iT_at iT_number jT_name iT_next) (WM hM aM kM iM_stands iM_variables iM_rows iM_goals iM_differents iM_cases fM_from fM_to fM_whole fM_ways iM_plainRows fM_plainRow fM_kept_3 fM_goalOver fM_goalUnder fM_goalMax fM_different)
      have hPc := hP.mem (fun q h => p9.mem_iff.mpr (List.mem_append_left _ h))
      have hDc := (hD.perm p9).left
      have hKc : va_K (dC, dI) vwCl (tL kL) _ := hK.sub [0, 1, 2, 3, 4, 5, 6, 7, 8, 9] rfl
      have hFc := freeG p9 hD hS hA
      refine va_callv (va_runV (As := [.int l5_x32]) (rest := []) ⟨hx, hb, hml, hown, hts⟩ (m_X10_leaveDifference l dC dI hL aL kL hT hM (.ref dF_tree) iL_names gL_key fL_kind fL_one fL_two fL_base iL_params fL_paramOver dL_paramOver nL_params fL_paramUnder dL_paramUnder nL_pu gL_over_x32 gL_under_x32 fL_bound iL_nameAt iL_startAt iL_steps 0 1 l5_x32 (b_iL_names) b_fL_kind b_fL_two b_fL_base (b_iL_params) (by first | exact b_nL_params | with_reducible assumption | exact ⟨by omega, by omega⟩ | assumption) (by first | with_reducible assumption | omega | (rw [iI_t (by omega) (by omega)]; omega) | assumption) (by first | with_reducible assumption | omega | (rw [iI_t (by omega) (by omega)]; omega) | assumption) (by first | with_reducible assumption | omega | (rw [iI_t (by omega) (by omega)]; omega) | assumption) (by first | exact b_l5_x32 | with_reducible assumption | exact ⟨by omega, by omega⟩ | assumption) H.size) (cwV 1 hts gwsMX10_keepWay_1 rfl rfl rfl hd_yX10_leaveDifference_RX10 (by decide +kernel)) (fz_pre (va_recv hK hP (ci := 10) (q0 := 0) rfl rfl) hPc hKc hDc) rfl rfl hl.1 rfl (lv_room (Nat.le_of_ble_eq_true rfl)) dX10_keepWay_47 (by decide +kernel)) hS (fun q _ h => hFc q h) hFc (fun u t9_ H locs ht hvm hw9 hB9 hz1 hk1 hS => ?_)
      revert u hw9 hB9
      refine fz_p2 ?_
      intro gL_over_117 gL_under_117 hw9 hB9
      try dsimp only at hw9 hB9
      clear hw9
      have p8 := cj_4_0 (WL hL aL kL hT hM (.ref dF_tree) iL_names gL_key fL_kind fL_one fL_two fL_base iL_params fL_paramOver dL_paramOver nL_params fL_paramUnder dL_paramUnder nL_pu gL_over_117 gL_under_117 fL_bound iL_nameAt iL_startAt iL_steps 0 1) (WF hF aF kF dF_tree nF_tree fF_tree) (WT hT aT kT fT_tape dT_tape nT_tape iT_length iT_fault iT_place iT_kind iT_at iT_number jT_name iT_next) (WM hM aM kM iM_stands iM_variables iM_rows iM_goals iM_differents iM_cases fM_from fM_to fM_whole fM_ways iM_plainRows fM_plainRow fM_kept_3 fM_goalOver fM_goalUnder fM_goalMax fM_different)
      obtain ⟨hP, hD⟩ := frameG p9 p8 hP hD hk1 hFc (fz_P ht hB9.1) hB9.2
      refine lv_iinc (v := (iI (l5_x32.toInt + 1))) hx hb dX10_keepWay_50 hl (k := 0) rfl (iI_add2 (iI_of _) (by decide : (1 : Int32) = iI 1)) (by decide) rfl (fun ls (hl : lv_has ls _ ([(5, .int (iI (l5_x32.toInt + 1))), (4, .int v2), (0, .ref (hL 0)), (1, .int p1), (2, .int p2), (3, .int p3)])) => ?_)
      refine lv_goto (tgt := 32) hx hb dX10_keepWay_53 (by decide) ?_
      have hl : lv_has _ _ ([(5, .int (iI (l5_x32.toInt + 1))), (4, .int v2), (0, .ref (hL 0)), (1, .int p1), (2, .int p2), (3, .int p3)]) := lv_sub hl [0, 1, 2, 3, 4, 5] rfl
      exact ihx32 gL_over_117 gL_under_117 (iI (l5_x32.toInt + 1)) _ _ _ (iI_rng (Int.le_trans (by decide) (Int.add_le_add (b_l5_x32.1) (Int.le_refl _))) (by omega) (by decide) (by decide)) (by have e9 : ((iI (l5_x32.toInt + 1))).toInt = (l5_x32.toInt + 1) := (iI_t (Int.le_trans (by decide) (Int.add_le_add (b_l5_x32.1) (Int.le_refl _))) (Int.le_trans (Int.add_le_add (b_l5_x32.2) (Int.le_refl _)) (by decide))); omega) hP hD hS hl
theorem dX10_farEnd_0 : decode cX10_farEnd 0 = .ok (.aload_n 0, 1) := dk_42 (by decide +kernel)
theorem dX10_farEnd_1 : decode cX10_farEnd 1 = .ok (.getfield 39, 3) := dk_180 (by decide +kernel)
theorem dX10_farEnd_4 : decode cX10_farEnd 4 = .ok (.iconst 0, 1) := dk_3 (by decide +kernel)
theorem dX10_farEnd_5 : decode cX10_farEnd 5 = .ok (.laload, 1) := dk_47 (by decide +kernel)
theorem dX10_farEnd_6 : decode cX10_farEnd 6 = .ok (.lconst 1, 1) := dk_10 (by decide +kernel)
theorem dX10_farEnd_7 : decode cX10_farEnd 7 = .ok (.lcmp, 1) := dk_148 (by decide +kernel)
theorem dX10_farEnd_8 : decode cX10_farEnd 8 = .ok (.ifCond .ne 29, 3) := dk_154 (by decide +kernel)
theorem dX10_farEnd_11 : decode cX10_farEnd 11 = .ok (.aload_n 0, 1) := dk_42 (by decide +kernel)
theorem dX10_farEnd_12 : decode cX10_farEnd 12 = .ok (.getfield 36, 3) := dk_180 (by decide +kernel)
theorem dX10_farEnd_15 : decode cX10_farEnd 15 = .ok (.iconst 0, 1) := dk_3 (by decide +kernel)
theorem dX10_farEnd_16 : decode cX10_farEnd 16 = .ok (.laload, 1) := dk_47 (by decide +kernel)
theorem dX10_farEnd_17 : decode cX10_farEnd 17 = .ok (.ldc2_w 110, 3) := dk_20 (by decide +kernel)
theorem dX10_farEnd_20 : decode cX10_farEnd 20 = .ok (.lcmp, 1) := dk_148 (by decide +kernel)
theorem dX10_farEnd_21 : decode cX10_farEnd 21 = .ok (.ifCond .lt 16, 3) := dk_155 (by decide +kernel)
theorem dX10_farEnd_24 : decode cX10_farEnd 24 = .ok (.aload_n 0, 1) := dk_42 (by decide +kernel)
theorem dX10_farEnd_25 : decode cX10_farEnd 25 = .ok (.getfield 36, 3) := dk_180 (by decide +kernel)
theorem dX10_farEnd_28 : decode cX10_farEnd 28 = .ok (.iconst 0, 1) := dk_3 (by decide +kernel)
theorem dX10_farEnd_29 : decode cX10_farEnd 29 = .ok (.laload, 1) := dk_47 (by decide +kernel)
theorem dX10_farEnd_30 : decode cX10_farEnd 30 = .ok (.ldc2_w 112, 3) := dk_20 (by decide +kernel)
theorem dX10_farEnd_33 : decode cX10_farEnd 33 = .ok (.lcmp, 1) := dk_148 (by decide +kernel)
theorem dX10_farEnd_34 : decode cX10_farEnd 34 = .ok (.ifCond .le 20, 3) := dk_158 (by decide +kernel)
theorem dX10_farEnd_37 : decode cX10_farEnd 37 = .ok (.aload_n 0, 1) := dk_42 (by decide +kernel)
theorem dX10_farEnd_38 : decode cX10_farEnd 38 = .ok (.getfield 47, 3) := dk_180 (by decide +kernel)
theorem dX10_farEnd_41 : decode cX10_farEnd 41 = .ok (.bipush 9, 2) := dk_16 (by decide +kernel)
theorem dX10_farEnd_43 : decode cX10_farEnd 43 = .ok (.aload_n 0, 1) := dk_42 (by decide +kernel)
theorem dX10_farEnd_44 : decode cX10_farEnd 44 = .ok (.getfield 55, 3) := dk_180 (by decide +kernel)
theorem dX10_farEnd_47 : decode cX10_farEnd 47 = .ok (.iload_n 1, 1) := dk_27 (by decide +kernel)
theorem dX10_farEnd_48 : decode cX10_farEnd 48 = .ok (.iconst 1, 1) := dk_4 (by decide +kernel)
theorem dX10_farEnd_49 : decode cX10_farEnd 49 = .ok (.iadd, 1) := dk_96 (by decide +kernel)
theorem dX10_farEnd_50 : decode cX10_farEnd 50 = .ok (.iaload, 1) := dk_46 (by decide +kernel)
theorem dX10_farEnd_51 : decode cX10_farEnd 51 = .ok (.invokevirtual 90, 3) := dk_182 (by decide +kernel)
theorem dX10_farEnd_54 : decode cX10_farEnd 54 = .ok (.aload_n 0, 1) := dk_42 (by decide +kernel)
theorem dX10_farEnd_55 : decode cX10_farEnd 55 = .ok (.getfield 36, 3) := dk_180 (by decide +kernel)
theorem dX10_farEnd_58 : decode cX10_farEnd 58 = .ok (.iconst 0, 1) := dk_3 (by decide +kernel)
theorem dX10_farEnd_59 : decode cX10_farEnd 59 = .ok (.laload, 1) := dk_47 (by decide +kernel)
theorem dX10_farEnd_60 : decode cX10_farEnd 60 = .ok (.l2i, 1) := dk_136 (by decide +kernel)
theorem dX10_farEnd_61 : decode cX10_farEnd 61 = .ok (.ireturn, 1) := dk_172 (by decide +kernel)
def wsMX10_farEnd : List Cond := .code yX10_farEnd cX10_farEnd 2 (some .int) :: ([.fieldLink RX10 39 "OptimaWorks$Worker" "under" "[J", .fieldLink RX10 47 "OptimaWorks$Worker" "words" "LOptimaWorks$Words;", .fieldLink RX10 55 "OptimaWorks$Worker" "tree" "[I", .fieldLink RX10 36 "OptimaWorks$Worker" "over" "[J", .constantLong RX10 110 (-999), .constantLong RX10 112 999] ++ wsX100 ++ (wsV RX10 90 RX9 yX9_fail wsMX9_fail))
theorem iwsMX10_farEnd_in10 : ∀ w ∈ wsX100, w ∈ wsMX10_farEnd := fun _ h => List.mem_cons_of_mem _ (List.mem_append_left _ (List.mem_append_right _ h))
theorem gwsMX10_farEnd_0 : GoodIn wsMX10_farEnd (wsV RX10 90 RX9 yX9_fail wsMX9_fail) := goodIn_sub (fun _ h => List.mem_cons_of_mem _ (List.mem_append_right _ h)) (gdV (by decide +kernel) gdwsMX9_fail)
theorem gdwsMX10_farEnd : wsMX10_farEnd.all goodWord = true := gdC rfl (gdA (gdA (by decide +kernel : ([.fieldLink RX10 39 "OptimaWorks$Worker" "under" "[J", .fieldLink RX10 47 "OptimaWorks$Worker" "words" "LOptimaWorks$Words;", .fieldLink RX10 55 "OptimaWorks$Worker" "tree" "[I", .fieldLink RX10 36 "OptimaWorks$Worker" "over" "[J", .constantLong RX10 110 (-999), .constantLong RX10 112 999] : List Cond).all goodWord = true) gdwsX100) (gdV (by decide +kernel) gdwsMX9_fail))
theorem hm_m_X10_farEnd_0 : (.fieldLink RX10 47 "OptimaWorks$Worker" "words" "LOptimaWorks$Words;" : Cond) ∈ wsMX10_farEnd := by decide +kernel
theorem hm_m_X10_farEnd_1 : (.fieldLink RX10 55 "OptimaWorks$Worker" "tree" "[I" : Cond) ∈ wsMX10_farEnd := by decide +kernel
theorem hm_m_X10_farEnd_2 : (.fieldLink RX10 36 "OptimaWorks$Worker" "over" "[J" : Cond) ∈ wsMX10_farEnd := by decide +kernel
set_option maxHeartbeats 4000000 in
set_option maxRecDepth 100000 in
/-- an end -/
theorem m_X10_farEnd (l : Launch) (hst : l.stackTraces = false) (dC : Nat → ClassId) (dI : Nat → Nat → Nat) (hL : Nat → Nat) (aL : Nat → Nat) (kL : Nat → ClassId) (hT : Nat → Nat) (hM : Nat → Nat) (iL_names : Int32) (gL_key : Nat → Int64) (fL_kind : Nat → Int32) (fL_one : Nat → Int32) (fL_two : Nat → Int32) (fL_base : Nat → Int32) (iL_params : Int32) (fL_paramOver : Nat → Int32) (dL_paramOver : Nat) (nL_params : Nat) (fL_paramUnder : Nat → Int32) (dL_paramUnder : Nat) (nL_pu : Nat) (gL_over : Nat → Int64) (gL_under : Nat → Int64) (fL_bound : Nat → Int32) (iL_nameAt : Int32) (iL_startAt : Int32) (iL_steps : Int32) (jL_scaleOver : Int64) (jL_scaleUnder : Int64) (hF : Nat → Nat) (aF : Nat → Nat) (kF : Nat → ClassId) (dF_tree : Nat) (nF_tree : Nat) (fF_tree : Nat → Int32) (aT : Nat → Nat) (kT : Nat → ClassId) (fT_tape : Nat → Int32) (dT_tape : Nat) (nT_tape : Nat) (iT_length : Int32) (iT_fault : Int32) (iT_place : Int32) (iT_kind : Int32) (iT_at : Int32) (iT_number : Int32) (jT_name : Int64) (iT_next : Int32) (p1 : Int32) (b_iL_names : 0 ≤ iL_names.toInt ∧ iL_names.toInt ≤ 40) (b_fL_kind : ∀ q : Nat, 0 ≤ (fL_kind q).toInt ∧ (fL_kind q).toInt ≤ 5) (b_fL_two : ∀ q : Nat, (-1) ≤ (fL_two q).toInt ∧ (fL_two q).toInt ≤ 39) (b_fL_base : ∀ q : Nat, 0 ≤ (fL_base q).toInt ∧ (fL_base q).toInt ≤ 2560) (b_iL_params : 0 ≤ iL_params.toInt ∧ iL_params.toInt ≤ 2560) (b_nL_params : 0 ≤ nL_params ∧ nL_params ≤ 2560) (b_nm : NmL iL_names fL_kind fL_one fL_two fL_base nL_params) (b_pm : iL_params.toInt ≤ ((nL_params : Nat) : Int)) (b_pu : nL_pu = nL_params) (b_nF_tree : 7 ≤ nF_tree ∧ nF_tree ≤ 72200) (b_fT_tape : ∀ q : Nat, (-128) ≤ (fT_tape q).toInt ∧ (fT_tape q).toInt ≤ 127) (b_nT_tape : 64 ≤ nT_tape ∧ nT_tape ≤ 2560) (b_iT_length : 0 ≤ iT_length.toInt ∧ iT_length.toInt ≤ 1280) (b_iT_at : 0 ≤ iT_at.toInt ∧ iT_at.toInt ≤ 1282) (b_iT_number : 0 ≤ iT_number.toInt ∧ iT_number.toInt ≤ 999999) (b_iT_next : 0 ≤ iT_next.toInt ∧ iT_next.toInt ≤ 1282) (b_len : iT_length.toInt ≤ ((nT_tape : Nat) : Int)) (hp3 : 7 ≤ p1.toInt ∧ p1.toInt + 7 ≤ ((nF_tree : Nat) : Int)) (sz : Nat) : vx_Met l yX10_farEnd wsMX10_farEnd ({ frames := 7, cells := 1, slots := 6, locals := 103 }) (va_Pc [.ref (hL 0), .int p1] (fun U => U.heap.size = sz ∧ va_P (dC, dI) vwCl (WL hL aL kL hT hM (.ref dF_tree) iL_names gL_key fL_kind fL_one fL_two fL_base iL_params fL_paramOver dL_paramOver nL_params fL_paramUnder dL_paramUnder nL_pu gL_over gL_under fL_bound iL_nameAt iL_startAt iL_steps jL_scaleOver jL_scaleUnder ++ (WF hF aF kF dF_tree nF_tree fF_tree ++ (WT hT aT kT fT_tape dT_tape nT_tape iT_length iT_fault iT_place iT_kind iT_at iT_number jT_name iT_next))) U.heap ∧ va_K (dC, dI) vwCl (tL kL ++ (tF kF ++ (tT kT))) U ∧ va_D (fun _ => True) (WL hL aL kL hT hM (.ref dF_tree) iL_names gL_key fL_kind fL_one fL_two fL_base iL_params fL_paramOver dL_paramOver nL_params fL_paramUnder dL_paramUnder nL_pu gL_over gL_under fL_bound iL_nameAt iL_startAt iL_steps jL_scaleOver jL_scaleUnder ++ (WF hF aF kF dF_tree nF_tree fF_tree ++ (WT hT aT kT fT_tape dT_tape nT_tape iT_length iT_fault iT_place iT_kind iT_at iT_number jT_name iT_next))) ∧ CE (va_A (WL hL aL kL hT hM (.ref dF_tree) iL_names gL_key fL_kind fL_one fL_two fL_base iL_params fL_paramOver dL_paramOver nL_params fL_paramUnder dL_paramUnder nL_pu gL_over gL_under fL_bound iL_nameAt iL_startAt iL_steps jL_scaleOver jL_scaleUnder ++ (WF hF aF kF dF_tree nF_tree fF_tree ++ (WT hT aT kT fT_tape dT_tape nT_tape iT_length iT_fault iT_place iT_kind iT_at iT_number jT_name iT_next))) sz) U U.heap)) (va_Qi (fun (r : Int32) (u : (Int32) × (Int32)) => ((-999) ≤ r.toInt ∧ r.toInt ≤ 999)) (fun (u : (Int32) × (Int32)) t => va_P (dC, dI) vwCl (WL hL aL kL hT hM (.ref dF_tree) iL_names gL_key fL_kind fL_one fL_two fL_base iL_params fL_paramOver dL_paramOver nL_params fL_paramUnder dL_paramUnder nL_pu gL_over gL_under fL_bound iL_nameAt iL_startAt iL_steps jL_scaleOver jL_scaleUnder ++ (WF hF aF kF dF_tree nF_tree fF_tree ++ (WT hT aT kT fT_tape dT_tape nT_tape iT_length (u.1) (u.2) iT_kind iT_at iT_number jT_name iT_next))) t.heap ∧ va_D (va_A (WL hL aL kL hT hM (.ref dF_tree) iL_names gL_key fL_kind fL_one fL_two fL_base iL_params fL_paramOver dL_paramOver nL_params fL_paramUnder dL_paramUnder nL_pu gL_over gL_under fL_bound iL_nameAt iL_startAt iL_steps jL_scaleOver jL_scaleUnder ++ (WF hF aF kF dF_tree nF_tree fF_tree ++ (WT hT aT kT fT_tape dT_tape nT_tape iT_length iT_fault iT_place iT_kind iT_at iT_number jT_name iT_next))) sz) (WL hL aL kL hT hM (.ref dF_tree) iL_names gL_key fL_kind fL_one fL_two fL_base iL_params fL_paramOver dL_paramOver nL_params fL_paramUnder dL_paramUnder nL_pu gL_over gL_under fL_bound iL_nameAt iL_startAt iL_steps jL_scaleOver jL_scaleUnder ++ (WF hF aF kF dF_tree nF_tree fF_tree ++ (WT hT aT kT fT_tape dT_tape nT_tape iT_length (u.1) (u.2) iT_kind iT_at iT_number jT_name iT_next))) ∧ t.heap.size = sz) (va_A (WL hL aL kL hT hM (.ref dF_tree) iL_names gL_key fL_kind fL_one fL_two fL_base iL_params fL_paramOver dL_paramOver nL_params fL_paramUnder dL_paramUnder nL_pu gL_over gL_under fL_bound iL_nameAt iL_startAt iL_steps jL_scaleOver jL_scaleUnder ++ (WF hF aF kF dF_tree nF_tree fF_tree ++ (WT hT aT kT fT_tape dT_tape nT_tape iT_length iT_fault iT_place iT_kind iT_at iT_number jT_name iT_next))) sz)) (vx_X (fun (u : (Int32) × (Int32)) => True) (fun E (u : (Int32) × (Int32)) t => (E = "java/lang/IllegalArgumentException") ∧ va_P (dC, dI) vwCl (WL hL aL kL hT hM (.ref dF_tree) iL_names gL_key fL_kind fL_one fL_two fL_base iL_params fL_paramOver dL_paramOver nL_params fL_paramUnder dL_paramUnder nL_pu gL_over gL_under fL_bound iL_nameAt iL_startAt iL_steps jL_scaleOver jL_scaleUnder ++ (WF hF aF kF dF_tree nF_tree fF_tree ++ (WT hT aT kT fT_tape dT_tape nT_tape iT_length (u.1) (u.2) iT_kind iT_at iT_number jT_name iT_next))) t.heap ∧ va_D (va_A (WL hL aL kL hT hM (.ref dF_tree) iL_names gL_key fL_kind fL_one fL_two fL_base iL_params fL_paramOver dL_paramOver nL_params fL_paramUnder dL_paramUnder nL_pu gL_over gL_under fL_bound iL_nameAt iL_startAt iL_steps jL_scaleOver jL_scaleUnder ++ (WF hF aF kF dF_tree nF_tree fF_tree ++ (WT hT aT kT fT_tape dT_tape nT_tape iT_length iT_fault iT_place iT_kind iT_at iT_number jT_name iT_next))) sz) (WL hL aL kL hT hM (.ref dF_tree) iL_names gL_key fL_kind fL_one fL_two fL_base iL_params fL_paramOver dL_paramOver nL_params fL_paramUnder dL_paramUnder nL_pu gL_over gL_under fL_bound iL_nameAt iL_startAt iL_steps jL_scaleOver jL_scaleUnder ++ (WF hF aF kF dF_tree nF_tree fF_tree ++ (WT hT aT kT fT_tape dT_tape nT_tape iT_length (u.1) (u.2) iT_kind iT_at iT_number jT_name iT_next)))) (va_A (WL hL aL kL hT hM (.ref dF_tree) iL_names gL_key fL_kind fL_one fL_two fL_base iL_params fL_paramOver dL_paramOver nL_params fL_paramUnder dL_paramUnder nL_pu gL_over gL_under fL_bound iL_nameAt iL_startAt iL_steps jL_scaleOver jL_scaleUnder ++ (WF hF aF kF dF_tree nF_tree fF_tree ++ (WT hT aT kT fT_tape dT_tape nT_tape iT_length iT_fault iT_place iT_kind iT_at iT_number jT_name iT_next))) sz)) 1 6 (va_A (WL hL aL kL hT hM (.ref dF_tree) iL_names gL_key fL_kind fL_one fL_two fL_base iL_params fL_paramOver dL_paramOver nL_params fL_paramUnder dL_paramUnder nL_pu gL_over gL_under fL_bound iL_nameAt iL_startAt iL_steps jL_scaleOver jL_scaleUnder ++ (WF hF aF kF dF_tree nF_tree fF_tree ++ (WT hT aT kT fT_tape dT_tape nT_tape iT_length iT_fault iT_place iT_kind iT_at iT_number jT_name iT_next))) sz) := by
  refine vx_ofW (cc := cX10_farEnd) (maxL := 2) (ret := (some .int)) (by decide) rfl ?_
  intro p e s m args below meth c s₁ B hml htab hv
  obtain ⟨rfl, hsz, hP, hK, hD0, hE⟩ := hv
  have hx := B.exec
  have hb := B.bytes
  have hr := B.returns
  have hts := atoms_spec (ws := wsMX10_farEnd) B.pre
  have hown : s.vm.findClass RX10 = some m.cls := findClass_of_methodNamed B.named
  have hlocks := B.notSynchronized
  subst hsz
  have hD := hD0.self (sz := s.heap.size)
  generalize hAe : va_A (WL hL aL kL hT hM (.ref dF_tree) iL_names gL_key fL_kind fL_one fL_two fL_base iL_params fL_paramOver dL_paramOver nL_params fL_paramUnder dL_paramUnder nL_pu gL_over gL_under fL_bound iL_nameAt iL_startAt iL_steps jL_scaleOver jL_scaleUnder ++ (WF hF aF kF dF_tree nF_tree fF_tree ++ (WT hT aT kT fT_tape dT_tape nT_tape iT_length iT_fault iT_place iT_kind iT_at iT_number jT_name iT_next))) s.heap.size = A at hD hE ⊢
  have hA : ∀ q : Nat, s.heap.size ≤ q → A q := fun q h => by rw [← hAe]; exact Or.inr h
  have hS : va_S A s.heap s.heap [] := va_S.rf
  have hl := lv_entry ([.ref (hL 0), .int p1]) (n := 2) (Nat.le_of_ble_eq_true rfl)
  rw [lg_entry_eq]
  generalize (lg_sl ([.ref (hL 0), .int p1]) ++ List.replicate (2 - (lg_sl ([.ref (hL 0), .int p1])).length) Slot.unset).toArray = ls at hl ⊢
  have hl : lv_has ls 2 [(0, .ref (hL 0)), (1, .int p1)] := hl
  refine lv_aload_n hx hb dX10_farEnd_0 rfl (lv_at hl 0 rfl) ?_
  refine va_get (D := (dC, dI)) (ci := 10) (v := .ref (aL 8)) (C := RX10) (T := TX10) (N := 20) hx hb hts iwsMX10_farEnd_in10 hown hK hP 0 rfl rfl 13 (by decide) (hts (.fieldLink RX10 39 "OptimaWorks$Worker" "under" "[J") (by decide +kernel)) (fun _ h9 => h9) rfl dX10_farEnd_1 ?_
  refine lv_iconst (v := 0) hx hb dX10_farEnd_4 (by decide) ?_
  refine va_lald (cA := kL 8) (n := 360) (f := gL_under) hx hb hK hP 9 8 rfl rfl (show ¬ ((0 : Int32) < 0 ∨ 360 ≤ (0 : Int32).toNatClampNeg) by decide) dX10_farEnd_5 ?_
  refine lv_topl (fun v1 hv1 => ?_)
  clear hv1
  refine lv_lconst (v := 1) hx hb dX10_farEnd_6 (by decide) ?_
  refine W.lcmp hx hb dX10_farEnd_7 ?_
  refine lv_if_ne (tgt := 37) hx hb dX10_farEnd_8 (by decide) (fun c_8 => ?_) (fun c_8 => ?_)
  · have t_8 : v1.toInt ≠ 1 := toL_ne c_8 rfl (by decide : (1 : Int64).toInt = 1)
    refine lv_aload_n hx hb dX10_farEnd_37 rfl (lv_at hl 0 rfl) ?_
    refine va_get (D := (dC, dI)) (ci := 10) (v := .ref (hT 0)) (C := RX10) (T := TX10) (N := 20) hx hb hts iwsMX10_farEnd_in10 hown hK hP 0 rfl rfl 0 (by decide) (hts _ hm_m_X10_farEnd_0) (fun _ h9 => h9) rfl dX10_farEnd_38 ?_
    refine lv_bipush (v := 9) hx hb dX10_farEnd_41 (by decide) ?_
    refine lv_aload_n hx hb dX10_farEnd_43 rfl (lv_at hl 0 rfl) ?_
    refine va_get (D := (dC, dI)) (ci := 10) (v := .ref dF_tree) (C := RX10) (T := TX10) (N := 20) hx hb hts iwsMX10_farEnd_in10 hown hK hP 0 rfl rfl 2 (by decide) (hts _ hm_m_X10_farEnd_1) (fun _ h9 => h9) rfl dX10_farEnd_44 ?_
    refine lv_iload_n hx hb dX10_farEnd_47 rfl (lv_at hl 1 rfl) ?_
    refine lv_iconst (v := 1) hx hb dX10_farEnd_48 (by decide) ?_
    refine lv_iadd hx hb dX10_farEnd_49 ?_
    refine lv_topi (fun y13 hy13 => ?_)
    obtain rfl : (iI (p1.toInt + 1)) = y13 := (hy13.trans (iI_add2 (iI_of _) (by decide : (1 : Int32) = iI 1))).symm
    refine va_iald (cA := kF 0) (n := nF_tree) (f := fF_tree) hx hb hK hP 11 10 rfl rfl (vp_iI (by omega) (by omega) (by omega)) dX10_farEnd_50 ?_
    refine lv_topi (fun v14 hv14 => ?_)
    have b_v14 : v14.toInt = twL fF_tree (p1.toInt + 1) := by rw [hv14]; exact tw_i (by omega) (by omega)
    clear hv14
    have p9 := cj_3_2 (WL hL aL kL hT hM (.ref dF_tree) iL_names gL_key fL_kind fL_one fL_two fL_base iL_params fL_paramOver dL_paramOver nL_params fL_paramUnder dL_paramUnder nL_pu gL_over gL_under fL_bound iL_nameAt iL_startAt iL_steps jL_scaleOver jL_scaleUnder) (WF hF aF kF dF_tree nF_tree fF_tree) (WT hT aT kT fT_tape dT_tape nT_tape iT_length iT_fault iT_place iT_kind iT_at iT_number jT_name iT_next)
    have hPc := hP.mem (fun q h => p9.mem_iff.mpr (List.mem_append_left _ h))
    have hDc := (hD.perm p9).left
    have hKc : va_K (dC, dI) vwCl (tT kT) _ := hK.sub [11] rfl
    have hFc := freeG p9 hD hS hA
    refine vx_callv (vx_runV (As := [.int 9, .int v14]) (rest := []) ⟨hx, hb, hml, hown, hts⟩ (m_X9_fail l hst dC dI hT aT kT fT_tape dT_tape nT_tape iT_length iT_fault iT_place iT_kind iT_at iT_number jT_name iT_next 9 v14 b_fT_tape (by first | exact b_nT_tape | with_reducible assumption | exact ⟨by omega, by omega⟩ | assumption) (b_iT_length) (b_iT_at) (b_iT_number) (b_iT_next) (by first | with_reducible assumption | omega | assumption) s.heap.size) (cwV 2 hts gwsMX10_farEnd_0 rfl rfl rfl hd_yX9_fail_RX9 (by decide +kernel)) (fz_preE (va_recv hK hP (ci := 9) (q0 := 12) rfl rfl) hPc hKc hDc (fun a U g mk qE => qE.call) (fun U hU9 hW => by rw [hU9]; exact (((hE : CE A s s.heap).kept hS.2.1).narrow (fun q h => hFc q h)).warm hW)) rfl rfl hl.1 rfl (lv_room (Nat.le_of_ble_eq_true rfl)) dX10_farEnd_51 (by decide +kernel)) hS (fun q _ h => hFc q h) hFc (fun q _ h => hFc q h) (fun E ce q9 u t9_ H locs ht hvm hw9 hB9 hz1 hk1 hS hc1 hc2 hc3 => ?_) (fun u t9_ H1 locs ht hvm hw9 hB9 hz1 hk1 hS => ?_)
    · revert u hw9 hB9
      refine fz_p2 ?_
      intro iT_fault_15 iT_place_15 hw9 hB9
      try dsimp only at hw9 hB9
      revert hB9
      refine fz_a2 ?_
      intro hEx hB9
      clear hw9
      have p8 := cj_3_2 (WL hL aL kL hT hM (.ref dF_tree) iL_names gL_key fL_kind fL_one fL_two fL_base iL_params fL_paramOver dL_paramOver nL_params fL_paramUnder dL_paramUnder nL_pu gL_over gL_under fL_bound iL_nameAt iL_startAt iL_steps jL_scaleOver jL_scaleUnder) (WF hF aF kF dF_tree nF_tree fF_tree) (WT hT aT kT fT_tape dT_tape nT_tape iT_length iT_fault_15 iT_place_15 iT_kind iT_at iT_number jT_name iT_next)
      obtain ⟨hP, hD⟩ := frameG p9 p8 hP hD hk1 hFc (fz_P ht hB9.1) hB9.2
      exact vx_out (fun x hx9 => (htab x hx9).elim) hlocks hc1 hc2 hc3 (fun t9_ ht hvm => ⟨(iT_fault_15, iT_place_15), trivial, ⟨(by have h9 := hEx; exact h9), by rw [ht]; exact hP, hD⟩, hS.F ht⟩) hS.2.2 (by decide +kernel) (by decide +kernel)
    exact False.elim hw9
  · have t_8 : v1.toInt = 1 := toL_nne c_8 rfl (by decide : (1 : Int64).toInt = 1)
    refine lv_aload_n hx hb dX10_farEnd_11 rfl (lv_at hl 0 rfl) ?_
    refine va_get (D := (dC, dI)) (ci := 10) (v := .ref (aL 7)) (C := RX10) (T := TX10) (N := 20) hx hb hts iwsMX10_farEnd_in10 hown hK hP 0 rfl rfl 12 (by decide) (hts _ hm_m_X10_farEnd_2) (fun _ h9 => h9) rfl dX10_farEnd_12 ?_
    refine lv_iconst (v := 0) hx hb dX10_farEnd_15 (by decide) ?_
    refine va_lald (cA := kL 7) (n := 360) (f := gL_over) hx hb hK hP 8 7 rfl rfl (show ¬ ((0 : Int32) < 0 ∨ 360 ≤ (0 : Int32).toNatClampNeg) by decide) dX10_farEnd_16 ?_
    refine lv_topl (fun v16 hv16 => ?_)
    have b_v16 : v16 = gL_over (0 : Int32).toNatClampNeg := hv16
    clear hv16
    refine lv_ldc2 (v := (-999)) hx hb hown (hts (.constantLong RX10 110 (-999)) (by decide +kernel)) dX10_farEnd_17 ?_
    refine W.lcmp hx hb dX10_farEnd_20 ?_
    refine lv_if_lt (tgt := 37) hx hb dX10_farEnd_21 (by decide) (fun c_21 => ?_) (fun c_21 => ?_)
    · have t_21 : v16.toInt < (-999) := toL_lt c_21 rfl (by decide : ((-999) : Int64).toInt = (-999))
      refine lv_aload_n hx hb dX10_farEnd_37 rfl (lv_at hl 0 rfl) ?_
      refine va_get (D := (dC, dI)) (ci := 10) (v := .ref (hT 0)) (C := RX10) (T := TX10) (N := 20) hx hb hts iwsMX10_farEnd_in10 hown hK hP 0 rfl rfl 0 (by decide) (hts _ hm_m_X10_farEnd_0) (fun _ h9 => h9) rfl dX10_farEnd_38 ?_
      refine lv_bipush (v := 9) hx hb dX10_farEnd_41 (by decide) ?_
      refine lv_aload_n hx hb dX10_farEnd_43 rfl (lv_at hl 0 rfl) ?_
      refine va_get (D := (dC, dI)) (ci := 10) (v := .ref dF_tree) (C := RX10) (T := TX10) (N := 20) hx hb hts iwsMX10_farEnd_in10 hown hK hP 0 rfl rfl 2 (by decide) (hts _ hm_m_X10_farEnd_1) (fun _ h9 => h9) rfl dX10_farEnd_44 ?_
      refine lv_iload_n hx hb dX10_farEnd_47 rfl (lv_at hl 1 rfl) ?_
      refine lv_iconst (v := 1) hx hb dX10_farEnd_48 (by decide) ?_
      refine lv_iadd hx hb dX10_farEnd_49 ?_
      refine lv_topi (fun y24 hy24 => ?_)
      obtain rfl : (iI (p1.toInt + 1)) = y24 := (hy24.trans (iI_add2 (iI_of _) (by decide : (1 : Int32) = iI 1))).symm
      refine va_iald (cA := kF 0) (n := nF_tree) (f := fF_tree) hx hb hK hP 11 10 rfl rfl (vp_iI (by omega) (by omega) (by omega)) dX10_farEnd_50 ?_
      refine lv_topi (fun v25 hv25 => ?_)
      have b_v25 : v25.toInt = twL fF_tree (p1.toInt + 1) := by rw [hv25]; exact tw_i (by omega) (by omega)
      clear hv25
      have p9 := cj_3_2 (WL hL aL kL hT hM (.ref dF_tree) iL_names gL_key fL_kind fL_one fL_two fL_base iL_params fL_paramOver dL_paramOver nL_params fL_paramUnder dL_paramUnder nL_pu gL_over gL_under fL_bound iL_nameAt iL_startAt iL_steps jL_scaleOver jL_scaleUnder) (WF hF aF kF dF_tree nF_tree fF_tree) (WT hT aT kT fT_tape dT_tape nT_tape iT_length iT_fault iT_place iT_kind iT_at iT_number jT_name iT_next)
      have hPc := hP.mem (fun q h => p9.mem_iff.mpr (List.mem_append_left _ h))
      have hDc := (hD.perm p9).left
      have hKc : va_K (dC, dI) vwCl (tT kT) _ := hK.sub [11] rfl
      have hFc := freeG p9 hD hS hA
      refine vx_callv (vx_runV (As := [.int 9, .int v25]) (rest := []) ⟨hx, hb, hml, hown, hts⟩ (m_X9_fail l hst dC dI hT aT kT fT_tape dT_tape nT_tape iT_length iT_fault iT_place iT_kind iT_at iT_number jT_name iT_next 9 v25 b_fT_tape (by first | exact b_nT_tape | with_reducible assumption | exact ⟨by omega, by omega⟩ | assumption) (b_iT_length) (b_iT_at) (b_iT_number) (b_iT_next) (by first | with_reducible assumption | omega | assumption) s.heap.size) (cwV 2 hts gwsMX10_farEnd_0 rfl rfl rfl hd_yX9_fail_RX9 (by decide +kernel)) (fz_preE (va_recv hK hP (ci := 9) (q0 := 12) rfl rfl) hPc hKc hDc (fun a U g mk qE => qE.call) (fun U hU9 hW => by rw [hU9]; exact (((hE : CE A s s.heap).kept hS.2.1).narrow (fun q h => hFc q h)).warm hW)) rfl rfl hl.1 rfl (lv_room (Nat.le_of_ble_eq_true rfl)) dX10_farEnd_51 (by decide +kernel)) hS (fun q _ h => hFc q h) hFc (fun q _ h => hFc q h) (fun E ce q9 u t9_ H locs ht hvm hw9 hB9 hz1 hk1 hS hc1 hc2 hc3 => ?_) (fun u t9_ H1 locs ht hvm hw9 hB9 hz1 hk1 hS => ?_)
      · revert u hw9 hB9
        refine fz_p2 ?_
        intro iT_fault_26 iT_place_26 hw9 hB9
        try dsimp only at hw9 hB9
        revert hB9
        refine fz_a2 ?_
        intro hEx hB9
        clear hw9
        have p8 := cj_3_2 (WL hL aL kL hT hM (.ref dF_tree) iL_names gL_key fL_kind fL_one fL_two fL_base iL_params fL_paramOver dL_paramOver nL_params fL_paramUnder dL_paramUnder nL_pu gL_over gL_under fL_bound iL_nameAt iL_startAt iL_steps jL_scaleOver jL_scaleUnder) (WF hF aF kF dF_tree nF_tree fF_tree) (WT hT aT kT fT_tape dT_tape nT_tape iT_length iT_fault_26 iT_place_26 iT_kind iT_at iT_number jT_name iT_next)
        obtain ⟨hP, hD⟩ := frameG p9 p8 hP hD hk1 hFc (fz_P ht hB9.1) hB9.2
        exact vx_out (fun x hx9 => (htab x hx9).elim) hlocks hc1 hc2 hc3 (fun t9_ ht hvm => ⟨(iT_fault_26, iT_place_26), trivial, ⟨(by have h9 := hEx; exact h9), by rw [ht]; exact hP, hD⟩, hS.F ht⟩) hS.2.2 (by decide +kernel) (by decide +kernel)
      exact False.elim hw9
    · have t_21 : ¬ v16.toInt < (-999) := toL_nlt c_21 rfl (by decide : ((-999) : Int64).toInt = (-999))
      refine lv_aload_n hx hb dX10_farEnd_24 rfl (lv_at hl 0 rfl) ?_
      refine va_get (D := (dC, dI)) (ci := 10) (v := .ref (aL 7)) (C := RX10) (T := TX10) (N := 20) hx hb hts iwsMX10_farEnd_in10 hown hK hP 0 rfl rfl 12 (by decide) (hts _ hm_m_X10_farEnd_2) (fun _ h9 => h9) rfl dX10_farEnd_25 ?_
      refine lv_iconst (v := 0) hx hb dX10_farEnd_28 (by decide) ?_
      refine va_lald (cA := kL 7) (n := 360) (f := gL_over) hx hb hK hP 8 7 rfl rfl (show ¬ ((0 : Int32) < 0 ∨ 360 ≤ (0 : Int32).toNatClampNeg) by decide) dX10_farEnd_29 ?_
      refine lv_topl (fun v27 hv27 => ?_)
      have b_v27 : v27 = gL_over (0 : Int32).toNatClampNeg := hv27
      have b1_v27 : v27.toInt = v16.toInt := by rw [hv27]; exact (congrArg Int64.toInt b_v16).symm
      clear hv27
      refine lv_ldc2 (v := 999) hx hb hown (hts (.constantLong RX10 112 999) (by decide +kernel)) dX10_farEnd_30 ?_
      refine W.lcmp hx hb dX10_farEnd_33 ?_
      refine lv_if_le (tgt := 54) hx hb dX10_farEnd_34 (by decide) (fun c_34 => ?_) (fun c_34 => ?_)
      · have t_34 : v27.toInt ≤ 999 := toL_le c_34 rfl (by decide : (999 : Int64).toInt = 999)
        refine lv_aload_n hx hb dX10_farEnd_54 rfl (lv_at hl 0 rfl) ?_
        refine va_get (D := (dC, dI)) (ci := 10) (v := .ref (aL 7)) (C := RX10) (T := TX10) (N := 20) hx hb hts iwsMX10_farEnd_in10 hown hK hP 0 rfl rfl 12 (by decide) (hts _ hm_m_X10_farEnd_2) (fun _ h9 => h9) rfl dX10_farEnd_55 ?_
        refine lv_iconst (v := 0) hx hb dX10_farEnd_58 (by decide) ?_
        refine va_lald (cA := kL 7) (n := 360) (f := gL_over) hx hb hK hP 8 7 rfl rfl (show ¬ ((0 : Int32) < 0 ∨ 360 ≤ (0 : Int32).toNatClampNeg) by decide) dX10_farEnd_59 ?_
        refine lv_topl (fun v31 hv31 => ?_)
        have b_v31 : v31 = gL_over (0 : Int32).toNatClampNeg := hv31
        have b1_v31 : v31.toInt = v27.toInt := by rw [hv31]; exact (congrArg Int64.toInt b_v27).symm
        clear hv31
        refine lv_l2i hx hb dX10_farEnd_60 rfl ?_
        refine lv_topi (fun v32 hv32 => ?_)
        have b_v32 : v32.toInt = v31.toInt := by rw [hv32]; exact l2i_in (by omega) (by omega)
        clear hv32
        refine vx_ret ?_
        refine W.known (fun hz9 _ => ?_)
        refine W.widen (k := 1) (n := 6) (by decide +kernel) (by decide +kernel) ?_
        exact W.iret (v := v32) hx hb hr (fun t9_ ht hW => ⟨⟨v32, (iT_fault, iT_place), rfl, (by first | exact b_v32 | with_reducible assumption | exact ⟨by omega, by omega⟩ | assumption), by rw [ht]; exact hP, hD, by rw [ht]; first | done | exact Nat.le_antisymm hz9 hS.1⟩, hS.F ht⟩) hS.2.2 dX10_farEnd_61
      · have t_34 : ¬ v27.toInt ≤ 999 := toL_nle c_34 rfl (by decide : (999 : Int64).toInt = 999)
        refine lv_aload_n hx hb dX10_farEnd_37 rfl (lv_at hl 0 rfl) ?_
        refine va_get (D := (dC, dI)) (ci := 10) (v := .ref (hT 0)) (C := RX10) (T := TX10) (N := 20) hx hb hts iwsMX10_farEnd_in10 hown hK hP 0 rfl rfl 0 (by decide) (hts _ hm_m_X10_farEnd_0) (fun _ h9 => h9) rfl dX10_farEnd_38 ?_
        refine lv_bipush (v := 9) hx hb dX10_farEnd_41 (by decide) ?_
        refine lv_aload_n hx hb dX10_farEnd_43 rfl (lv_at hl 0 rfl) ?_
        refine va_get (D := (dC, dI)) (ci := 10) (v := .ref dF_tree) (C := RX10) (T := TX10) (N := 20) hx hb hts iwsMX10_farEnd_in10 hown hK hP 0 rfl rfl 2 (by decide) (hts _ hm_m_X10_farEnd_1) (fun _ h9 => h9) rfl dX10_farEnd_44 ?_
        refine lv_iload_n hx hb dX10_farEnd_47 rfl (lv_at hl 1 rfl) ?_
        refine lv_iconst (v := 1) hx hb dX10_farEnd_48 (by decide) ?_
        refine lv_iadd hx hb dX10_farEnd_49 ?_
        refine lv_topi (fun y33 hy33 => ?_)
        obtain rfl : (iI (p1.toInt + 1)) = y33 := (hy33.trans (iI_add2 (iI_of _) (by decide : (1 : Int32) = iI 1))).symm
        refine va_iald (cA := kF 0) (n := nF_tree) (f := fF_tree) hx hb hK hP 11 10 rfl rfl (vp_iI (by omega) (by omega) (by omega)) dX10_farEnd_50 ?_
        refine lv_topi (fun v34 hv34 => ?_)
        have b_v34 : v34.toInt = twL fF_tree (p1.toInt + 1) := by rw [hv34]; exact tw_i (by omega) (by omega)
        clear hv34
        have p9 := cj_3_2 (WL hL aL kL hT hM (.ref dF_tree) iL_names gL_key fL_kind fL_one fL_two fL_base iL_params fL_paramOver dL_paramOver nL_params fL_paramUnder dL_paramUnder nL_pu gL_over gL_under fL_bound iL_nameAt iL_startAt iL_steps jL_scaleOver jL_scaleUnder) (WF hF aF kF dF_tree nF_tree fF_tree) (WT hT aT kT fT_tape dT_tape nT_tape iT_length iT_fault iT_place iT_kind iT_at iT_number jT_name iT_next)
        have hPc := hP.mem (fun q h => p9.mem_iff.mpr (List.mem_append_left _ h))
        have hDc := (hD.perm p9).left
        have hKc : va_K (dC, dI) vwCl (tT kT) _ := hK.sub [11] rfl
        have hFc := freeG p9 hD hS hA
        refine vx_callv (vx_runV (As := [.int 9, .int v34]) (rest := []) ⟨hx, hb, hml, hown, hts⟩ (m_X9_fail l hst dC dI hT aT kT fT_tape dT_tape nT_tape iT_length iT_fault iT_place iT_kind iT_at iT_number jT_name iT_next 9 v34 b_fT_tape (by first | exact b_nT_tape | with_reducible assumption | exact ⟨by omega, by omega⟩ | assumption) (b_iT_length) (b_iT_at) (b_iT_number) (b_iT_next) (by first | with_reducible assumption | omega | assumption) s.heap.size) (cwV 2 hts gwsMX10_farEnd_0 rfl rfl rfl hd_yX9_fail_RX9 (by decide +kernel)) (fz_preE (va_recv hK hP (ci := 9) (q0 := 12) rfl rfl) hPc hKc hDc (fun a U g mk qE => qE.call) (fun U hU9 hW => by rw [hU9]; exact (((hE : CE A s s.heap).kept hS.2.1).narrow (fun q h => hFc q h)).warm hW)) rfl rfl hl.1 rfl (lv_room (Nat.le_of_ble_eq_true rfl)) dX10_farEnd_51 (by decide +kernel)) hS (fun q _ h => hFc q h) hFc (fun q _ h => hFc q h) (fun E ce q9 u t9_ H locs ht hvm hw9 hB9 hz1 hk1 hS hc1 hc2 hc3 => ?_) (fun u t9_ H1 locs ht hvm hw9 hB9 hz1 hk1 hS => ?_)
        · revert u hw9 hB9
          refine fz_p2 ?_
          intro iT_fault_35 iT_place_35 hw9 hB9
          try dsimp only at hw9 hB9
          revert hB9
          refine fz_a2 ?_
          intro hEx hB9
          clear hw9
          have p8 := cj_3_2 (WL hL aL kL hT hM (.ref dF_tree) iL_names gL_key fL_kind fL_one fL_two fL_base iL_params fL_paramOver dL_paramOver nL_params fL_paramUnder dL_paramUnder nL_pu gL_over gL_under fL_bound iL_nameAt iL_startAt iL_steps jL_scaleOver jL_scaleUnder) (WF hF aF kF dF_tree nF_tree fF_tree) (WT hT aT kT fT_tape dT_tape nT_tape iT_length iT_fault_35 iT_place_35 iT_kind iT_at iT_number jT_name iT_next)
          obtain ⟨hP, hD⟩ := frameG p9 p8 hP hD hk1 hFc (fz_P ht hB9.1) hB9.2
          exact vx_out (fun x hx9 => (htab x hx9).elim) hlocks hc1 hc2 hc3 (fun t9_ ht hvm => ⟨(iT_fault_35, iT_place_35), trivial, ⟨(by have h9 := hEx; exact h9), by rw [ht]; exact hP, hD⟩, hS.F ht⟩) hS.2.2 (by decide +kernel) (by decide +kernel)
        exact False.elim hw9
theorem dX10_multiplyCases_0 : decode cX10_multiplyCases 0 = .ok (.aload_n 0, 1) := dk_42 (by decide +kernel)
theorem dX10_multiplyCases_1 : decode cX10_multiplyCases 1 = .ok (.getfield 51, 3) := dk_180 (by decide +kernel)
theorem dX10_multiplyCases_4 : decode cX10_multiplyCases 4 = .ok (.dup, 1) := dk_89 (by decide +kernel)
theorem dX10_multiplyCases_5 : decode cX10_multiplyCases 5 = .ok (.getfield 114, 3) := dk_180 (by decide +kernel)
theorem dX10_multiplyCases_8 : decode cX10_multiplyCases 8 = .ok (.iload_n 1, 1) := dk_27 (by decide +kernel)
theorem dX10_multiplyCases_9 : decode cX10_multiplyCases 9 = .ok (.imul, 1) := dk_104 (by decide +kernel)
theorem dX10_multiplyCases_10 : decode cX10_multiplyCases 10 = .ok (.putfield 114, 3) := dk_181 (by decide +kernel)
theorem dX10_multiplyCases_13 : decode cX10_multiplyCases 13 = .ok (.aload_n 0, 1) := dk_42 (by decide +kernel)
theorem dX10_multiplyCases_14 : decode cX10_multiplyCases 14 = .ok (.getfield 51, 3) := dk_180 (by decide +kernel)
theorem dX10_multiplyCases_17 : decode cX10_multiplyCases 17 = .ok (.getfield 114, 3) := dk_180 (by decide +kernel)
theorem dX10_multiplyCases_20 : decode cX10_multiplyCases 20 = .ok (.bipush 64, 2) := dk_16 (by decide +kernel)
theorem dX10_multiplyCases_22 : decode cX10_multiplyCases 22 = .ok (.if_icmp .le 16, 3) := dk_164 (by decide +kernel)
theorem dX10_multiplyCases_25 : decode cX10_multiplyCases 25 = .ok (.aload_n 0, 1) := dk_42 (by decide +kernel)
theorem dX10_multiplyCases_26 : decode cX10_multiplyCases 26 = .ok (.getfield 47, 3) := dk_180 (by decide +kernel)
theorem dX10_multiplyCases_29 : decode cX10_multiplyCases 29 = .ok (.bipush 11, 2) := dk_16 (by decide +kernel)
theorem dX10_multiplyCases_31 : decode cX10_multiplyCases 31 = .ok (.aload_n 0, 1) := dk_42 (by decide +kernel)
theorem dX10_multiplyCases_32 : decode cX10_multiplyCases 32 = .ok (.getfield 74, 3) := dk_180 (by decide +kernel)
theorem dX10_multiplyCases_35 : decode cX10_multiplyCases 35 = .ok (.invokevirtual 90, 3) := dk_182 (by decide +kernel)
theorem dX10_multiplyCases_38 : decode cX10_multiplyCases 38 = .ok (.return_, 1) := dk_177 (by decide +kernel)
def wsMX10_multiplyCases : List Cond := .code yX10_multiplyCases cX10_multiplyCases 2 none :: ([.fieldLink RX10 51 "OptimaWorks$Worker" "model" "LOptimaWorks$Model;", .fieldLink RX10 114 "OptimaWorks$Model" "cases" "I", .fieldLink RX10 47 "OptimaWorks$Worker" "words" "LOptimaWorks$Words;", .fieldLink RX10 74 "OptimaWorks$Worker" "nameAt" "I"] ++ wsX10 ++ wsX100 ++ (wsV RX10 90 RX9 yX9_fail wsMX9_fail))
theorem iwsMX10_multiplyCases_in1 : ∀ w ∈ wsX10, w ∈ wsMX10_multiplyCases := fun _ h => List.mem_cons_of_mem _ (List.mem_append_left _ (List.mem_append_left _ (List.mem_append_right _ h)))
theorem iwsMX10_multiplyCases_in10 : ∀ w ∈ wsX100, w ∈ wsMX10_multiplyCases := fun _ h => List.mem_cons_of_mem _ (List.mem_append_left _ (List.mem_append_right _ h))
theorem gwsMX10_multiplyCases_0 : GoodIn wsMX10_multiplyCases (wsV RX10 90 RX9 yX9_fail wsMX9_fail) := goodIn_sub (fun _ h => List.mem_cons_of_mem _ (List.mem_append_right _ h)) (gdV (by decide +kernel) gdwsMX9_fail)
theorem gdwsMX10_multiplyCases : wsMX10_multiplyCases.all goodWord = true := gdC rfl (gdA (gdA (gdA (by decide +kernel : ([.fieldLink RX10 51 "OptimaWorks$Worker" "model" "LOptimaWorks$Model;", .fieldLink RX10 114 "OptimaWorks$Model" "cases" "I", .fieldLink RX10 47 "OptimaWorks$Worker" "words" "LOptimaWorks$Words;", .fieldLink RX10 74 "OptimaWorks$Worker" "nameAt" "I"] : List Cond).all goodWord = true) gdwsX10) gdwsX100) (gdV (by decide +kernel) gdwsMX9_fail))
theorem hm_m_X10_multiplyCases_0 : (.fieldLink RX10 51 "OptimaWorks$Worker" "model" "LOptimaWorks$Model;" : Cond) ∈ wsMX10_multiplyCases := by decide +kernel
theorem hm_m_X10_multiplyCases_1 : (.fieldLink RX10 114 "OptimaWorks$Model" "cases" "I" : Cond) ∈ wsMX10_multiplyCases := by decide +kernel
set_option maxHeartbeats 4000000 in
set_option maxRecDepth 100000 in
/-- more cases -/
theorem m_X10_multiplyCases (l : Launch) (hst : l.stackTraces = false) (dC : Nat → ClassId) (dI : Nat → Nat → Nat) (hL : Nat → Nat) (aL : Nat → Nat) (kL : Nat → ClassId) (hT : Nat → Nat) (hM : Nat → Nat) (xL_tree : Value) (iL_names : Int32) (gL_key : Nat → Int64) (fL_kind : Nat → Int32) (fL_one : Nat → Int32) (fL_two : Nat → Int32) (fL_base : Nat → Int32) (iL_params : Int32) (fL_paramOver : Nat → Int32) (dL_paramOver : Nat) (nL_params : Nat) (fL_paramUnder : Nat → Int32) (dL_paramUnder : Nat) (nL_pu : Nat) (gL_over : Nat → Int64) (gL_under : Nat → Int64) (fL_bound : Nat → Int32) (iL_nameAt : Int32) (iL_startAt : Int32) (iL_steps : Int32) (jL_scaleOver : Int64) (jL_scaleUnder : Int64) (aT : Nat → Nat) (kT : Nat → ClassId) (fT_tape : Nat → Int32) (dT_tape : Nat) (nT_tape : Nat) (iT_length : Int32) (iT_fault : Int32) (iT_place : Int32) (iT_kind : Int32) (iT_at : Int32) (iT_number : Int32) (jT_name : Int64) (iT_next : Int32) (aM : Nat → Nat) (kM : Nat → ClassId) (iM_stands : Int32) (iM_variables : Int32) (iM_rows : Int32) (iM_goals : Int32) (iM_differents : Int32) (iM_cases : Int32) (fM_from : Nat → Int32) (fM_to : Nat → Int32) (fM_whole : Nat → Int32) (fM_ways : Nat → Int32) (iM_plainRows : Int32) (fM_plainRow : Nat → Int32) (fM_kept : Nat → Int32) (fM_goalOver : Nat → Int32) (fM_goalUnder : Nat → Int32) (fM_goalMax : Nat → Int32) (fM_different : Nat → Int32) (p1 : Int32) (b_iL_names : 0 ≤ iL_names.toInt ∧ iL_names.toInt ≤ 40) (b_fL_kind : ∀ q : Nat, 0 ≤ (fL_kind q).toInt ∧ (fL_kind q).toInt ≤ 5) (b_fL_two : ∀ q : Nat, (-1) ≤ (fL_two q).toInt ∧ (fL_two q).toInt ≤ 39) (b_fL_base : ∀ q : Nat, 0 ≤ (fL_base q).toInt ∧ (fL_base q).toInt ≤ 2560) (b_iL_params : 0 ≤ iL_params.toInt ∧ iL_params.toInt ≤ 2560) (b_nL_params : 0 ≤ nL_params ∧ nL_params ≤ 2560) (b_nm : NmL iL_names fL_kind fL_one fL_two fL_base nL_params) (b_pm : iL_params.toInt ≤ ((nL_params : Nat) : Int)) (b_pu : nL_pu = nL_params) (b_fT_tape : ∀ q : Nat, (-128) ≤ (fT_tape q).toInt ∧ (fT_tape q).toInt ≤ 127) (b_nT_tape : 64 ≤ nT_tape ∧ nT_tape ≤ 2560) (b_iT_length : 0 ≤ iT_length.toInt ∧ iT_length.toInt ≤ 1280) (b_iT_at : 0 ≤ iT_at.toInt ∧ iT_at.toInt ≤ 1282) (b_iT_number : 0 ≤ iT_number.toInt ∧ iT_number.toInt ≤ 999999) (b_iT_next : 0 ≤ iT_next.toInt ∧ iT_next.toInt ≤ 1282) (b_len : iT_length.toInt ≤ ((nT_tape : Nat) : Int)) (b_iM_stands : 0 ≤ iM_stands.toInt ∧ iM_stands.toInt ≤ 1) (b_iM_variables : 0 ≤ iM_variables.toInt ∧ iM_variables.toInt ≤ 8) (b_iM_rows : 0 ≤ iM_rows.toInt ∧ iM_rows.toInt ≤ 12) (b_iM_goals : 0 ≤ iM_goals.toInt ∧ iM_goals.toInt ≤ 3) (b_iM_differents : 0 ≤ iM_differents.toInt ∧ iM_differents.toInt ≤ 8) (b_iM_cases : 0 ≤ iM_cases.toInt ∧ iM_cases.toInt ≤ 200000) (b_fM_ways : ∀ q : Nat, 0 ≤ (fM_ways q).toInt ∧ (fM_ways q).toInt ≤ 3) (b_iM_plainRows : 0 ≤ iM_plainRows.toInt ∧ iM_plainRows.toInt ≤ 12) (b_fM_plainRow : ∀ q : Nat, 0 ≤ (fM_plainRow q).toInt ∧ (fM_plainRow q).toInt ≤ 11) (b_pr : iM_plainRows.toInt ≤ iM_rows.toInt) (b_p1 : 1 ≤ p1.toInt ∧ p1.toInt ≤ 1999) (hc64 : iM_cases.toInt ≤ 64) (sz : Nat) : vx_Met l yX10_multiplyCases wsMX10_multiplyCases ({ frames := 7, cells := 1, slots := 6, locals := 103 }) (va_Pc [.ref (hL 0), .int p1] (fun U => U.heap.size = sz ∧ va_P (dC, dI) vwCl (WL hL aL kL hT hM xL_tree iL_names gL_key fL_kind fL_one fL_two fL_base iL_params fL_paramOver dL_paramOver nL_params fL_paramUnder dL_paramUnder nL_pu gL_over gL_under fL_bound iL_nameAt iL_startAt iL_steps jL_scaleOver jL_scaleUnder ++ (WT hT aT kT fT_tape dT_tape nT_tape iT_length iT_fault iT_place iT_kind iT_at iT_number jT_name iT_next ++ (WM hM aM kM iM_stands iM_variables iM_rows iM_goals iM_differents iM_cases fM_from fM_to fM_whole fM_ways iM_plainRows fM_plainRow fM_kept fM_goalOver fM_goalUnder fM_goalMax fM_different))) U.heap ∧ va_K (dC, dI) vwCl (tL kL ++ (tT kT ++ (tM kM))) U ∧ va_D (fun _ => True) (WL hL aL kL hT hM xL_tree iL_names gL_key fL_kind fL_one fL_two fL_base iL_params fL_paramOver dL_paramOver nL_params fL_paramUnder dL_paramUnder nL_pu gL_over gL_under fL_bound iL_nameAt iL_startAt iL_steps jL_scaleOver jL_scaleUnder ++ (WT hT aT kT fT_tape dT_tape nT_tape iT_length iT_fault iT_place iT_kind iT_at iT_number jT_name iT_next ++ (WM hM aM kM iM_stands iM_variables iM_rows iM_goals iM_differents iM_cases fM_from fM_to fM_whole fM_ways iM_plainRows fM_plainRow fM_kept fM_goalOver fM_goalUnder fM_goalMax fM_different))) ∧ CE (va_A (WL hL aL kL hT hM xL_tree iL_names gL_key fL_kind fL_one fL_two fL_base iL_params fL_paramOver dL_paramOver nL_params fL_paramUnder dL_paramUnder nL_pu gL_over gL_under fL_bound iL_nameAt iL_startAt iL_steps jL_scaleOver jL_scaleUnder ++ (WT hT aT kT fT_tape dT_tape nT_tape iT_length iT_fault iT_place iT_kind iT_at iT_number jT_name iT_next ++ (WM hM aM kM iM_stands iM_variables iM_rows iM_goals iM_differents iM_cases fM_from fM_to fM_whole fM_ways iM_plainRows fM_plainRow fM_kept fM_goalOver fM_goalUnder fM_goalMax fM_different))) sz) U U.heap)) (va_Qv (fun (u : (Int32) × (Int32) × (Int32)) => (0 ≤ (u.2.2).toInt ∧ (u.2.2).toInt ≤ 200000) ∧ ((u.2.2).toInt ≤ 64)) (fun (u : (Int32) × (Int32) × (Int32)) t => va_P (dC, dI) vwCl (WL hL aL kL hT hM xL_tree iL_names gL_key fL_kind fL_one fL_two fL_base iL_params fL_paramOver dL_paramOver nL_params fL_paramUnder dL_paramUnder nL_pu gL_over gL_under fL_bound iL_nameAt iL_startAt iL_steps jL_scaleOver jL_scaleUnder ++ (WT hT aT kT fT_tape dT_tape nT_tape iT_length (u.1) (u.2.1) iT_kind iT_at iT_number jT_name iT_next ++ (WM hM aM kM iM_stands iM_variables iM_rows iM_goals iM_differents (u.2.2) fM_from fM_to fM_whole fM_ways iM_plainRows fM_plainRow fM_kept fM_goalOver fM_goalUnder fM_goalMax fM_different))) t.heap ∧ va_D (va_A (WL hL aL kL hT hM xL_tree iL_names gL_key fL_kind fL_one fL_two fL_base iL_params fL_paramOver dL_paramOver nL_params fL_paramUnder dL_paramUnder nL_pu gL_over gL_under fL_bound iL_nameAt iL_startAt iL_steps jL_scaleOver jL_scaleUnder ++ (WT hT aT kT fT_tape dT_tape nT_tape iT_length iT_fault iT_place iT_kind iT_at iT_number jT_name iT_next ++ (WM hM aM kM iM_stands iM_variables iM_rows iM_goals iM_differents iM_cases fM_from fM_to fM_whole fM_ways iM_plainRows fM_plainRow fM_kept fM_goalOver fM_goalUnder fM_goalMax fM_different))) sz) (WL hL aL kL hT hM xL_tree iL_names gL_key fL_kind fL_one fL_two fL_base iL_params fL_paramOver dL_paramOver nL_params fL_paramUnder dL_paramUnder nL_pu gL_over gL_under fL_bound iL_nameAt iL_startAt iL_steps jL_scaleOver jL_scaleUnder ++ (WT hT aT kT fT_tape dT_tape nT_tape iT_length (u.1) (u.2.1) iT_kind iT_at iT_number jT_name iT_next ++ (WM hM aM kM iM_stands iM_variables iM_rows iM_goals iM_differents (u.2.2) fM_from fM_to fM_whole fM_ways iM_plainRows fM_plainRow fM_kept fM_goalOver fM_goalUnder fM_goalMax fM_different))) ∧ t.heap.size = sz) (va_A (WL hL aL kL hT hM xL_tree iL_names gL_key fL_kind fL_one fL_two fL_base iL_params fL_paramOver dL_paramOver nL_params fL_paramUnder dL_paramUnder nL_pu gL_over gL_under fL_bound iL_nameAt iL_startAt iL_steps jL_scaleOver jL_scaleUnder ++ (WT hT aT kT fT_tape dT_tape nT_tape iT_length iT_fault iT_place iT_kind iT_at iT_number jT_name iT_next ++ (WM hM aM kM iM_stands iM_variables iM_rows iM_goals iM_differents iM_cases fM_from fM_to fM_whole fM_ways iM_plainRows fM_plainRow fM_kept fM_goalOver fM_goalUnder fM_goalMax fM_different))) sz)) (vx_X (fun (u : (Int32) × (Int32) × (Int32)) => (0 ≤ (u.2.2).toInt ∧ (u.2.2).toInt ≤ 200000)) (fun E (u : (Int32) × (Int32) × (Int32)) t => (E = "java/lang/IllegalArgumentException") ∧ va_P (dC, dI) vwCl (WL hL aL kL hT hM xL_tree iL_names gL_key fL_kind fL_one fL_two fL_base iL_params fL_paramOver dL_paramOver nL_params fL_paramUnder dL_paramUnder nL_pu gL_over gL_under fL_bound iL_nameAt iL_startAt iL_steps jL_scaleOver jL_scaleUnder ++ (WT hT aT kT fT_tape dT_tape nT_tape iT_length (u.1) (u.2.1) iT_kind iT_at iT_number jT_name iT_next ++ (WM hM aM kM iM_stands iM_variables iM_rows iM_goals iM_differents (u.2.2) fM_from fM_to fM_whole fM_ways iM_plainRows fM_plainRow fM_kept fM_goalOver fM_goalUnder fM_goalMax fM_different))) t.heap ∧ va_D (va_A (WL hL aL kL hT hM xL_tree iL_names gL_key fL_kind fL_one fL_two fL_base iL_params fL_paramOver dL_paramOver nL_params fL_paramUnder dL_paramUnder nL_pu gL_over gL_under fL_bound iL_nameAt iL_startAt iL_steps jL_scaleOver jL_scaleUnder ++ (WT hT aT kT fT_tape dT_tape nT_tape iT_length iT_fault iT_place iT_kind iT_at iT_number jT_name iT_next ++ (WM hM aM kM iM_stands iM_variables iM_rows iM_goals iM_differents iM_cases fM_from fM_to fM_whole fM_ways iM_plainRows fM_plainRow fM_kept fM_goalOver fM_goalUnder fM_goalMax fM_different))) sz) (WL hL aL kL hT hM xL_tree iL_names gL_key fL_kind fL_one fL_two fL_base iL_params fL_paramOver dL_paramOver nL_params fL_paramUnder dL_paramUnder nL_pu gL_over gL_under fL_bound iL_nameAt iL_startAt iL_steps jL_scaleOver jL_scaleUnder ++ (WT hT aT kT fT_tape dT_tape nT_tape iT_length (u.1) (u.2.1) iT_kind iT_at iT_number jT_name iT_next ++ (WM hM aM kM iM_stands iM_variables iM_rows iM_goals iM_differents (u.2.2) fM_from fM_to fM_whole fM_ways iM_plainRows fM_plainRow fM_kept fM_goalOver fM_goalUnder fM_goalMax fM_different)))) (va_A (WL hL aL kL hT hM xL_tree iL_names gL_key fL_kind fL_one fL_two fL_base iL_params fL_paramOver dL_paramOver nL_params fL_paramUnder dL_paramUnder nL_pu gL_over gL_under fL_bound iL_nameAt iL_startAt iL_steps jL_scaleOver jL_scaleUnder ++ (WT hT aT kT fT_tape dT_tape nT_tape iT_length iT_fault iT_place iT_kind iT_at iT_number jT_name iT_next ++ (WM hM aM kM iM_stands iM_variables iM_rows iM_goals iM_differents iM_cases fM_from fM_to fM_whole fM_ways iM_plainRows fM_plainRow fM_kept fM_goalOver fM_goalUnder fM_goalMax fM_different))) sz)) 1 6 (va_A (WL hL aL kL hT hM xL_tree iL_names gL_key fL_kind fL_one fL_two fL_base iL_params fL_paramOver dL_paramOver nL_params fL_paramUnder dL_paramUnder nL_pu gL_over gL_under fL_bound iL_nameAt iL_startAt iL_steps jL_scaleOver jL_scaleUnder ++ (WT hT aT kT fT_tape dT_tape nT_tape iT_length iT_fault iT_place iT_kind iT_at iT_number jT_name iT_next ++ (WM hM aM kM iM_stands iM_variables iM_rows iM_goals iM_differents iM_cases fM_from fM_to fM_whole fM_ways iM_plainRows fM_plainRow fM_kept fM_goalOver fM_goalUnder fM_goalMax fM_different))) sz) := by
  refine vx_ofW (cc := cX10_multiplyCases) (maxL := 2) (ret := none) (by decide) rfl ?_
  intro p e s m args below meth c s₁ B hml htab hv
  obtain ⟨rfl, hsz, hP, hK, hD0, hE⟩ := hv
  have hx := B.exec
  have hb := B.bytes
  have hr := B.returns
  have hts := atoms_spec (ws := wsMX10_multiplyCases) B.pre
  have hown : s.vm.findClass RX10 = some m.cls := findClass_of_methodNamed B.named
  have hlocks := B.notSynchronized
  subst hsz
  have hD := hD0.self (sz := s.heap.size)
  generalize hAe : va_A (WL hL aL kL hT hM xL_tree iL_names gL_key fL_kind fL_one fL_two fL_base iL_params fL_paramOver dL_paramOver nL_params fL_paramUnder dL_paramUnder nL_pu gL_over gL_under fL_bound iL_nameAt iL_startAt iL_steps jL_scaleOver jL_scaleUnder ++ (WT hT aT kT fT_tape dT_tape nT_tape iT_length iT_fault iT_place iT_kind iT_at iT_number jT_name iT_next ++ (WM hM aM kM iM_stands iM_variables iM_rows iM_goals iM_differents iM_cases fM_from fM_to fM_whole fM_ways iM_plainRows fM_plainRow fM_kept fM_goalOver fM_goalUnder fM_goalMax fM_different))) s.heap.size = A at hD hE ⊢
  have hA : ∀ q : Nat, s.heap.size ≤ q → A q := fun q h => by rw [← hAe]; exact Or.inr h
  have hS : va_S A s.heap s.heap [] := va_S.rf
  have hl := lv_entry ([.ref (hL 0), .int p1]) (n := 2) (Nat.le_of_ble_eq_true rfl)
  rw [lg_entry_eq]
  generalize (lg_sl ([.ref (hL 0), .int p1]) ++ List.replicate (2 - (lg_sl ([.ref (hL 0), .int p1])).length) Slot.unset).toArray = ls at hl ⊢
  have hl : lv_has ls 2 [(0, .ref (hL 0)), (1, .int p1)] := hl
  have hmul := mul_64 ⟨b_iM_cases.1, hc64⟩ b_p1
  refine lv_aload_n hx hb dX10_multiplyCases_0 rfl (lv_at hl 0 rfl) ?_
  refine va_get (D := (dC, dI)) (ci := 10) (v := .ref (hM 0)) (C := RX10) (T := TX10) (N := 20) hx hb hts iwsMX10_multiplyCases_in10 hown hK hP 0 rfl rfl 1 (by decide) (hts _ hm_m_X10_multiplyCases_0) (fun _ h9 => h9) rfl dX10_multiplyCases_1 ?_
  refine lv_dup hx hb dX10_multiplyCases_4 rfl ?_
  refine va_get (D := (dC, dI)) (ci := 1) (v := .int iM_cases) (C := RX1) (T := TX1) (N := 17) hx hb hts iwsMX10_multiplyCases_in1 hown hK hP 13 rfl rfl 5 (by decide) (hts _ hm_m_X10_multiplyCases_1) (fun _ h9 => h9) rfl dX10_multiplyCases_5 ?_
  refine lv_iload_n hx hb dX10_multiplyCases_8 rfl (lv_at hl 1 rfl) ?_
  refine lv_imul hx hb dX10_multiplyCases_9 ?_
  refine lv_topi (fun y1 hy1 => ?_)
  obtain rfl : (iI (iM_cases.toInt * p1.toInt)) = y1 := (hy1.trans (iI_mul2 (iI_of _) (iI_of _))).symm
  refine va_put (D := (dC, dI)) (ci := 1) (v := .int (iI (iM_cases.toInt * p1.toInt))) (ty := .int) (C := RX1) (T := TX1) (N := 17) hx hb hts iwsMX10_multiplyCases_in1 tyX1 tyX1_ok nmX1 hown hK hP hD hS 13 rfl rfl 5 (by decide) (hts _ hm_m_X10_multiplyCases_1) (fun _ h9 => h9) rfl (by decide +kernel) rfl rfl (Nat.le_of_ble_eq_true rfl) dX10_multiplyCases_10 (fun H locs hP hD hS => ?_)
  have hP : va_P (dC, dI) vwCl (WL hL aL kL hT hM xL_tree iL_names gL_key fL_kind fL_one fL_two fL_base iL_params fL_paramOver dL_paramOver nL_params fL_paramUnder dL_paramUnder nL_pu gL_over gL_under fL_bound iL_nameAt iL_startAt iL_steps jL_scaleOver jL_scaleUnder ++ (WT hT aT kT fT_tape dT_tape nT_tape iT_length iT_fault iT_place iT_kind iT_at iT_number jT_name iT_next ++ (WM hM aM kM iM_stands iM_variables iM_rows iM_goals iM_differents (iI (iM_cases.toInt * p1.toInt)) fM_from fM_to fM_whole fM_ways iM_plainRows fM_plainRow fM_kept fM_goalOver fM_goalUnder fM_goalMax fM_different))) H := hP
  have hD := fz_sd hP (hD) rfl
  refine lv_aload_n hx hb dX10_multiplyCases_13 rfl (lv_at hl 0 rfl) ?_
  refine va_get (D := (dC, dI)) (ci := 10) (v := .ref (hM 0)) (C := RX10) (T := TX10) (N := 20) hx hb hts iwsMX10_multiplyCases_in10 hown hK hP 0 rfl rfl 1 (by decide) (hts _ hm_m_X10_multiplyCases_0) (fun _ h9 => h9) rfl dX10_multiplyCases_14 ?_
  refine va_get (D := (dC, dI)) (ci := 1) (v := .int (iI (iM_cases.toInt * p1.toInt))) (C := RX1) (T := TX1) (N := 17) hx hb hts iwsMX10_multiplyCases_in1 hown hK hP 13 rfl rfl 5 (by decide) (hts _ hm_m_X10_multiplyCases_1) (fun _ h9 => h9) rfl dX10_multiplyCases_17 ?_
  refine lv_bipush (v := 64) hx hb dX10_multiplyCases_20 (by decide) ?_
  refine lv_icmp_le (tgt := 38) hx hb dX10_multiplyCases_22 (by decide) (fun c_22 => ?_) (fun c_22 => ?_)
  · first | (have t_22 : (iM_cases.toInt * p1.toInt) ≤ 64 := toI_le c_22 (iI_t (by omega) (by omega)) (by decide : (64 : Int32).toInt = 64)) | skip
    refine vx_ret ?_
    refine W.known (fun hz9 _ => ?_)
    refine W.widen (k := 1) (n := 6) (by decide +kernel) (by decide +kernel) ?_
    exact W.vret hx hb hr (fun t9_ ht hW => ⟨⟨(iT_fault, iT_place, (iI (iM_cases.toInt * p1.toInt))), rfl, ⟨(by (try dsimp only); exact (iI_rng (by omega) (by omega) (by decide) (by decide))), (by (try dsimp only); rw [iI_t (by omega) (by omega)]; omega)⟩, by rw [ht]; exact hP, hD, by rw [ht]; first | done | exact Nat.le_antisymm hz9 hS.1⟩, hS.F ht⟩) hS.2.2 dX10_multiplyCases_38
  · first | (have t_22 : ¬ (iM_cases.toInt * p1.toInt) ≤ 64 := toI_nle c_22 (iI_t (by omega) (by omega)) (by decide : (64 : Int32).toInt = 64)) | skip
    refine lv_aload_n hx hb dX10_multiplyCases_25 rfl (lv_at hl 0 rfl) ?_
    refine va_get (D := (dC, dI)) (ci := 10) (v := .ref (hT 0)) (C := RX10) (T := TX10) (N := 20) hx hb hts iwsMX10_multiplyCases_in10 hown hK hP 0 rfl rfl 0 (by decide) (hts (.fieldLink RX10 47 "OptimaWorks$Worker" "words" "LOptimaWorks$Words;") (by decide +kernel)) (fun _ h9 => h9) rfl dX10_multiplyCases_26 ?_
    refine lv_bipush (v := 11) hx hb dX10_multiplyCases_29 (by decide) ?_
    refine lv_aload_n hx hb dX10_multiplyCases_31 rfl (lv_at hl 0 rfl) ?_
    refine va_get (D := (dC, dI)) (ci := 10) (v := .int iL_nameAt) (C := RX10) (T := TX10) (N := 20) hx hb hts iwsMX10_multiplyCases_in10 hown hK hP 0 rfl rfl 15 (by decide) (hts (.fieldLink RX10 74 "OptimaWorks$Worker" "nameAt" "I") (by decide +kernel)) (fun _ h9 => h9) rfl dX10_multiplyCases_32 ?_
    have p9 := cj_3_1 (WL hL aL kL hT hM xL_tree iL_names gL_key fL_kind fL_one fL_two fL_base iL_params fL_paramOver dL_paramOver nL_params fL_paramUnder dL_paramUnder nL_pu gL_over gL_under fL_bound iL_nameAt iL_startAt iL_steps jL_scaleOver jL_scaleUnder) (WT hT aT kT fT_tape dT_tape nT_tape iT_length iT_fault iT_place iT_kind iT_at iT_number jT_name iT_next) (WM hM aM kM iM_stands iM_variables iM_rows iM_goals iM_differents (iI (iM_cases.toInt * p1.toInt)) fM_from fM_to fM_whole fM_ways iM_plainRows fM_plainRow fM_kept fM_goalOver fM_goalUnder fM_goalMax fM_different)
    have hPc := hP.mem (fun q h => p9.mem_iff.mpr (List.mem_append_left _ h))
    have hDc := (hD.perm p9).left
    have hKc : va_K (dC, dI) vwCl (tT kT) _ := hK.sub [10] rfl
    have hFc := freeG p9 hD hS hA
    refine vx_callv (vx_runV (As := [.int 11, .int iL_nameAt]) (rest := []) ⟨hx, hb, hml, hown, hts⟩ (m_X9_fail l hst dC dI hT aT kT fT_tape dT_tape nT_tape iT_length iT_fault iT_place iT_kind iT_at iT_number jT_name iT_next 11 iL_nameAt b_fT_tape (by first | exact b_nT_tape | with_reducible assumption | exact ⟨by omega, by omega⟩ | assumption) (b_iT_length) (b_iT_at) (b_iT_number) (b_iT_next) (by first | with_reducible assumption | omega | assumption) H.size) (cwV 2 hts gwsMX10_multiplyCases_0 rfl rfl rfl hd_yX9_fail_RX9 (by decide +kernel)) (fz_preE (va_recv hK hP (ci := 9) (q0 := 11) rfl rfl) hPc hKc hDc (fun a U g mk qE => qE.call) (fun U hU9 hW => by rw [hU9]; exact (((hE : CE A s s.heap).kept hS.2.1).narrow (fun q h => hFc q h)).warm hW)) rfl rfl hl.1 rfl (lv_room (Nat.le_of_ble_eq_true rfl)) dX10_multiplyCases_35 (by decide +kernel)) hS (fun q _ h => hFc q h) hFc (fun q _ h => hFc q h) (fun E ce q9 u t9_ H locs ht hvm hw9 hB9 hz1 hk1 hS hc1 hc2 hc3 => ?_) (fun u t9_ H1 locs ht hvm hw9 hB9 hz1 hk1 hS => ?_)
    · revert u hw9 hB9
      refine fz_p2 ?_
      intro iT_fault_3 iT_place_3 hw9 hB9
      try dsimp only at hw9 hB9
      revert hB9
      refine fz_a2 ?_
      intro hEx hB9
      clear hw9
      have p8 := cj_3_1 (WL hL aL kL hT hM xL_tree iL_names gL_key fL_kind fL_one fL_two fL_base iL_params fL_paramOver dL_paramOver nL_params fL_paramUnder dL_paramUnder nL_pu gL_over gL_under fL_bound iL_nameAt iL_startAt iL_steps jL_scaleOver jL_scaleUnder) (WT hT aT kT fT_tape dT_tape nT_tape iT_length iT_fault_3 iT_place_3 iT_kind iT_at iT_number jT_name iT_next) (WM hM aM kM iM_stands iM_variables iM_rows iM_goals iM_differents (iI (iM_cases.toInt * p1.toInt)) fM_from fM_to fM_whole fM_ways iM_plainRows fM_plainRow fM_kept fM_goalOver fM_goalUnder fM_goalMax fM_different)
      obtain ⟨hP, hD⟩ := frameG p9 p8 hP hD hk1 hFc (fz_P ht hB9.1) hB9.2
      exact vx_out (fun x hx9 => (htab x hx9).elim) hlocks hc1 hc2 hc3 (fun t9_ ht hvm => ⟨(iT_fault_3, iT_place_3, (iI (iM_cases.toInt * p1.toInt))), (iI_rng (by omega) (by omega) (by decide) (by decide)), ⟨(by have h9 := hEx; exact h9), by rw [ht]; exact hP, hD⟩, hS.F ht⟩) hS.2.2 (by decide +kernel) (by decide +kernel)
    exact False.elim hw9
theorem dX10_boundMembers_0 : decode cX10_boundMembers 0 = .ok (.aload_n 0, 1) := dk_42 (by decide +kernel)
theorem dX10_boundMembers_1 : decode cX10_boundMembers 1 = .ok (.aload_n 0, 1) := dk_42 (by decide +kernel)
theorem dX10_boundMembers_2 : decode cX10_boundMembers 2 = .ok (.getfield 55, 3) := dk_180 (by decide +kernel)
theorem dX10_boundMembers_5 : decode cX10_boundMembers 5 = .ok (.iload_n 1, 1) := dk_27 (by decide +kernel)
theorem dX10_boundMembers_6 : decode cX10_boundMembers 6 = .ok (.iconst 3, 1) := dk_6 (by decide +kernel)
theorem dX10_boundMembers_7 : decode cX10_boundMembers 7 = .ok (.iadd, 1) := dk_96 (by decide +kernel)
theorem dX10_boundMembers_8 : decode cX10_boundMembers 8 = .ok (.iaload, 1) := dk_46 (by decide +kernel)
theorem dX10_boundMembers_9 : decode cX10_boundMembers 9 = .ok (.aload_n 0, 1) := dk_42 (by decide +kernel)
theorem dX10_boundMembers_10 : decode cX10_boundMembers 10 = .ok (.getfield 55, 3) := dk_180 (by decide +kernel)
theorem dX10_boundMembers_13 : decode cX10_boundMembers 13 = .ok (.iload_n 1, 1) := dk_27 (by decide +kernel)
theorem dX10_boundMembers_14 : decode cX10_boundMembers 14 = .ok (.iconst 4, 1) := dk_7 (by decide +kernel)
theorem dX10_boundMembers_15 : decode cX10_boundMembers 15 = .ok (.iadd, 1) := dk_96 (by decide +kernel)
theorem dX10_boundMembers_16 : decode cX10_boundMembers 16 = .ok (.iaload, 1) := dk_46 (by decide +kernel)
theorem dX10_boundMembers_17 : decode cX10_boundMembers 17 = .ok (.invokevirtual 246, 3) := dk_182 (by decide +kernel)
theorem dX10_boundMembers_20 : decode cX10_boundMembers 20 = .ok (.ireturn, 1) := dk_172 (by decide +kernel)
def wsMX10_boundMembers : List Cond := .code yX10_boundMembers cX10_boundMembers 2 (some .int) :: ([.fieldLink RX10 55 "OptimaWorks$Worker" "tree" "[I"] ++ wsX100 ++ (wsV RX10 246 RX10 yX10_members wsMX10_members))
theorem iwsMX10_boundMembers_in10 : ∀ w ∈ wsX100, w ∈ wsMX10_boundMembers := fun _ h => List.mem_cons_of_mem _ (List.mem_append_left _ (List.mem_append_right _ h))
theorem gwsMX10_boundMembers_0 : GoodIn wsMX10_boundMembers (wsV RX10 246 RX10 yX10_members wsMX10_members) := goodIn_sub (fun _ h => List.mem_cons_of_mem _ (List.mem_append_right _ h)) (gdV (by decide +kernel) gdwsMX10_members)
theorem gdwsMX10_boundMembers : wsMX10_boundMembers.all goodWord = true := gdC rfl (gdA (gdA (by decide +kernel : ([.fieldLink RX10 55 "OptimaWorks$Worker" "tree" "[I"] : List Cond).all goodWord = true) gdwsX100) (gdV (by decide +kernel) gdwsMX10_members))
theorem hm_m_X10_boundMembers_0 : (.fieldLink RX10 55 "OptimaWorks$Worker" "tree" "[I" : Cond) ∈ wsMX10_boundMembers := by decide +kernel
set_option maxHeartbeats 4000000 in
set_option maxRecDepth 100000 in
/-- how many are bound -/
theorem m_X10_boundMembers (l : Launch) (dC : Nat → ClassId) (dI : Nat → Nat → Nat) (hL : Nat → Nat) (aL : Nat → Nat) (kL : Nat → ClassId) (hT : Nat → Nat) (hM : Nat → Nat) (iL_names : Int32) (gL_key : Nat → Int64) (fL_kind : Nat → Int32) (fL_one : Nat → Int32) (fL_two : Nat → Int32) (fL_base : Nat → Int32) (iL_params : Int32) (fL_paramOver : Nat → Int32) (dL_paramOver : Nat) (nL_params : Nat) (fL_paramUnder : Nat → Int32) (dL_paramUnder : Nat) (nL_pu : Nat) (gL_over : Nat → Int64) (gL_under : Nat → Int64) (fL_bound : Nat → Int32) (iL_nameAt : Int32) (iL_startAt : Int32) (iL_steps : Int32) (jL_scaleOver : Int64) (jL_scaleUnder : Int64) (hF : Nat → Nat) (aF : Nat → Nat) (kF : Nat → ClassId) (dF_tree : Nat) (nF_tree : Nat) (fF_tree : Nat → Int32) (V : Int → Nat → Nat → Prop) (lo : Int) (lv : Nat) (p1 : Int32) (b_iL_names : 0 ≤ iL_names.toInt ∧ iL_names.toInt ≤ 40) (b_fL_kind : ∀ q : Nat, 0 ≤ (fL_kind q).toInt ∧ (fL_kind q).toInt ≤ 5) (b_fL_two : ∀ q : Nat, (-1) ≤ (fL_two q).toInt ∧ (fL_two q).toInt ≤ 39) (b_fL_base : ∀ q : Nat, 0 ≤ (fL_base q).toInt ∧ (fL_base q).toInt ≤ 2560) (b_iL_params : 0 ≤ iL_params.toInt ∧ iL_params.toInt ≤ 2560) (b_nL_params : 0 ≤ nL_params ∧ nL_params ≤ 2560) (b_nm : NmL iL_names fL_kind fL_one fL_two fL_base nL_params) (b_pm : iL_params.toInt ≤ ((nL_params : Nat) : Int)) (b_pu : nL_pu = nL_params) (b_nF_tree : 7 ≤ nF_tree ∧ nF_tree ≤ 72200) (hV : TrL V fF_tree fL_kind fL_one fL_two iL_names.toInt lo ((nF_tree : Nat) : Int)) (hn : V p1.toInt 9 lv) (sz : Nat) : Met l yX10_boundMembers wsMX10_boundMembers ({ frames := 1, cells := 0, slots := 0, locals := 23 }) (va_Pc [.ref (hL 0), .int p1] (fun U => U.heap.size = sz ∧ va_P (dC, dI) vwCl (WL hL aL kL hT hM (.ref dF_tree) iL_names gL_key fL_kind fL_one fL_two fL_base iL_params fL_paramOver dL_paramOver nL_params fL_paramUnder dL_paramUnder nL_pu gL_over gL_under fL_bound iL_nameAt iL_startAt iL_steps jL_scaleOver jL_scaleUnder ++ (WF hF aF kF dF_tree nF_tree fF_tree)) U.heap ∧ va_K (dC, dI) vwCl (tL kL ++ (tF kF)) U ∧ va_D (fun _ => True) (WL hL aL kL hT hM (.ref dF_tree) iL_names gL_key fL_kind fL_one fL_two fL_base iL_params fL_paramOver dL_paramOver nL_params fL_paramUnder dL_paramUnder nL_pu gL_over gL_under fL_bound iL_nameAt iL_startAt iL_steps jL_scaleOver jL_scaleUnder ++ (WF hF aF kF dF_tree nF_tree fF_tree)))) (va_Qi (fun (r : Int32) (u : Unit) => (1 ≤ r.toInt ∧ r.toInt ≤ 144)) (fun (u : Unit) t => va_P (dC, dI) vwCl (WL hL aL kL hT hM (.ref dF_tree) iL_names gL_key fL_kind fL_one fL_two fL_base iL_params fL_paramOver dL_paramOver nL_params fL_paramUnder dL_paramUnder nL_pu gL_over gL_under fL_bound iL_nameAt iL_startAt iL_steps jL_scaleOver jL_scaleUnder ++ (WF hF aF kF dF_tree nF_tree fF_tree)) t.heap ∧ va_D (va_A (WL hL aL kL hT hM (.ref dF_tree) iL_names gL_key fL_kind fL_one fL_two fL_base iL_params fL_paramOver dL_paramOver nL_params fL_paramUnder dL_paramUnder nL_pu gL_over gL_under fL_bound iL_nameAt iL_startAt iL_steps jL_scaleOver jL_scaleUnder ++ (WF hF aF kF dF_tree nF_tree fF_tree)) sz) (WL hL aL kL hT hM (.ref dF_tree) iL_names gL_key fL_kind fL_one fL_two fL_base iL_params fL_paramOver dL_paramOver nL_params fL_paramUnder dL_paramUnder nL_pu gL_over gL_under fL_bound iL_nameAt iL_startAt iL_steps jL_scaleOver jL_scaleUnder ++ (WF hF aF kF dF_tree nF_tree fF_tree))) (va_A (WL hL aL kL hT hM (.ref dF_tree) iL_names gL_key fL_kind fL_one fL_two fL_base iL_params fL_paramOver dL_paramOver nL_params fL_paramUnder dL_paramUnder nL_pu gL_over gL_under fL_bound iL_nameAt iL_startAt iL_steps jL_scaleOver jL_scaleUnder ++ (WF hF aF kF dF_tree nF_tree fF_tree)) sz)) 0 0 (va_A (WL hL aL kL hT hM (.ref dF_tree) iL_names gL_key fL_kind fL_one fL_two fL_base iL_params fL_paramOver dL_paramOver nL_params fL_paramUnder dL_paramUnder nL_pu gL_over gL_under fL_bound iL_nameAt iL_startAt iL_steps jL_scaleOver jL_scaleUnder ++ (WF hF aF kF dF_tree nF_tree fF_tree)) sz) := by
  refine Met.ofW (cc := cX10_boundMembers) (maxL := 2) (ret := (some .int)) (by decide) rfl ?_
  intro p e s m args below meth c s₁ B hml hv
  obtain ⟨rfl, hsz, hP, hK, hD0⟩ := hv
  have hx := B.exec
  have hb := B.bytes
  have hr := B.returns
  have hts := atoms_spec (ws := wsMX10_boundMembers) B.pre
  have hown : s.vm.findClass RX10 = some m.cls := findClass_of_methodNamed B.named
  have hlocks := B.notSynchronized
  subst hsz
  have hD := hD0.self (sz := s.heap.size)
  generalize hAe : va_A (WL hL aL kL hT hM (.ref dF_tree) iL_names gL_key fL_kind fL_one fL_two fL_base iL_params fL_paramOver dL_paramOver nL_params fL_paramUnder dL_paramUnder nL_pu gL_over gL_under fL_bound iL_nameAt iL_startAt iL_steps jL_scaleOver jL_scaleUnder ++ (WF hF aF kF dF_tree nF_tree fF_tree)) s.heap.size = A at hD ⊢
  have hA : ∀ q : Nat, s.heap.size ≤ q → A q := fun q h => by rw [← hAe]; exact Or.inr h
  have hS : va_S A s.heap s.heap [] := va_S.rf
  have hl := lv_entry ([.ref (hL 0), .int p1]) (n := 2) (Nat.le_of_ble_eq_true rfl)
  rw [lg_entry_eq]
  generalize (lg_sl ([.ref (hL 0), .int p1]) ++ List.replicate (2 - (lg_sl ([.ref (hL 0), .int p1])).length) Slot.unset).toArray = ls at hl ⊢
  have hl : lv_has ls 2 [(0, .ref (hL 0)), (1, .int p1)] := hl
  have hr0 := TrL.rng hV hn
  have hc := TrL.c9 hV hn
  refine lv_aload_n hx hb dX10_boundMembers_0 rfl (lv_at hl 0 rfl) ?_
  refine lv_aload_n hx hb dX10_boundMembers_1 rfl (lv_at hl 0 rfl) ?_
  refine va_get (D := (dC, dI)) (ci := 10) (v := .ref dF_tree) (C := RX10) (T := TX10) (N := 20) hx hb hts iwsMX10_boundMembers_in10 hown hK hP 0 rfl rfl 2 (by decide) (hts _ hm_m_X10_boundMembers_0) (fun _ h9 => h9) rfl dX10_boundMembers_2 ?_
  refine lv_iload_n hx hb dX10_boundMembers_5 rfl (lv_at hl 1 rfl) ?_
  refine lv_iconst (v := 3) hx hb dX10_boundMembers_6 (by decide) ?_
  refine lv_iadd hx hb dX10_boundMembers_7 ?_
  refine lv_topi (fun y1 hy1 => ?_)
  obtain rfl : (iI (p1.toInt + 3)) = y1 := (hy1.trans (iI_add2 (iI_of _) (by decide : (3 : Int32) = iI 3))).symm
  refine va_iald (cA := kF 0) (n := nF_tree) (f := fF_tree) hx hb hK hP 11 10 rfl rfl (vp_iI (by omega) (by omega) (by omega)) dX10_boundMembers_8 ?_
  refine lv_topi (fun v2 hv2 => ?_)
  have b_v2 : v2.toInt = twL fF_tree (p1.toInt + 3) := by rw [hv2]; exact tw_i (by omega) (by omega)
  clear hv2
  refine lv_aload_n hx hb dX10_boundMembers_9 rfl (lv_at hl 0 rfl) ?_
  refine va_get (D := (dC, dI)) (ci := 10) (v := .ref dF_tree) (C := RX10) (T := TX10) (N := 20) hx hb hts iwsMX10_boundMembers_in10 hown hK hP 0 rfl rfl 2 (by decide) (hts _ hm_m_X10_boundMembers_0) (fun _ h9 => h9) rfl dX10_boundMembers_10 ?_
  refine lv_iload_n hx hb dX10_boundMembers_13 rfl (lv_at hl 1 rfl) ?_
  refine lv_iconst (v := 4) hx hb dX10_boundMembers_14 (by decide) ?_
  refine lv_iadd hx hb dX10_boundMembers_15 ?_
  refine lv_topi (fun y3 hy3 => ?_)
  obtain rfl : (iI (p1.toInt + 4)) = y3 := (hy3.trans (iI_add2 (iI_of _) (by decide : (4 : Int32) = iI 4))).symm
  refine va_iald (cA := kF 0) (n := nF_tree) (f := fF_tree) hx hb hK hP 11 10 rfl rfl (vp_iI (by omega) (by omega) (by omega)) dX10_boundMembers_16 ?_
  refine lv_topi (fun v4 hv4 => ?_)
  have b_v4 : v4.toInt = twL fF_tree (p1.toInt + 4) := by rw [hv4]; exact tw_i (by omega) (by omega)
  clear hv4
  have p9 := cj_2_0 (WL hL aL kL hT hM (.ref dF_tree) iL_names gL_key fL_kind fL_one fL_two fL_base iL_params fL_paramOver dL_paramOver nL_params fL_paramUnder dL_paramUnder nL_pu gL_over gL_under fL_bound iL_nameAt iL_startAt iL_steps jL_scaleOver jL_scaleUnder) (WF hF aF kF dF_tree nF_tree fF_tree)
  have hPc := hP.mem (fun q h => p9.mem_iff.mpr (List.mem_append_left _ h))
  have hDc := (hD.perm p9).left
  have hKc : va_K (dC, dI) vwCl (tL kL) _ := hK.sub [0, 1, 2, 3, 4, 5, 6, 7, 8, 9] rfl
  have hFc := freeG p9 hD hS hA
  refine va_calli (va_runV (As := [.int v2, .int v4]) (rest := []) ⟨hx, hb, hml, hown, hts⟩ (m_X10_members l dC dI hL aL kL hT hM (.ref dF_tree) iL_names gL_key fL_kind fL_one fL_two fL_base iL_params fL_paramOver dL_paramOver nL_params fL_paramUnder dL_paramUnder nL_pu gL_over gL_under fL_bound iL_nameAt iL_startAt iL_steps jL_scaleOver jL_scaleUnder v2 v4 (b_iL_names) b_fL_kind b_fL_two b_fL_base (b_iL_params) (by first | exact b_nL_params | with_reducible assumption | exact ⟨by omega, by omega⟩ | assumption) (by first | with_reducible assumption | omega | (rw [iI_t (by omega) (by omega)]; omega) | assumption) (by first | with_reducible assumption | omega | (rw [iI_t (by omega) (by omega)]; omega) | assumption) (by first | with_reducible assumption | omega | (rw [iI_t (by omega) (by omega)]; omega) | assumption) (by rw [b_v2]; exact Or.inr hc.1) (by rw [b_v4]; exact hc.2.2.2.imp id And.left) s.heap.size) (cwV 2 hts gwsMX10_boundMembers_0 rfl rfl rfl hd_yX10_members_RX10 (by decide +kernel)) (fz_pre (va_recv hK hP (ci := 10) (q0 := 0) rfl rfl) hPc hKc hDc) rfl rfl hl.1 rfl (lv_room (Nat.le_of_ble_eq_true rfl)) dX10_boundMembers_17 (by decide +kernel)) hS (fun q _ h => hFc q h) hFc (fun r5 u t9_ H locs ht hvm hw9 hB9 hz1 hk1 hS => ?_)
  revert hw9
  refine fz_a2 ?_
  intro b_r5 f5_0
  have p8 := p9
  obtain ⟨hP, hD⟩ := frameG p9 p8 hP hD hk1 hFc (fz_P ht hB9.1) hB9.2
  refine W.widen (k := 0) (n := 0) (by decide +kernel) (by decide +kernel) ?_
  exact W.iret (v := r5) hx hb hr (fun t9_ ht hW => ⟨⟨r5, (), rfl, (by first | exact b_r5 | with_reducible assumption | exact ⟨by omega, by omega⟩ | assumption), by rw [ht]; exact hP, hD⟩, hS.F ht⟩) hS.2.2 dX10_boundMembers_20
theorem dX10_bind_0 : decode cX10_bind 0 = .ok (.aload_n 0, 1) := dk_42 (by decide +kernel)
theorem dX10_bind_1 : decode cX10_bind 1 = .ok (.getfield 55, 3) := dk_180 (by decide +kernel)
theorem dX10_bind_4 : decode cX10_bind 4 = .ok (.iload_n 1, 1) := dk_27 (by decide +kernel)
theorem dX10_bind_5 : decode cX10_bind 5 = .ok (.iconst 3, 1) := dk_6 (by decide +kernel)
theorem dX10_bind_6 : decode cX10_bind 6 = .ok (.iadd, 1) := dk_96 (by decide +kernel)
theorem dX10_bind_7 : decode cX10_bind 7 = .ok (.iaload, 1) := dk_46 (by decide +kernel)
theorem dX10_bind_8 : decode cX10_bind 8 = .ok (.istore_n 3, 1) := dk_62 (by decide +kernel)
theorem dX10_bind_9 : decode cX10_bind 9 = .ok (.aload_n 0, 1) := dk_42 (by decide +kernel)
theorem dX10_bind_10 : decode cX10_bind 10 = .ok (.getfield 55, 3) := dk_180 (by decide +kernel)
theorem dX10_bind_13 : decode cX10_bind 13 = .ok (.iload_n 1, 1) := dk_27 (by decide +kernel)
theorem dX10_bind_14 : decode cX10_bind 14 = .ok (.iconst 4, 1) := dk_7 (by decide +kernel)
theorem dX10_bind_15 : decode cX10_bind 15 = .ok (.iadd, 1) := dk_96 (by decide +kernel)
theorem dX10_bind_16 : decode cX10_bind 16 = .ok (.iaload, 1) := dk_46 (by decide +kernel)
theorem dX10_bind_17 : decode cX10_bind 17 = .ok (.istore 4, 2) := dk_54 (by decide +kernel)
theorem dX10_bind_19 : decode cX10_bind 19 = .ok (.aload_n 0, 1) := dk_42 (by decide +kernel)
theorem dX10_bind_20 : decode cX10_bind 20 = .ok (.getfield 55, 3) := dk_180 (by decide +kernel)
theorem dX10_bind_23 : decode cX10_bind 23 = .ok (.iload_n 1, 1) := dk_27 (by decide +kernel)
theorem dX10_bind_24 : decode cX10_bind 24 = .ok (.iconst 5, 1) := dk_8 (by decide +kernel)
theorem dX10_bind_25 : decode cX10_bind 25 = .ok (.iadd, 1) := dk_96 (by decide +kernel)
theorem dX10_bind_26 : decode cX10_bind 26 = .ok (.iaload, 1) := dk_46 (by decide +kernel)
theorem dX10_bind_27 : decode cX10_bind 27 = .ok (.istore 5, 2) := dk_54 (by decide +kernel)
theorem dX10_bind_29 : decode cX10_bind 29 = .ok (.iload 4, 2) := dk_21 (by decide +kernel)
theorem dX10_bind_31 : decode cX10_bind 31 = .ok (.iconst (-1), 1) := dk_2 (by decide +kernel)
theorem dX10_bind_32 : decode cX10_bind 32 = .ok (.if_icmp .ne 7, 3) := dk_160 (by decide +kernel)
theorem dX10_bind_35 : decode cX10_bind 35 = .ok (.iconst 1, 1) := dk_4 (by decide +kernel)
theorem dX10_bind_36 : decode cX10_bind 36 = .ok (.goto 10, 3) := dk_167 (by decide +kernel)
theorem dX10_bind_39 : decode cX10_bind 39 = .ok (.aload_n 0, 1) := dk_42 (by decide +kernel)
theorem dX10_bind_40 : decode cX10_bind 40 = .ok (.getfield 24, 3) := dk_180 (by decide +kernel)
theorem dX10_bind_43 : decode cX10_bind 43 = .ok (.iload 4, 2) := dk_21 (by decide +kernel)
theorem dX10_bind_45 : decode cX10_bind 45 = .ok (.iaload, 1) := dk_46 (by decide +kernel)
theorem dX10_bind_46 : decode cX10_bind 46 = .ok (.istore 6, 2) := dk_54 (by decide +kernel)
theorem dX10_bind_48 : decode cX10_bind 48 = .ok (.aload_n 0, 1) := dk_42 (by decide +kernel)
theorem dX10_bind_49 : decode cX10_bind 49 = .ok (.getfield 44, 3) := dk_180 (by decide +kernel)
theorem dX10_bind_52 : decode cX10_bind 52 = .ok (.iload 5, 2) := dk_21 (by decide +kernel)
theorem dX10_bind_54 : decode cX10_bind 54 = .ok (.aload_n 0, 1) := dk_42 (by decide +kernel)
theorem dX10_bind_55 : decode cX10_bind 55 = .ok (.getfield 21, 3) := dk_180 (by decide +kernel)
theorem dX10_bind_58 : decode cX10_bind 58 = .ok (.iload_n 3, 1) := dk_29 (by decide +kernel)
theorem dX10_bind_59 : decode cX10_bind 59 = .ok (.iaload, 1) := dk_46 (by decide +kernel)
theorem dX10_bind_60 : decode cX10_bind 60 = .ok (.iload_n 2, 1) := dk_28 (by decide +kernel)
theorem dX10_bind_61 : decode cX10_bind 61 = .ok (.iload 6, 2) := dk_21 (by decide +kernel)
theorem dX10_bind_63 : decode cX10_bind 63 = .ok (.idiv, 1) := dk_108 (by decide +kernel)
theorem dX10_bind_64 : decode cX10_bind 64 = .ok (.iadd, 1) := dk_96 (by decide +kernel)
theorem dX10_bind_65 : decode cX10_bind 65 = .ok (.iastore, 1) := dk_79 (by decide +kernel)
theorem dX10_bind_66 : decode cX10_bind 66 = .ok (.iload 4, 2) := dk_21 (by decide +kernel)
theorem dX10_bind_68 : decode cX10_bind 68 = .ok (.iconst (-1), 1) := dk_2 (by decide +kernel)
theorem dX10_bind_69 : decode cX10_bind 69 = .ok (.if_icmp .eq 24, 3) := dk_159 (by decide +kernel)
theorem dX10_bind_72 : decode cX10_bind 72 = .ok (.aload_n 0, 1) := dk_42 (by decide +kernel)
theorem dX10_bind_73 : decode cX10_bind 73 = .ok (.getfield 44, 3) := dk_180 (by decide +kernel)
theorem dX10_bind_76 : decode cX10_bind 76 = .ok (.iload 5, 2) := dk_21 (by decide +kernel)
theorem dX10_bind_78 : decode cX10_bind 78 = .ok (.iconst 1, 1) := dk_4 (by decide +kernel)
theorem dX10_bind_79 : decode cX10_bind 79 = .ok (.iadd, 1) := dk_96 (by decide +kernel)
theorem dX10_bind_80 : decode cX10_bind 80 = .ok (.aload_n 0, 1) := dk_42 (by decide +kernel)
theorem dX10_bind_81 : decode cX10_bind 81 = .ok (.getfield 21, 3) := dk_180 (by decide +kernel)
theorem dX10_bind_84 : decode cX10_bind 84 = .ok (.iload 4, 2) := dk_21 (by decide +kernel)
theorem dX10_bind_86 : decode cX10_bind 86 = .ok (.iaload, 1) := dk_46 (by decide +kernel)
theorem dX10_bind_87 : decode cX10_bind 87 = .ok (.iload_n 2, 1) := dk_28 (by decide +kernel)
theorem dX10_bind_88 : decode cX10_bind 88 = .ok (.iload 6, 2) := dk_21 (by decide +kernel)
theorem dX10_bind_90 : decode cX10_bind 90 = .ok (.irem, 1) := dk_112 (by decide +kernel)
theorem dX10_bind_91 : decode cX10_bind 91 = .ok (.iadd, 1) := dk_96 (by decide +kernel)
theorem dX10_bind_92 : decode cX10_bind 92 = .ok (.iastore, 1) := dk_79 (by decide +kernel)
theorem dX10_bind_93 : decode cX10_bind 93 = .ok (.return_, 1) := dk_177 (by decide +kernel)
def wsMX10_bind : List Cond := .code yX10_bind cX10_bind 7 none :: ([.fieldLink RX10 55 "OptimaWorks$Worker" "tree" "[I", .fieldLink RX10 24 "OptimaWorks$Worker" "two" "[I", .fieldLink RX10 44 "OptimaWorks$Worker" "bound" "[I", .fieldLink RX10 21 "OptimaWorks$Worker" "one" "[I"] ++ wsX100)
theorem iwsMX10_bind_in10 : ∀ w ∈ wsX100, w ∈ wsMX10_bind := fun _ h => List.mem_cons_of_mem _ (List.mem_append_right _ h)
theorem gdwsMX10_bind : wsMX10_bind.all goodWord = true := gdC rfl (gdA (by decide +kernel : ([.fieldLink RX10 55 "OptimaWorks$Worker" "tree" "[I", .fieldLink RX10 24 "OptimaWorks$Worker" "two" "[I", .fieldLink RX10 44 "OptimaWorks$Worker" "bound" "[I", .fieldLink RX10 21 "OptimaWorks$Worker" "one" "[I"] : List Cond).all goodWord = true) gdwsX100)
theorem hm_m_X10_bind_0 : (.fieldLink RX10 55 "OptimaWorks$Worker" "tree" "[I" : Cond) ∈ wsMX10_bind := by decide +kernel
theorem hm_m_X10_bind_1 : (.fieldLink RX10 44 "OptimaWorks$Worker" "bound" "[I" : Cond) ∈ wsMX10_bind := by decide +kernel
theorem hm_m_X10_bind_2 : (.fieldLink RX10 21 "OptimaWorks$Worker" "one" "[I" : Cond) ∈ wsMX10_bind := by decide +kernel
set_option maxHeartbeats 4000000 in
set_option maxRecDepth 100000 in
/-- names are bound -/
theorem m_X10_bind (l : Launch) (dC : Nat → ClassId) (dI : Nat → Nat → Nat) (hL : Nat → Nat) (aL : Nat → Nat) (kL : Nat → ClassId) (hT : Nat → Nat) (hM : Nat → Nat) (iL_names : Int32) (gL_key : Nat → Int64) (fL_kind : Nat → Int32) (fL_one : Nat → Int32) (fL_two : Nat → Int32) (fL_base : Nat → Int32) (iL_params : Int32) (fL_paramOver : Nat → Int32) (dL_paramOver : Nat) (nL_params : Nat) (fL_paramUnder : Nat → Int32) (dL_paramUnder : Nat) (nL_pu : Nat) (gL_over : Nat → Int64) (gL_under : Nat → Int64) (fL_bound : Nat → Int32) (iL_nameAt : Int32) (iL_startAt : Int32) (iL_steps : Int32) (jL_scaleOver : Int64) (jL_scaleUnder : Int64) (hF : Nat → Nat) (aF : Nat → Nat) (kF : Nat → ClassId) (dF_tree : Nat) (nF_tree : Nat) (fF_tree : Nat → Int32) (V : Int → Nat → Nat → Prop) (lo : Int) (lv : Nat) (p1 : Int32) (p2 : Int32) (b_iL_names : 0 ≤ iL_names.toInt ∧ iL_names.toInt ≤ 40) (b_fL_kind : ∀ q : Nat, 0 ≤ (fL_kind q).toInt ∧ (fL_kind q).toInt ≤ 5) (b_fL_two : ∀ q : Nat, (-1) ≤ (fL_two q).toInt ∧ (fL_two q).toInt ≤ 39) (b_fL_base : ∀ q : Nat, 0 ≤ (fL_base q).toInt ∧ (fL_base q).toInt ≤ 2560) (b_iL_params : 0 ≤ iL_params.toInt ∧ iL_params.toInt ≤ 2560) (b_nL_params : 0 ≤ nL_params ∧ nL_params ≤ 2560) (b_nm : NmL iL_names fL_kind fL_one fL_two fL_base nL_params) (b_pm : iL_params.toInt ≤ ((nL_params : Nat) : Int)) (b_pu : nL_pu = nL_params) (b_nF_tree : 7 ≤ nF_tree ∧ nF_tree ≤ 72200) (b_p2 : 0 ≤ p2.toInt ∧ p2.toInt ≤ 144) (hV : TrL V fF_tree fL_kind fL_one fL_two iL_names.toInt lo ((nF_tree : Nat) : Int)) (hn : V p1.toInt 9 lv) (sz : Nat) : Met l yX10_bind wsMX10_bind ({ frames := 0, cells := 0, slots := 0, locals := 0 }) (va_Pc [.ref (hL 0), .int p1, .int p2] (fun U => U.heap.size = sz ∧ va_P (dC, dI) vwCl (WL hL aL kL hT hM (.ref dF_tree) iL_names gL_key fL_kind fL_one fL_two fL_base iL_params fL_paramOver dL_paramOver nL_params fL_paramUnder dL_paramUnder nL_pu gL_over gL_under fL_bound iL_nameAt iL_startAt iL_steps jL_scaleOver jL_scaleUnder ++ (WF hF aF kF dF_tree nF_tree fF_tree)) U.heap ∧ va_K (dC, dI) vwCl (tL kL ++ (tF kF)) U ∧ va_D (fun _ => True) (WL hL aL kL hT hM (.ref dF_tree) iL_names gL_key fL_kind fL_one fL_two fL_base iL_params fL_paramOver dL_paramOver nL_params fL_paramUnder dL_paramUnder nL_pu gL_over gL_under fL_bound iL_nameAt iL_startAt iL_steps jL_scaleOver jL_scaleUnder ++ (WF hF aF kF dF_tree nF_tree fF_tree)))) (va_Qv (fun (u : Nat → Int32) => True) (fun (u : Nat → Int32) t => va_P (dC, dI) vwCl (WL hL aL kL hT hM (.ref dF_tree) iL_names gL_key fL_kind fL_one fL_two fL_base iL_params fL_paramOver dL_paramOver nL_params fL_paramUnder dL_paramUnder nL_pu gL_over gL_under u iL_nameAt iL_startAt iL_steps jL_scaleOver jL_scaleUnder ++ (WF hF aF kF dF_tree nF_tree fF_tree)) t.heap ∧ va_D (va_A (WL hL aL kL hT hM (.ref dF_tree) iL_names gL_key fL_kind fL_one fL_two fL_base iL_params fL_paramOver dL_paramOver nL_params fL_paramUnder dL_paramUnder nL_pu gL_over gL_under fL_bound iL_nameAt iL_startAt iL_steps jL_scaleOver jL_scaleUnder ++ (WF hF aF kF dF_tree nF_tree fF_tree)) sz) (WL hL aL kL hT hM (.ref dF_tree) iL_names gL_key fL_kind fL_one fL_two fL_base iL_params fL_paramOver dL_paramOver nL_params fL_paramUnder dL_paramUnder nL_pu gL_over gL_under u iL_nameAt iL_startAt iL_steps jL_scaleOver jL_scaleUnder ++ (WF hF aF kF dF_tree nF_tree fF_tree))) (va_A (WL hL aL kL hT hM (.ref dF_tree) iL_names gL_key fL_kind fL_one fL_two fL_base iL_params fL_paramOver dL_paramOver nL_params fL_paramUnder dL_paramUnder nL_pu gL_over gL_under fL_bound iL_nameAt iL_startAt iL_steps jL_scaleOver jL_scaleUnder ++ (WF hF aF kF dF_tree nF_tree fF_tree)) sz)) 0 0 (va_A (WL hL aL kL hT hM (.ref dF_tree) iL_names gL_key fL_kind fL_one fL_two fL_base iL_params fL_paramOver dL_paramOver nL_params fL_paramUnder dL_paramUnder nL_pu gL_over gL_under fL_bound iL_nameAt iL_startAt iL_steps jL_scaleOver jL_scaleUnder ++ (WF hF aF kF dF_tree nF_tree fF_tree)) sz) := by
  refine Met.ofW (cc := cX10_bind) (maxL := 7) (ret := none) (by decide) rfl ?_
  intro p e s m args below meth c s₁ B hml hv
  obtain ⟨rfl, hsz, hP, hK, hD0⟩ := hv
  have hx := B.exec
  have hb := B.bytes
  have hr := B.returns
  have hts := atoms_spec (ws := wsMX10_bind) B.pre
  have hown : s.vm.findClass RX10 = some m.cls := findClass_of_methodNamed B.named
  have hlocks := B.notSynchronized
  subst hsz
  have hD := hD0.self (sz := s.heap.size)
  generalize hAe : va_A (WL hL aL kL hT hM (.ref dF_tree) iL_names gL_key fL_kind fL_one fL_two fL_base iL_params fL_paramOver dL_paramOver nL_params fL_paramUnder dL_paramUnder nL_pu gL_over gL_under fL_bound iL_nameAt iL_startAt iL_steps jL_scaleOver jL_scaleUnder ++ (WF hF aF kF dF_tree nF_tree fF_tree)) s.heap.size = A at hD ⊢
  have hA : ∀ q : Nat, s.heap.size ≤ q → A q := fun q h => by rw [← hAe]; exact Or.inr h
  have hS : va_S A s.heap s.heap [] := va_S.rf
  have hl := lv_entry ([.ref (hL 0), .int p1, .int p2]) (n := 7) (Nat.le_of_ble_eq_true rfl)
  rw [lg_entry_eq]
  generalize (lg_sl ([.ref (hL 0), .int p1, .int p2]) ++ List.replicate (7 - (lg_sl ([.ref (hL 0), .int p1, .int p2])).length) Slot.unset).toArray = ls at hl ⊢
  have hl : lv_has ls 7 [(0, .ref (hL 0)), (1, .int p1), (2, .int p2)] := hl
  have hr0 := TrL.rng hV hn
  have hc := TrL.c9 hV hn
  have hs1 := hc.1.r
  have hs2 : ¬ twL fF_tree (p1.toInt + 4) = -1 → (0 ≤ twL fF_tree (p1.toInt + 4) ∧ twL fF_tree (p1.toInt + 4) < iL_names.toInt) ∧ (1 ≤ twL fL_two (twL fF_tree (p1.toInt + 4)) ∧ twL fL_two (twL fF_tree (p1.toInt + 4)) ≤ 12) ∧ twL fF_tree (p1.toInt + 5) ≤ 62 := fun h9 => ⟨(hc.2.2.2.resolve_left h9).1.r, (hc.2.2.2.resolve_left h9).1.w, (hc.2.2.2.resolve_left h9).2⟩
  refine lv_aload_n hx hb dX10_bind_0 rfl (lv_at hl 0 rfl) ?_
  refine va_get (D := (dC, dI)) (ci := 10) (v := .ref dF_tree) (C := RX10) (T := TX10) (N := 20) hx hb hts iwsMX10_bind_in10 hown hK hP 0 rfl rfl 2 (by decide) (hts _ hm_m_X10_bind_0) (fun _ h9 => h9) rfl dX10_bind_1 ?_
  refine lv_iload_n hx hb dX10_bind_4 rfl (lv_at hl 1 rfl) ?_
  refine lv_iconst (v := 3) hx hb dX10_bind_5 (by decide) ?_
  refine lv_iadd hx hb dX10_bind_6 ?_
  refine lv_topi (fun y1 hy1 => ?_)
  obtain rfl : (iI (p1.toInt + 3)) = y1 := (hy1.trans (iI_add2 (iI_of _) (by decide : (3 : Int32) = iI 3))).symm
  refine va_iald (cA := kF 0) (n := nF_tree) (f := fF_tree) hx hb hK hP 11 10 rfl rfl (vp_iI (by omega) (by omega) (by omega)) dX10_bind_7 ?_
  refine lv_topi (fun v2 hv2 => ?_)
  have b_v2 : v2.toInt = twL fF_tree (p1.toInt + 3) := by rw [hv2]; exact tw_i (by omega) (by omega)
  clear hv2
  refine lv_istore_n hx hb dX10_bind_8 rfl hl (by decide) rfl (fun ls (hl : lv_has ls _ ([(3, .int v2), (0, .ref (hL 0)), (1, .int p1), (2, .int p2)])) => ?_)
  refine lv_aload_n hx hb dX10_bind_9 rfl (lv_at hl 1 rfl) ?_
  refine va_get (D := (dC, dI)) (ci := 10) (v := .ref dF_tree) (C := RX10) (T := TX10) (N := 20) hx hb hts iwsMX10_bind_in10 hown hK hP 0 rfl rfl 2 (by decide) (hts _ hm_m_X10_bind_0) (fun _ h9 => h9) rfl dX10_bind_10 ?_
  refine lv_iload_n hx hb dX10_bind_13 rfl (lv_at hl 2 rfl) ?_
  refine lv_iconst (v := 4) hx hb dX10_bind_14 (by decide) ?_
  refine lv_iadd hx hb dX10_bind_15 ?_
  refine lv_topi (fun y3 hy3 => ?_)
  obtain rfl : (iI (p1.toInt + 4)) = y3 := (hy3.trans (iI_add2 (iI_of _) (by decide : (4 : Int32) = iI 4))).symm
  refine va_iald (cA := kF 0) (n := nF_tree) (f := fF_tree) hx hb hK hP 11 10 rfl rfl (vp_iI (by omega) (by omega) (by omega)) dX10_bind_16 ?_
  refine lv_topi (fun v4 hv4 => ?_)
  have b_v4 : v4.toInt = twL fF_tree (p1.toInt + 4) := by rw [hv4]; exact tw_i (by omega) (by omega)
  clear hv4
  refine lv_istore hx hb dX10_bind_17 hl (by decide) rfl (fun ls (hl : lv_has ls _ ([(4, .int v4), (3, .int v2), (0, .ref (hL 0)), (1, .int p1), (2, .int p2)])) => ?_)
  refine lv_aload_n hx hb dX10_bind_19 rfl (lv_at hl 2 rfl) ?_
  refine va_get (D := (dC, dI)) (ci := 10) (v := .ref dF_tree) (C := RX10) (T := TX10) (N := 20) hx hb hts iwsMX10_bind_in10 hown hK hP 0 rfl rfl 2 (by decide) (hts _ hm_m_X10_bind_0) (fun _ h9 => h9) rfl dX10_bind_20 ?_
  refine lv_iload_n hx hb dX10_bind_23 rfl (lv_at hl 3 rfl) ?_
  refine lv_iconst (v := 5) hx hb dX10_bind_24 (by decide) ?_
  refine lv_iadd hx hb dX10_bind_25 ?_
  refine lv_topi (fun y5 hy5 => ?_)
  obtain rfl : (iI (p1.toInt + 5)) = y5 := (hy5.trans (iI_add2 (iI_of _) (by decide : (5 : Int32) = iI 5))).symm
  refine va_iald (cA := kF 0) (n := nF_tree) (f := fF_tree) hx hb hK hP 11 10 rfl rfl (vp_iI (by omega) (by omega) (by omega)) dX10_bind_26 ?_
  refine lv_topi (fun v6 hv6 => ?_)
  have b_v6 : v6.toInt = twL fF_tree (p1.toInt + 5) := by rw [hv6]; exact tw_i (by omega) (by omega)
  clear hv6
  refine lv_istore hx hb dX10_bind_27 hl (by decide) rfl (fun ls (hl : lv_has ls _ ([(5, .int v6), (4, .int v4), (3, .int v2), (0, .ref (hL 0)), (1, .int p1), (2, .int p2)])) => ?_)
  refine lv_iload hx hb dX10_bind_29 (lv_at hl 1 rfl) ?_
  refine lv_iconst (v := (-1)) hx hb dX10_bind_31 (by decide) ?_
  refine W.cut (pc := 46) (fun H locs ls stk => ∃ (k0_j3 : Int32), (1 ≤ k0_j3.toInt ∧ k0_j3.toInt ≤ 12) ∧  stk = [.int k0_j3] ∧ va_P (dC, dI) vwCl (WL hL aL kL hT hM (.ref dF_tree) iL_names gL_key fL_kind fL_one fL_two fL_base iL_params fL_paramOver dL_paramOver nL_params fL_paramUnder dL_paramUnder nL_pu gL_over gL_under fL_bound iL_nameAt iL_startAt iL_steps jL_scaleOver jL_scaleUnder ++ (WF hF aF kF dF_tree nF_tree fF_tree)) H ∧ va_D A (WL hL aL kL hT hM (.ref dF_tree) iL_names gL_key fL_kind fL_one fL_two fL_base iL_params fL_paramOver dL_paramOver nL_params fL_paramUnder dL_paramUnder nL_pu gL_over gL_under fL_bound iL_nameAt iL_startAt iL_steps jL_scaleOver jL_scaleUnder ++ (WF hF aF kF dF_tree nF_tree fF_tree)) ∧ va_S A s.heap H locs ∧ lv_has ls 7 [(5, .int v6), (4, .int v4), (3, .int v2), (0, .ref (hL 0)), (1, .int p1), (2, .int p2)]) (fun join3 => ?_) ?_
  · refine lv_icmp_ne (tgt := 39) hx hb dX10_bind_32 (by decide) (fun c_32 => ?_) (fun c_32 => ?_)
    · have t_32 : v4.toInt ≠ (-1) := toI_ne c_32 rfl (by decide : ((-1) : Int32).toInt = (-1))
      refine lv_aload_n hx hb dX10_bind_39 rfl (lv_at hl 3 rfl) ?_
      refine va_get (D := (dC, dI)) (ci := 10) (v := .ref (aL 3)) (C := RX10) (T := TX10) (N := 20) hx hb hts iwsMX10_bind_in10 hown hK hP 0 rfl rfl 7 (by decide) (hts (.fieldLink RX10 24 "OptimaWorks$Worker" "two" "[I") (by decide +kernel)) (fun _ h9 => h9) rfl dX10_bind_40 ?_
      rw [← b_v4] at hs2
      refine lv_iload hx hb dX10_bind_43 (lv_at hl 1 rfl) ?_
      refine va_iald (cA := kL 3) (n := 40) (f := fL_two) hx hb hK hP 4 3 rfl rfl (vp_in_iff.mpr ⟨(by omega), (by omega)⟩) dX10_bind_45 ?_
      refine lv_topi (fun v8 hv8 => ?_)
      have b_v8 : (-1) ≤ v8.toInt ∧ v8.toInt ≤ 39 := by rw [hv8]; exact b_fL_two _
      have b1_v8 : v8.toInt = twL fL_two v4.toInt := by rw [hv8]; exact tw_r
      clear hv8
      have hl : lv_has _ _ ([(5, .int v6), (4, .int v4), (3, .int v2), (0, .ref (hL 0)), (1, .int p1), (2, .int p2)]) := lv_sub hl [0, 1, 2, 3, 4, 5] rfl
      exact join3 _ _ _ _ ⟨v8, (by first | exact b_v8 | with_reducible assumption | exact ⟨by omega, by omega⟩ | assumption), rfl, hP, hD, hS, hl⟩
    · have t_32 : v4.toInt = (-1) := toI_nne c_32 rfl (by decide : ((-1) : Int32).toInt = (-1))
      refine lv_iconst (v := 1) hx hb dX10_bind_35 (by decide) ?_
      refine lv_goto (tgt := 46) hx hb dX10_bind_36 (by decide) ?_
      have hl : lv_has _ _ ([(5, .int v6), (4, .int v4), (3, .int v2), (0, .ref (hL 0)), (1, .int p1), (2, .int p2)]) := lv_sub hl [0, 1, 2, 3, 4, 5] rfl
      exact join3 _ _ _ _ ⟨1, (show 1 ≤ (1 : Int32).toInt ∧ (1 : Int32).toInt ≤ 12 from by decide), rfl, hP, hD, hS, hl⟩
  · rintro H locs ls stk ⟨k0_j3, b_k0_j3, rfl, hP, hD, hS, hl⟩
    refine lv_istore hx hb dX10_bind_46 hl (by decide) rfl (fun ls (hl : lv_has ls _ ([(6, .int k0_j3), (5, .int v6), (4, .int v4), (3, .int v2), (0, .ref (hL 0)), (1, .int p1), (2, .int p2)])) => ?_)
    refine lv_aload_n hx hb dX10_bind_48 rfl (lv_at hl 4 rfl) ?_
    refine va_get (D := (dC, dI)) (ci := 10) (v := .ref (aL 9)) (C := RX10) (T := TX10) (N := 20) hx hb hts iwsMX10_bind_in10 hown hK hP 0 rfl rfl 14 (by decide) (hts _ hm_m_X10_bind_1) (fun _ h9 => h9) rfl dX10_bind_49 ?_
    refine lv_iload hx hb dX10_bind_52 (lv_at hl 1 rfl) ?_
    refine lv_aload_n hx hb dX10_bind_54 rfl (lv_at hl 4 rfl) ?_
    refine va_get (D := (dC, dI)) (ci := 10) (v := .ref (aL 2)) (C := RX10) (T := TX10) (N := 20) hx hb hts iwsMX10_bind_in10 hown hK hP 0 rfl rfl 6 (by decide) (hts _ hm_m_X10_bind_2) (fun _ h9 => h9) rfl dX10_bind_55 ?_
    refine lv_iload_n hx hb dX10_bind_58 rfl (lv_at hl 3 rfl) ?_
    refine va_iald (cA := kL 2) (n := 40) (f := fL_one) hx hb hK hP 3 2 rfl rfl (vp_in_iff.mpr ⟨(by omega), (by omega)⟩) dX10_bind_59 ?_
    refine lv_topi (fun v9 hv9 => ?_)
    have b_v9 : v9.toInt = twL fL_one v2.toInt := by rw [hv9]; exact tw_r
    clear hv9
    refine lv_iload_n hx hb dX10_bind_60 rfl (lv_at hl 6 rfl) ?_
    refine lv_iload hx hb dX10_bind_61 (lv_at hl 0 rfl) ?_
    refine lv_idiv hx hb dX10_bind_63 (nz_i (x := k0_j3) rfl (by omega)) ?_
    refine lv_topi (fun v10 hv10 => ?_)
    clear hv10
    refine lv_iadd hx hb dX10_bind_64 ?_
    refine lv_topi (fun y11 hy11 => ?_)
    obtain rfl : (iI (v9.toInt + v10.toInt)) = y11 := (hy11.trans (iI_add2 (iI_of _) (iI_of _))).symm
    refine va_iast (cA := kL 9) (n := 64) (f := fL_bound) hx hb hK hP hD hS 10 9 rfl rfl (vp_in_iff.mpr ⟨(by omega), (by omega)⟩) dX10_bind_65 (fun H locs hP hD hS => ?_)
    obtain ⟨u12, hu12⟩ : ∃ f9, f9 = upd fL_bound (v6).toNatClampNeg (iI (v9.toInt + v10.toInt)) := ⟨_, rfl⟩
    have hP : va_P (dC, dI) vwCl (WL hL aL kL hT hM (.ref dF_tree) iL_names gL_key fL_kind fL_one fL_two fL_base iL_params fL_paramOver dL_paramOver nL_params fL_paramUnder dL_paramUnder nL_pu gL_over gL_under u12 iL_nameAt iL_startAt iL_steps jL_scaleOver jL_scaleUnder ++ (WF hF aF kF dF_tree nF_tree fF_tree)) H := by rw [hu12]; exact hP
    have hD : va_D A (WL hL aL kL hT hM (.ref dF_tree) iL_names gL_key fL_kind fL_one fL_two fL_base iL_params fL_paramOver dL_paramOver nL_params fL_paramUnder dL_paramUnder nL_pu gL_over gL_under u12 iL_nameAt iL_startAt iL_steps jL_scaleOver jL_scaleUnder ++ (WF hF aF kF dF_tree nF_tree fF_tree)) := by rw [hu12]; exact hD
    clear hu12
    refine lv_iload hx hb dX10_bind_66 (lv_at hl 2 rfl) ?_
    refine lv_iconst (v := (-1)) hx hb dX10_bind_68 (by decide) ?_
    refine W.cut (pc := 93) (fun H locs ls stk => ∃ (fL_bound_j4 : Nat → Int32),  stk = [] ∧ va_P (dC, dI) vwCl (WL hL aL kL hT hM (.ref dF_tree) iL_names gL_key fL_kind fL_one fL_two fL_base iL_params fL_paramOver dL_paramOver nL_params fL_paramUnder dL_paramUnder nL_pu gL_over gL_under fL_bound_j4 iL_nameAt iL_startAt iL_steps jL_scaleOver jL_scaleUnder ++ (WF hF aF kF dF_tree nF_tree fF_tree)) H ∧ va_D A (WL hL aL kL hT hM (.ref dF_tree) iL_names gL_key fL_kind fL_one fL_two fL_base iL_params fL_paramOver dL_paramOver nL_params fL_paramUnder dL_paramUnder nL_pu gL_over gL_under fL_bound_j4 iL_nameAt iL_startAt iL_steps jL_scaleOver jL_scaleUnder ++ (WF hF aF kF dF_tree nF_tree fF_tree)) ∧ va_S A s.heap H locs ∧ lv_has ls 7 [(6, .int k0_j3), (5, .int v6), (4, .int v4), (3, .int v2), (0, .ref (hL 0)), (1, .int p1), (2, .int p2)]) (fun join4 => ?_) ?_
    · refine lv_icmp_eq (tgt := 93) hx hb dX10_bind_69 (by decide) (fun c_69 => ?_) (fun c_69 => ?_)
      · have t_69 : v4.toInt = (-1) := toI_eq c_69 rfl (by decide : ((-1) : Int32).toInt = (-1))
        have hl : lv_has _ _ ([(6, .int k0_j3), (5, .int v6), (4, .int v4), (3, .int v2), (0, .ref (hL 0)), (1, .int p1), (2, .int p2)]) := lv_sub hl [0, 1, 2, 3, 4, 5, 6] rfl
        exact join4 _ _ _ _ ⟨u12, rfl, hP, hD, hS, hl⟩
      · have t_69 : ¬ v4.toInt = (-1) := toI_neq c_69 rfl (by decide : ((-1) : Int32).toInt = (-1))
        refine lv_aload_n hx hb dX10_bind_72 rfl (lv_at hl 4 rfl) ?_
        refine va_get (D := (dC, dI)) (ci := 10) (v := .ref (aL 9)) (C := RX10) (T := TX10) (N := 20) hx hb hts iwsMX10_bind_in10 hown hK hP 0 rfl rfl 14 (by decide) (hts _ hm_m_X10_bind_1) (fun _ h9 => h9) rfl dX10_bind_73 ?_
        refine lv_iload hx hb dX10_bind_76 (lv_at hl 1 rfl) ?_
        refine lv_iconst (v := 1) hx hb dX10_bind_78 (by decide) ?_
        refine lv_iadd hx hb dX10_bind_79 ?_
        refine lv_topi (fun y18 hy18 => ?_)
        obtain rfl : (iI (v6.toInt + 1)) = y18 := (hy18.trans (iI_add2 (iI_of _) (by decide : (1 : Int32) = iI 1))).symm
        refine lv_aload_n hx hb dX10_bind_80 rfl (lv_at hl 4 rfl) ?_
        refine va_get (D := (dC, dI)) (ci := 10) (v := .ref (aL 2)) (C := RX10) (T := TX10) (N := 20) hx hb hts iwsMX10_bind_in10 hown hK hP 0 rfl rfl 6 (by decide) (hts _ hm_m_X10_bind_2) (fun _ h9 => h9) rfl dX10_bind_81 ?_
        refine lv_iload hx hb dX10_bind_84 (lv_at hl 2 rfl) ?_
        refine va_iald (cA := kL 2) (n := 40) (f := fL_one) hx hb hK hP 3 2 rfl rfl (vp_in_iff.mpr ⟨(by omega), (by omega)⟩) dX10_bind_86 ?_
        refine lv_topi (fun v19 hv19 => ?_)
        have b_v19 : v19.toInt = twL fL_one v4.toInt := by rw [hv19]; exact tw_r
        clear hv19
        refine lv_iload_n hx hb dX10_bind_87 rfl (lv_at hl 6 rfl) ?_
        refine lv_iload hx hb dX10_bind_88 (lv_at hl 0 rfl) ?_
        refine lv_irem hx hb dX10_bind_90 (nz_i (x := k0_j3) rfl (by omega)) ?_
        refine lv_topi (fun v20 hv20 => ?_)
        clear hv20
        refine lv_iadd hx hb dX10_bind_91 ?_
        refine lv_topi (fun y21 hy21 => ?_)
        obtain rfl : (iI (v19.toInt + v20.toInt)) = y21 := (hy21.trans (iI_add2 (iI_of _) (iI_of _))).symm
        refine va_iast (cA := kL 9) (n := 64) (f := u12) hx hb hK hP hD hS 10 9 rfl rfl (vp_iI (by omega) (by omega) (by decide)) dX10_bind_92 (fun H locs hP hD hS => ?_)
        obtain ⟨u22, hu22⟩ : ∃ f9, f9 = upd u12 ((iI (v6.toInt + 1))).toNatClampNeg (iI (v19.toInt + v20.toInt)) := ⟨_, rfl⟩
        have hP : va_P (dC, dI) vwCl (WL hL aL kL hT hM (.ref dF_tree) iL_names gL_key fL_kind fL_one fL_two fL_base iL_params fL_paramOver dL_paramOver nL_params fL_paramUnder dL_paramUnder nL_pu gL_over gL_under u22 iL_nameAt iL_startAt iL_steps jL_scaleOver jL_scaleUnder ++ (WF hF aF kF dF_tree nF_tree fF_tree)) H := by rw [hu22]; exact hP
        have hD : va_D A (WL hL aL kL hT hM (.ref dF_tree) iL_names gL_key fL_kind fL_one fL_two fL_base iL_params fL_paramOver dL_paramOver nL_params fL_paramUnder dL_paramUnder nL_pu gL_over gL_under u22 iL_nameAt iL_startAt iL_steps jL_scaleOver jL_scaleUnder ++ (WF hF aF kF dF_tree nF_tree fF_tree)) := by rw [hu22]; exact hD
        clear hu22
        have hl : lv_has _ _ ([(6, .int k0_j3), (5, .int v6), (4, .int v4), (3, .int v2), (0, .ref (hL 0)), (1, .int p1), (2, .int p2)]) := lv_sub hl [0, 1, 2, 3, 4, 5, 6] rfl
        exact join4 _ _ _ _ ⟨u22, rfl, hP, hD, hS, hl⟩
    · rintro H locs ls stk ⟨fL_bound_j4, rfl, hP, hD, hS, hl⟩
      refine W.widen (k := 0) (n := 0) (by decide +kernel) (by decide +kernel) ?_
      exact W.vret hx hb hr (fun t9_ ht hW => ⟨⟨fL_bound_j4, rfl, trivial, by rw [ht]; exact hP, hD⟩, hS.F ht⟩) hS.2.2 dX10_bind_93
end
section
def wsGW : List Cond := [.fieldLink RX10 55 "OptimaWorks$Worker" "tree" "[I", .code yX10_linear cX10_linear 5 none, .methodLink RX10 211 yX10_term, .instanceMethod yX10_term, .selects RX10 yX10_term yX10_term, .initialized RX10, .code yX10_term cX10_term 5 none, .methodLink RX10 221 yX10_factor, .instanceMethod yX10_factor, .selects RX10 yX10_factor yX10_factor, .fieldLink RX10 44 "OptimaWorks$Worker" "bound" "[I", .code yX10_factor cX10_factor 3 none, .methodLink RX10 234 yX10_lookUp, .instanceMethod yX10_lookUp, .selects RX10 yX10_lookUp yX10_lookUp, .methodLink RX10 133 yX10_linear, .instanceMethod yX10_linear, .selects RX10 yX10_linear yX10_linear, .methodLink RX10 240 yX10_sum, .instanceMethod yX10_sum, .selects RX10 yX10_sum yX10_sum, .fieldLink RX10 27 "OptimaWorks$Worker" "base" "[I", .fieldLink RX10 21 "OptimaWorks$Worker" "one" "[I", .fieldLink RX10 24 "OptimaWorks$Worker" "two" "[I", .fieldLink RX10 17 "OptimaWorks$Worker" "kind" "[I", .fieldLink RX10 36 "OptimaWorks$Worker" "over" "[J", .fieldLink RX10 30 "OptimaWorks$Worker" "paramOver" "[I", .fieldLink RX10 33 "OptimaWorks$Worker" "paramUnder" "[I", .code yX10_lookUp cX10_lookUp 6 none, .methodLink RX10 243 yX10_place, .instanceMethod yX10_place, .selects RX10 yX10_place yX10_place, .fieldLink RX10 39 "OptimaWorks$Worker" "under" "[J", .fieldLink RX10 47 "OptimaWorks$Worker" "words" "LOptimaWorks$Words;", .code yX10_place cX10_place 6 (some .int), .methodLink RX10 80 yX10_number, .instanceMethod yX10_number, .selects RX10 yX10_number yX10_number, .code yX10_number cX10_number 3 none, .code yX10_sum cX10_sum 7 none, .methodLink RX10 123 yX10_anyHolds, .instanceMethod yX10_anyHolds, .selects RX10 yX10_anyHolds yX10_anyHolds, .code yX10_anyHolds cX10_anyHolds 5 (some .boolean), .methodLink RX10 249 yX10_allHold, .instanceMethod yX10_allHold, .selects RX10 yX10_allHold yX10_allHold, .code yX10_allHold cX10_allHold 5 (some .boolean), .methodLink RX10 252 yX10_oneHolds, .instanceMethod yX10_oneHolds, .selects RX10 yX10_oneHolds yX10_oneHolds, .code yX10_oneHolds cX10_oneHolds 4 (some .boolean), .methodLink RX10 255 yX10_compares, .instanceMethod yX10_compares, .selects RX10 yX10_compares yX10_compares, .code yX10_compares cX10_compares 8 (some .boolean)] ++ wsX100 ++ (wsV RX10 214 RX10 yX10_step wsMX10_step) ++ (wsV RX10 217 RX10 yX10_join wsMX10_join) ++ (wsV RX10 227 RX10 yX10_divide wsMX10_divide) ++ (wsV RX10 224 RX10 yX10_multiply wsMX10_multiply) ++ (wsV RX10 230 RX10 yX10_setNumber wsMX10_setNumber) ++ (wsV RX10 237 RX10 yX10_turn wsMX10_turn) ++ (wsV RX10 90 RX9 yX9_fail wsMX9_fail) ++ (wsV RX10 207 RX10 yX10_hasVariables wsMX10_hasVariables) ++ (wsV RX10 117 RX10 yX10_boundMembers wsMX10_boundMembers) ++ (wsV RX10 120 RX10 yX10_bind wsMX10_bind) ++ (va_wsS RX10 258 yJ13_compare_74951 wsMJ13_compare_74951)
theorem iwsGW_in10 : ∀ w ∈ wsX100, w ∈ wsGW := fun _ h => List.mem_append_left _ (List.mem_append_left _ (List.mem_append_left _ (List.mem_append_left _ (List.mem_append_left _ (List.mem_append_left _ (List.mem_append_left _ (List.mem_append_left _ (List.mem_append_left _ (List.mem_append_left _ (List.mem_append_left _ (List.mem_append_right _ h)))))))))))
theorem gwsGW_0 : ∀ w ∈ (wsV RX10 214 RX10 yX10_step wsMX10_step), w ∈ wsGW := fun _ h => List.mem_append_left _ (List.mem_append_left _ (List.mem_append_left _ (List.mem_append_left _ (List.mem_append_left _ (List.mem_append_left _ (List.mem_append_left _ (List.mem_append_left _ (List.mem_append_left _ (List.mem_append_left _ (List.mem_append_right _ h))))))))))
theorem gwsGW_1 : ∀ w ∈ (wsV RX10 217 RX10 yX10_join wsMX10_join), w ∈ wsGW := fun _ h => List.mem_append_left _ (List.mem_append_left _ (List.mem_append_left _ (List.mem_append_left _ (List.mem_append_left _ (List.mem_append_left _ (List.mem_append_left _ (List.mem_append_left _ (List.mem_append_left _ (List.mem_append_right _ h)))))))))
theorem gwsGW_2 : ∀ w ∈ (wsV RX10 227 RX10 yX10_divide wsMX10_divide), w ∈ wsGW := fun _ h => List.mem_append_left _ (List.mem_append_left _ (List.mem_append_left _ (List.mem_append_left _ (List.mem_append_left _ (List.mem_append_left _ (List.mem_append_left _ (List.mem_append_left _ (List.mem_append_right _ h))))))))
theorem gwsGW_3 : ∀ w ∈ (wsV RX10 224 RX10 yX10_multiply wsMX10_multiply), w ∈ wsGW := fun _ h => List.mem_append_left _ (List.mem_append_left _ (List.mem_append_left _ (List.mem_append_left _ (List.mem_append_left _ (List.mem_append_left _ (List.mem_append_left _ (List.mem_append_right _ h)))))))
theorem gwsGW_4 : ∀ w ∈ (wsV RX10 230 RX10 yX10_setNumber wsMX10_setNumber), w ∈ wsGW := fun _ h => List.mem_append_left _ (List.mem_append_left _ (List.mem_append_left _ (List.mem_append_left _ (List.mem_append_left _ (List.mem_append_left _ (List.mem_append_right _ h))))))
theorem gwsGW_5 : ∀ w ∈ (wsV RX10 237 RX10 yX10_turn wsMX10_turn), w ∈ wsGW := fun _ h => List.mem_append_left _ (List.mem_append_left _ (List.mem_append_left _ (List.mem_append_left _ (List.mem_append_left _ (List.mem_append_right _ h)))))
theorem gwsGW_6 : ∀ w ∈ (wsV RX10 90 RX9 yX9_fail wsMX9_fail), w ∈ wsGW := fun _ h => List.mem_append_left _ (List.mem_append_left _ (List.mem_append_left _ (List.mem_append_left _ (List.mem_append_right _ h))))
theorem gwsGW_7 : ∀ w ∈ (wsV RX10 207 RX10 yX10_hasVariables wsMX10_hasVariables), w ∈ wsGW := fun _ h => List.mem_append_left _ (List.mem_append_left _ (List.mem_append_left _ (List.mem_append_right _ h)))
theorem gwsGW_8 : ∀ w ∈ (wsV RX10 117 RX10 yX10_boundMembers wsMX10_boundMembers), w ∈ wsGW := fun _ h => List.mem_append_left _ (List.mem_append_left _ (List.mem_append_right _ h))
theorem gwsGW_9 : ∀ w ∈ (wsV RX10 120 RX10 yX10_bind wsMX10_bind), w ∈ wsGW := fun _ h => List.mem_append_left _ (List.mem_append_right _ h)
theorem gwsGW_10 : ∀ w ∈ (va_wsS RX10 258 yJ13_compare_74951 wsMJ13_compare_74951), w ∈ wsGW := fun _ h => List.mem_append_right _ h
theorem gdwsGW : wsGW.all goodWord = true := (gdA (gdA (gdA (gdA (gdA (gdA (gdA (gdA (gdA (gdA (gdA (gdA (by decide +kernel : ([.fieldLink RX10 55 "OptimaWorks$Worker" "tree" "[I", .code yX10_linear cX10_linear 5 none, .methodLink RX10 211 yX10_term, .instanceMethod yX10_term, .selects RX10 yX10_term yX10_term, .initialized RX10, .code yX10_term cX10_term 5 none, .methodLink RX10 221 yX10_factor, .instanceMethod yX10_factor, .selects RX10 yX10_factor yX10_factor, .fieldLink RX10 44 "OptimaWorks$Worker" "bound" "[I", .code yX10_factor cX10_factor 3 none, .methodLink RX10 234 yX10_lookUp, .instanceMethod yX10_lookUp, .selects RX10 yX10_lookUp yX10_lookUp, .methodLink RX10 133 yX10_linear, .instanceMethod yX10_linear, .selects RX10 yX10_linear yX10_linear, .methodLink RX10 240 yX10_sum, .instanceMethod yX10_sum, .selects RX10 yX10_sum yX10_sum, .fieldLink RX10 27 "OptimaWorks$Worker" "base" "[I", .fieldLink RX10 21 "OptimaWorks$Worker" "one" "[I", .fieldLink RX10 24 "OptimaWorks$Worker" "two" "[I", .fieldLink RX10 17 "OptimaWorks$Worker" "kind" "[I", .fieldLink RX10 36 "OptimaWorks$Worker" "over" "[J", .fieldLink RX10 30 "OptimaWorks$Worker" "paramOver" "[I", .fieldLink RX10 33 "OptimaWorks$Worker" "paramUnder" "[I", .code yX10_lookUp cX10_lookUp 6 none, .methodLink RX10 243 yX10_place, .instanceMethod yX10_place, .selects RX10 yX10_place yX10_place, .fieldLink RX10 39 "OptimaWorks$Worker" "under" "[J", .fieldLink RX10 47 "OptimaWorks$Worker" "words" "LOptimaWorks$Words;", .code yX10_place cX10_place 6 (some .int), .methodLink RX10 80 yX10_number, .instanceMethod yX10_number, .selects RX10 yX10_number yX10_number, .code yX10_number cX10_number 3 none, .code yX10_sum cX10_sum 7 none, .methodLink RX10 123 yX10_anyHolds, .instanceMethod yX10_anyHolds, .selects RX10 yX10_anyHolds yX10_anyHolds, .code yX10_anyHolds cX10_anyHolds 5 (some .boolean), .methodLink RX10 249 yX10_allHold, .instanceMethod yX10_allHold, .selects RX10 yX10_allHold yX10_allHold, .code yX10_allHold cX10_allHold 5 (some .boolean), .methodLink RX10 252 yX10_oneHolds, .instanceMethod yX10_oneHolds, .selects RX10 yX10_oneHolds yX10_oneHolds, .code yX10_oneHolds cX10_oneHolds 4 (some .boolean), .methodLink RX10 255 yX10_compares, .instanceMethod yX10_compares, .selects RX10 yX10_compares yX10_compares, .code yX10_compares cX10_compares 8 (some .boolean)] : List Cond).all goodWord = true) gdwsX100) (gdV (by decide +kernel) gdwsMX10_step)) (gdV (by decide +kernel) gdwsMX10_join)) (gdV (by decide +kernel) gdwsMX10_divide)) (gdV (by decide +kernel) gdwsMX10_multiply)) (gdV (by decide +kernel) gdwsMX10_setNumber)) (gdV (by decide +kernel) gdwsMX10_turn)) (gdV (by decide +kernel) gdwsMX9_fail)) (gdV (by decide +kernel) gdwsMX10_hasVariables)) (gdV (by decide +kernel) gdwsMX10_boundMembers)) (gdV (by decide +kernel) gdwsMX10_bind)) (gdS (by decide +kernel) gdwsMJ13_compare_74951))
def wsMX10_linear : List Cond := .code yX10_linear cX10_linear 5 none :: wsGW
theorem gdwsMX10_linear : wsMX10_linear.all goodWord = true := gdC rfl gdwsGW
def wsMX10_term : List Cond := .code yX10_term cX10_term 5 none :: wsGW
theorem gdwsMX10_term : wsMX10_term.all goodWord = true := gdC rfl gdwsGW
def wsMX10_factor : List Cond := .code yX10_factor cX10_factor 3 none :: wsGW
theorem gdwsMX10_factor : wsMX10_factor.all goodWord = true := gdC rfl gdwsGW
def wsMX10_lookUp : List Cond := .code yX10_lookUp cX10_lookUp 6 none :: wsGW
theorem gdwsMX10_lookUp : wsMX10_lookUp.all goodWord = true := gdC rfl gdwsGW
def wsMX10_place : List Cond := .code yX10_place cX10_place 6 (some .int) :: wsGW
theorem gdwsMX10_place : wsMX10_place.all goodWord = true := gdC rfl gdwsGW
def wsMX10_number : List Cond := .code yX10_number cX10_number 3 none :: wsGW
theorem gdwsMX10_number : wsMX10_number.all goodWord = true := gdC rfl gdwsGW
def wsMX10_sum : List Cond := .code yX10_sum cX10_sum 7 none :: wsGW
theorem gdwsMX10_sum : wsMX10_sum.all goodWord = true := gdC rfl gdwsGW
def wsMX10_anyHolds : List Cond := .code yX10_anyHolds cX10_anyHolds 5 (some .boolean) :: wsGW
theorem gdwsMX10_anyHolds : wsMX10_anyHolds.all goodWord = true := gdC rfl gdwsGW
def wsMX10_allHold : List Cond := .code yX10_allHold cX10_allHold 5 (some .boolean) :: wsGW
theorem gdwsMX10_allHold : wsMX10_allHold.all goodWord = true := gdC rfl gdwsGW
def wsMX10_oneHolds : List Cond := .code yX10_oneHolds cX10_oneHolds 4 (some .boolean) :: wsGW
theorem gdwsMX10_oneHolds : wsMX10_oneHolds.all goodWord = true := gdC rfl gdwsGW
def wsMX10_compares : List Cond := .code yX10_compares cX10_compares 8 (some .boolean) :: wsGW
theorem gdwsMX10_compares : wsMX10_compares.all goodWord = true := gdC rfl gdwsGW
def Cm_X10_linear (l : Launch) (ev : Nat) : Prop := ∀ (dC : Nat → ClassId) (dI : Nat → Nat → Nat) (hL : Nat → Nat) (aL : Nat → Nat) (kL : Nat → ClassId) (hT : Nat → Nat) (hM : Nat → Nat) (iL_names : Int32) (gL_key : Nat → Int64) (fL_kind : Nat → Int32) (fL_one : Nat → Int32) (fL_two : Nat → Int32) (fL_base : Nat → Int32) (iL_params : Int32) (fL_paramOver : Nat → Int32) (dL_paramOver : Nat) (nL_params : Nat) (fL_paramUnder : Nat → Int32) (dL_paramUnder : Nat) (nL_pu : Nat) (gL_over : Nat → Int64) (gL_under : Nat → Int64) (fL_bound : Nat → Int32) (iL_nameAt : Int32) (iL_startAt : Int32) (iL_steps : Int32) (jL_scaleOver : Int64) (jL_scaleUnder : Int64) (hF : Nat → Nat) (aF : Nat → Nat) (kF : Nat → ClassId) (dF_tree : Nat) (nF_tree : Nat) (fF_tree : Nat → Int32) (aT : Nat → Nat) (kT : Nat → ClassId) (fT_tape : Nat → Int32) (dT_tape : Nat) (nT_tape : Nat) (iT_length : Int32) (iT_fault : Int32) (iT_place : Int32) (iT_kind : Int32) (iT_at : Int32) (iT_number : Int32) (jT_name : Int64) (iT_next : Int32) (aM : Nat → Nat) (kM : Nat → ClassId) (iM_stands : Int32) (iM_variables : Int32) (iM_rows : Int32) (iM_goals : Int32) (iM_differents : Int32) (iM_cases : Int32) (fM_from : Nat → Int32) (fM_to : Nat → Int32) (fM_whole : Nat → Int32) (fM_ways : Nat → Int32) (iM_plainRows : Int32) (fM_plainRow : Nat → Int32) (fM_kept : Nat → Int32) (fM_goalOver : Nat → Int32) (fM_goalUnder : Nat → Int32) (fM_goalMax : Nat → Int32) (fM_different : Nat → Int32) (V : Int → Nat → Nat → Prop) (lo : Int) (lv : Nat) (p1 : Int32) (p2 : Int32) (b_iL_names : 0 ≤ iL_names.toInt ∧ iL_names.toInt ≤ 40) (b_fL_kind : ∀ q : Nat, 0 ≤ (fL_kind q).toInt ∧ (fL_kind q).toInt ≤ 5) (b_fL_two : ∀ q : Nat, (-1) ≤ (fL_two q).toInt ∧ (fL_two q).toInt ≤ 39) (b_fL_base : ∀ q : Nat, 0 ≤ (fL_base q).toInt ∧ (fL_base q).toInt ≤ 2560) (b_iL_params : 0 ≤ iL_params.toInt ∧ iL_params.toInt ≤ 2560) (b_nL_params : 0 ≤ nL_params ∧ nL_params ≤ 2560) (b_nm : NmL iL_names fL_kind fL_one fL_two fL_base nL_params) (b_pm : iL_params.toInt ≤ ((nL_params : Nat) : Int)) (b_pu : nL_pu = nL_params) (b_nF_tree : 7 ≤ nF_tree ∧ nF_tree ≤ 72200) (b_fT_tape : ∀ q : Nat, (-128) ≤ (fT_tape q).toInt ∧ (fT_tape q).toInt ≤ 127) (b_nT_tape : 64 ≤ nT_tape ∧ nT_tape ≤ 2560) (b_iT_length : 0 ≤ iT_length.toInt ∧ iT_length.toInt ≤ 1280) (b_iT_at : 0 ≤ iT_at.toInt ∧ iT_at.toInt ≤ 1282) (b_iT_number : 0 ≤ iT_number.toInt ∧ iT_number.toInt ≤ 999999) (b_iT_next : 0 ≤ iT_next.toInt ∧ iT_next.toInt ≤ 1282) (b_len : iT_length.toInt ≤ ((nT_tape : Nat) : Int)) (b_iM_stands : 0 ≤ iM_stands.toInt ∧ iM_stands.toInt ≤ 1) (b_iM_variables : 0 ≤ iM_variables.toInt ∧ iM_variables.toInt ≤ 8) (b_iM_rows : 0 ≤ iM_rows.toInt ∧ iM_rows.toInt ≤ 12) (b_iM_goals : 0 ≤ iM_goals.toInt ∧ iM_goals.toInt ≤ 3) (b_iM_differents : 0 ≤ iM_differents.toInt ∧ iM_differents.toInt ≤ 8) (b_iM_cases : 0 ≤ iM_cases.toInt ∧ iM_cases.toInt ≤ 200000) (b_fM_ways : ∀ q : Nat, 0 ≤ (fM_ways q).toInt ∧ (fM_ways q).toInt ≤ 3) (b_iM_plainRows : 0 ≤ iM_plainRows.toInt ∧ iM_plainRows.toInt ≤ 12) (b_fM_plainRow : ∀ q : Nat, 0 ≤ (fM_plainRow q).toInt ∧ (fM_plainRow q).toInt ≤ 11) (b_pr : iM_plainRows.toInt ≤ iM_rows.toInt) (b_p2 : 0 ≤ p2.toInt ∧ p2.toInt ≤ 38) (hV : TrL V fF_tree fL_kind fL_one fL_two iL_names.toInt lo ((nF_tree : Nat) : Int)) (hn : V p1.toInt 1 lv) (hlv : lv + ev = 26) (hsl : p2.toInt ≤ (lv : Int)) (sz : Nat), vx_Met l yX10_linear wsMX10_linear ({ frames := 12 * ev + 12, cells := 1, slots := 6, locals := 720 * ev + 287 }) (va_Pc [.ref (hL 0), .int p1, .int p2] (fun U => U.heap.size = sz ∧ va_P (dC, dI) vwCl (WL hL aL kL hT hM (.ref dF_tree) iL_names gL_key fL_kind fL_one fL_two fL_base iL_params fL_paramOver dL_paramOver nL_params fL_paramUnder dL_paramUnder nL_pu gL_over gL_under fL_bound iL_nameAt iL_startAt iL_steps jL_scaleOver jL_scaleUnder ++ (WF hF aF kF dF_tree nF_tree fF_tree ++ (WT hT aT kT fT_tape dT_tape nT_tape iT_length iT_fault iT_place iT_kind iT_at iT_number jT_name iT_next ++ (WM hM aM kM iM_stands iM_variables iM_rows iM_goals iM_differents iM_cases fM_from fM_to fM_whole fM_ways iM_plainRows fM_plainRow fM_kept fM_goalOver fM_goalUnder fM_goalMax fM_different)))) U.heap ∧ va_K (dC, dI) vwCl (tL kL ++ (tF kF ++ (tT kT ++ (tM kM)))) U ∧ va_D (fun _ => True) (WL hL aL kL hT hM (.ref dF_tree) iL_names gL_key fL_kind fL_one fL_two fL_base iL_params fL_paramOver dL_paramOver nL_params fL_paramUnder dL_paramUnder nL_pu gL_over gL_under fL_bound iL_nameAt iL_startAt iL_steps jL_scaleOver jL_scaleUnder ++ (WF hF aF kF dF_tree nF_tree fF_tree ++ (WT hT aT kT fT_tape dT_tape nT_tape iT_length iT_fault iT_place iT_kind iT_at iT_number jT_name iT_next ++ (WM hM aM kM iM_stands iM_variables iM_rows iM_goals iM_differents iM_cases fM_from fM_to fM_whole fM_ways iM_plainRows fM_plainRow fM_kept fM_goalOver fM_goalUnder fM_goalMax fM_different)))) ∧ CE (va_A (WL hL aL kL hT hM (.ref dF_tree) iL_names gL_key fL_kind fL_one fL_two fL_base iL_params fL_paramOver dL_paramOver nL_params fL_paramUnder dL_paramUnder nL_pu gL_over gL_under fL_bound iL_nameAt iL_startAt iL_steps jL_scaleOver jL_scaleUnder ++ (WF hF aF kF dF_tree nF_tree fF_tree ++ (WT hT aT kT fT_tape dT_tape nT_tape iT_length iT_fault iT_place iT_kind iT_at iT_number jT_name iT_next ++ (WM hM aM kM iM_stands iM_variables iM_rows iM_goals iM_differents iM_cases fM_from fM_to fM_whole fM_ways iM_plainRows fM_plainRow fM_kept fM_goalOver fM_goalUnder fM_goalMax fM_different)))) sz) U U.heap)) (va_Qv (fun (u : (Nat → Int64) × (Nat → Int64) × (Nat → Int32) × (Int32) × (Int32) × (Int32)) => True) (fun (u : (Nat → Int64) × (Nat → Int64) × (Nat → Int32) × (Int32) × (Int32) × (Int32)) t => va_P (dC, dI) vwCl (WL hL aL kL hT hM (.ref dF_tree) iL_names gL_key fL_kind fL_one fL_two fL_base iL_params fL_paramOver dL_paramOver nL_params fL_paramUnder dL_paramUnder nL_pu (u.1) (u.2.1) (u.2.2.1) iL_nameAt iL_startAt (u.2.2.2.1) jL_scaleOver jL_scaleUnder ++ (WF hF aF kF dF_tree nF_tree fF_tree ++ (WT hT aT kT fT_tape dT_tape nT_tape iT_length (u.2.2.2.2.1) (u.2.2.2.2.2) iT_kind iT_at iT_number jT_name iT_next ++ (WM hM aM kM iM_stands iM_variables iM_rows iM_goals iM_differents iM_cases fM_from fM_to fM_whole fM_ways iM_plainRows fM_plainRow fM_kept fM_goalOver fM_goalUnder fM_goalMax fM_different)))) t.heap ∧ va_D (va_A (WL hL aL kL hT hM (.ref dF_tree) iL_names gL_key fL_kind fL_one fL_two fL_base iL_params fL_paramOver dL_paramOver nL_params fL_paramUnder dL_paramUnder nL_pu gL_over gL_under fL_bound iL_nameAt iL_startAt iL_steps jL_scaleOver jL_scaleUnder ++ (WF hF aF kF dF_tree nF_tree fF_tree ++ (WT hT aT kT fT_tape dT_tape nT_tape iT_length iT_fault iT_place iT_kind iT_at iT_number jT_name iT_next ++ (WM hM aM kM iM_stands iM_variables iM_rows iM_goals iM_differents iM_cases fM_from fM_to fM_whole fM_ways iM_plainRows fM_plainRow fM_kept fM_goalOver fM_goalUnder fM_goalMax fM_different)))) sz) (WL hL aL kL hT hM (.ref dF_tree) iL_names gL_key fL_kind fL_one fL_two fL_base iL_params fL_paramOver dL_paramOver nL_params fL_paramUnder dL_paramUnder nL_pu (u.1) (u.2.1) (u.2.2.1) iL_nameAt iL_startAt (u.2.2.2.1) jL_scaleOver jL_scaleUnder ++ (WF hF aF kF dF_tree nF_tree fF_tree ++ (WT hT aT kT fT_tape dT_tape nT_tape iT_length (u.2.2.2.2.1) (u.2.2.2.2.2) iT_kind iT_at iT_number jT_name iT_next ++ (WM hM aM kM iM_stands iM_variables iM_rows iM_goals iM_differents iM_cases fM_from fM_to fM_whole fM_ways iM_plainRows fM_plainRow fM_kept fM_goalOver fM_goalUnder fM_goalMax fM_different)))) ∧ t.heap.size = sz) (va_A (WL hL aL kL hT hM (.ref dF_tree) iL_names gL_key fL_kind fL_one fL_two fL_base iL_params fL_paramOver dL_paramOver nL_params fL_paramUnder dL_paramUnder nL_pu gL_over gL_under fL_bound iL_nameAt iL_startAt iL_steps jL_scaleOver jL_scaleUnder ++ (WF hF aF kF dF_tree nF_tree fF_tree ++ (WT hT aT kT fT_tape dT_tape nT_tape iT_length iT_fault iT_place iT_kind iT_at iT_number jT_name iT_next ++ (WM hM aM kM iM_stands iM_variables iM_rows iM_goals iM_differents iM_cases fM_from fM_to fM_whole fM_ways iM_plainRows fM_plainRow fM_kept fM_goalOver fM_goalUnder fM_goalMax fM_different)))) sz)) (vx_X (fun (u : (Nat → Int64) × (Nat → Int64) × (Nat → Int32) × (Int32) × (Int32) × (Int32)) => True) (fun E (u : (Nat → Int64) × (Nat → Int64) × (Nat → Int32) × (Int32) × (Int32) × (Int32)) t => (E = "java/lang/IllegalArgumentException") ∧ va_P (dC, dI) vwCl (WL hL aL kL hT hM (.ref dF_tree) iL_names gL_key fL_kind fL_one fL_two fL_base iL_params fL_paramOver dL_paramOver nL_params fL_paramUnder dL_paramUnder nL_pu (u.1) (u.2.1) (u.2.2.1) iL_nameAt iL_startAt (u.2.2.2.1) jL_scaleOver jL_scaleUnder ++ (WF hF aF kF dF_tree nF_tree fF_tree ++ (WT hT aT kT fT_tape dT_tape nT_tape iT_length (u.2.2.2.2.1) (u.2.2.2.2.2) iT_kind iT_at iT_number jT_name iT_next ++ (WM hM aM kM iM_stands iM_variables iM_rows iM_goals iM_differents iM_cases fM_from fM_to fM_whole fM_ways iM_plainRows fM_plainRow fM_kept fM_goalOver fM_goalUnder fM_goalMax fM_different)))) t.heap ∧ va_D (va_A (WL hL aL kL hT hM (.ref dF_tree) iL_names gL_key fL_kind fL_one fL_two fL_base iL_params fL_paramOver dL_paramOver nL_params fL_paramUnder dL_paramUnder nL_pu gL_over gL_under fL_bound iL_nameAt iL_startAt iL_steps jL_scaleOver jL_scaleUnder ++ (WF hF aF kF dF_tree nF_tree fF_tree ++ (WT hT aT kT fT_tape dT_tape nT_tape iT_length iT_fault iT_place iT_kind iT_at iT_number jT_name iT_next ++ (WM hM aM kM iM_stands iM_variables iM_rows iM_goals iM_differents iM_cases fM_from fM_to fM_whole fM_ways iM_plainRows fM_plainRow fM_kept fM_goalOver fM_goalUnder fM_goalMax fM_different)))) sz) (WL hL aL kL hT hM (.ref dF_tree) iL_names gL_key fL_kind fL_one fL_two fL_base iL_params fL_paramOver dL_paramOver nL_params fL_paramUnder dL_paramUnder nL_pu (u.1) (u.2.1) (u.2.2.1) iL_nameAt iL_startAt (u.2.2.2.1) jL_scaleOver jL_scaleUnder ++ (WF hF aF kF dF_tree nF_tree fF_tree ++ (WT hT aT kT fT_tape dT_tape nT_tape iT_length (u.2.2.2.2.1) (u.2.2.2.2.2) iT_kind iT_at iT_number jT_name iT_next ++ (WM hM aM kM iM_stands iM_variables iM_rows iM_goals iM_differents iM_cases fM_from fM_to fM_whole fM_ways iM_plainRows fM_plainRow fM_kept fM_goalOver fM_goalUnder fM_goalMax fM_different))))) (va_A (WL hL aL kL hT hM (.ref dF_tree) iL_names gL_key fL_kind fL_one fL_two fL_base iL_params fL_paramOver dL_paramOver nL_params fL_paramUnder dL_paramUnder nL_pu gL_over gL_under fL_bound iL_nameAt iL_startAt iL_steps jL_scaleOver jL_scaleUnder ++ (WF hF aF kF dF_tree nF_tree fF_tree ++ (WT hT aT kT fT_tape dT_tape nT_tape iT_length iT_fault iT_place iT_kind iT_at iT_number jT_name iT_next ++ (WM hM aM kM iM_stands iM_variables iM_rows iM_goals iM_differents iM_cases fM_from fM_to fM_whole fM_ways iM_plainRows fM_plainRow fM_kept fM_goalOver fM_goalUnder fM_goalMax fM_different)))) sz)) 1 6 (va_A (WL hL aL kL hT hM (.ref dF_tree) iL_names gL_key fL_kind fL_one fL_two fL_base iL_params fL_paramOver dL_paramOver nL_params fL_paramUnder dL_paramUnder nL_pu gL_over gL_under fL_bound iL_nameAt iL_startAt iL_steps jL_scaleOver jL_scaleUnder ++ (WF hF aF kF dF_tree nF_tree fF_tree ++ (WT hT aT kT fT_tape dT_tape nT_tape iT_length iT_fault iT_place iT_kind iT_at iT_number jT_name iT_next ++ (WM hM aM kM iM_stands iM_variables iM_rows iM_goals iM_differents iM_cases fM_from fM_to fM_whole fM_ways iM_plainRows fM_plainRow fM_kept fM_goalOver fM_goalUnder fM_goalMax fM_different)))) sz)
def Cm_X10_term (l : Launch) (ev : Nat) : Prop := ∀ (dC : Nat → ClassId) (dI : Nat → Nat → Nat) (hL : Nat → Nat) (aL : Nat → Nat) (kL : Nat → ClassId) (hT : Nat → Nat) (hM : Nat → Nat) (iL_names : Int32) (gL_key : Nat → Int64) (fL_kind : Nat → Int32) (fL_one : Nat → Int32) (fL_two : Nat → Int32) (fL_base : Nat → Int32) (iL_params : Int32) (fL_paramOver : Nat → Int32) (dL_paramOver : Nat) (nL_params : Nat) (fL_paramUnder : Nat → Int32) (dL_paramUnder : Nat) (nL_pu : Nat) (gL_over : Nat → Int64) (gL_under : Nat → Int64) (fL_bound : Nat → Int32) (iL_nameAt : Int32) (iL_startAt : Int32) (iL_steps : Int32) (jL_scaleOver : Int64) (jL_scaleUnder : Int64) (hF : Nat → Nat) (aF : Nat → Nat) (kF : Nat → ClassId) (dF_tree : Nat) (nF_tree : Nat) (fF_tree : Nat → Int32) (aT : Nat → Nat) (kT : Nat → ClassId) (fT_tape : Nat → Int32) (dT_tape : Nat) (nT_tape : Nat) (iT_length : Int32) (iT_fault : Int32) (iT_place : Int32) (iT_kind : Int32) (iT_at : Int32) (iT_number : Int32) (jT_name : Int64) (iT_next : Int32) (aM : Nat → Nat) (kM : Nat → ClassId) (iM_stands : Int32) (iM_variables : Int32) (iM_rows : Int32) (iM_goals : Int32) (iM_differents : Int32) (iM_cases : Int32) (fM_from : Nat → Int32) (fM_to : Nat → Int32) (fM_whole : Nat → Int32) (fM_ways : Nat → Int32) (iM_plainRows : Int32) (fM_plainRow : Nat → Int32) (fM_kept : Nat → Int32) (fM_goalOver : Nat → Int32) (fM_goalUnder : Nat → Int32) (fM_goalMax : Nat → Int32) (fM_different : Nat → Int32) (V : Int → Nat → Nat → Prop) (lo : Int) (lv : Nat) (p1 : Int32) (p2 : Int32) (b_iL_names : 0 ≤ iL_names.toInt ∧ iL_names.toInt ≤ 40) (b_fL_kind : ∀ q : Nat, 0 ≤ (fL_kind q).toInt ∧ (fL_kind q).toInt ≤ 5) (b_fL_two : ∀ q : Nat, (-1) ≤ (fL_two q).toInt ∧ (fL_two q).toInt ≤ 39) (b_fL_base : ∀ q : Nat, 0 ≤ (fL_base q).toInt ∧ (fL_base q).toInt ≤ 2560) (b_iL_params : 0 ≤ iL_params.toInt ∧ iL_params.toInt ≤ 2560) (b_nL_params : 0 ≤ nL_params ∧ nL_params ≤ 2560) (b_nm : NmL iL_names fL_kind fL_one fL_two fL_base nL_params) (b_pm : iL_params.toInt ≤ ((nL_params : Nat) : Int)) (b_pu : nL_pu = nL_params) (b_nF_tree : 7 ≤ nF_tree ∧ nF_tree ≤ 72200) (b_fT_tape : ∀ q : Nat, (-128) ≤ (fT_tape q).toInt ∧ (fT_tape q).toInt ≤ 127) (b_nT_tape : 64 ≤ nT_tape ∧ nT_tape ≤ 2560) (b_iT_length : 0 ≤ iT_length.toInt ∧ iT_length.toInt ≤ 1280) (b_iT_at : 0 ≤ iT_at.toInt ∧ iT_at.toInt ≤ 1282) (b_iT_number : 0 ≤ iT_number.toInt ∧ iT_number.toInt ≤ 999999) (b_iT_next : 0 ≤ iT_next.toInt ∧ iT_next.toInt ≤ 1282) (b_len : iT_length.toInt ≤ ((nT_tape : Nat) : Int)) (b_iM_stands : 0 ≤ iM_stands.toInt ∧ iM_stands.toInt ≤ 1) (b_iM_variables : 0 ≤ iM_variables.toInt ∧ iM_variables.toInt ≤ 8) (b_iM_rows : 0 ≤ iM_rows.toInt ∧ iM_rows.toInt ≤ 12) (b_iM_goals : 0 ≤ iM_goals.toInt ∧ iM_goals.toInt ≤ 3) (b_iM_differents : 0 ≤ iM_differents.toInt ∧ iM_differents.toInt ≤ 8) (b_iM_cases : 0 ≤ iM_cases.toInt ∧ iM_cases.toInt ≤ 200000) (b_fM_ways : ∀ q : Nat, 0 ≤ (fM_ways q).toInt ∧ (fM_ways q).toInt ≤ 3) (b_iM_plainRows : 0 ≤ iM_plainRows.toInt ∧ iM_plainRows.toInt ≤ 12) (b_fM_plainRow : ∀ q : Nat, 0 ≤ (fM_plainRow q).toInt ∧ (fM_plainRow q).toInt ≤ 11) (b_pr : iM_plainRows.toInt ≤ iM_rows.toInt) (b_p2 : 0 ≤ p2.toInt ∧ p2.toInt ≤ 38) (hV : TrL V fF_tree fL_kind fL_one fL_two iL_names.toInt lo ((nF_tree : Nat) : Int)) (hn : V p1.toInt 2 lv) (hlv : lv + ev = 26) (hsl : p2.toInt ≤ (lv : Int) + 1) (sz : Nat), vx_Met l yX10_term wsMX10_term ({ frames := 12 * ev + 11, cells := 1, slots := 6, locals := 720 * ev + 227 }) (va_Pc [.ref (hL 0), .int p1, .int p2] (fun U => U.heap.size = sz ∧ va_P (dC, dI) vwCl (WL hL aL kL hT hM (.ref dF_tree) iL_names gL_key fL_kind fL_one fL_two fL_base iL_params fL_paramOver dL_paramOver nL_params fL_paramUnder dL_paramUnder nL_pu gL_over gL_under fL_bound iL_nameAt iL_startAt iL_steps jL_scaleOver jL_scaleUnder ++ (WF hF aF kF dF_tree nF_tree fF_tree ++ (WT hT aT kT fT_tape dT_tape nT_tape iT_length iT_fault iT_place iT_kind iT_at iT_number jT_name iT_next ++ (WM hM aM kM iM_stands iM_variables iM_rows iM_goals iM_differents iM_cases fM_from fM_to fM_whole fM_ways iM_plainRows fM_plainRow fM_kept fM_goalOver fM_goalUnder fM_goalMax fM_different)))) U.heap ∧ va_K (dC, dI) vwCl (tL kL ++ (tF kF ++ (tT kT ++ (tM kM)))) U ∧ va_D (fun _ => True) (WL hL aL kL hT hM (.ref dF_tree) iL_names gL_key fL_kind fL_one fL_two fL_base iL_params fL_paramOver dL_paramOver nL_params fL_paramUnder dL_paramUnder nL_pu gL_over gL_under fL_bound iL_nameAt iL_startAt iL_steps jL_scaleOver jL_scaleUnder ++ (WF hF aF kF dF_tree nF_tree fF_tree ++ (WT hT aT kT fT_tape dT_tape nT_tape iT_length iT_fault iT_place iT_kind iT_at iT_number jT_name iT_next ++ (WM hM aM kM iM_stands iM_variables iM_rows iM_goals iM_differents iM_cases fM_from fM_to fM_whole fM_ways iM_plainRows fM_plainRow fM_kept fM_goalOver fM_goalUnder fM_goalMax fM_different)))) ∧ CE (va_A (WL hL aL kL hT hM (.ref dF_tree) iL_names gL_key fL_kind fL_one fL_two fL_base iL_params fL_paramOver dL_paramOver nL_params fL_paramUnder dL_paramUnder nL_pu gL_over gL_under fL_bound iL_nameAt iL_startAt iL_steps jL_scaleOver jL_scaleUnder ++ (WF hF aF kF dF_tree nF_tree fF_tree ++ (WT hT aT kT fT_tape dT_tape nT_tape iT_length iT_fault iT_place iT_kind iT_at iT_number jT_name iT_next ++ (WM hM aM kM iM_stands iM_variables iM_rows iM_goals iM_differents iM_cases fM_from fM_to fM_whole fM_ways iM_plainRows fM_plainRow fM_kept fM_goalOver fM_goalUnder fM_goalMax fM_different)))) sz) U U.heap)) (va_Qv (fun (u : (Nat → Int64) × (Nat → Int64) × (Nat → Int32) × (Int32) × (Int32) × (Int32)) => True) (fun (u : (Nat → Int64) × (Nat → Int64) × (Nat → Int32) × (Int32) × (Int32) × (Int32)) t => va_P (dC, dI) vwCl (WL hL aL kL hT hM (.ref dF_tree) iL_names gL_key fL_kind fL_one fL_two fL_base iL_params fL_paramOver dL_paramOver nL_params fL_paramUnder dL_paramUnder nL_pu (u.1) (u.2.1) (u.2.2.1) iL_nameAt iL_startAt (u.2.2.2.1) jL_scaleOver jL_scaleUnder ++ (WF hF aF kF dF_tree nF_tree fF_tree ++ (WT hT aT kT fT_tape dT_tape nT_tape iT_length (u.2.2.2.2.1) (u.2.2.2.2.2) iT_kind iT_at iT_number jT_name iT_next ++ (WM hM aM kM iM_stands iM_variables iM_rows iM_goals iM_differents iM_cases fM_from fM_to fM_whole fM_ways iM_plainRows fM_plainRow fM_kept fM_goalOver fM_goalUnder fM_goalMax fM_different)))) t.heap ∧ va_D (va_A (WL hL aL kL hT hM (.ref dF_tree) iL_names gL_key fL_kind fL_one fL_two fL_base iL_params fL_paramOver dL_paramOver nL_params fL_paramUnder dL_paramUnder nL_pu gL_over gL_under fL_bound iL_nameAt iL_startAt iL_steps jL_scaleOver jL_scaleUnder ++ (WF hF aF kF dF_tree nF_tree fF_tree ++ (WT hT aT kT fT_tape dT_tape nT_tape iT_length iT_fault iT_place iT_kind iT_at iT_number jT_name iT_next ++ (WM hM aM kM iM_stands iM_variables iM_rows iM_goals iM_differents iM_cases fM_from fM_to fM_whole fM_ways iM_plainRows fM_plainRow fM_kept fM_goalOver fM_goalUnder fM_goalMax fM_different)))) sz) (WL hL aL kL hT hM (.ref dF_tree) iL_names gL_key fL_kind fL_one fL_two fL_base iL_params fL_paramOver dL_paramOver nL_params fL_paramUnder dL_paramUnder nL_pu (u.1) (u.2.1) (u.2.2.1) iL_nameAt iL_startAt (u.2.2.2.1) jL_scaleOver jL_scaleUnder ++ (WF hF aF kF dF_tree nF_tree fF_tree ++ (WT hT aT kT fT_tape dT_tape nT_tape iT_length (u.2.2.2.2.1) (u.2.2.2.2.2) iT_kind iT_at iT_number jT_name iT_next ++ (WM hM aM kM iM_stands iM_variables iM_rows iM_goals iM_differents iM_cases fM_from fM_to fM_whole fM_ways iM_plainRows fM_plainRow fM_kept fM_goalOver fM_goalUnder fM_goalMax fM_different)))) ∧ t.heap.size = sz) (va_A (WL hL aL kL hT hM (.ref dF_tree) iL_names gL_key fL_kind fL_one fL_two fL_base iL_params fL_paramOver dL_paramOver nL_params fL_paramUnder dL_paramUnder nL_pu gL_over gL_under fL_bound iL_nameAt iL_startAt iL_steps jL_scaleOver jL_scaleUnder ++ (WF hF aF kF dF_tree nF_tree fF_tree ++ (WT hT aT kT fT_tape dT_tape nT_tape iT_length iT_fault iT_place iT_kind iT_at iT_number jT_name iT_next ++ (WM hM aM kM iM_stands iM_variables iM_rows iM_goals iM_differents iM_cases fM_from fM_to fM_whole fM_ways iM_plainRows fM_plainRow fM_kept fM_goalOver fM_goalUnder fM_goalMax fM_different)))) sz)) (vx_X (fun (u : (Nat → Int64) × (Nat → Int64) × (Nat → Int32) × (Int32) × (Int32) × (Int32)) => True) (fun E (u : (Nat → Int64) × (Nat → Int64) × (Nat → Int32) × (Int32) × (Int32) × (Int32)) t => (E = "java/lang/IllegalArgumentException") ∧ va_P (dC, dI) vwCl (WL hL aL kL hT hM (.ref dF_tree) iL_names gL_key fL_kind fL_one fL_two fL_base iL_params fL_paramOver dL_paramOver nL_params fL_paramUnder dL_paramUnder nL_pu (u.1) (u.2.1) (u.2.2.1) iL_nameAt iL_startAt (u.2.2.2.1) jL_scaleOver jL_scaleUnder ++ (WF hF aF kF dF_tree nF_tree fF_tree ++ (WT hT aT kT fT_tape dT_tape nT_tape iT_length (u.2.2.2.2.1) (u.2.2.2.2.2) iT_kind iT_at iT_number jT_name iT_next ++ (WM hM aM kM iM_stands iM_variables iM_rows iM_goals iM_differents iM_cases fM_from fM_to fM_whole fM_ways iM_plainRows fM_plainRow fM_kept fM_goalOver fM_goalUnder fM_goalMax fM_different)))) t.heap ∧ va_D (va_A (WL hL aL kL hT hM (.ref dF_tree) iL_names gL_key fL_kind fL_one fL_two fL_base iL_params fL_paramOver dL_paramOver nL_params fL_paramUnder dL_paramUnder nL_pu gL_over gL_under fL_bound iL_nameAt iL_startAt iL_steps jL_scaleOver jL_scaleUnder ++ (WF hF aF kF dF_tree nF_tree fF_tree ++ (WT hT aT kT fT_tape dT_tape nT_tape iT_length iT_fault iT_place iT_kind iT_at iT_number jT_name iT_next ++ (WM hM aM kM iM_stands iM_variables iM_rows iM_goals iM_differents iM_cases fM_from fM_to fM_whole fM_ways iM_plainRows fM_plainRow fM_kept fM_goalOver fM_goalUnder fM_goalMax fM_different)))) sz) (WL hL aL kL hT hM (.ref dF_tree) iL_names gL_key fL_kind fL_one fL_two fL_base iL_params fL_paramOver dL_paramOver nL_params fL_paramUnder dL_paramUnder nL_pu (u.1) (u.2.1) (u.2.2.1) iL_nameAt iL_startAt (u.2.2.2.1) jL_scaleOver jL_scaleUnder ++ (WF hF aF kF dF_tree nF_tree fF_tree ++ (WT hT aT kT fT_tape dT_tape nT_tape iT_length (u.2.2.2.2.1) (u.2.2.2.2.2) iT_kind iT_at iT_number jT_name iT_next ++ (WM hM aM kM iM_stands iM_variables iM_rows iM_goals iM_differents iM_cases fM_from fM_to fM_whole fM_ways iM_plainRows fM_plainRow fM_kept fM_goalOver fM_goalUnder fM_goalMax fM_different))))) (va_A (WL hL aL kL hT hM (.ref dF_tree) iL_names gL_key fL_kind fL_one fL_two fL_base iL_params fL_paramOver dL_paramOver nL_params fL_paramUnder dL_paramUnder nL_pu gL_over gL_under fL_bound iL_nameAt iL_startAt iL_steps jL_scaleOver jL_scaleUnder ++ (WF hF aF kF dF_tree nF_tree fF_tree ++ (WT hT aT kT fT_tape dT_tape nT_tape iT_length iT_fault iT_place iT_kind iT_at iT_number jT_name iT_next ++ (WM hM aM kM iM_stands iM_variables iM_rows iM_goals iM_differents iM_cases fM_from fM_to fM_whole fM_ways iM_plainRows fM_plainRow fM_kept fM_goalOver fM_goalUnder fM_goalMax fM_different)))) sz)) 1 6 (va_A (WL hL aL kL hT hM (.ref dF_tree) iL_names gL_key fL_kind fL_one fL_two fL_base iL_params fL_paramOver dL_paramOver nL_params fL_paramUnder dL_paramUnder nL_pu gL_over gL_under fL_bound iL_nameAt iL_startAt iL_steps jL_scaleOver jL_scaleUnder ++ (WF hF aF kF dF_tree nF_tree fF_tree ++ (WT hT aT kT fT_tape dT_tape nT_tape iT_length iT_fault iT_place iT_kind iT_at iT_number jT_name iT_next ++ (WM hM aM kM iM_stands iM_variables iM_rows iM_goals iM_differents iM_cases fM_from fM_to fM_whole fM_ways iM_plainRows fM_plainRow fM_kept fM_goalOver fM_goalUnder fM_goalMax fM_different)))) sz)
def Cm_X10_factor (l : Launch) (ev : Nat) : Prop := ∀ (dC : Nat → ClassId) (dI : Nat → Nat → Nat) (hL : Nat → Nat) (aL : Nat → Nat) (kL : Nat → ClassId) (hT : Nat → Nat) (hM : Nat → Nat) (iL_names : Int32) (gL_key : Nat → Int64) (fL_kind : Nat → Int32) (fL_one : Nat → Int32) (fL_two : Nat → Int32) (fL_base : Nat → Int32) (iL_params : Int32) (fL_paramOver : Nat → Int32) (dL_paramOver : Nat) (nL_params : Nat) (fL_paramUnder : Nat → Int32) (dL_paramUnder : Nat) (nL_pu : Nat) (gL_over : Nat → Int64) (gL_under : Nat → Int64) (fL_bound : Nat → Int32) (iL_nameAt : Int32) (iL_startAt : Int32) (iL_steps : Int32) (jL_scaleOver : Int64) (jL_scaleUnder : Int64) (hF : Nat → Nat) (aF : Nat → Nat) (kF : Nat → ClassId) (dF_tree : Nat) (nF_tree : Nat) (fF_tree : Nat → Int32) (aT : Nat → Nat) (kT : Nat → ClassId) (fT_tape : Nat → Int32) (dT_tape : Nat) (nT_tape : Nat) (iT_length : Int32) (iT_fault : Int32) (iT_place : Int32) (iT_kind : Int32) (iT_at : Int32) (iT_number : Int32) (jT_name : Int64) (iT_next : Int32) (aM : Nat → Nat) (kM : Nat → ClassId) (iM_stands : Int32) (iM_variables : Int32) (iM_rows : Int32) (iM_goals : Int32) (iM_differents : Int32) (iM_cases : Int32) (fM_from : Nat → Int32) (fM_to : Nat → Int32) (fM_whole : Nat → Int32) (fM_ways : Nat → Int32) (iM_plainRows : Int32) (fM_plainRow : Nat → Int32) (fM_kept : Nat → Int32) (fM_goalOver : Nat → Int32) (fM_goalUnder : Nat → Int32) (fM_goalMax : Nat → Int32) (fM_different : Nat → Int32) (V : Int → Nat → Nat → Prop) (lo : Int) (lv : Nat) (p1 : Int32) (p2 : Int32) (b_iL_names : 0 ≤ iL_names.toInt ∧ iL_names.toInt ≤ 40) (b_fL_kind : ∀ q : Nat, 0 ≤ (fL_kind q).toInt ∧ (fL_kind q).toInt ≤ 5) (b_fL_two : ∀ q : Nat, (-1) ≤ (fL_two q).toInt ∧ (fL_two q).toInt ≤ 39) (b_fL_base : ∀ q : Nat, 0 ≤ (fL_base q).toInt ∧ (fL_base q).toInt ≤ 2560) (b_iL_params : 0 ≤ iL_params.toInt ∧ iL_params.toInt ≤ 2560) (b_nL_params : 0 ≤ nL_params ∧ nL_params ≤ 2560) (b_nm : NmL iL_names fL_kind fL_one fL_two fL_base nL_params) (b_pm : iL_params.toInt ≤ ((nL_params : Nat) : Int)) (b_pu : nL_pu = nL_params) (b_nF_tree : 7 ≤ nF_tree ∧ nF_tree ≤ 72200) (b_fT_tape : ∀ q : Nat, (-128) ≤ (fT_tape q).toInt ∧ (fT_tape q).toInt ≤ 127) (b_nT_tape : 64 ≤ nT_tape ∧ nT_tape ≤ 2560) (b_iT_length : 0 ≤ iT_length.toInt ∧ iT_length.toInt ≤ 1280) (b_iT_at : 0 ≤ iT_at.toInt ∧ iT_at.toInt ≤ 1282) (b_iT_number : 0 ≤ iT_number.toInt ∧ iT_number.toInt ≤ 999999) (b_iT_next : 0 ≤ iT_next.toInt ∧ iT_next.toInt ≤ 1282) (b_len : iT_length.toInt ≤ ((nT_tape : Nat) : Int)) (b_iM_stands : 0 ≤ iM_stands.toInt ∧ iM_stands.toInt ≤ 1) (b_iM_variables : 0 ≤ iM_variables.toInt ∧ iM_variables.toInt ≤ 8) (b_iM_rows : 0 ≤ iM_rows.toInt ∧ iM_rows.toInt ≤ 12) (b_iM_goals : 0 ≤ iM_goals.toInt ∧ iM_goals.toInt ≤ 3) (b_iM_differents : 0 ≤ iM_differents.toInt ∧ iM_differents.toInt ≤ 8) (b_iM_cases : 0 ≤ iM_cases.toInt ∧ iM_cases.toInt ≤ 200000) (b_fM_ways : ∀ q : Nat, 0 ≤ (fM_ways q).toInt ∧ (fM_ways q).toInt ≤ 3) (b_iM_plainRows : 0 ≤ iM_plainRows.toInt ∧ iM_plainRows.toInt ≤ 12) (b_fM_plainRow : ∀ q : Nat, 0 ≤ (fM_plainRow q).toInt ∧ (fM_plainRow q).toInt ≤ 11) (b_pr : iM_plainRows.toInt ≤ iM_rows.toInt) (b_p2 : 0 ≤ p2.toInt ∧ p2.toInt ≤ 38) (hV : TrL V fF_tree fL_kind fL_one fL_two iL_names.toInt lo ((nF_tree : Nat) : Int)) (hn : V p1.toInt 3 lv) (hlv : lv + ev = 26) (hsl : p2.toInt ≤ (lv : Int) + 1) (sz : Nat), vx_Met l yX10_factor wsMX10_factor ({ frames := 12 * ev + 12, cells := 1, slots := 6, locals := 720 * ev + 287 }) (va_Pc [.ref (hL 0), .int p1, .int p2] (fun U => U.heap.size = sz ∧ va_P (dC, dI) vwCl (WL hL aL kL hT hM (.ref dF_tree) iL_names gL_key fL_kind fL_one fL_two fL_base iL_params fL_paramOver dL_paramOver nL_params fL_paramUnder dL_paramUnder nL_pu gL_over gL_under fL_bound iL_nameAt iL_startAt iL_steps jL_scaleOver jL_scaleUnder ++ (WF hF aF kF dF_tree nF_tree fF_tree ++ (WT hT aT kT fT_tape dT_tape nT_tape iT_length iT_fault iT_place iT_kind iT_at iT_number jT_name iT_next ++ (WM hM aM kM iM_stands iM_variables iM_rows iM_goals iM_differents iM_cases fM_from fM_to fM_whole fM_ways iM_plainRows fM_plainRow fM_kept fM_goalOver fM_goalUnder fM_goalMax fM_different)))) U.heap ∧ va_K (dC, dI) vwCl (tL kL ++ (tF kF ++ (tT kT ++ (tM kM)))) U ∧ va_D (fun _ => True) (WL hL aL kL hT hM (.ref dF_tree) iL_names gL_key fL_kind fL_one fL_two fL_base iL_params fL_paramOver dL_paramOver nL_params fL_paramUnder dL_paramUnder nL_pu gL_over gL_under fL_bound iL_nameAt iL_startAt iL_steps jL_scaleOver jL_scaleUnder ++ (WF hF aF kF dF_tree nF_tree fF_tree ++ (WT hT aT kT fT_tape dT_tape nT_tape iT_length iT_fault iT_place iT_kind iT_at iT_number jT_name iT_next ++ (WM hM aM kM iM_stands iM_variables iM_rows iM_goals iM_differents iM_cases fM_from fM_to fM_whole fM_ways iM_plainRows fM_plainRow fM_kept fM_goalOver fM_goalUnder fM_goalMax fM_different)))) ∧ CE (va_A (WL hL aL kL hT hM (.ref dF_tree) iL_names gL_key fL_kind fL_one fL_two fL_base iL_params fL_paramOver dL_paramOver nL_params fL_paramUnder dL_paramUnder nL_pu gL_over gL_under fL_bound iL_nameAt iL_startAt iL_steps jL_scaleOver jL_scaleUnder ++ (WF hF aF kF dF_tree nF_tree fF_tree ++ (WT hT aT kT fT_tape dT_tape nT_tape iT_length iT_fault iT_place iT_kind iT_at iT_number jT_name iT_next ++ (WM hM aM kM iM_stands iM_variables iM_rows iM_goals iM_differents iM_cases fM_from fM_to fM_whole fM_ways iM_plainRows fM_plainRow fM_kept fM_goalOver fM_goalUnder fM_goalMax fM_different)))) sz) U U.heap)) (va_Qv (fun (u : (Nat → Int64) × (Nat → Int64) × (Nat → Int32) × (Int32) × (Int32) × (Int32)) => True) (fun (u : (Nat → Int64) × (Nat → Int64) × (Nat → Int32) × (Int32) × (Int32) × (Int32)) t => va_P (dC, dI) vwCl (WL hL aL kL hT hM (.ref dF_tree) iL_names gL_key fL_kind fL_one fL_two fL_base iL_params fL_paramOver dL_paramOver nL_params fL_paramUnder dL_paramUnder nL_pu (u.1) (u.2.1) (u.2.2.1) iL_nameAt iL_startAt (u.2.2.2.1) jL_scaleOver jL_scaleUnder ++ (WF hF aF kF dF_tree nF_tree fF_tree ++ (WT hT aT kT fT_tape dT_tape nT_tape iT_length (u.2.2.2.2.1) (u.2.2.2.2.2) iT_kind iT_at iT_number jT_name iT_next ++ (WM hM aM kM iM_stands iM_variables iM_rows iM_goals iM_differents iM_cases fM_from fM_to fM_whole fM_ways iM_plainRows fM_plainRow fM_kept fM_goalOver fM_goalUnder fM_goalMax fM_different)))) t.heap ∧ va_D (va_A (WL hL aL kL hT hM (.ref dF_tree) iL_names gL_key fL_kind fL_one fL_two fL_base iL_params fL_paramOver dL_paramOver nL_params fL_paramUnder dL_paramUnder nL_pu gL_over gL_under fL_bound iL_nameAt iL_startAt iL_steps jL_scaleOver jL_scaleUnder ++ (WF hF aF kF dF_tree nF_tree fF_tree ++ (WT hT aT kT fT_tape dT_tape nT_tape iT_length iT_fault iT_place iT_kind iT_at iT_number jT_name iT_next ++ (WM hM aM kM iM_stands iM_variables iM_rows iM_goals iM_differents iM_cases fM_from fM_to fM_whole fM_ways iM_plainRows fM_plainRow fM_kept fM_goalOver fM_goalUnder fM_goalMax fM_different)))) sz) (WL hL aL kL hT hM (.ref dF_tree) iL_names gL_key fL_kind fL_one fL_two fL_base iL_params fL_paramOver dL_paramOver nL_params fL_paramUnder dL_paramUnder nL_pu (u.1) (u.2.1) (u.2.2.1) iL_nameAt iL_startAt (u.2.2.2.1) jL_scaleOver jL_scaleUnder ++ (WF hF aF kF dF_tree nF_tree fF_tree ++ (WT hT aT kT fT_tape dT_tape nT_tape iT_length (u.2.2.2.2.1) (u.2.2.2.2.2) iT_kind iT_at iT_number jT_name iT_next ++ (WM hM aM kM iM_stands iM_variables iM_rows iM_goals iM_differents iM_cases fM_from fM_to fM_whole fM_ways iM_plainRows fM_plainRow fM_kept fM_goalOver fM_goalUnder fM_goalMax fM_different)))) ∧ t.heap.size = sz) (va_A (WL hL aL kL hT hM (.ref dF_tree) iL_names gL_key fL_kind fL_one fL_two fL_base iL_params fL_paramOver dL_paramOver nL_params fL_paramUnder dL_paramUnder nL_pu gL_over gL_under fL_bound iL_nameAt iL_startAt iL_steps jL_scaleOver jL_scaleUnder ++ (WF hF aF kF dF_tree nF_tree fF_tree ++ (WT hT aT kT fT_tape dT_tape nT_tape iT_length iT_fault iT_place iT_kind iT_at iT_number jT_name iT_next ++ (WM hM aM kM iM_stands iM_variables iM_rows iM_goals iM_differents iM_cases fM_from fM_to fM_whole fM_ways iM_plainRows fM_plainRow fM_kept fM_goalOver fM_goalUnder fM_goalMax fM_different)))) sz)) (vx_X (fun (u : (Nat → Int64) × (Nat → Int64) × (Nat → Int32) × (Int32) × (Int32) × (Int32)) => True) (fun E (u : (Nat → Int64) × (Nat → Int64) × (Nat → Int32) × (Int32) × (Int32) × (Int32)) t => (E = "java/lang/IllegalArgumentException") ∧ va_P (dC, dI) vwCl (WL hL aL kL hT hM (.ref dF_tree) iL_names gL_key fL_kind fL_one fL_two fL_base iL_params fL_paramOver dL_paramOver nL_params fL_paramUnder dL_paramUnder nL_pu (u.1) (u.2.1) (u.2.2.1) iL_nameAt iL_startAt (u.2.2.2.1) jL_scaleOver jL_scaleUnder ++ (WF hF aF kF dF_tree nF_tree fF_tree ++ (WT hT aT kT fT_tape dT_tape nT_tape iT_length (u.2.2.2.2.1) (u.2.2.2.2.2) iT_kind iT_at iT_number jT_name iT_next ++ (WM hM aM kM iM_stands iM_variables iM_rows iM_goals iM_differents iM_cases fM_from fM_to fM_whole fM_ways iM_plainRows fM_plainRow fM_kept fM_goalOver fM_goalUnder fM_goalMax fM_different)))) t.heap ∧ va_D (va_A (WL hL aL kL hT hM (.ref dF_tree) iL_names gL_key fL_kind fL_one fL_two fL_base iL_params fL_paramOver dL_paramOver nL_params fL_paramUnder dL_paramUnder nL_pu gL_over gL_under fL_bound iL_nameAt iL_startAt iL_steps jL_scaleOver jL_scaleUnder ++ (WF hF aF kF dF_tree nF_tree fF_tree ++ (WT hT aT kT fT_tape dT_tape nT_tape iT_length iT_fault iT_place iT_kind iT_at iT_number jT_name iT_next ++ (WM hM aM kM iM_stands iM_variables iM_rows iM_goals iM_differents iM_cases fM_from fM_to fM_whole fM_ways iM_plainRows fM_plainRow fM_kept fM_goalOver fM_goalUnder fM_goalMax fM_different)))) sz) (WL hL aL kL hT hM (.ref dF_tree) iL_names gL_key fL_kind fL_one fL_two fL_base iL_params fL_paramOver dL_paramOver nL_params fL_paramUnder dL_paramUnder nL_pu (u.1) (u.2.1) (u.2.2.1) iL_nameAt iL_startAt (u.2.2.2.1) jL_scaleOver jL_scaleUnder ++ (WF hF aF kF dF_tree nF_tree fF_tree ++ (WT hT aT kT fT_tape dT_tape nT_tape iT_length (u.2.2.2.2.1) (u.2.2.2.2.2) iT_kind iT_at iT_number jT_name iT_next ++ (WM hM aM kM iM_stands iM_variables iM_rows iM_goals iM_differents iM_cases fM_from fM_to fM_whole fM_ways iM_plainRows fM_plainRow fM_kept fM_goalOver fM_goalUnder fM_goalMax fM_different))))) (va_A (WL hL aL kL hT hM (.ref dF_tree) iL_names gL_key fL_kind fL_one fL_two fL_base iL_params fL_paramOver dL_paramOver nL_params fL_paramUnder dL_paramUnder nL_pu gL_over gL_under fL_bound iL_nameAt iL_startAt iL_steps jL_scaleOver jL_scaleUnder ++ (WF hF aF kF dF_tree nF_tree fF_tree ++ (WT hT aT kT fT_tape dT_tape nT_tape iT_length iT_fault iT_place iT_kind iT_at iT_number jT_name iT_next ++ (WM hM aM kM iM_stands iM_variables iM_rows iM_goals iM_differents iM_cases fM_from fM_to fM_whole fM_ways iM_plainRows fM_plainRow fM_kept fM_goalOver fM_goalUnder fM_goalMax fM_different)))) sz)) 1 6 (va_A (WL hL aL kL hT hM (.ref dF_tree) iL_names gL_key fL_kind fL_one fL_two fL_base iL_params fL_paramOver dL_paramOver nL_params fL_paramUnder dL_paramUnder nL_pu gL_over gL_under fL_bound iL_nameAt iL_startAt iL_steps jL_scaleOver jL_scaleUnder ++ (WF hF aF kF dF_tree nF_tree fF_tree ++ (WT hT aT kT fT_tape dT_tape nT_tape iT_length iT_fault iT_place iT_kind iT_at iT_number jT_name iT_next ++ (WM hM aM kM iM_stands iM_variables iM_rows iM_goals iM_differents iM_cases fM_from fM_to fM_whole fM_ways iM_plainRows fM_plainRow fM_kept fM_goalOver fM_goalUnder fM_goalMax fM_different)))) sz)
def Cm_X10_lookUp (l : Launch) (ev : Nat) : Prop := ∀ (dC : Nat → ClassId) (dI : Nat → Nat → Nat) (hL : Nat → Nat) (aL : Nat → Nat) (kL : Nat → ClassId) (hT : Nat → Nat) (hM : Nat → Nat) (iL_names : Int32) (gL_key : Nat → Int64) (fL_kind : Nat → Int32) (fL_one : Nat → Int32) (fL_two : Nat → Int32) (fL_base : Nat → Int32) (iL_params : Int32) (fL_paramOver : Nat → Int32) (dL_paramOver : Nat) (nL_params : Nat) (fL_paramUnder : Nat → Int32) (dL_paramUnder : Nat) (nL_pu : Nat) (gL_over : Nat → Int64) (gL_under : Nat → Int64) (fL_bound : Nat → Int32) (iL_nameAt : Int32) (iL_startAt : Int32) (iL_steps : Int32) (jL_scaleOver : Int64) (jL_scaleUnder : Int64) (hF : Nat → Nat) (aF : Nat → Nat) (kF : Nat → ClassId) (dF_tree : Nat) (nF_tree : Nat) (fF_tree : Nat → Int32) (aT : Nat → Nat) (kT : Nat → ClassId) (fT_tape : Nat → Int32) (dT_tape : Nat) (nT_tape : Nat) (iT_length : Int32) (iT_fault : Int32) (iT_place : Int32) (iT_kind : Int32) (iT_at : Int32) (iT_number : Int32) (jT_name : Int64) (iT_next : Int32) (aM : Nat → Nat) (kM : Nat → ClassId) (iM_stands : Int32) (iM_variables : Int32) (iM_rows : Int32) (iM_goals : Int32) (iM_differents : Int32) (iM_cases : Int32) (fM_from : Nat → Int32) (fM_to : Nat → Int32) (fM_whole : Nat → Int32) (fM_ways : Nat → Int32) (iM_plainRows : Int32) (fM_plainRow : Nat → Int32) (fM_kept : Nat → Int32) (fM_goalOver : Nat → Int32) (fM_goalUnder : Nat → Int32) (fM_goalMax : Nat → Int32) (fM_different : Nat → Int32) (V : Int → Nat → Nat → Prop) (lo : Int) (lv : Nat) (p1 : Int32) (p2 : Int32) (b_iL_names : 0 ≤ iL_names.toInt ∧ iL_names.toInt ≤ 40) (b_fL_kind : ∀ q : Nat, 0 ≤ (fL_kind q).toInt ∧ (fL_kind q).toInt ≤ 5) (b_fL_two : ∀ q : Nat, (-1) ≤ (fL_two q).toInt ∧ (fL_two q).toInt ≤ 39) (b_fL_base : ∀ q : Nat, 0 ≤ (fL_base q).toInt ∧ (fL_base q).toInt ≤ 2560) (b_iL_params : 0 ≤ iL_params.toInt ∧ iL_params.toInt ≤ 2560) (b_nL_params : 0 ≤ nL_params ∧ nL_params ≤ 2560) (b_nm : NmL iL_names fL_kind fL_one fL_two fL_base nL_params) (b_pm : iL_params.toInt ≤ ((nL_params : Nat) : Int)) (b_pu : nL_pu = nL_params) (b_nF_tree : 7 ≤ nF_tree ∧ nF_tree ≤ 72200) (b_fT_tape : ∀ q : Nat, (-128) ≤ (fT_tape q).toInt ∧ (fT_tape q).toInt ≤ 127) (b_nT_tape : 64 ≤ nT_tape ∧ nT_tape ≤ 2560) (b_iT_length : 0 ≤ iT_length.toInt ∧ iT_length.toInt ≤ 1280) (b_iT_at : 0 ≤ iT_at.toInt ∧ iT_at.toInt ≤ 1282) (b_iT_number : 0 ≤ iT_number.toInt ∧ iT_number.toInt ≤ 999999) (b_iT_next : 0 ≤ iT_next.toInt ∧ iT_next.toInt ≤ 1282) (b_len : iT_length.toInt ≤ ((nT_tape : Nat) : Int)) (b_iM_stands : 0 ≤ iM_stands.toInt ∧ iM_stands.toInt ≤ 1) (b_iM_variables : 0 ≤ iM_variables.toInt ∧ iM_variables.toInt ≤ 8) (b_iM_rows : 0 ≤ iM_rows.toInt ∧ iM_rows.toInt ≤ 12) (b_iM_goals : 0 ≤ iM_goals.toInt ∧ iM_goals.toInt ≤ 3) (b_iM_differents : 0 ≤ iM_differents.toInt ∧ iM_differents.toInt ≤ 8) (b_iM_cases : 0 ≤ iM_cases.toInt ∧ iM_cases.toInt ≤ 200000) (b_fM_ways : ∀ q : Nat, 0 ≤ (fM_ways q).toInt ∧ (fM_ways q).toInt ≤ 3) (b_iM_plainRows : 0 ≤ iM_plainRows.toInt ∧ iM_plainRows.toInt ≤ 12) (b_fM_plainRow : ∀ q : Nat, 0 ≤ (fM_plainRow q).toInt ∧ (fM_plainRow q).toInt ≤ 11) (b_pr : iM_plainRows.toInt ≤ iM_rows.toInt) (b_p2 : 0 ≤ p2.toInt ∧ p2.toInt ≤ 38) (hV : TrL V fF_tree fL_kind fL_one fL_two iL_names.toInt lo ((nF_tree : Nat) : Int)) (hn : V p1.toInt 3 lv) (hlv : lv + ev = 26) (hsl : p2.toInt ≤ (lv : Int) + 1) (hk5 : twL fF_tree p1.toInt = 5) (sz : Nat), vx_Met l yX10_lookUp wsMX10_lookUp ({ frames := 12 * ev + 11, cells := 1, slots := 6, locals := 720 * ev + 227 }) (va_Pc [.ref (hL 0), .int p1, .int p2] (fun U => U.heap.size = sz ∧ va_P (dC, dI) vwCl (WL hL aL kL hT hM (.ref dF_tree) iL_names gL_key fL_kind fL_one fL_two fL_base iL_params fL_paramOver dL_paramOver nL_params fL_paramUnder dL_paramUnder nL_pu gL_over gL_under fL_bound iL_nameAt iL_startAt iL_steps jL_scaleOver jL_scaleUnder ++ (WF hF aF kF dF_tree nF_tree fF_tree ++ (WT hT aT kT fT_tape dT_tape nT_tape iT_length iT_fault iT_place iT_kind iT_at iT_number jT_name iT_next ++ (WM hM aM kM iM_stands iM_variables iM_rows iM_goals iM_differents iM_cases fM_from fM_to fM_whole fM_ways iM_plainRows fM_plainRow fM_kept fM_goalOver fM_goalUnder fM_goalMax fM_different)))) U.heap ∧ va_K (dC, dI) vwCl (tL kL ++ (tF kF ++ (tT kT ++ (tM kM)))) U ∧ va_D (fun _ => True) (WL hL aL kL hT hM (.ref dF_tree) iL_names gL_key fL_kind fL_one fL_two fL_base iL_params fL_paramOver dL_paramOver nL_params fL_paramUnder dL_paramUnder nL_pu gL_over gL_under fL_bound iL_nameAt iL_startAt iL_steps jL_scaleOver jL_scaleUnder ++ (WF hF aF kF dF_tree nF_tree fF_tree ++ (WT hT aT kT fT_tape dT_tape nT_tape iT_length iT_fault iT_place iT_kind iT_at iT_number jT_name iT_next ++ (WM hM aM kM iM_stands iM_variables iM_rows iM_goals iM_differents iM_cases fM_from fM_to fM_whole fM_ways iM_plainRows fM_plainRow fM_kept fM_goalOver fM_goalUnder fM_goalMax fM_different)))) ∧ CE (va_A (WL hL aL kL hT hM (.ref dF_tree) iL_names gL_key fL_kind fL_one fL_two fL_base iL_params fL_paramOver dL_paramOver nL_params fL_paramUnder dL_paramUnder nL_pu gL_over gL_under fL_bound iL_nameAt iL_startAt iL_steps jL_scaleOver jL_scaleUnder ++ (WF hF aF kF dF_tree nF_tree fF_tree ++ (WT hT aT kT fT_tape dT_tape nT_tape iT_length iT_fault iT_place iT_kind iT_at iT_number jT_name iT_next ++ (WM hM aM kM iM_stands iM_variables iM_rows iM_goals iM_differents iM_cases fM_from fM_to fM_whole fM_ways iM_plainRows fM_plainRow fM_kept fM_goalOver fM_goalUnder fM_goalMax fM_different)))) sz) U U.heap)) (va_Qv (fun (u : (Nat → Int64) × (Nat → Int64) × (Nat → Int32) × (Int32) × (Int32) × (Int32)) => True) (fun (u : (Nat → Int64) × (Nat → Int64) × (Nat → Int32) × (Int32) × (Int32) × (Int32)) t => va_P (dC, dI) vwCl (WL hL aL kL hT hM (.ref dF_tree) iL_names gL_key fL_kind fL_one fL_two fL_base iL_params fL_paramOver dL_paramOver nL_params fL_paramUnder dL_paramUnder nL_pu (u.1) (u.2.1) (u.2.2.1) iL_nameAt iL_startAt (u.2.2.2.1) jL_scaleOver jL_scaleUnder ++ (WF hF aF kF dF_tree nF_tree fF_tree ++ (WT hT aT kT fT_tape dT_tape nT_tape iT_length (u.2.2.2.2.1) (u.2.2.2.2.2) iT_kind iT_at iT_number jT_name iT_next ++ (WM hM aM kM iM_stands iM_variables iM_rows iM_goals iM_differents iM_cases fM_from fM_to fM_whole fM_ways iM_plainRows fM_plainRow fM_kept fM_goalOver fM_goalUnder fM_goalMax fM_different)))) t.heap ∧ va_D (va_A (WL hL aL kL hT hM (.ref dF_tree) iL_names gL_key fL_kind fL_one fL_two fL_base iL_params fL_paramOver dL_paramOver nL_params fL_paramUnder dL_paramUnder nL_pu gL_over gL_under fL_bound iL_nameAt iL_startAt iL_steps jL_scaleOver jL_scaleUnder ++ (WF hF aF kF dF_tree nF_tree fF_tree ++ (WT hT aT kT fT_tape dT_tape nT_tape iT_length iT_fault iT_place iT_kind iT_at iT_number jT_name iT_next ++ (WM hM aM kM iM_stands iM_variables iM_rows iM_goals iM_differents iM_cases fM_from fM_to fM_whole fM_ways iM_plainRows fM_plainRow fM_kept fM_goalOver fM_goalUnder fM_goalMax fM_different)))) sz) (WL hL aL kL hT hM (.ref dF_tree) iL_names gL_key fL_kind fL_one fL_two fL_base iL_params fL_paramOver dL_paramOver nL_params fL_paramUnder dL_paramUnder nL_pu (u.1) (u.2.1) (u.2.2.1) iL_nameAt iL_startAt (u.2.2.2.1) jL_scaleOver jL_scaleUnder ++ (WF hF aF kF dF_tree nF_tree fF_tree ++ (WT hT aT kT fT_tape dT_tape nT_tape iT_length (u.2.2.2.2.1) (u.2.2.2.2.2) iT_kind iT_at iT_number jT_name iT_next ++ (WM hM aM kM iM_stands iM_variables iM_rows iM_goals iM_differents iM_cases fM_from fM_to fM_whole fM_ways iM_plainRows fM_plainRow fM_kept fM_goalOver fM_goalUnder fM_goalMax fM_different)))) ∧ t.heap.size = sz) (va_A (WL hL aL kL hT hM (.ref dF_tree) iL_names gL_key fL_kind fL_one fL_two fL_base iL_params fL_paramOver dL_paramOver nL_params fL_paramUnder dL_paramUnder nL_pu gL_over gL_under fL_bound iL_nameAt iL_startAt iL_steps jL_scaleOver jL_scaleUnder ++ (WF hF aF kF dF_tree nF_tree fF_tree ++ (WT hT aT kT fT_tape dT_tape nT_tape iT_length iT_fault iT_place iT_kind iT_at iT_number jT_name iT_next ++ (WM hM aM kM iM_stands iM_variables iM_rows iM_goals iM_differents iM_cases fM_from fM_to fM_whole fM_ways iM_plainRows fM_plainRow fM_kept fM_goalOver fM_goalUnder fM_goalMax fM_different)))) sz)) (vx_X (fun (u : (Nat → Int64) × (Nat → Int64) × (Nat → Int32) × (Int32) × (Int32) × (Int32)) => True) (fun E (u : (Nat → Int64) × (Nat → Int64) × (Nat → Int32) × (Int32) × (Int32) × (Int32)) t => (E = "java/lang/IllegalArgumentException") ∧ va_P (dC, dI) vwCl (WL hL aL kL hT hM (.ref dF_tree) iL_names gL_key fL_kind fL_one fL_two fL_base iL_params fL_paramOver dL_paramOver nL_params fL_paramUnder dL_paramUnder nL_pu (u.1) (u.2.1) (u.2.2.1) iL_nameAt iL_startAt (u.2.2.2.1) jL_scaleOver jL_scaleUnder ++ (WF hF aF kF dF_tree nF_tree fF_tree ++ (WT hT aT kT fT_tape dT_tape nT_tape iT_length (u.2.2.2.2.1) (u.2.2.2.2.2) iT_kind iT_at iT_number jT_name iT_next ++ (WM hM aM kM iM_stands iM_variables iM_rows iM_goals iM_differents iM_cases fM_from fM_to fM_whole fM_ways iM_plainRows fM_plainRow fM_kept fM_goalOver fM_goalUnder fM_goalMax fM_different)))) t.heap ∧ va_D (va_A (WL hL aL kL hT hM (.ref dF_tree) iL_names gL_key fL_kind fL_one fL_two fL_base iL_params fL_paramOver dL_paramOver nL_params fL_paramUnder dL_paramUnder nL_pu gL_over gL_under fL_bound iL_nameAt iL_startAt iL_steps jL_scaleOver jL_scaleUnder ++ (WF hF aF kF dF_tree nF_tree fF_tree ++ (WT hT aT kT fT_tape dT_tape nT_tape iT_length iT_fault iT_place iT_kind iT_at iT_number jT_name iT_next ++ (WM hM aM kM iM_stands iM_variables iM_rows iM_goals iM_differents iM_cases fM_from fM_to fM_whole fM_ways iM_plainRows fM_plainRow fM_kept fM_goalOver fM_goalUnder fM_goalMax fM_different)))) sz) (WL hL aL kL hT hM (.ref dF_tree) iL_names gL_key fL_kind fL_one fL_two fL_base iL_params fL_paramOver dL_paramOver nL_params fL_paramUnder dL_paramUnder nL_pu (u.1) (u.2.1) (u.2.2.1) iL_nameAt iL_startAt (u.2.2.2.1) jL_scaleOver jL_scaleUnder ++ (WF hF aF kF dF_tree nF_tree fF_tree ++ (WT hT aT kT fT_tape dT_tape nT_tape iT_length (u.2.2.2.2.1) (u.2.2.2.2.2) iT_kind iT_at iT_number jT_name iT_next ++ (WM hM aM kM iM_stands iM_variables iM_rows iM_goals iM_differents iM_cases fM_from fM_to fM_whole fM_ways iM_plainRows fM_plainRow fM_kept fM_goalOver fM_goalUnder fM_goalMax fM_different))))) (va_A (WL hL aL kL hT hM (.ref dF_tree) iL_names gL_key fL_kind fL_one fL_two fL_base iL_params fL_paramOver dL_paramOver nL_params fL_paramUnder dL_paramUnder nL_pu gL_over gL_under fL_bound iL_nameAt iL_startAt iL_steps jL_scaleOver jL_scaleUnder ++ (WF hF aF kF dF_tree nF_tree fF_tree ++ (WT hT aT kT fT_tape dT_tape nT_tape iT_length iT_fault iT_place iT_kind iT_at iT_number jT_name iT_next ++ (WM hM aM kM iM_stands iM_variables iM_rows iM_goals iM_differents iM_cases fM_from fM_to fM_whole fM_ways iM_plainRows fM_plainRow fM_kept fM_goalOver fM_goalUnder fM_goalMax fM_different)))) sz)) 1 6 (va_A (WL hL aL kL hT hM (.ref dF_tree) iL_names gL_key fL_kind fL_one fL_two fL_base iL_params fL_paramOver dL_paramOver nL_params fL_paramUnder dL_paramUnder nL_pu gL_over gL_under fL_bound iL_nameAt iL_startAt iL_steps jL_scaleOver jL_scaleUnder ++ (WF hF aF kF dF_tree nF_tree fF_tree ++ (WT hT aT kT fT_tape dT_tape nT_tape iT_length iT_fault iT_place iT_kind iT_at iT_number jT_name iT_next ++ (WM hM aM kM iM_stands iM_variables iM_rows iM_goals iM_differents iM_cases fM_from fM_to fM_whole fM_ways iM_plainRows fM_plainRow fM_kept fM_goalOver fM_goalUnder fM_goalMax fM_different)))) sz)
def Cm_X10_place (l : Launch) (ev : Nat) : Prop := ∀ (dC : Nat → ClassId) (dI : Nat → Nat → Nat) (hL : Nat → Nat) (aL : Nat → Nat) (kL : Nat → ClassId) (hT : Nat → Nat) (hM : Nat → Nat) (iL_names : Int32) (gL_key : Nat → Int64) (fL_kind : Nat → Int32) (fL_one : Nat → Int32) (fL_two : Nat → Int32) (fL_base : Nat → Int32) (iL_params : Int32) (fL_paramOver : Nat → Int32) (dL_paramOver : Nat) (nL_params : Nat) (fL_paramUnder : Nat → Int32) (dL_paramUnder : Nat) (nL_pu : Nat) (gL_over : Nat → Int64) (gL_under : Nat → Int64) (fL_bound : Nat → Int32) (iL_nameAt : Int32) (iL_startAt : Int32) (iL_steps : Int32) (jL_scaleOver : Int64) (jL_scaleUnder : Int64) (hF : Nat → Nat) (aF : Nat → Nat) (kF : Nat → ClassId) (dF_tree : Nat) (nF_tree : Nat) (fF_tree : Nat → Int32) (aT : Nat → Nat) (kT : Nat → ClassId) (fT_tape : Nat → Int32) (dT_tape : Nat) (nT_tape : Nat) (iT_length : Int32) (iT_fault : Int32) (iT_place : Int32) (iT_kind : Int32) (iT_at : Int32) (iT_number : Int32) (jT_name : Int64) (iT_next : Int32) (aM : Nat → Nat) (kM : Nat → ClassId) (iM_stands : Int32) (iM_variables : Int32) (iM_rows : Int32) (iM_goals : Int32) (iM_differents : Int32) (iM_cases : Int32) (fM_from : Nat → Int32) (fM_to : Nat → Int32) (fM_whole : Nat → Int32) (fM_ways : Nat → Int32) (iM_plainRows : Int32) (fM_plainRow : Nat → Int32) (fM_kept : Nat → Int32) (fM_goalOver : Nat → Int32) (fM_goalUnder : Nat → Int32) (fM_goalMax : Nat → Int32) (fM_different : Nat → Int32) (V : Int → Nat → Nat → Prop) (lo : Int) (lv : Nat) (p1 : Int32) (p2 : Int32) (p3 : Int32) (b_iL_names : 0 ≤ iL_names.toInt ∧ iL_names.toInt ≤ 40) (b_fL_kind : ∀ q : Nat, 0 ≤ (fL_kind q).toInt ∧ (fL_kind q).toInt ≤ 5) (b_fL_two : ∀ q : Nat, (-1) ≤ (fL_two q).toInt ∧ (fL_two q).toInt ≤ 39) (b_fL_base : ∀ q : Nat, 0 ≤ (fL_base q).toInt ∧ (fL_base q).toInt ≤ 2560) (b_iL_params : 0 ≤ iL_params.toInt ∧ iL_params.toInt ≤ 2560) (b_nL_params : 0 ≤ nL_params ∧ nL_params ≤ 2560) (b_nm : NmL iL_names fL_kind fL_one fL_two fL_base nL_params) (b_pm : iL_params.toInt ≤ ((nL_params : Nat) : Int)) (b_pu : nL_pu = nL_params) (b_nF_tree : 7 ≤ nF_tree ∧ nF_tree ≤ 72200) (b_fT_tape : ∀ q : Nat, (-128) ≤ (fT_tape q).toInt ∧ (fT_tape q).toInt ≤ 127) (b_nT_tape : 64 ≤ nT_tape ∧ nT_tape ≤ 2560) (b_iT_length : 0 ≤ iT_length.toInt ∧ iT_length.toInt ≤ 1280) (b_iT_at : 0 ≤ iT_at.toInt ∧ iT_at.toInt ≤ 1282) (b_iT_number : 0 ≤ iT_number.toInt ∧ iT_number.toInt ≤ 999999) (b_iT_next : 0 ≤ iT_next.toInt ∧ iT_next.toInt ≤ 1282) (b_len : iT_length.toInt ≤ ((nT_tape : Nat) : Int)) (b_iM_stands : 0 ≤ iM_stands.toInt ∧ iM_stands.toInt ≤ 1) (b_iM_variables : 0 ≤ iM_variables.toInt ∧ iM_variables.toInt ≤ 8) (b_iM_rows : 0 ≤ iM_rows.toInt ∧ iM_rows.toInt ≤ 12) (b_iM_goals : 0 ≤ iM_goals.toInt ∧ iM_goals.toInt ≤ 3) (b_iM_differents : 0 ≤ iM_differents.toInt ∧ iM_differents.toInt ≤ 8) (b_iM_cases : 0 ≤ iM_cases.toInt ∧ iM_cases.toInt ≤ 200000) (b_fM_ways : ∀ q : Nat, 0 ≤ (fM_ways q).toInt ∧ (fM_ways q).toInt ≤ 3) (b_iM_plainRows : 0 ≤ iM_plainRows.toInt ∧ iM_plainRows.toInt ≤ 12) (b_fM_plainRow : ∀ q : Nat, 0 ≤ (fM_plainRow q).toInt ∧ (fM_plainRow q).toInt ≤ 11) (b_pr : iM_plainRows.toInt ≤ iM_rows.toInt) (b_p3 : 0 ≤ p3.toInt ∧ p3.toInt ≤ 38) (hV : TrL V fF_tree fL_kind fL_one fL_two iL_names.toInt lo ((nF_tree : Nat) : Int)) (hn : V p1.toInt 1 lv) (hlv : lv + ev = 26) (hst2 : StL fL_kind fL_two iL_names.toInt p2.toInt) (hsl : p3.toInt ≤ (lv : Int)) (sz : Nat), vx_Met l yX10_place wsMX10_place ({ frames := 12 * ev + 14, cells := 1, slots := 6, locals := 720 * ev + 407 }) (va_Pc [.ref (hL 0), .int p1, .int p2, .int p3] (fun U => U.heap.size = sz ∧ va_P (dC, dI) vwCl (WL hL aL kL hT hM (.ref dF_tree) iL_names gL_key fL_kind fL_one fL_two fL_base iL_params fL_paramOver dL_paramOver nL_params fL_paramUnder dL_paramUnder nL_pu gL_over gL_under fL_bound iL_nameAt iL_startAt iL_steps jL_scaleOver jL_scaleUnder ++ (WF hF aF kF dF_tree nF_tree fF_tree ++ (WT hT aT kT fT_tape dT_tape nT_tape iT_length iT_fault iT_place iT_kind iT_at iT_number jT_name iT_next ++ (WM hM aM kM iM_stands iM_variables iM_rows iM_goals iM_differents iM_cases fM_from fM_to fM_whole fM_ways iM_plainRows fM_plainRow fM_kept fM_goalOver fM_goalUnder fM_goalMax fM_different)))) U.heap ∧ va_K (dC, dI) vwCl (tL kL ++ (tF kF ++ (tT kT ++ (tM kM)))) U ∧ va_D (fun _ => True) (WL hL aL kL hT hM (.ref dF_tree) iL_names gL_key fL_kind fL_one fL_two fL_base iL_params fL_paramOver dL_paramOver nL_params fL_paramUnder dL_paramUnder nL_pu gL_over gL_under fL_bound iL_nameAt iL_startAt iL_steps jL_scaleOver jL_scaleUnder ++ (WF hF aF kF dF_tree nF_tree fF_tree ++ (WT hT aT kT fT_tape dT_tape nT_tape iT_length iT_fault iT_place iT_kind iT_at iT_number jT_name iT_next ++ (WM hM aM kM iM_stands iM_variables iM_rows iM_goals iM_differents iM_cases fM_from fM_to fM_whole fM_ways iM_plainRows fM_plainRow fM_kept fM_goalOver fM_goalUnder fM_goalMax fM_different)))) ∧ CE (va_A (WL hL aL kL hT hM (.ref dF_tree) iL_names gL_key fL_kind fL_one fL_two fL_base iL_params fL_paramOver dL_paramOver nL_params fL_paramUnder dL_paramUnder nL_pu gL_over gL_under fL_bound iL_nameAt iL_startAt iL_steps jL_scaleOver jL_scaleUnder ++ (WF hF aF kF dF_tree nF_tree fF_tree ++ (WT hT aT kT fT_tape dT_tape nT_tape iT_length iT_fault iT_place iT_kind iT_at iT_number jT_name iT_next ++ (WM hM aM kM iM_stands iM_variables iM_rows iM_goals iM_differents iM_cases fM_from fM_to fM_whole fM_ways iM_plainRows fM_plainRow fM_kept fM_goalOver fM_goalUnder fM_goalMax fM_different)))) sz) U U.heap)) (va_Qi (fun (r : Int32) (u : (Nat → Int64) × (Nat → Int64) × (Nat → Int32) × (Int32) × (Int32) × (Int32)) => (0 ≤ r.toInt ∧ r.toInt ≤ 11) ∧ (r.toInt < twL fL_two p2.toInt)) (fun (u : (Nat → Int64) × (Nat → Int64) × (Nat → Int32) × (Int32) × (Int32) × (Int32)) t => va_P (dC, dI) vwCl (WL hL aL kL hT hM (.ref dF_tree) iL_names gL_key fL_kind fL_one fL_two fL_base iL_params fL_paramOver dL_paramOver nL_params fL_paramUnder dL_paramUnder nL_pu (u.1) (u.2.1) (u.2.2.1) iL_nameAt iL_startAt (u.2.2.2.1) jL_scaleOver jL_scaleUnder ++ (WF hF aF kF dF_tree nF_tree fF_tree ++ (WT hT aT kT fT_tape dT_tape nT_tape iT_length (u.2.2.2.2.1) (u.2.2.2.2.2) iT_kind iT_at iT_number jT_name iT_next ++ (WM hM aM kM iM_stands iM_variables iM_rows iM_goals iM_differents iM_cases fM_from fM_to fM_whole fM_ways iM_plainRows fM_plainRow fM_kept fM_goalOver fM_goalUnder fM_goalMax fM_different)))) t.heap ∧ va_D (va_A (WL hL aL kL hT hM (.ref dF_tree) iL_names gL_key fL_kind fL_one fL_two fL_base iL_params fL_paramOver dL_paramOver nL_params fL_paramUnder dL_paramUnder nL_pu gL_over gL_under fL_bound iL_nameAt iL_startAt iL_steps jL_scaleOver jL_scaleUnder ++ (WF hF aF kF dF_tree nF_tree fF_tree ++ (WT hT aT kT fT_tape dT_tape nT_tape iT_length iT_fault iT_place iT_kind iT_at iT_number jT_name iT_next ++ (WM hM aM kM iM_stands iM_variables iM_rows iM_goals iM_differents iM_cases fM_from fM_to fM_whole fM_ways iM_plainRows fM_plainRow fM_kept fM_goalOver fM_goalUnder fM_goalMax fM_different)))) sz) (WL hL aL kL hT hM (.ref dF_tree) iL_names gL_key fL_kind fL_one fL_two fL_base iL_params fL_paramOver dL_paramOver nL_params fL_paramUnder dL_paramUnder nL_pu (u.1) (u.2.1) (u.2.2.1) iL_nameAt iL_startAt (u.2.2.2.1) jL_scaleOver jL_scaleUnder ++ (WF hF aF kF dF_tree nF_tree fF_tree ++ (WT hT aT kT fT_tape dT_tape nT_tape iT_length (u.2.2.2.2.1) (u.2.2.2.2.2) iT_kind iT_at iT_number jT_name iT_next ++ (WM hM aM kM iM_stands iM_variables iM_rows iM_goals iM_differents iM_cases fM_from fM_to fM_whole fM_ways iM_plainRows fM_plainRow fM_kept fM_goalOver fM_goalUnder fM_goalMax fM_different)))) ∧ t.heap.size = sz) (va_A (WL hL aL kL hT hM (.ref dF_tree) iL_names gL_key fL_kind fL_one fL_two fL_base iL_params fL_paramOver dL_paramOver nL_params fL_paramUnder dL_paramUnder nL_pu gL_over gL_under fL_bound iL_nameAt iL_startAt iL_steps jL_scaleOver jL_scaleUnder ++ (WF hF aF kF dF_tree nF_tree fF_tree ++ (WT hT aT kT fT_tape dT_tape nT_tape iT_length iT_fault iT_place iT_kind iT_at iT_number jT_name iT_next ++ (WM hM aM kM iM_stands iM_variables iM_rows iM_goals iM_differents iM_cases fM_from fM_to fM_whole fM_ways iM_plainRows fM_plainRow fM_kept fM_goalOver fM_goalUnder fM_goalMax fM_different)))) sz)) (vx_X (fun (u : (Nat → Int64) × (Nat → Int64) × (Nat → Int32) × (Int32) × (Int32) × (Int32)) => True) (fun E (u : (Nat → Int64) × (Nat → Int64) × (Nat → Int32) × (Int32) × (Int32) × (Int32)) t => (E = "java/lang/IllegalArgumentException") ∧ va_P (dC, dI) vwCl (WL hL aL kL hT hM (.ref dF_tree) iL_names gL_key fL_kind fL_one fL_two fL_base iL_params fL_paramOver dL_paramOver nL_params fL_paramUnder dL_paramUnder nL_pu (u.1) (u.2.1) (u.2.2.1) iL_nameAt iL_startAt (u.2.2.2.1) jL_scaleOver jL_scaleUnder ++ (WF hF aF kF dF_tree nF_tree fF_tree ++ (WT hT aT kT fT_tape dT_tape nT_tape iT_length (u.2.2.2.2.1) (u.2.2.2.2.2) iT_kind iT_at iT_number jT_name iT_next ++ (WM hM aM kM iM_stands iM_variables iM_rows iM_goals iM_differents iM_cases fM_from fM_to fM_whole fM_ways iM_plainRows fM_plainRow fM_kept fM_goalOver fM_goalUnder fM_goalMax fM_different)))) t.heap ∧ va_D (va_A (WL hL aL kL hT hM (.ref dF_tree) iL_names gL_key fL_kind fL_one fL_two fL_base iL_params fL_paramOver dL_paramOver nL_params fL_paramUnder dL_paramUnder nL_pu gL_over gL_under fL_bound iL_nameAt iL_startAt iL_steps jL_scaleOver jL_scaleUnder ++ (WF hF aF kF dF_tree nF_tree fF_tree ++ (WT hT aT kT fT_tape dT_tape nT_tape iT_length iT_fault iT_place iT_kind iT_at iT_number jT_name iT_next ++ (WM hM aM kM iM_stands iM_variables iM_rows iM_goals iM_differents iM_cases fM_from fM_to fM_whole fM_ways iM_plainRows fM_plainRow fM_kept fM_goalOver fM_goalUnder fM_goalMax fM_different)))) sz) (WL hL aL kL hT hM (.ref dF_tree) iL_names gL_key fL_kind fL_one fL_two fL_base iL_params fL_paramOver dL_paramOver nL_params fL_paramUnder dL_paramUnder nL_pu (u.1) (u.2.1) (u.2.2.1) iL_nameAt iL_startAt (u.2.2.2.1) jL_scaleOver jL_scaleUnder ++ (WF hF aF kF dF_tree nF_tree fF_tree ++ (WT hT aT kT fT_tape dT_tape nT_tape iT_length (u.2.2.2.2.1) (u.2.2.2.2.2) iT_kind iT_at iT_number jT_name iT_next ++ (WM hM aM kM iM_stands iM_variables iM_rows iM_goals iM_differents iM_cases fM_from fM_to fM_whole fM_ways iM_plainRows fM_plainRow fM_kept fM_goalOver fM_goalUnder fM_goalMax fM_different))))) (va_A (WL hL aL kL hT hM (.ref dF_tree) iL_names gL_key fL_kind fL_one fL_two fL_base iL_params fL_paramOver dL_paramOver nL_params fL_paramUnder dL_paramUnder nL_pu gL_over gL_under fL_bound iL_nameAt iL_startAt iL_steps jL_scaleOver jL_scaleUnder ++ (WF hF aF kF dF_tree nF_tree fF_tree ++ (WT hT aT kT fT_tape dT_tape nT_tape iT_length iT_fault iT_place iT_kind iT_at iT_number jT_name iT_next ++ (WM hM aM kM iM_stands iM_variables iM_rows iM_goals iM_differents iM_cases fM_from fM_to fM_whole fM_ways iM_plainRows fM_plainRow fM_kept fM_goalOver fM_goalUnder fM_goalMax fM_different)))) sz)) 1 6 (va_A (WL hL aL kL hT hM (.ref dF_tree) iL_names gL_key fL_kind fL_one fL_two fL_base iL_params fL_paramOver dL_paramOver nL_params fL_paramUnder dL_paramUnder nL_pu gL_over gL_under fL_bound iL_nameAt iL_startAt iL_steps jL_scaleOver jL_scaleUnder ++ (WF hF aF kF dF_tree nF_tree fF_tree ++ (WT hT aT kT fT_tape dT_tape nT_tape iT_length iT_fault iT_place iT_kind iT_at iT_number jT_name iT_next ++ (WM hM aM kM iM_stands iM_variables iM_rows iM_goals iM_differents iM_cases fM_from fM_to fM_whole fM_ways iM_plainRows fM_plainRow fM_kept fM_goalOver fM_goalUnder fM_goalMax fM_different)))) sz)
def Cm_X10_number (l : Launch) (ev : Nat) : Prop := ∀ (dC : Nat → ClassId) (dI : Nat → Nat → Nat) (hL : Nat → Nat) (aL : Nat → Nat) (kL : Nat → ClassId) (hT : Nat → Nat) (hM : Nat → Nat) (iL_names : Int32) (gL_key : Nat → Int64) (fL_kind : Nat → Int32) (fL_one : Nat → Int32) (fL_two : Nat → Int32) (fL_base : Nat → Int32) (iL_params : Int32) (fL_paramOver : Nat → Int32) (dL_paramOver : Nat) (nL_params : Nat) (fL_paramUnder : Nat → Int32) (dL_paramUnder : Nat) (nL_pu : Nat) (gL_over : Nat → Int64) (gL_under : Nat → Int64) (fL_bound : Nat → Int32) (iL_nameAt : Int32) (iL_startAt : Int32) (iL_steps : Int32) (jL_scaleOver : Int64) (jL_scaleUnder : Int64) (hF : Nat → Nat) (aF : Nat → Nat) (kF : Nat → ClassId) (dF_tree : Nat) (nF_tree : Nat) (fF_tree : Nat → Int32) (aT : Nat → Nat) (kT : Nat → ClassId) (fT_tape : Nat → Int32) (dT_tape : Nat) (nT_tape : Nat) (iT_length : Int32) (iT_fault : Int32) (iT_place : Int32) (iT_kind : Int32) (iT_at : Int32) (iT_number : Int32) (jT_name : Int64) (iT_next : Int32) (aM : Nat → Nat) (kM : Nat → ClassId) (iM_stands : Int32) (iM_variables : Int32) (iM_rows : Int32) (iM_goals : Int32) (iM_differents : Int32) (iM_cases : Int32) (fM_from : Nat → Int32) (fM_to : Nat → Int32) (fM_whole : Nat → Int32) (fM_ways : Nat → Int32) (iM_plainRows : Int32) (fM_plainRow : Nat → Int32) (fM_kept : Nat → Int32) (fM_goalOver : Nat → Int32) (fM_goalUnder : Nat → Int32) (fM_goalMax : Nat → Int32) (fM_different : Nat → Int32) (V : Int → Nat → Nat → Prop) (lo : Int) (lv : Nat) (p1 : Int32) (p2 : Int32) (b_iL_names : 0 ≤ iL_names.toInt ∧ iL_names.toInt ≤ 40) (b_fL_kind : ∀ q : Nat, 0 ≤ (fL_kind q).toInt ∧ (fL_kind q).toInt ≤ 5) (b_fL_two : ∀ q : Nat, (-1) ≤ (fL_two q).toInt ∧ (fL_two q).toInt ≤ 39) (b_fL_base : ∀ q : Nat, 0 ≤ (fL_base q).toInt ∧ (fL_base q).toInt ≤ 2560) (b_iL_params : 0 ≤ iL_params.toInt ∧ iL_params.toInt ≤ 2560) (b_nL_params : 0 ≤ nL_params ∧ nL_params ≤ 2560) (b_nm : NmL iL_names fL_kind fL_one fL_two fL_base nL_params) (b_pm : iL_params.toInt ≤ ((nL_params : Nat) : Int)) (b_pu : nL_pu = nL_params) (b_nF_tree : 7 ≤ nF_tree ∧ nF_tree ≤ 72200) (b_fT_tape : ∀ q : Nat, (-128) ≤ (fT_tape q).toInt ∧ (fT_tape q).toInt ≤ 127) (b_nT_tape : 64 ≤ nT_tape ∧ nT_tape ≤ 2560) (b_iT_length : 0 ≤ iT_length.toInt ∧ iT_length.toInt ≤ 1280) (b_iT_at : 0 ≤ iT_at.toInt ∧ iT_at.toInt ≤ 1282) (b_iT_number : 0 ≤ iT_number.toInt ∧ iT_number.toInt ≤ 999999) (b_iT_next : 0 ≤ iT_next.toInt ∧ iT_next.toInt ≤ 1282) (b_len : iT_length.toInt ≤ ((nT_tape : Nat) : Int)) (b_iM_stands : 0 ≤ iM_stands.toInt ∧ iM_stands.toInt ≤ 1) (b_iM_variables : 0 ≤ iM_variables.toInt ∧ iM_variables.toInt ≤ 8) (b_iM_rows : 0 ≤ iM_rows.toInt ∧ iM_rows.toInt ≤ 12) (b_iM_goals : 0 ≤ iM_goals.toInt ∧ iM_goals.toInt ≤ 3) (b_iM_differents : 0 ≤ iM_differents.toInt ∧ iM_differents.toInt ≤ 8) (b_iM_cases : 0 ≤ iM_cases.toInt ∧ iM_cases.toInt ≤ 200000) (b_fM_ways : ∀ q : Nat, 0 ≤ (fM_ways q).toInt ∧ (fM_ways q).toInt ≤ 3) (b_iM_plainRows : 0 ≤ iM_plainRows.toInt ∧ iM_plainRows.toInt ≤ 12) (b_fM_plainRow : ∀ q : Nat, 0 ≤ (fM_plainRow q).toInt ∧ (fM_plainRow q).toInt ≤ 11) (b_pr : iM_plainRows.toInt ≤ iM_rows.toInt) (b_p2 : 0 ≤ p2.toInt ∧ p2.toInt ≤ 38) (hV : TrL V fF_tree fL_kind fL_one fL_two iL_names.toInt lo ((nF_tree : Nat) : Int)) (hn : V p1.toInt 1 lv) (hlv : lv + ev = 26) (hsl : p2.toInt ≤ (lv : Int)) (sz : Nat), vx_Met l yX10_number wsMX10_number ({ frames := 12 * ev + 13, cells := 1, slots := 6, locals := 720 * ev + 347 }) (va_Pc [.ref (hL 0), .int p1, .int p2] (fun U => U.heap.size = sz ∧ va_P (dC, dI) vwCl (WL hL aL kL hT hM (.ref dF_tree) iL_names gL_key fL_kind fL_one fL_two fL_base iL_params fL_paramOver dL_paramOver nL_params fL_paramUnder dL_paramUnder nL_pu gL_over gL_under fL_bound iL_nameAt iL_startAt iL_steps jL_scaleOver jL_scaleUnder ++ (WF hF aF kF dF_tree nF_tree fF_tree ++ (WT hT aT kT fT_tape dT_tape nT_tape iT_length iT_fault iT_place iT_kind iT_at iT_number jT_name iT_next ++ (WM hM aM kM iM_stands iM_variables iM_rows iM_goals iM_differents iM_cases fM_from fM_to fM_whole fM_ways iM_plainRows fM_plainRow fM_kept fM_goalOver fM_goalUnder fM_goalMax fM_different)))) U.heap ∧ va_K (dC, dI) vwCl (tL kL ++ (tF kF ++ (tT kT ++ (tM kM)))) U ∧ va_D (fun _ => True) (WL hL aL kL hT hM (.ref dF_tree) iL_names gL_key fL_kind fL_one fL_two fL_base iL_params fL_paramOver dL_paramOver nL_params fL_paramUnder dL_paramUnder nL_pu gL_over gL_under fL_bound iL_nameAt iL_startAt iL_steps jL_scaleOver jL_scaleUnder ++ (WF hF aF kF dF_tree nF_tree fF_tree ++ (WT hT aT kT fT_tape dT_tape nT_tape iT_length iT_fault iT_place iT_kind iT_at iT_number jT_name iT_next ++ (WM hM aM kM iM_stands iM_variables iM_rows iM_goals iM_differents iM_cases fM_from fM_to fM_whole fM_ways iM_plainRows fM_plainRow fM_kept fM_goalOver fM_goalUnder fM_goalMax fM_different)))) ∧ CE (va_A (WL hL aL kL hT hM (.ref dF_tree) iL_names gL_key fL_kind fL_one fL_two fL_base iL_params fL_paramOver dL_paramOver nL_params fL_paramUnder dL_paramUnder nL_pu gL_over gL_under fL_bound iL_nameAt iL_startAt iL_steps jL_scaleOver jL_scaleUnder ++ (WF hF aF kF dF_tree nF_tree fF_tree ++ (WT hT aT kT fT_tape dT_tape nT_tape iT_length iT_fault iT_place iT_kind iT_at iT_number jT_name iT_next ++ (WM hM aM kM iM_stands iM_variables iM_rows iM_goals iM_differents iM_cases fM_from fM_to fM_whole fM_ways iM_plainRows fM_plainRow fM_kept fM_goalOver fM_goalUnder fM_goalMax fM_different)))) sz) U U.heap)) (va_Qv (fun (u : (Nat → Int64) × (Nat → Int64) × (Nat → Int32) × (Int32) × (Int32) × (Int32)) => True) (fun (u : (Nat → Int64) × (Nat → Int64) × (Nat → Int32) × (Int32) × (Int32) × (Int32)) t => va_P (dC, dI) vwCl (WL hL aL kL hT hM (.ref dF_tree) iL_names gL_key fL_kind fL_one fL_two fL_base iL_params fL_paramOver dL_paramOver nL_params fL_paramUnder dL_paramUnder nL_pu (u.1) (u.2.1) (u.2.2.1) iL_nameAt iL_startAt (u.2.2.2.1) jL_scaleOver jL_scaleUnder ++ (WF hF aF kF dF_tree nF_tree fF_tree ++ (WT hT aT kT fT_tape dT_tape nT_tape iT_length (u.2.2.2.2.1) (u.2.2.2.2.2) iT_kind iT_at iT_number jT_name iT_next ++ (WM hM aM kM iM_stands iM_variables iM_rows iM_goals iM_differents iM_cases fM_from fM_to fM_whole fM_ways iM_plainRows fM_plainRow fM_kept fM_goalOver fM_goalUnder fM_goalMax fM_different)))) t.heap ∧ va_D (va_A (WL hL aL kL hT hM (.ref dF_tree) iL_names gL_key fL_kind fL_one fL_two fL_base iL_params fL_paramOver dL_paramOver nL_params fL_paramUnder dL_paramUnder nL_pu gL_over gL_under fL_bound iL_nameAt iL_startAt iL_steps jL_scaleOver jL_scaleUnder ++ (WF hF aF kF dF_tree nF_tree fF_tree ++ (WT hT aT kT fT_tape dT_tape nT_tape iT_length iT_fault iT_place iT_kind iT_at iT_number jT_name iT_next ++ (WM hM aM kM iM_stands iM_variables iM_rows iM_goals iM_differents iM_cases fM_from fM_to fM_whole fM_ways iM_plainRows fM_plainRow fM_kept fM_goalOver fM_goalUnder fM_goalMax fM_different)))) sz) (WL hL aL kL hT hM (.ref dF_tree) iL_names gL_key fL_kind fL_one fL_two fL_base iL_params fL_paramOver dL_paramOver nL_params fL_paramUnder dL_paramUnder nL_pu (u.1) (u.2.1) (u.2.2.1) iL_nameAt iL_startAt (u.2.2.2.1) jL_scaleOver jL_scaleUnder ++ (WF hF aF kF dF_tree nF_tree fF_tree ++ (WT hT aT kT fT_tape dT_tape nT_tape iT_length (u.2.2.2.2.1) (u.2.2.2.2.2) iT_kind iT_at iT_number jT_name iT_next ++ (WM hM aM kM iM_stands iM_variables iM_rows iM_goals iM_differents iM_cases fM_from fM_to fM_whole fM_ways iM_plainRows fM_plainRow fM_kept fM_goalOver fM_goalUnder fM_goalMax fM_different)))) ∧ t.heap.size = sz) (va_A (WL hL aL kL hT hM (.ref dF_tree) iL_names gL_key fL_kind fL_one fL_two fL_base iL_params fL_paramOver dL_paramOver nL_params fL_paramUnder dL_paramUnder nL_pu gL_over gL_under fL_bound iL_nameAt iL_startAt iL_steps jL_scaleOver jL_scaleUnder ++ (WF hF aF kF dF_tree nF_tree fF_tree ++ (WT hT aT kT fT_tape dT_tape nT_tape iT_length iT_fault iT_place iT_kind iT_at iT_number jT_name iT_next ++ (WM hM aM kM iM_stands iM_variables iM_rows iM_goals iM_differents iM_cases fM_from fM_to fM_whole fM_ways iM_plainRows fM_plainRow fM_kept fM_goalOver fM_goalUnder fM_goalMax fM_different)))) sz)) (vx_X (fun (u : (Nat → Int64) × (Nat → Int64) × (Nat → Int32) × (Int32) × (Int32) × (Int32)) => True) (fun E (u : (Nat → Int64) × (Nat → Int64) × (Nat → Int32) × (Int32) × (Int32) × (Int32)) t => (E = "java/lang/IllegalArgumentException") ∧ va_P (dC, dI) vwCl (WL hL aL kL hT hM (.ref dF_tree) iL_names gL_key fL_kind fL_one fL_two fL_base iL_params fL_paramOver dL_paramOver nL_params fL_paramUnder dL_paramUnder nL_pu (u.1) (u.2.1) (u.2.2.1) iL_nameAt iL_startAt (u.2.2.2.1) jL_scaleOver jL_scaleUnder ++ (WF hF aF kF dF_tree nF_tree fF_tree ++ (WT hT aT kT fT_tape dT_tape nT_tape iT_length (u.2.2.2.2.1) (u.2.2.2.2.2) iT_kind iT_at iT_number jT_name iT_next ++ (WM hM aM kM iM_stands iM_variables iM_rows iM_goals iM_differents iM_cases fM_from fM_to fM_whole fM_ways iM_plainRows fM_plainRow fM_kept fM_goalOver fM_goalUnder fM_goalMax fM_different)))) t.heap ∧ va_D (va_A (WL hL aL kL hT hM (.ref dF_tree) iL_names gL_key fL_kind fL_one fL_two fL_base iL_params fL_paramOver dL_paramOver nL_params fL_paramUnder dL_paramUnder nL_pu gL_over gL_under fL_bound iL_nameAt iL_startAt iL_steps jL_scaleOver jL_scaleUnder ++ (WF hF aF kF dF_tree nF_tree fF_tree ++ (WT hT aT kT fT_tape dT_tape nT_tape iT_length iT_fault iT_place iT_kind iT_at iT_number jT_name iT_next ++ (WM hM aM kM iM_stands iM_variables iM_rows iM_goals iM_differents iM_cases fM_from fM_to fM_whole fM_ways iM_plainRows fM_plainRow fM_kept fM_goalOver fM_goalUnder fM_goalMax fM_different)))) sz) (WL hL aL kL hT hM (.ref dF_tree) iL_names gL_key fL_kind fL_one fL_two fL_base iL_params fL_paramOver dL_paramOver nL_params fL_paramUnder dL_paramUnder nL_pu (u.1) (u.2.1) (u.2.2.1) iL_nameAt iL_startAt (u.2.2.2.1) jL_scaleOver jL_scaleUnder ++ (WF hF aF kF dF_tree nF_tree fF_tree ++ (WT hT aT kT fT_tape dT_tape nT_tape iT_length (u.2.2.2.2.1) (u.2.2.2.2.2) iT_kind iT_at iT_number jT_name iT_next ++ (WM hM aM kM iM_stands iM_variables iM_rows iM_goals iM_differents iM_cases fM_from fM_to fM_whole fM_ways iM_plainRows fM_plainRow fM_kept fM_goalOver fM_goalUnder fM_goalMax fM_different))))) (va_A (WL hL aL kL hT hM (.ref dF_tree) iL_names gL_key fL_kind fL_one fL_two fL_base iL_params fL_paramOver dL_paramOver nL_params fL_paramUnder dL_paramUnder nL_pu gL_over gL_under fL_bound iL_nameAt iL_startAt iL_steps jL_scaleOver jL_scaleUnder ++ (WF hF aF kF dF_tree nF_tree fF_tree ++ (WT hT aT kT fT_tape dT_tape nT_tape iT_length iT_fault iT_place iT_kind iT_at iT_number jT_name iT_next ++ (WM hM aM kM iM_stands iM_variables iM_rows iM_goals iM_differents iM_cases fM_from fM_to fM_whole fM_ways iM_plainRows fM_plainRow fM_kept fM_goalOver fM_goalUnder fM_goalMax fM_different)))) sz)) 1 6 (va_A (WL hL aL kL hT hM (.ref dF_tree) iL_names gL_key fL_kind fL_one fL_two fL_base iL_params fL_paramOver dL_paramOver nL_params fL_paramUnder dL_paramUnder nL_pu gL_over gL_under fL_bound iL_nameAt iL_startAt iL_steps jL_scaleOver jL_scaleUnder ++ (WF hF aF kF dF_tree nF_tree fF_tree ++ (WT hT aT kT fT_tape dT_tape nT_tape iT_length iT_fault iT_place iT_kind iT_at iT_number jT_name iT_next ++ (WM hM aM kM iM_stands iM_variables iM_rows iM_goals iM_differents iM_cases fM_from fM_to fM_whole fM_ways iM_plainRows fM_plainRow fM_kept fM_goalOver fM_goalUnder fM_goalMax fM_different)))) sz)
def Cm_X10_sum (l : Launch) (ev : Nat) : Prop := ∀ (dC : Nat → ClassId) (dI : Nat → Nat → Nat) (hL : Nat → Nat) (aL : Nat → Nat) (kL : Nat → ClassId) (hT : Nat → Nat) (hM : Nat → Nat) (iL_names : Int32) (gL_key : Nat → Int64) (fL_kind : Nat → Int32) (fL_one : Nat → Int32) (fL_two : Nat → Int32) (fL_base : Nat → Int32) (iL_params : Int32) (fL_paramOver : Nat → Int32) (dL_paramOver : Nat) (nL_params : Nat) (fL_paramUnder : Nat → Int32) (dL_paramUnder : Nat) (nL_pu : Nat) (gL_over : Nat → Int64) (gL_under : Nat → Int64) (fL_bound : Nat → Int32) (iL_nameAt : Int32) (iL_startAt : Int32) (iL_steps : Int32) (jL_scaleOver : Int64) (jL_scaleUnder : Int64) (hF : Nat → Nat) (aF : Nat → Nat) (kF : Nat → ClassId) (dF_tree : Nat) (nF_tree : Nat) (fF_tree : Nat → Int32) (aT : Nat → Nat) (kT : Nat → ClassId) (fT_tape : Nat → Int32) (dT_tape : Nat) (nT_tape : Nat) (iT_length : Int32) (iT_fault : Int32) (iT_place : Int32) (iT_kind : Int32) (iT_at : Int32) (iT_number : Int32) (jT_name : Int64) (iT_next : Int32) (aM : Nat → Nat) (kM : Nat → ClassId) (iM_stands : Int32) (iM_variables : Int32) (iM_rows : Int32) (iM_goals : Int32) (iM_differents : Int32) (iM_cases : Int32) (fM_from : Nat → Int32) (fM_to : Nat → Int32) (fM_whole : Nat → Int32) (fM_ways : Nat → Int32) (iM_plainRows : Int32) (fM_plainRow : Nat → Int32) (fM_kept : Nat → Int32) (fM_goalOver : Nat → Int32) (fM_goalUnder : Nat → Int32) (fM_goalMax : Nat → Int32) (fM_different : Nat → Int32) (V : Int → Nat → Nat → Prop) (lo : Int) (lv : Nat) (p1 : Int32) (p2 : Int32) (b_iL_names : 0 ≤ iL_names.toInt ∧ iL_names.toInt ≤ 40) (b_fL_kind : ∀ q : Nat, 0 ≤ (fL_kind q).toInt ∧ (fL_kind q).toInt ≤ 5) (b_fL_two : ∀ q : Nat, (-1) ≤ (fL_two q).toInt ∧ (fL_two q).toInt ≤ 39) (b_fL_base : ∀ q : Nat, 0 ≤ (fL_base q).toInt ∧ (fL_base q).toInt ≤ 2560) (b_iL_params : 0 ≤ iL_params.toInt ∧ iL_params.toInt ≤ 2560) (b_nL_params : 0 ≤ nL_params ∧ nL_params ≤ 2560) (b_nm : NmL iL_names fL_kind fL_one fL_two fL_base nL_params) (b_pm : iL_params.toInt ≤ ((nL_params : Nat) : Int)) (b_pu : nL_pu = nL_params) (b_nF_tree : 7 ≤ nF_tree ∧ nF_tree ≤ 72200) (b_fT_tape : ∀ q : Nat, (-128) ≤ (fT_tape q).toInt ∧ (fT_tape q).toInt ≤ 127) (b_nT_tape : 64 ≤ nT_tape ∧ nT_tape ≤ 2560) (b_iT_length : 0 ≤ iT_length.toInt ∧ iT_length.toInt ≤ 1280) (b_iT_at : 0 ≤ iT_at.toInt ∧ iT_at.toInt ≤ 1282) (b_iT_number : 0 ≤ iT_number.toInt ∧ iT_number.toInt ≤ 999999) (b_iT_next : 0 ≤ iT_next.toInt ∧ iT_next.toInt ≤ 1282) (b_len : iT_length.toInt ≤ ((nT_tape : Nat) : Int)) (b_iM_stands : 0 ≤ iM_stands.toInt ∧ iM_stands.toInt ≤ 1) (b_iM_variables : 0 ≤ iM_variables.toInt ∧ iM_variables.toInt ≤ 8) (b_iM_rows : 0 ≤ iM_rows.toInt ∧ iM_rows.toInt ≤ 12) (b_iM_goals : 0 ≤ iM_goals.toInt ∧ iM_goals.toInt ≤ 3) (b_iM_differents : 0 ≤ iM_differents.toInt ∧ iM_differents.toInt ≤ 8) (b_iM_cases : 0 ≤ iM_cases.toInt ∧ iM_cases.toInt ≤ 200000) (b_fM_ways : ∀ q : Nat, 0 ≤ (fM_ways q).toInt ∧ (fM_ways q).toInt ≤ 3) (b_iM_plainRows : 0 ≤ iM_plainRows.toInt ∧ iM_plainRows.toInt ≤ 12) (b_fM_plainRow : ∀ q : Nat, 0 ≤ (fM_plainRow q).toInt ∧ (fM_plainRow q).toInt ≤ 11) (b_pr : iM_plainRows.toInt ≤ iM_rows.toInt) (b_p2 : 0 ≤ p2.toInt ∧ p2.toInt ≤ 38) (hV : TrL V fF_tree fL_kind fL_one fL_two iL_names.toInt lo ((nF_tree : Nat) : Int)) (hn : V p1.toInt 3 lv) (hlv : lv + ev = 26) (hsl : p2.toInt ≤ (lv : Int) + 1) (hk8 : twL fF_tree p1.toInt = 8) (sz : Nat), vx_Met l yX10_sum wsMX10_sum ({ frames := 12 * ev + 11, cells := 1, slots := 6, locals := 720 * ev + 227 }) (va_Pc [.ref (hL 0), .int p1, .int p2] (fun U => U.heap.size = sz ∧ va_P (dC, dI) vwCl (WL hL aL kL hT hM (.ref dF_tree) iL_names gL_key fL_kind fL_one fL_two fL_base iL_params fL_paramOver dL_paramOver nL_params fL_paramUnder dL_paramUnder nL_pu gL_over gL_under fL_bound iL_nameAt iL_startAt iL_steps jL_scaleOver jL_scaleUnder ++ (WF hF aF kF dF_tree nF_tree fF_tree ++ (WT hT aT kT fT_tape dT_tape nT_tape iT_length iT_fault iT_place iT_kind iT_at iT_number jT_name iT_next ++ (WM hM aM kM iM_stands iM_variables iM_rows iM_goals iM_differents iM_cases fM_from fM_to fM_whole fM_ways iM_plainRows fM_plainRow fM_kept fM_goalOver fM_goalUnder fM_goalMax fM_different)))) U.heap ∧ va_K (dC, dI) vwCl (tL kL ++ (tF kF ++ (tT kT ++ (tM kM)))) U ∧ va_D (fun _ => True) (WL hL aL kL hT hM (.ref dF_tree) iL_names gL_key fL_kind fL_one fL_two fL_base iL_params fL_paramOver dL_paramOver nL_params fL_paramUnder dL_paramUnder nL_pu gL_over gL_under fL_bound iL_nameAt iL_startAt iL_steps jL_scaleOver jL_scaleUnder ++ (WF hF aF kF dF_tree nF_tree fF_tree ++ (WT hT aT kT fT_tape dT_tape nT_tape iT_length iT_fault iT_place iT_kind iT_at iT_number jT_name iT_next ++ (WM hM aM kM iM_stands iM_variables iM_rows iM_goals iM_differents iM_cases fM_from fM_to fM_whole fM_ways iM_plainRows fM_plainRow fM_kept fM_goalOver fM_goalUnder fM_goalMax fM_different)))) ∧ CE (va_A (WL hL aL kL hT hM (.ref dF_tree) iL_names gL_key fL_kind fL_one fL_two fL_base iL_params fL_paramOver dL_paramOver nL_params fL_paramUnder dL_paramUnder nL_pu gL_over gL_under fL_bound iL_nameAt iL_startAt iL_steps jL_scaleOver jL_scaleUnder ++ (WF hF aF kF dF_tree nF_tree fF_tree ++ (WT hT aT kT fT_tape dT_tape nT_tape iT_length iT_fault iT_place iT_kind iT_at iT_number jT_name iT_next ++ (WM hM aM kM iM_stands iM_variables iM_rows iM_goals iM_differents iM_cases fM_from fM_to fM_whole fM_ways iM_plainRows fM_plainRow fM_kept fM_goalOver fM_goalUnder fM_goalMax fM_different)))) sz) U U.heap)) (va_Qv (fun (u : (Nat → Int64) × (Nat → Int64) × (Nat → Int32) × (Int32) × (Int32) × (Int32)) => True) (fun (u : (Nat → Int64) × (Nat → Int64) × (Nat → Int32) × (Int32) × (Int32) × (Int32)) t => va_P (dC, dI) vwCl (WL hL aL kL hT hM (.ref dF_tree) iL_names gL_key fL_kind fL_one fL_two fL_base iL_params fL_paramOver dL_paramOver nL_params fL_paramUnder dL_paramUnder nL_pu (u.1) (u.2.1) (u.2.2.1) iL_nameAt iL_startAt (u.2.2.2.1) jL_scaleOver jL_scaleUnder ++ (WF hF aF kF dF_tree nF_tree fF_tree ++ (WT hT aT kT fT_tape dT_tape nT_tape iT_length (u.2.2.2.2.1) (u.2.2.2.2.2) iT_kind iT_at iT_number jT_name iT_next ++ (WM hM aM kM iM_stands iM_variables iM_rows iM_goals iM_differents iM_cases fM_from fM_to fM_whole fM_ways iM_plainRows fM_plainRow fM_kept fM_goalOver fM_goalUnder fM_goalMax fM_different)))) t.heap ∧ va_D (va_A (WL hL aL kL hT hM (.ref dF_tree) iL_names gL_key fL_kind fL_one fL_two fL_base iL_params fL_paramOver dL_paramOver nL_params fL_paramUnder dL_paramUnder nL_pu gL_over gL_under fL_bound iL_nameAt iL_startAt iL_steps jL_scaleOver jL_scaleUnder ++ (WF hF aF kF dF_tree nF_tree fF_tree ++ (WT hT aT kT fT_tape dT_tape nT_tape iT_length iT_fault iT_place iT_kind iT_at iT_number jT_name iT_next ++ (WM hM aM kM iM_stands iM_variables iM_rows iM_goals iM_differents iM_cases fM_from fM_to fM_whole fM_ways iM_plainRows fM_plainRow fM_kept fM_goalOver fM_goalUnder fM_goalMax fM_different)))) sz) (WL hL aL kL hT hM (.ref dF_tree) iL_names gL_key fL_kind fL_one fL_two fL_base iL_params fL_paramOver dL_paramOver nL_params fL_paramUnder dL_paramUnder nL_pu (u.1) (u.2.1) (u.2.2.1) iL_nameAt iL_startAt (u.2.2.2.1) jL_scaleOver jL_scaleUnder ++ (WF hF aF kF dF_tree nF_tree fF_tree ++ (WT hT aT kT fT_tape dT_tape nT_tape iT_length (u.2.2.2.2.1) (u.2.2.2.2.2) iT_kind iT_at iT_number jT_name iT_next ++ (WM hM aM kM iM_stands iM_variables iM_rows iM_goals iM_differents iM_cases fM_from fM_to fM_whole fM_ways iM_plainRows fM_plainRow fM_kept fM_goalOver fM_goalUnder fM_goalMax fM_different)))) ∧ t.heap.size = sz) (va_A (WL hL aL kL hT hM (.ref dF_tree) iL_names gL_key fL_kind fL_one fL_two fL_base iL_params fL_paramOver dL_paramOver nL_params fL_paramUnder dL_paramUnder nL_pu gL_over gL_under fL_bound iL_nameAt iL_startAt iL_steps jL_scaleOver jL_scaleUnder ++ (WF hF aF kF dF_tree nF_tree fF_tree ++ (WT hT aT kT fT_tape dT_tape nT_tape iT_length iT_fault iT_place iT_kind iT_at iT_number jT_name iT_next ++ (WM hM aM kM iM_stands iM_variables iM_rows iM_goals iM_differents iM_cases fM_from fM_to fM_whole fM_ways iM_plainRows fM_plainRow fM_kept fM_goalOver fM_goalUnder fM_goalMax fM_different)))) sz)) (vx_X (fun (u : (Nat → Int64) × (Nat → Int64) × (Nat → Int32) × (Int32) × (Int32) × (Int32)) => True) (fun E (u : (Nat → Int64) × (Nat → Int64) × (Nat → Int32) × (Int32) × (Int32) × (Int32)) t => (E = "java/lang/IllegalArgumentException") ∧ va_P (dC, dI) vwCl (WL hL aL kL hT hM (.ref dF_tree) iL_names gL_key fL_kind fL_one fL_two fL_base iL_params fL_paramOver dL_paramOver nL_params fL_paramUnder dL_paramUnder nL_pu (u.1) (u.2.1) (u.2.2.1) iL_nameAt iL_startAt (u.2.2.2.1) jL_scaleOver jL_scaleUnder ++ (WF hF aF kF dF_tree nF_tree fF_tree ++ (WT hT aT kT fT_tape dT_tape nT_tape iT_length (u.2.2.2.2.1) (u.2.2.2.2.2) iT_kind iT_at iT_number jT_name iT_next ++ (WM hM aM kM iM_stands iM_variables iM_rows iM_goals iM_differents iM_cases fM_from fM_to fM_whole fM_ways iM_plainRows fM_plainRow fM_kept fM_goalOver fM_goalUnder fM_goalMax fM_different)))) t.heap ∧ va_D (va_A (WL hL aL kL hT hM (.ref dF_tree) iL_names gL_key fL_kind fL_one fL_two fL_base iL_params fL_paramOver dL_paramOver nL_params fL_paramUnder dL_paramUnder nL_pu gL_over gL_under fL_bound iL_nameAt iL_startAt iL_steps jL_scaleOver jL_scaleUnder ++ (WF hF aF kF dF_tree nF_tree fF_tree ++ (WT hT aT kT fT_tape dT_tape nT_tape iT_length iT_fault iT_place iT_kind iT_at iT_number jT_name iT_next ++ (WM hM aM kM iM_stands iM_variables iM_rows iM_goals iM_differents iM_cases fM_from fM_to fM_whole fM_ways iM_plainRows fM_plainRow fM_kept fM_goalOver fM_goalUnder fM_goalMax fM_different)))) sz) (WL hL aL kL hT hM (.ref dF_tree) iL_names gL_key fL_kind fL_one fL_two fL_base iL_params fL_paramOver dL_paramOver nL_params fL_paramUnder dL_paramUnder nL_pu (u.1) (u.2.1) (u.2.2.1) iL_nameAt iL_startAt (u.2.2.2.1) jL_scaleOver jL_scaleUnder ++ (WF hF aF kF dF_tree nF_tree fF_tree ++ (WT hT aT kT fT_tape dT_tape nT_tape iT_length (u.2.2.2.2.1) (u.2.2.2.2.2) iT_kind iT_at iT_number jT_name iT_next ++ (WM hM aM kM iM_stands iM_variables iM_rows iM_goals iM_differents iM_cases fM_from fM_to fM_whole fM_ways iM_plainRows fM_plainRow fM_kept fM_goalOver fM_goalUnder fM_goalMax fM_different))))) (va_A (WL hL aL kL hT hM (.ref dF_tree) iL_names gL_key fL_kind fL_one fL_two fL_base iL_params fL_paramOver dL_paramOver nL_params fL_paramUnder dL_paramUnder nL_pu gL_over gL_under fL_bound iL_nameAt iL_startAt iL_steps jL_scaleOver jL_scaleUnder ++ (WF hF aF kF dF_tree nF_tree fF_tree ++ (WT hT aT kT fT_tape dT_tape nT_tape iT_length iT_fault iT_place iT_kind iT_at iT_number jT_name iT_next ++ (WM hM aM kM iM_stands iM_variables iM_rows iM_goals iM_differents iM_cases fM_from fM_to fM_whole fM_ways iM_plainRows fM_plainRow fM_kept fM_goalOver fM_goalUnder fM_goalMax fM_different)))) sz)) 1 6 (va_A (WL hL aL kL hT hM (.ref dF_tree) iL_names gL_key fL_kind fL_one fL_two fL_base iL_params fL_paramOver dL_paramOver nL_params fL_paramUnder dL_paramUnder nL_pu gL_over gL_under fL_bound iL_nameAt iL_startAt iL_steps jL_scaleOver jL_scaleUnder ++ (WF hF aF kF dF_tree nF_tree fF_tree ++ (WT hT aT kT fT_tape dT_tape nT_tape iT_length iT_fault iT_place iT_kind iT_at iT_number jT_name iT_next ++ (WM hM aM kM iM_stands iM_variables iM_rows iM_goals iM_differents iM_cases fM_from fM_to fM_whole fM_ways iM_plainRows fM_plainRow fM_kept fM_goalOver fM_goalUnder fM_goalMax fM_different)))) sz)
def Cm_X10_anyHolds (l : Launch) (ev : Nat) : Prop := ∀ (dC : Nat → ClassId) (dI : Nat → Nat → Nat) (hL : Nat → Nat) (aL : Nat → Nat) (kL : Nat → ClassId) (hT : Nat → Nat) (hM : Nat → Nat) (iL_names : Int32) (gL_key : Nat → Int64) (fL_kind : Nat → Int32) (fL_one : Nat → Int32) (fL_two : Nat → Int32) (fL_base : Nat → Int32) (iL_params : Int32) (fL_paramOver : Nat → Int32) (dL_paramOver : Nat) (nL_params : Nat) (fL_paramUnder : Nat → Int32) (dL_paramUnder : Nat) (nL_pu : Nat) (gL_over : Nat → Int64) (gL_under : Nat → Int64) (fL_bound : Nat → Int32) (iL_nameAt : Int32) (iL_startAt : Int32) (iL_steps : Int32) (jL_scaleOver : Int64) (jL_scaleUnder : Int64) (hF : Nat → Nat) (aF : Nat → Nat) (kF : Nat → ClassId) (dF_tree : Nat) (nF_tree : Nat) (fF_tree : Nat → Int32) (aT : Nat → Nat) (kT : Nat → ClassId) (fT_tape : Nat → Int32) (dT_tape : Nat) (nT_tape : Nat) (iT_length : Int32) (iT_fault : Int32) (iT_place : Int32) (iT_kind : Int32) (iT_at : Int32) (iT_number : Int32) (jT_name : Int64) (iT_next : Int32) (aM : Nat → Nat) (kM : Nat → ClassId) (iM_stands : Int32) (iM_variables : Int32) (iM_rows : Int32) (iM_goals : Int32) (iM_differents : Int32) (iM_cases : Int32) (fM_from : Nat → Int32) (fM_to : Nat → Int32) (fM_whole : Nat → Int32) (fM_ways : Nat → Int32) (iM_plainRows : Int32) (fM_plainRow : Nat → Int32) (fM_kept : Nat → Int32) (fM_goalOver : Nat → Int32) (fM_goalUnder : Nat → Int32) (fM_goalMax : Nat → Int32) (fM_different : Nat → Int32) (V : Int → Nat → Nat → Prop) (lo : Int) (lv : Nat) (p1 : Int32) (p2 : Int32) (b_iL_names : 0 ≤ iL_names.toInt ∧ iL_names.toInt ≤ 40) (b_fL_kind : ∀ q : Nat, 0 ≤ (fL_kind q).toInt ∧ (fL_kind q).toInt ≤ 5) (b_fL_two : ∀ q : Nat, (-1) ≤ (fL_two q).toInt ∧ (fL_two q).toInt ≤ 39) (b_fL_base : ∀ q : Nat, 0 ≤ (fL_base q).toInt ∧ (fL_base q).toInt ≤ 2560) (b_iL_params : 0 ≤ iL_params.toInt ∧ iL_params.toInt ≤ 2560) (b_nL_params : 0 ≤ nL_params ∧ nL_params ≤ 2560) (b_nm : NmL iL_names fL_kind fL_one fL_two fL_base nL_params) (b_pm : iL_params.toInt ≤ ((nL_params : Nat) : Int)) (b_pu : nL_pu = nL_params) (b_nF_tree : 7 ≤ nF_tree ∧ nF_tree ≤ 72200) (b_fT_tape : ∀ q : Nat, (-128) ≤ (fT_tape q).toInt ∧ (fT_tape q).toInt ≤ 127) (b_nT_tape : 64 ≤ nT_tape ∧ nT_tape ≤ 2560) (b_iT_length : 0 ≤ iT_length.toInt ∧ iT_length.toInt ≤ 1280) (b_iT_at : 0 ≤ iT_at.toInt ∧ iT_at.toInt ≤ 1282) (b_iT_number : 0 ≤ iT_number.toInt ∧ iT_number.toInt ≤ 999999) (b_iT_next : 0 ≤ iT_next.toInt ∧ iT_next.toInt ≤ 1282) (b_len : iT_length.toInt ≤ ((nT_tape : Nat) : Int)) (b_iM_stands : 0 ≤ iM_stands.toInt ∧ iM_stands.toInt ≤ 1) (b_iM_variables : 0 ≤ iM_variables.toInt ∧ iM_variables.toInt ≤ 8) (b_iM_rows : 0 ≤ iM_rows.toInt ∧ iM_rows.toInt ≤ 12) (b_iM_goals : 0 ≤ iM_goals.toInt ∧ iM_goals.toInt ≤ 3) (b_iM_differents : 0 ≤ iM_differents.toInt ∧ iM_differents.toInt ≤ 8) (b_iM_cases : 0 ≤ iM_cases.toInt ∧ iM_cases.toInt ≤ 200000) (b_fM_ways : ∀ q : Nat, 0 ≤ (fM_ways q).toInt ∧ (fM_ways q).toInt ≤ 3) (b_iM_plainRows : 0 ≤ iM_plainRows.toInt ∧ iM_plainRows.toInt ≤ 12) (b_fM_plainRow : ∀ q : Nat, 0 ≤ (fM_plainRow q).toInt ∧ (fM_plainRow q).toInt ≤ 11) (b_pr : iM_plainRows.toInt ≤ iM_rows.toInt) (b_p2 : 0 ≤ p2.toInt ∧ p2.toInt ≤ 38) (hV : TrL V fF_tree fL_kind fL_one fL_two iL_names.toInt lo ((nF_tree : Nat) : Int)) (hn : V p1.toInt 10 lv) (hlv : lv + ev = 26) (hsl : p2.toInt ≤ (lv : Int) + 1) (sz : Nat), vx_Met l yX10_anyHolds wsMX10_anyHolds ({ frames := 12 * ev + 14, cells := 1, slots := 6, locals := 720 * ev + 407 }) (va_Pc [.ref (hL 0), .int p1, .int p2] (fun U => U.heap.size = sz ∧ va_P (dC, dI) vwCl (WL hL aL kL hT hM (.ref dF_tree) iL_names gL_key fL_kind fL_one fL_two fL_base iL_params fL_paramOver dL_paramOver nL_params fL_paramUnder dL_paramUnder nL_pu gL_over gL_under fL_bound iL_nameAt iL_startAt iL_steps jL_scaleOver jL_scaleUnder ++ (WF hF aF kF dF_tree nF_tree fF_tree ++ (WT hT aT kT fT_tape dT_tape nT_tape iT_length iT_fault iT_place iT_kind iT_at iT_number jT_name iT_next ++ (WM hM aM kM iM_stands iM_variables iM_rows iM_goals iM_differents iM_cases fM_from fM_to fM_whole fM_ways iM_plainRows fM_plainRow fM_kept fM_goalOver fM_goalUnder fM_goalMax fM_different)))) U.heap ∧ va_K (dC, dI) vwCl (tL kL ++ (tF kF ++ (tT kT ++ (tM kM)))) U ∧ va_D (fun _ => True) (WL hL aL kL hT hM (.ref dF_tree) iL_names gL_key fL_kind fL_one fL_two fL_base iL_params fL_paramOver dL_paramOver nL_params fL_paramUnder dL_paramUnder nL_pu gL_over gL_under fL_bound iL_nameAt iL_startAt iL_steps jL_scaleOver jL_scaleUnder ++ (WF hF aF kF dF_tree nF_tree fF_tree ++ (WT hT aT kT fT_tape dT_tape nT_tape iT_length iT_fault iT_place iT_kind iT_at iT_number jT_name iT_next ++ (WM hM aM kM iM_stands iM_variables iM_rows iM_goals iM_differents iM_cases fM_from fM_to fM_whole fM_ways iM_plainRows fM_plainRow fM_kept fM_goalOver fM_goalUnder fM_goalMax fM_different)))) ∧ CE (va_A (WL hL aL kL hT hM (.ref dF_tree) iL_names gL_key fL_kind fL_one fL_two fL_base iL_params fL_paramOver dL_paramOver nL_params fL_paramUnder dL_paramUnder nL_pu gL_over gL_under fL_bound iL_nameAt iL_startAt iL_steps jL_scaleOver jL_scaleUnder ++ (WF hF aF kF dF_tree nF_tree fF_tree ++ (WT hT aT kT fT_tape dT_tape nT_tape iT_length iT_fault iT_place iT_kind iT_at iT_number jT_name iT_next ++ (WM hM aM kM iM_stands iM_variables iM_rows iM_goals iM_differents iM_cases fM_from fM_to fM_whole fM_ways iM_plainRows fM_plainRow fM_kept fM_goalOver fM_goalUnder fM_goalMax fM_different)))) sz) U U.heap)) (va_Qi (fun (r : Int32) (u : (Nat → Int64) × (Nat → Int64) × (Nat → Int32) × (Int32) × (Int32) × (Int32)) => (0 ≤ r.toInt ∧ r.toInt ≤ 1)) (fun (u : (Nat → Int64) × (Nat → Int64) × (Nat → Int32) × (Int32) × (Int32) × (Int32)) t => va_P (dC, dI) vwCl (WL hL aL kL hT hM (.ref dF_tree) iL_names gL_key fL_kind fL_one fL_two fL_base iL_params fL_paramOver dL_paramOver nL_params fL_paramUnder dL_paramUnder nL_pu (u.1) (u.2.1) (u.2.2.1) iL_nameAt iL_startAt (u.2.2.2.1) jL_scaleOver jL_scaleUnder ++ (WF hF aF kF dF_tree nF_tree fF_tree ++ (WT hT aT kT fT_tape dT_tape nT_tape iT_length (u.2.2.2.2.1) (u.2.2.2.2.2) iT_kind iT_at iT_number jT_name iT_next ++ (WM hM aM kM iM_stands iM_variables iM_rows iM_goals iM_differents iM_cases fM_from fM_to fM_whole fM_ways iM_plainRows fM_plainRow fM_kept fM_goalOver fM_goalUnder fM_goalMax fM_different)))) t.heap ∧ va_D (va_A (WL hL aL kL hT hM (.ref dF_tree) iL_names gL_key fL_kind fL_one fL_two fL_base iL_params fL_paramOver dL_paramOver nL_params fL_paramUnder dL_paramUnder nL_pu gL_over gL_under fL_bound iL_nameAt iL_startAt iL_steps jL_scaleOver jL_scaleUnder ++ (WF hF aF kF dF_tree nF_tree fF_tree ++ (WT hT aT kT fT_tape dT_tape nT_tape iT_length iT_fault iT_place iT_kind iT_at iT_number jT_name iT_next ++ (WM hM aM kM iM_stands iM_variables iM_rows iM_goals iM_differents iM_cases fM_from fM_to fM_whole fM_ways iM_plainRows fM_plainRow fM_kept fM_goalOver fM_goalUnder fM_goalMax fM_different)))) sz) (WL hL aL kL hT hM (.ref dF_tree) iL_names gL_key fL_kind fL_one fL_two fL_base iL_params fL_paramOver dL_paramOver nL_params fL_paramUnder dL_paramUnder nL_pu (u.1) (u.2.1) (u.2.2.1) iL_nameAt iL_startAt (u.2.2.2.1) jL_scaleOver jL_scaleUnder ++ (WF hF aF kF dF_tree nF_tree fF_tree ++ (WT hT aT kT fT_tape dT_tape nT_tape iT_length (u.2.2.2.2.1) (u.2.2.2.2.2) iT_kind iT_at iT_number jT_name iT_next ++ (WM hM aM kM iM_stands iM_variables iM_rows iM_goals iM_differents iM_cases fM_from fM_to fM_whole fM_ways iM_plainRows fM_plainRow fM_kept fM_goalOver fM_goalUnder fM_goalMax fM_different)))) ∧ t.heap.size = sz) (va_A (WL hL aL kL hT hM (.ref dF_tree) iL_names gL_key fL_kind fL_one fL_two fL_base iL_params fL_paramOver dL_paramOver nL_params fL_paramUnder dL_paramUnder nL_pu gL_over gL_under fL_bound iL_nameAt iL_startAt iL_steps jL_scaleOver jL_scaleUnder ++ (WF hF aF kF dF_tree nF_tree fF_tree ++ (WT hT aT kT fT_tape dT_tape nT_tape iT_length iT_fault iT_place iT_kind iT_at iT_number jT_name iT_next ++ (WM hM aM kM iM_stands iM_variables iM_rows iM_goals iM_differents iM_cases fM_from fM_to fM_whole fM_ways iM_plainRows fM_plainRow fM_kept fM_goalOver fM_goalUnder fM_goalMax fM_different)))) sz)) (vx_X (fun (u : (Nat → Int64) × (Nat → Int64) × (Nat → Int32) × (Int32) × (Int32) × (Int32)) => True) (fun E (u : (Nat → Int64) × (Nat → Int64) × (Nat → Int32) × (Int32) × (Int32) × (Int32)) t => (E = "java/lang/IllegalArgumentException") ∧ va_P (dC, dI) vwCl (WL hL aL kL hT hM (.ref dF_tree) iL_names gL_key fL_kind fL_one fL_two fL_base iL_params fL_paramOver dL_paramOver nL_params fL_paramUnder dL_paramUnder nL_pu (u.1) (u.2.1) (u.2.2.1) iL_nameAt iL_startAt (u.2.2.2.1) jL_scaleOver jL_scaleUnder ++ (WF hF aF kF dF_tree nF_tree fF_tree ++ (WT hT aT kT fT_tape dT_tape nT_tape iT_length (u.2.2.2.2.1) (u.2.2.2.2.2) iT_kind iT_at iT_number jT_name iT_next ++ (WM hM aM kM iM_stands iM_variables iM_rows iM_goals iM_differents iM_cases fM_from fM_to fM_whole fM_ways iM_plainRows fM_plainRow fM_kept fM_goalOver fM_goalUnder fM_goalMax fM_different)))) t.heap ∧ va_D (va_A (WL hL aL kL hT hM (.ref dF_tree) iL_names gL_key fL_kind fL_one fL_two fL_base iL_params fL_paramOver dL_paramOver nL_params fL_paramUnder dL_paramUnder nL_pu gL_over gL_under fL_bound iL_nameAt iL_startAt iL_steps jL_scaleOver jL_scaleUnder ++ (WF hF aF kF dF_tree nF_tree fF_tree ++ (WT hT aT kT fT_tape dT_tape nT_tape iT_length iT_fault iT_place iT_kind iT_at iT_number jT_name iT_next ++ (WM hM aM kM iM_stands iM_variables iM_rows iM_goals iM_differents iM_cases fM_from fM_to fM_whole fM_ways iM_plainRows fM_plainRow fM_kept fM_goalOver fM_goalUnder fM_goalMax fM_different)))) sz) (WL hL aL kL hT hM (.ref dF_tree) iL_names gL_key fL_kind fL_one fL_two fL_base iL_params fL_paramOver dL_paramOver nL_params fL_paramUnder dL_paramUnder nL_pu (u.1) (u.2.1) (u.2.2.1) iL_nameAt iL_startAt (u.2.2.2.1) jL_scaleOver jL_scaleUnder ++ (WF hF aF kF dF_tree nF_tree fF_tree ++ (WT hT aT kT fT_tape dT_tape nT_tape iT_length (u.2.2.2.2.1) (u.2.2.2.2.2) iT_kind iT_at iT_number jT_name iT_next ++ (WM hM aM kM iM_stands iM_variables iM_rows iM_goals iM_differents iM_cases fM_from fM_to fM_whole fM_ways iM_plainRows fM_plainRow fM_kept fM_goalOver fM_goalUnder fM_goalMax fM_different))))) (va_A (WL hL aL kL hT hM (.ref dF_tree) iL_names gL_key fL_kind fL_one fL_two fL_base iL_params fL_paramOver dL_paramOver nL_params fL_paramUnder dL_paramUnder nL_pu gL_over gL_under fL_bound iL_nameAt iL_startAt iL_steps jL_scaleOver jL_scaleUnder ++ (WF hF aF kF dF_tree nF_tree fF_tree ++ (WT hT aT kT fT_tape dT_tape nT_tape iT_length iT_fault iT_place iT_kind iT_at iT_number jT_name iT_next ++ (WM hM aM kM iM_stands iM_variables iM_rows iM_goals iM_differents iM_cases fM_from fM_to fM_whole fM_ways iM_plainRows fM_plainRow fM_kept fM_goalOver fM_goalUnder fM_goalMax fM_different)))) sz)) 1 6 (va_A (WL hL aL kL hT hM (.ref dF_tree) iL_names gL_key fL_kind fL_one fL_two fL_base iL_params fL_paramOver dL_paramOver nL_params fL_paramUnder dL_paramUnder nL_pu gL_over gL_under fL_bound iL_nameAt iL_startAt iL_steps jL_scaleOver jL_scaleUnder ++ (WF hF aF kF dF_tree nF_tree fF_tree ++ (WT hT aT kT fT_tape dT_tape nT_tape iT_length iT_fault iT_place iT_kind iT_at iT_number jT_name iT_next ++ (WM hM aM kM iM_stands iM_variables iM_rows iM_goals iM_differents iM_cases fM_from fM_to fM_whole fM_ways iM_plainRows fM_plainRow fM_kept fM_goalOver fM_goalUnder fM_goalMax fM_different)))) sz)
def Cm_X10_allHold (l : Launch) (ev : Nat) : Prop := ∀ (dC : Nat → ClassId) (dI : Nat → Nat → Nat) (hL : Nat → Nat) (aL : Nat → Nat) (kL : Nat → ClassId) (hT : Nat → Nat) (hM : Nat → Nat) (iL_names : Int32) (gL_key : Nat → Int64) (fL_kind : Nat → Int32) (fL_one : Nat → Int32) (fL_two : Nat → Int32) (fL_base : Nat → Int32) (iL_params : Int32) (fL_paramOver : Nat → Int32) (dL_paramOver : Nat) (nL_params : Nat) (fL_paramUnder : Nat → Int32) (dL_paramUnder : Nat) (nL_pu : Nat) (gL_over : Nat → Int64) (gL_under : Nat → Int64) (fL_bound : Nat → Int32) (iL_nameAt : Int32) (iL_startAt : Int32) (iL_steps : Int32) (jL_scaleOver : Int64) (jL_scaleUnder : Int64) (hF : Nat → Nat) (aF : Nat → Nat) (kF : Nat → ClassId) (dF_tree : Nat) (nF_tree : Nat) (fF_tree : Nat → Int32) (aT : Nat → Nat) (kT : Nat → ClassId) (fT_tape : Nat → Int32) (dT_tape : Nat) (nT_tape : Nat) (iT_length : Int32) (iT_fault : Int32) (iT_place : Int32) (iT_kind : Int32) (iT_at : Int32) (iT_number : Int32) (jT_name : Int64) (iT_next : Int32) (aM : Nat → Nat) (kM : Nat → ClassId) (iM_stands : Int32) (iM_variables : Int32) (iM_rows : Int32) (iM_goals : Int32) (iM_differents : Int32) (iM_cases : Int32) (fM_from : Nat → Int32) (fM_to : Nat → Int32) (fM_whole : Nat → Int32) (fM_ways : Nat → Int32) (iM_plainRows : Int32) (fM_plainRow : Nat → Int32) (fM_kept : Nat → Int32) (fM_goalOver : Nat → Int32) (fM_goalUnder : Nat → Int32) (fM_goalMax : Nat → Int32) (fM_different : Nat → Int32) (V : Int → Nat → Nat → Prop) (lo : Int) (lv : Nat) (p1 : Int32) (p2 : Int32) (b_iL_names : 0 ≤ iL_names.toInt ∧ iL_names.toInt ≤ 40) (b_fL_kind : ∀ q : Nat, 0 ≤ (fL_kind q).toInt ∧ (fL_kind q).toInt ≤ 5) (b_fL_two : ∀ q : Nat, (-1) ≤ (fL_two q).toInt ∧ (fL_two q).toInt ≤ 39) (b_fL_base : ∀ q : Nat, 0 ≤ (fL_base q).toInt ∧ (fL_base q).toInt ≤ 2560) (b_iL_params : 0 ≤ iL_params.toInt ∧ iL_params.toInt ≤ 2560) (b_nL_params : 0 ≤ nL_params ∧ nL_params ≤ 2560) (b_nm : NmL iL_names fL_kind fL_one fL_two fL_base nL_params) (b_pm : iL_params.toInt ≤ ((nL_params : Nat) : Int)) (b_pu : nL_pu = nL_params) (b_nF_tree : 7 ≤ nF_tree ∧ nF_tree ≤ 72200) (b_fT_tape : ∀ q : Nat, (-128) ≤ (fT_tape q).toInt ∧ (fT_tape q).toInt ≤ 127) (b_nT_tape : 64 ≤ nT_tape ∧ nT_tape ≤ 2560) (b_iT_length : 0 ≤ iT_length.toInt ∧ iT_length.toInt ≤ 1280) (b_iT_at : 0 ≤ iT_at.toInt ∧ iT_at.toInt ≤ 1282) (b_iT_number : 0 ≤ iT_number.toInt ∧ iT_number.toInt ≤ 999999) (b_iT_next : 0 ≤ iT_next.toInt ∧ iT_next.toInt ≤ 1282) (b_len : iT_length.toInt ≤ ((nT_tape : Nat) : Int)) (b_iM_stands : 0 ≤ iM_stands.toInt ∧ iM_stands.toInt ≤ 1) (b_iM_variables : 0 ≤ iM_variables.toInt ∧ iM_variables.toInt ≤ 8) (b_iM_rows : 0 ≤ iM_rows.toInt ∧ iM_rows.toInt ≤ 12) (b_iM_goals : 0 ≤ iM_goals.toInt ∧ iM_goals.toInt ≤ 3) (b_iM_differents : 0 ≤ iM_differents.toInt ∧ iM_differents.toInt ≤ 8) (b_iM_cases : 0 ≤ iM_cases.toInt ∧ iM_cases.toInt ≤ 200000) (b_fM_ways : ∀ q : Nat, 0 ≤ (fM_ways q).toInt ∧ (fM_ways q).toInt ≤ 3) (b_iM_plainRows : 0 ≤ iM_plainRows.toInt ∧ iM_plainRows.toInt ≤ 12) (b_fM_plainRow : ∀ q : Nat, 0 ≤ (fM_plainRow q).toInt ∧ (fM_plainRow q).toInt ≤ 11) (b_pr : iM_plainRows.toInt ≤ iM_rows.toInt) (b_p2 : 0 ≤ p2.toInt ∧ p2.toInt ≤ 38) (hV : TrL V fF_tree fL_kind fL_one fL_two iL_names.toInt lo ((nF_tree : Nat) : Int)) (hn : V p1.toInt 11 lv) (hlv : lv + ev = 26) (hsl : p2.toInt ≤ (lv : Int) + 1) (sz : Nat), vx_Met l yX10_allHold wsMX10_allHold ({ frames := 12 * ev + 13, cells := 1, slots := 6, locals := 720 * ev + 347 }) (va_Pc [.ref (hL 0), .int p1, .int p2] (fun U => U.heap.size = sz ∧ va_P (dC, dI) vwCl (WL hL aL kL hT hM (.ref dF_tree) iL_names gL_key fL_kind fL_one fL_two fL_base iL_params fL_paramOver dL_paramOver nL_params fL_paramUnder dL_paramUnder nL_pu gL_over gL_under fL_bound iL_nameAt iL_startAt iL_steps jL_scaleOver jL_scaleUnder ++ (WF hF aF kF dF_tree nF_tree fF_tree ++ (WT hT aT kT fT_tape dT_tape nT_tape iT_length iT_fault iT_place iT_kind iT_at iT_number jT_name iT_next ++ (WM hM aM kM iM_stands iM_variables iM_rows iM_goals iM_differents iM_cases fM_from fM_to fM_whole fM_ways iM_plainRows fM_plainRow fM_kept fM_goalOver fM_goalUnder fM_goalMax fM_different)))) U.heap ∧ va_K (dC, dI) vwCl (tL kL ++ (tF kF ++ (tT kT ++ (tM kM)))) U ∧ va_D (fun _ => True) (WL hL aL kL hT hM (.ref dF_tree) iL_names gL_key fL_kind fL_one fL_two fL_base iL_params fL_paramOver dL_paramOver nL_params fL_paramUnder dL_paramUnder nL_pu gL_over gL_under fL_bound iL_nameAt iL_startAt iL_steps jL_scaleOver jL_scaleUnder ++ (WF hF aF kF dF_tree nF_tree fF_tree ++ (WT hT aT kT fT_tape dT_tape nT_tape iT_length iT_fault iT_place iT_kind iT_at iT_number jT_name iT_next ++ (WM hM aM kM iM_stands iM_variables iM_rows iM_goals iM_differents iM_cases fM_from fM_to fM_whole fM_ways iM_plainRows fM_plainRow fM_kept fM_goalOver fM_goalUnder fM_goalMax fM_different)))) ∧ CE (va_A (WL hL aL kL hT hM (.ref dF_tree) iL_names gL_key fL_kind fL_one fL_two fL_base iL_params fL_paramOver dL_paramOver nL_params fL_paramUnder dL_paramUnder nL_pu gL_over gL_under fL_bound iL_nameAt iL_startAt iL_steps jL_scaleOver jL_scaleUnder ++ (WF hF aF kF dF_tree nF_tree fF_tree ++ (WT hT aT kT fT_tape dT_tape nT_tape iT_length iT_fault iT_place iT_kind iT_at iT_number jT_name iT_next ++ (WM hM aM kM iM_stands iM_variables iM_rows iM_goals iM_differents iM_cases fM_from fM_to fM_whole fM_ways iM_plainRows fM_plainRow fM_kept fM_goalOver fM_goalUnder fM_goalMax fM_different)))) sz) U U.heap)) (va_Qi (fun (r : Int32) (u : (Nat → Int64) × (Nat → Int64) × (Nat → Int32) × (Int32) × (Int32) × (Int32)) => (0 ≤ r.toInt ∧ r.toInt ≤ 1)) (fun (u : (Nat → Int64) × (Nat → Int64) × (Nat → Int32) × (Int32) × (Int32) × (Int32)) t => va_P (dC, dI) vwCl (WL hL aL kL hT hM (.ref dF_tree) iL_names gL_key fL_kind fL_one fL_two fL_base iL_params fL_paramOver dL_paramOver nL_params fL_paramUnder dL_paramUnder nL_pu (u.1) (u.2.1) (u.2.2.1) iL_nameAt iL_startAt (u.2.2.2.1) jL_scaleOver jL_scaleUnder ++ (WF hF aF kF dF_tree nF_tree fF_tree ++ (WT hT aT kT fT_tape dT_tape nT_tape iT_length (u.2.2.2.2.1) (u.2.2.2.2.2) iT_kind iT_at iT_number jT_name iT_next ++ (WM hM aM kM iM_stands iM_variables iM_rows iM_goals iM_differents iM_cases fM_from fM_to fM_whole fM_ways iM_plainRows fM_plainRow fM_kept fM_goalOver fM_goalUnder fM_goalMax fM_different)))) t.heap ∧ va_D (va_A (WL hL aL kL hT hM (.ref dF_tree) iL_names gL_key fL_kind fL_one fL_two fL_base iL_params fL_paramOver dL_paramOver nL_params fL_paramUnder dL_paramUnder nL_pu gL_over gL_under fL_bound iL_nameAt iL_startAt iL_steps jL_scaleOver jL_scaleUnder ++ (WF hF aF kF dF_tree nF_tree fF_tree ++ (WT hT aT kT fT_tape dT_tape nT_tape iT_length iT_fault iT_place iT_kind iT_at iT_number jT_name iT_next ++ (WM hM aM kM iM_stands iM_variables iM_rows iM_goals iM_differents iM_cases fM_from fM_to fM_whole fM_ways iM_plainRows fM_plainRow fM_kept fM_goalOver fM_goalUnder fM_goalMax fM_different)))) sz) (WL hL aL kL hT hM (.ref dF_tree) iL_names gL_key fL_kind fL_one fL_two fL_base iL_params fL_paramOver dL_paramOver nL_params fL_paramUnder dL_paramUnder nL_pu (u.1) (u.2.1) (u.2.2.1) iL_nameAt iL_startAt (u.2.2.2.1) jL_scaleOver jL_scaleUnder ++ (WF hF aF kF dF_tree nF_tree fF_tree ++ (WT hT aT kT fT_tape dT_tape nT_tape iT_length (u.2.2.2.2.1) (u.2.2.2.2.2) iT_kind iT_at iT_number jT_name iT_next ++ (WM hM aM kM iM_stands iM_variables iM_rows iM_goals iM_differents iM_cases fM_from fM_to fM_whole fM_ways iM_plainRows fM_plainRow fM_kept fM_goalOver fM_goalUnder fM_goalMax fM_different)))) ∧ t.heap.size = sz) (va_A (WL hL aL kL hT hM (.ref dF_tree) iL_names gL_key fL_kind fL_one fL_two fL_base iL_params fL_paramOver dL_paramOver nL_params fL_paramUnder dL_paramUnder nL_pu gL_over gL_under fL_bound iL_nameAt iL_startAt iL_steps jL_scaleOver jL_scaleUnder ++ (WF hF aF kF dF_tree nF_tree fF_tree ++ (WT hT aT kT fT_tape dT_tape nT_tape iT_length iT_fault iT_place iT_kind iT_at iT_number jT_name iT_next ++ (WM hM aM kM iM_stands iM_variables iM_rows iM_goals iM_differents iM_cases fM_from fM_to fM_whole fM_ways iM_plainRows fM_plainRow fM_kept fM_goalOver fM_goalUnder fM_goalMax fM_different)))) sz)) (vx_X (fun (u : (Nat → Int64) × (Nat → Int64) × (Nat → Int32) × (Int32) × (Int32) × (Int32)) => True) (fun E (u : (Nat → Int64) × (Nat → Int64) × (Nat → Int32) × (Int32) × (Int32) × (Int32)) t => (E = "java/lang/IllegalArgumentException") ∧ va_P (dC, dI) vwCl (WL hL aL kL hT hM (.ref dF_tree) iL_names gL_key fL_kind fL_one fL_two fL_base iL_params fL_paramOver dL_paramOver nL_params fL_paramUnder dL_paramUnder nL_pu (u.1) (u.2.1) (u.2.2.1) iL_nameAt iL_startAt (u.2.2.2.1) jL_scaleOver jL_scaleUnder ++ (WF hF aF kF dF_tree nF_tree fF_tree ++ (WT hT aT kT fT_tape dT_tape nT_tape iT_length (u.2.2.2.2.1) (u.2.2.2.2.2) iT_kind iT_at iT_number jT_name iT_next ++ (WM hM aM kM iM_stands iM_variables iM_rows iM_goals iM_differents iM_cases fM_from fM_to fM_whole fM_ways iM_plainRows fM_plainRow fM_kept fM_goalOver fM_goalUnder fM_goalMax fM_different)))) t.heap ∧ va_D (va_A (WL hL aL kL hT hM (.ref dF_tree) iL_names gL_key fL_kind fL_one fL_two fL_base iL_params fL_paramOver dL_paramOver nL_params fL_paramUnder dL_paramUnder nL_pu gL_over gL_under fL_bound iL_nameAt iL_startAt iL_steps jL_scaleOver jL_scaleUnder ++ (WF hF aF kF dF_tree nF_tree fF_tree ++ (WT hT aT kT fT_tape dT_tape nT_tape iT_length iT_fault iT_place iT_kind iT_at iT_number jT_name iT_next ++ (WM hM aM kM iM_stands iM_variables iM_rows iM_goals iM_differents iM_cases fM_from fM_to fM_whole fM_ways iM_plainRows fM_plainRow fM_kept fM_goalOver fM_goalUnder fM_goalMax fM_different)))) sz) (WL hL aL kL hT hM (.ref dF_tree) iL_names gL_key fL_kind fL_one fL_two fL_base iL_params fL_paramOver dL_paramOver nL_params fL_paramUnder dL_paramUnder nL_pu (u.1) (u.2.1) (u.2.2.1) iL_nameAt iL_startAt (u.2.2.2.1) jL_scaleOver jL_scaleUnder ++ (WF hF aF kF dF_tree nF_tree fF_tree ++ (WT hT aT kT fT_tape dT_tape nT_tape iT_length (u.2.2.2.2.1) (u.2.2.2.2.2) iT_kind iT_at iT_number jT_name iT_next ++ (WM hM aM kM iM_stands iM_variables iM_rows iM_goals iM_differents iM_cases fM_from fM_to fM_whole fM_ways iM_plainRows fM_plainRow fM_kept fM_goalOver fM_goalUnder fM_goalMax fM_different))))) (va_A (WL hL aL kL hT hM (.ref dF_tree) iL_names gL_key fL_kind fL_one fL_two fL_base iL_params fL_paramOver dL_paramOver nL_params fL_paramUnder dL_paramUnder nL_pu gL_over gL_under fL_bound iL_nameAt iL_startAt iL_steps jL_scaleOver jL_scaleUnder ++ (WF hF aF kF dF_tree nF_tree fF_tree ++ (WT hT aT kT fT_tape dT_tape nT_tape iT_length iT_fault iT_place iT_kind iT_at iT_number jT_name iT_next ++ (WM hM aM kM iM_stands iM_variables iM_rows iM_goals iM_differents iM_cases fM_from fM_to fM_whole fM_ways iM_plainRows fM_plainRow fM_kept fM_goalOver fM_goalUnder fM_goalMax fM_different)))) sz)) 1 6 (va_A (WL hL aL kL hT hM (.ref dF_tree) iL_names gL_key fL_kind fL_one fL_two fL_base iL_params fL_paramOver dL_paramOver nL_params fL_paramUnder dL_paramUnder nL_pu gL_over gL_under fL_bound iL_nameAt iL_startAt iL_steps jL_scaleOver jL_scaleUnder ++ (WF hF aF kF dF_tree nF_tree fF_tree ++ (WT hT aT kT fT_tape dT_tape nT_tape iT_length iT_fault iT_place iT_kind iT_at iT_number jT_name iT_next ++ (WM hM aM kM iM_stands iM_variables iM_rows iM_goals iM_differents iM_cases fM_from fM_to fM_whole fM_ways iM_plainRows fM_plainRow fM_kept fM_goalOver fM_goalUnder fM_goalMax fM_different)))) sz)
def Cm_X10_oneHolds (l : Launch) (ev : Nat) : Prop := ∀ (dC : Nat → ClassId) (dI : Nat → Nat → Nat) (hL : Nat → Nat) (aL : Nat → Nat) (kL : Nat → ClassId) (hT : Nat → Nat) (hM : Nat → Nat) (iL_names : Int32) (gL_key : Nat → Int64) (fL_kind : Nat → Int32) (fL_one : Nat → Int32) (fL_two : Nat → Int32) (fL_base : Nat → Int32) (iL_params : Int32) (fL_paramOver : Nat → Int32) (dL_paramOver : Nat) (nL_params : Nat) (fL_paramUnder : Nat → Int32) (dL_paramUnder : Nat) (nL_pu : Nat) (gL_over : Nat → Int64) (gL_under : Nat → Int64) (fL_bound : Nat → Int32) (iL_nameAt : Int32) (iL_startAt : Int32) (iL_steps : Int32) (jL_scaleOver : Int64) (jL_scaleUnder : Int64) (hF : Nat → Nat) (aF : Nat → Nat) (kF : Nat → ClassId) (dF_tree : Nat) (nF_tree : Nat) (fF_tree : Nat → Int32) (aT : Nat → Nat) (kT : Nat → ClassId) (fT_tape : Nat → Int32) (dT_tape : Nat) (nT_tape : Nat) (iT_length : Int32) (iT_fault : Int32) (iT_place : Int32) (iT_kind : Int32) (iT_at : Int32) (iT_number : Int32) (jT_name : Int64) (iT_next : Int32) (aM : Nat → Nat) (kM : Nat → ClassId) (iM_stands : Int32) (iM_variables : Int32) (iM_rows : Int32) (iM_goals : Int32) (iM_differents : Int32) (iM_cases : Int32) (fM_from : Nat → Int32) (fM_to : Nat → Int32) (fM_whole : Nat → Int32) (fM_ways : Nat → Int32) (iM_plainRows : Int32) (fM_plainRow : Nat → Int32) (fM_kept : Nat → Int32) (fM_goalOver : Nat → Int32) (fM_goalUnder : Nat → Int32) (fM_goalMax : Nat → Int32) (fM_different : Nat → Int32) (V : Int → Nat → Nat → Prop) (lo : Int) (lv : Nat) (p1 : Int32) (p2 : Int32) (b_iL_names : 0 ≤ iL_names.toInt ∧ iL_names.toInt ≤ 40) (b_fL_kind : ∀ q : Nat, 0 ≤ (fL_kind q).toInt ∧ (fL_kind q).toInt ≤ 5) (b_fL_two : ∀ q : Nat, (-1) ≤ (fL_two q).toInt ∧ (fL_two q).toInt ≤ 39) (b_fL_base : ∀ q : Nat, 0 ≤ (fL_base q).toInt ∧ (fL_base q).toInt ≤ 2560) (b_iL_params : 0 ≤ iL_params.toInt ∧ iL_params.toInt ≤ 2560) (b_nL_params : 0 ≤ nL_params ∧ nL_params ≤ 2560) (b_nm : NmL iL_names fL_kind fL_one fL_two fL_base nL_params) (b_pm : iL_params.toInt ≤ ((nL_params : Nat) : Int)) (b_pu : nL_pu = nL_params) (b_nF_tree : 7 ≤ nF_tree ∧ nF_tree ≤ 72200) (b_fT_tape : ∀ q : Nat, (-128) ≤ (fT_tape q).toInt ∧ (fT_tape q).toInt ≤ 127) (b_nT_tape : 64 ≤ nT_tape ∧ nT_tape ≤ 2560) (b_iT_length : 0 ≤ iT_length.toInt ∧ iT_length.toInt ≤ 1280) (b_iT_at : 0 ≤ iT_at.toInt ∧ iT_at.toInt ≤ 1282) (b_iT_number : 0 ≤ iT_number.toInt ∧ iT_number.toInt ≤ 999999) (b_iT_next : 0 ≤ iT_next.toInt ∧ iT_next.toInt ≤ 1282) (b_len : iT_length.toInt ≤ ((nT_tape : Nat) : Int)) (b_iM_stands : 0 ≤ iM_stands.toInt ∧ iM_stands.toInt ≤ 1) (b_iM_variables : 0 ≤ iM_variables.toInt ∧ iM_variables.toInt ≤ 8) (b_iM_rows : 0 ≤ iM_rows.toInt ∧ iM_rows.toInt ≤ 12) (b_iM_goals : 0 ≤ iM_goals.toInt ∧ iM_goals.toInt ≤ 3) (b_iM_differents : 0 ≤ iM_differents.toInt ∧ iM_differents.toInt ≤ 8) (b_iM_cases : 0 ≤ iM_cases.toInt ∧ iM_cases.toInt ≤ 200000) (b_fM_ways : ∀ q : Nat, 0 ≤ (fM_ways q).toInt ∧ (fM_ways q).toInt ≤ 3) (b_iM_plainRows : 0 ≤ iM_plainRows.toInt ∧ iM_plainRows.toInt ≤ 12) (b_fM_plainRow : ∀ q : Nat, 0 ≤ (fM_plainRow q).toInt ∧ (fM_plainRow q).toInt ≤ 11) (b_pr : iM_plainRows.toInt ≤ iM_rows.toInt) (b_p2 : 0 ≤ p2.toInt ∧ p2.toInt ≤ 38) (hV : TrL V fF_tree fL_kind fL_one fL_two iL_names.toInt lo ((nF_tree : Nat) : Int)) (hn : V p1.toInt 12 lv) (hlv : lv + ev = 26) (hsl : p2.toInt ≤ (lv : Int) + 1) (sz : Nat), vx_Met l yX10_oneHolds wsMX10_oneHolds ({ frames := 12 * ev + 12, cells := 1, slots := 6, locals := 720 * ev + 287 }) (va_Pc [.ref (hL 0), .int p1, .int p2] (fun U => U.heap.size = sz ∧ va_P (dC, dI) vwCl (WL hL aL kL hT hM (.ref dF_tree) iL_names gL_key fL_kind fL_one fL_two fL_base iL_params fL_paramOver dL_paramOver nL_params fL_paramUnder dL_paramUnder nL_pu gL_over gL_under fL_bound iL_nameAt iL_startAt iL_steps jL_scaleOver jL_scaleUnder ++ (WF hF aF kF dF_tree nF_tree fF_tree ++ (WT hT aT kT fT_tape dT_tape nT_tape iT_length iT_fault iT_place iT_kind iT_at iT_number jT_name iT_next ++ (WM hM aM kM iM_stands iM_variables iM_rows iM_goals iM_differents iM_cases fM_from fM_to fM_whole fM_ways iM_plainRows fM_plainRow fM_kept fM_goalOver fM_goalUnder fM_goalMax fM_different)))) U.heap ∧ va_K (dC, dI) vwCl (tL kL ++ (tF kF ++ (tT kT ++ (tM kM)))) U ∧ va_D (fun _ => True) (WL hL aL kL hT hM (.ref dF_tree) iL_names gL_key fL_kind fL_one fL_two fL_base iL_params fL_paramOver dL_paramOver nL_params fL_paramUnder dL_paramUnder nL_pu gL_over gL_under fL_bound iL_nameAt iL_startAt iL_steps jL_scaleOver jL_scaleUnder ++ (WF hF aF kF dF_tree nF_tree fF_tree ++ (WT hT aT kT fT_tape dT_tape nT_tape iT_length iT_fault iT_place iT_kind iT_at iT_number jT_name iT_next ++ (WM hM aM kM iM_stands iM_variables iM_rows iM_goals iM_differents iM_cases fM_from fM_to fM_whole fM_ways iM_plainRows fM_plainRow fM_kept fM_goalOver fM_goalUnder fM_goalMax fM_different)))) ∧ CE (va_A (WL hL aL kL hT hM (.ref dF_tree) iL_names gL_key fL_kind fL_one fL_two fL_base iL_params fL_paramOver dL_paramOver nL_params fL_paramUnder dL_paramUnder nL_pu gL_over gL_under fL_bound iL_nameAt iL_startAt iL_steps jL_scaleOver jL_scaleUnder ++ (WF hF aF kF dF_tree nF_tree fF_tree ++ (WT hT aT kT fT_tape dT_tape nT_tape iT_length iT_fault iT_place iT_kind iT_at iT_number jT_name iT_next ++ (WM hM aM kM iM_stands iM_variables iM_rows iM_goals iM_differents iM_cases fM_from fM_to fM_whole fM_ways iM_plainRows fM_plainRow fM_kept fM_goalOver fM_goalUnder fM_goalMax fM_different)))) sz) U U.heap)) (va_Qi (fun (r : Int32) (u : (Nat → Int64) × (Nat → Int64) × (Nat → Int32) × (Int32) × (Int32) × (Int32)) => (0 ≤ r.toInt ∧ r.toInt ≤ 1)) (fun (u : (Nat → Int64) × (Nat → Int64) × (Nat → Int32) × (Int32) × (Int32) × (Int32)) t => va_P (dC, dI) vwCl (WL hL aL kL hT hM (.ref dF_tree) iL_names gL_key fL_kind fL_one fL_two fL_base iL_params fL_paramOver dL_paramOver nL_params fL_paramUnder dL_paramUnder nL_pu (u.1) (u.2.1) (u.2.2.1) iL_nameAt iL_startAt (u.2.2.2.1) jL_scaleOver jL_scaleUnder ++ (WF hF aF kF dF_tree nF_tree fF_tree ++ (WT hT aT kT fT_tape dT_tape nT_tape iT_length (u.2.2.2.2.1) (u.2.2.2.2.2) iT_kind iT_at iT_number jT_name iT_next ++ (WM hM aM kM iM_stands iM_variables iM_rows iM_goals iM_differents iM_cases fM_from fM_to fM_whole fM_ways iM_plainRows fM_plainRow fM_kept fM_goalOver fM_goalUnder fM_goalMax fM_different)))) t.heap ∧ va_D (va_A (WL hL aL kL hT hM (.ref dF_tree) iL_names gL_key fL_kind fL_one fL_two fL_base iL_params fL_paramOver dL_paramOver nL_params fL_paramUnder dL_paramUnder nL_pu gL_over gL_under fL_bound iL_nameAt iL_startAt iL_steps jL_scaleOver jL_scaleUnder ++ (WF hF aF kF dF_tree nF_tree fF_tree ++ (WT hT aT kT fT_tape dT_tape nT_tape iT_length iT_fault iT_place iT_kind iT_at iT_number jT_name iT_next ++ (WM hM aM kM iM_stands iM_variables iM_rows iM_goals iM_differents iM_cases fM_from fM_to fM_whole fM_ways iM_plainRows fM_plainRow fM_kept fM_goalOver fM_goalUnder fM_goalMax fM_different)))) sz) (WL hL aL kL hT hM (.ref dF_tree) iL_names gL_key fL_kind fL_one fL_two fL_base iL_params fL_paramOver dL_paramOver nL_params fL_paramUnder dL_paramUnder nL_pu (u.1) (u.2.1) (u.2.2.1) iL_nameAt iL_startAt (u.2.2.2.1) jL_scaleOver jL_scaleUnder ++ (WF hF aF kF dF_tree nF_tree fF_tree ++ (WT hT aT kT fT_tape dT_tape nT_tape iT_length (u.2.2.2.2.1) (u.2.2.2.2.2) iT_kind iT_at iT_number jT_name iT_next ++ (WM hM aM kM iM_stands iM_variables iM_rows iM_goals iM_differents iM_cases fM_from fM_to fM_whole fM_ways iM_plainRows fM_plainRow fM_kept fM_goalOver fM_goalUnder fM_goalMax fM_different)))) ∧ t.heap.size = sz) (va_A (WL hL aL kL hT hM (.ref dF_tree) iL_names gL_key fL_kind fL_one fL_two fL_base iL_params fL_paramOver dL_paramOver nL_params fL_paramUnder dL_paramUnder nL_pu gL_over gL_under fL_bound iL_nameAt iL_startAt iL_steps jL_scaleOver jL_scaleUnder ++ (WF hF aF kF dF_tree nF_tree fF_tree ++ (WT hT aT kT fT_tape dT_tape nT_tape iT_length iT_fault iT_place iT_kind iT_at iT_number jT_name iT_next ++ (WM hM aM kM iM_stands iM_variables iM_rows iM_goals iM_differents iM_cases fM_from fM_to fM_whole fM_ways iM_plainRows fM_plainRow fM_kept fM_goalOver fM_goalUnder fM_goalMax fM_different)))) sz)) (vx_X (fun (u : (Nat → Int64) × (Nat → Int64) × (Nat → Int32) × (Int32) × (Int32) × (Int32)) => True) (fun E (u : (Nat → Int64) × (Nat → Int64) × (Nat → Int32) × (Int32) × (Int32) × (Int32)) t => (E = "java/lang/IllegalArgumentException") ∧ va_P (dC, dI) vwCl (WL hL aL kL hT hM (.ref dF_tree) iL_names gL_key fL_kind fL_one fL_two fL_base iL_params fL_paramOver dL_paramOver nL_params fL_paramUnder dL_paramUnder nL_pu (u.1) (u.2.1) (u.2.2.1) iL_nameAt iL_startAt (u.2.2.2.1) jL_scaleOver jL_scaleUnder ++ (WF hF aF kF dF_tree nF_tree fF_tree ++ (WT hT aT kT fT_tape dT_tape nT_tape iT_length (u.2.2.2.2.1) (u.2.2.2.2.2) iT_kind iT_at iT_number jT_name iT_next ++ (WM hM aM kM iM_stands iM_variables iM_rows iM_goals iM_differents iM_cases fM_from fM_to fM_whole fM_ways iM_plainRows fM_plainRow fM_kept fM_goalOver fM_goalUnder fM_goalMax fM_different)))) t.heap ∧ va_D (va_A (WL hL aL kL hT hM (.ref dF_tree) iL_names gL_key fL_kind fL_one fL_two fL_base iL_params fL_paramOver dL_paramOver nL_params fL_paramUnder dL_paramUnder nL_pu gL_over gL_under fL_bound iL_nameAt iL_startAt iL_steps jL_scaleOver jL_scaleUnder ++ (WF hF aF kF dF_tree nF_tree fF_tree ++ (WT hT aT kT fT_tape dT_tape nT_tape iT_length iT_fault iT_place iT_kind iT_at iT_number jT_name iT_next ++ (WM hM aM kM iM_stands iM_variables iM_rows iM_goals iM_differents iM_cases fM_from fM_to fM_whole fM_ways iM_plainRows fM_plainRow fM_kept fM_goalOver fM_goalUnder fM_goalMax fM_different)))) sz) (WL hL aL kL hT hM (.ref dF_tree) iL_names gL_key fL_kind fL_one fL_two fL_base iL_params fL_paramOver dL_paramOver nL_params fL_paramUnder dL_paramUnder nL_pu (u.1) (u.2.1) (u.2.2.1) iL_nameAt iL_startAt (u.2.2.2.1) jL_scaleOver jL_scaleUnder ++ (WF hF aF kF dF_tree nF_tree fF_tree ++ (WT hT aT kT fT_tape dT_tape nT_tape iT_length (u.2.2.2.2.1) (u.2.2.2.2.2) iT_kind iT_at iT_number jT_name iT_next ++ (WM hM aM kM iM_stands iM_variables iM_rows iM_goals iM_differents iM_cases fM_from fM_to fM_whole fM_ways iM_plainRows fM_plainRow fM_kept fM_goalOver fM_goalUnder fM_goalMax fM_different))))) (va_A (WL hL aL kL hT hM (.ref dF_tree) iL_names gL_key fL_kind fL_one fL_two fL_base iL_params fL_paramOver dL_paramOver nL_params fL_paramUnder dL_paramUnder nL_pu gL_over gL_under fL_bound iL_nameAt iL_startAt iL_steps jL_scaleOver jL_scaleUnder ++ (WF hF aF kF dF_tree nF_tree fF_tree ++ (WT hT aT kT fT_tape dT_tape nT_tape iT_length iT_fault iT_place iT_kind iT_at iT_number jT_name iT_next ++ (WM hM aM kM iM_stands iM_variables iM_rows iM_goals iM_differents iM_cases fM_from fM_to fM_whole fM_ways iM_plainRows fM_plainRow fM_kept fM_goalOver fM_goalUnder fM_goalMax fM_different)))) sz)) 1 6 (va_A (WL hL aL kL hT hM (.ref dF_tree) iL_names gL_key fL_kind fL_one fL_two fL_base iL_params fL_paramOver dL_paramOver nL_params fL_paramUnder dL_paramUnder nL_pu gL_over gL_under fL_bound iL_nameAt iL_startAt iL_steps jL_scaleOver jL_scaleUnder ++ (WF hF aF kF dF_tree nF_tree fF_tree ++ (WT hT aT kT fT_tape dT_tape nT_tape iT_length iT_fault iT_place iT_kind iT_at iT_number jT_name iT_next ++ (WM hM aM kM iM_stands iM_variables iM_rows iM_goals iM_differents iM_cases fM_from fM_to fM_whole fM_ways iM_plainRows fM_plainRow fM_kept fM_goalOver fM_goalUnder fM_goalMax fM_different)))) sz)
def Cm_X10_compares (l : Launch) (ev : Nat) : Prop := ∀ (dC : Nat → ClassId) (dI : Nat → Nat → Nat) (hL : Nat → Nat) (aL : Nat → Nat) (kL : Nat → ClassId) (hT : Nat → Nat) (hM : Nat → Nat) (iL_names : Int32) (gL_key : Nat → Int64) (fL_kind : Nat → Int32) (fL_one : Nat → Int32) (fL_two : Nat → Int32) (fL_base : Nat → Int32) (iL_params : Int32) (fL_paramOver : Nat → Int32) (dL_paramOver : Nat) (nL_params : Nat) (fL_paramUnder : Nat → Int32) (dL_paramUnder : Nat) (nL_pu : Nat) (gL_over : Nat → Int64) (gL_under : Nat → Int64) (fL_bound : Nat → Int32) (iL_nameAt : Int32) (iL_startAt : Int32) (iL_steps : Int32) (jL_scaleOver : Int64) (jL_scaleUnder : Int64) (hF : Nat → Nat) (aF : Nat → Nat) (kF : Nat → ClassId) (dF_tree : Nat) (nF_tree : Nat) (fF_tree : Nat → Int32) (aT : Nat → Nat) (kT : Nat → ClassId) (fT_tape : Nat → Int32) (dT_tape : Nat) (nT_tape : Nat) (iT_length : Int32) (iT_fault : Int32) (iT_place : Int32) (iT_kind : Int32) (iT_at : Int32) (iT_number : Int32) (jT_name : Int64) (iT_next : Int32) (aM : Nat → Nat) (kM : Nat → ClassId) (iM_stands : Int32) (iM_variables : Int32) (iM_rows : Int32) (iM_goals : Int32) (iM_differents : Int32) (iM_cases : Int32) (fM_from : Nat → Int32) (fM_to : Nat → Int32) (fM_whole : Nat → Int32) (fM_ways : Nat → Int32) (iM_plainRows : Int32) (fM_plainRow : Nat → Int32) (fM_kept : Nat → Int32) (fM_goalOver : Nat → Int32) (fM_goalUnder : Nat → Int32) (fM_goalMax : Nat → Int32) (fM_different : Nat → Int32) (V : Int → Nat → Nat → Prop) (lo : Int) (lv : Nat) (p1 : Int32) (p2 : Int32) (b_iL_names : 0 ≤ iL_names.toInt ∧ iL_names.toInt ≤ 40) (b_fL_kind : ∀ q : Nat, 0 ≤ (fL_kind q).toInt ∧ (fL_kind q).toInt ≤ 5) (b_fL_two : ∀ q : Nat, (-1) ≤ (fL_two q).toInt ∧ (fL_two q).toInt ≤ 39) (b_fL_base : ∀ q : Nat, 0 ≤ (fL_base q).toInt ∧ (fL_base q).toInt ≤ 2560) (b_iL_params : 0 ≤ iL_params.toInt ∧ iL_params.toInt ≤ 2560) (b_nL_params : 0 ≤ nL_params ∧ nL_params ≤ 2560) (b_nm : NmL iL_names fL_kind fL_one fL_two fL_base nL_params) (b_pm : iL_params.toInt ≤ ((nL_params : Nat) : Int)) (b_pu : nL_pu = nL_params) (b_nF_tree : 7 ≤ nF_tree ∧ nF_tree ≤ 72200) (b_fT_tape : ∀ q : Nat, (-128) ≤ (fT_tape q).toInt ∧ (fT_tape q).toInt ≤ 127) (b_nT_tape : 64 ≤ nT_tape ∧ nT_tape ≤ 2560) (b_iT_length : 0 ≤ iT_length.toInt ∧ iT_length.toInt ≤ 1280) (b_iT_at : 0 ≤ iT_at.toInt ∧ iT_at.toInt ≤ 1282) (b_iT_number : 0 ≤ iT_number.toInt ∧ iT_number.toInt ≤ 999999) (b_iT_next : 0 ≤ iT_next.toInt ∧ iT_next.toInt ≤ 1282) (b_len : iT_length.toInt ≤ ((nT_tape : Nat) : Int)) (b_iM_stands : 0 ≤ iM_stands.toInt ∧ iM_stands.toInt ≤ 1) (b_iM_variables : 0 ≤ iM_variables.toInt ∧ iM_variables.toInt ≤ 8) (b_iM_rows : 0 ≤ iM_rows.toInt ∧ iM_rows.toInt ≤ 12) (b_iM_goals : 0 ≤ iM_goals.toInt ∧ iM_goals.toInt ≤ 3) (b_iM_differents : 0 ≤ iM_differents.toInt ∧ iM_differents.toInt ≤ 8) (b_iM_cases : 0 ≤ iM_cases.toInt ∧ iM_cases.toInt ≤ 200000) (b_fM_ways : ∀ q : Nat, 0 ≤ (fM_ways q).toInt ∧ (fM_ways q).toInt ≤ 3) (b_iM_plainRows : 0 ≤ iM_plainRows.toInt ∧ iM_plainRows.toInt ≤ 12) (b_fM_plainRow : ∀ q : Nat, 0 ≤ (fM_plainRow q).toInt ∧ (fM_plainRow q).toInt ≤ 11) (b_pr : iM_plainRows.toInt ≤ iM_rows.toInt) (b_p2 : 0 ≤ p2.toInt ∧ p2.toInt ≤ 38) (hV : TrL V fF_tree fL_kind fL_one fL_two iL_names.toInt lo ((nF_tree : Nat) : Int)) (hn : V p1.toInt 12 lv) (hlv : lv + ev = 26) (hsl : p2.toInt ≤ (lv : Int) + 1) (hcc : V (twL fF_tree (p1.toInt + 3)) 1 (lv + 1) ∧ V (twL fF_tree (p1.toInt + 4)) 1 (lv + 1)) (sz : Nat), vx_Met l yX10_compares wsMX10_compares ({ frames := 12 * ev + 11, cells := 1, slots := 6, locals := 720 * ev + 227 }) (va_Pc [.ref (hL 0), .int p1, .int p2] (fun U => U.heap.size = sz ∧ va_P (dC, dI) vwCl (WL hL aL kL hT hM (.ref dF_tree) iL_names gL_key fL_kind fL_one fL_two fL_base iL_params fL_paramOver dL_paramOver nL_params fL_paramUnder dL_paramUnder nL_pu gL_over gL_under fL_bound iL_nameAt iL_startAt iL_steps jL_scaleOver jL_scaleUnder ++ (WF hF aF kF dF_tree nF_tree fF_tree ++ (WT hT aT kT fT_tape dT_tape nT_tape iT_length iT_fault iT_place iT_kind iT_at iT_number jT_name iT_next ++ (WM hM aM kM iM_stands iM_variables iM_rows iM_goals iM_differents iM_cases fM_from fM_to fM_whole fM_ways iM_plainRows fM_plainRow fM_kept fM_goalOver fM_goalUnder fM_goalMax fM_different)))) U.heap ∧ va_K (dC, dI) vwCl (tL kL ++ (tF kF ++ (tT kT ++ (tM kM)))) U ∧ va_D (fun _ => True) (WL hL aL kL hT hM (.ref dF_tree) iL_names gL_key fL_kind fL_one fL_two fL_base iL_params fL_paramOver dL_paramOver nL_params fL_paramUnder dL_paramUnder nL_pu gL_over gL_under fL_bound iL_nameAt iL_startAt iL_steps jL_scaleOver jL_scaleUnder ++ (WF hF aF kF dF_tree nF_tree fF_tree ++ (WT hT aT kT fT_tape dT_tape nT_tape iT_length iT_fault iT_place iT_kind iT_at iT_number jT_name iT_next ++ (WM hM aM kM iM_stands iM_variables iM_rows iM_goals iM_differents iM_cases fM_from fM_to fM_whole fM_ways iM_plainRows fM_plainRow fM_kept fM_goalOver fM_goalUnder fM_goalMax fM_different)))) ∧ CE (va_A (WL hL aL kL hT hM (.ref dF_tree) iL_names gL_key fL_kind fL_one fL_two fL_base iL_params fL_paramOver dL_paramOver nL_params fL_paramUnder dL_paramUnder nL_pu gL_over gL_under fL_bound iL_nameAt iL_startAt iL_steps jL_scaleOver jL_scaleUnder ++ (WF hF aF kF dF_tree nF_tree fF_tree ++ (WT hT aT kT fT_tape dT_tape nT_tape iT_length iT_fault iT_place iT_kind iT_at iT_number jT_name iT_next ++ (WM hM aM kM iM_stands iM_variables iM_rows iM_goals iM_differents iM_cases fM_from fM_to fM_whole fM_ways iM_plainRows fM_plainRow fM_kept fM_goalOver fM_goalUnder fM_goalMax fM_different)))) sz) U U.heap)) (va_Qi (fun (r : Int32) (u : (Nat → Int64) × (Nat → Int64) × (Nat → Int32) × (Int32) × (Int32) × (Int32)) => (0 ≤ r.toInt ∧ r.toInt ≤ 1)) (fun (u : (Nat → Int64) × (Nat → Int64) × (Nat → Int32) × (Int32) × (Int32) × (Int32)) t => va_P (dC, dI) vwCl (WL hL aL kL hT hM (.ref dF_tree) iL_names gL_key fL_kind fL_one fL_two fL_base iL_params fL_paramOver dL_paramOver nL_params fL_paramUnder dL_paramUnder nL_pu (u.1) (u.2.1) (u.2.2.1) iL_nameAt iL_startAt (u.2.2.2.1) jL_scaleOver jL_scaleUnder ++ (WF hF aF kF dF_tree nF_tree fF_tree ++ (WT hT aT kT fT_tape dT_tape nT_tape iT_length (u.2.2.2.2.1) (u.2.2.2.2.2) iT_kind iT_at iT_number jT_name iT_next ++ (WM hM aM kM iM_stands iM_variables iM_rows iM_goals iM_differents iM_cases fM_from fM_to fM_whole fM_ways iM_plainRows fM_plainRow fM_kept fM_goalOver fM_goalUnder fM_goalMax fM_different)))) t.heap ∧ va_D (va_A (WL hL aL kL hT hM (.ref dF_tree) iL_names gL_key fL_kind fL_one fL_two fL_base iL_params fL_paramOver dL_paramOver nL_params fL_paramUnder dL_paramUnder nL_pu gL_over gL_under fL_bound iL_nameAt iL_startAt iL_steps jL_scaleOver jL_scaleUnder ++ (WF hF aF kF dF_tree nF_tree fF_tree ++ (WT hT aT kT fT_tape dT_tape nT_tape iT_length iT_fault iT_place iT_kind iT_at iT_number jT_name iT_next ++ (WM hM aM kM iM_stands iM_variables iM_rows iM_goals iM_differents iM_cases fM_from fM_to fM_whole fM_ways iM_plainRows fM_plainRow fM_kept fM_goalOver fM_goalUnder fM_goalMax fM_different)))) sz) (WL hL aL kL hT hM (.ref dF_tree) iL_names gL_key fL_kind fL_one fL_two fL_base iL_params fL_paramOver dL_paramOver nL_params fL_paramUnder dL_paramUnder nL_pu (u.1) (u.2.1) (u.2.2.1) iL_nameAt iL_startAt (u.2.2.2.1) jL_scaleOver jL_scaleUnder ++ (WF hF aF kF dF_tree nF_tree fF_tree ++ (WT hT aT kT fT_tape dT_tape nT_tape iT_length (u.2.2.2.2.1) (u.2.2.2.2.2) iT_kind iT_at iT_number jT_name iT_next ++ (WM hM aM kM iM_stands iM_variables iM_rows iM_goals iM_differents iM_cases fM_from fM_to fM_whole fM_ways iM_plainRows fM_plainRow fM_kept fM_goalOver fM_goalUnder fM_goalMax fM_different)))) ∧ t.heap.size = sz) (va_A (WL hL aL kL hT hM (.ref dF_tree) iL_names gL_key fL_kind fL_one fL_two fL_base iL_params fL_paramOver dL_paramOver nL_params fL_paramUnder dL_paramUnder nL_pu gL_over gL_under fL_bound iL_nameAt iL_startAt iL_steps jL_scaleOver jL_scaleUnder ++ (WF hF aF kF dF_tree nF_tree fF_tree ++ (WT hT aT kT fT_tape dT_tape nT_tape iT_length iT_fault iT_place iT_kind iT_at iT_number jT_name iT_next ++ (WM hM aM kM iM_stands iM_variables iM_rows iM_goals iM_differents iM_cases fM_from fM_to fM_whole fM_ways iM_plainRows fM_plainRow fM_kept fM_goalOver fM_goalUnder fM_goalMax fM_different)))) sz)) (vx_X (fun (u : (Nat → Int64) × (Nat → Int64) × (Nat → Int32) × (Int32) × (Int32) × (Int32)) => True) (fun E (u : (Nat → Int64) × (Nat → Int64) × (Nat → Int32) × (Int32) × (Int32) × (Int32)) t => (E = "java/lang/IllegalArgumentException") ∧ va_P (dC, dI) vwCl (WL hL aL kL hT hM (.ref dF_tree) iL_names gL_key fL_kind fL_one fL_two fL_base iL_params fL_paramOver dL_paramOver nL_params fL_paramUnder dL_paramUnder nL_pu (u.1) (u.2.1) (u.2.2.1) iL_nameAt iL_startAt (u.2.2.2.1) jL_scaleOver jL_scaleUnder ++ (WF hF aF kF dF_tree nF_tree fF_tree ++ (WT hT aT kT fT_tape dT_tape nT_tape iT_length (u.2.2.2.2.1) (u.2.2.2.2.2) iT_kind iT_at iT_number jT_name iT_next ++ (WM hM aM kM iM_stands iM_variables iM_rows iM_goals iM_differents iM_cases fM_from fM_to fM_whole fM_ways iM_plainRows fM_plainRow fM_kept fM_goalOver fM_goalUnder fM_goalMax fM_different)))) t.heap ∧ va_D (va_A (WL hL aL kL hT hM (.ref dF_tree) iL_names gL_key fL_kind fL_one fL_two fL_base iL_params fL_paramOver dL_paramOver nL_params fL_paramUnder dL_paramUnder nL_pu gL_over gL_under fL_bound iL_nameAt iL_startAt iL_steps jL_scaleOver jL_scaleUnder ++ (WF hF aF kF dF_tree nF_tree fF_tree ++ (WT hT aT kT fT_tape dT_tape nT_tape iT_length iT_fault iT_place iT_kind iT_at iT_number jT_name iT_next ++ (WM hM aM kM iM_stands iM_variables iM_rows iM_goals iM_differents iM_cases fM_from fM_to fM_whole fM_ways iM_plainRows fM_plainRow fM_kept fM_goalOver fM_goalUnder fM_goalMax fM_different)))) sz) (WL hL aL kL hT hM (.ref dF_tree) iL_names gL_key fL_kind fL_one fL_two fL_base iL_params fL_paramOver dL_paramOver nL_params fL_paramUnder dL_paramUnder nL_pu (u.1) (u.2.1) (u.2.2.1) iL_nameAt iL_startAt (u.2.2.2.1) jL_scaleOver jL_scaleUnder ++ (WF hF aF kF dF_tree nF_tree fF_tree ++ (WT hT aT kT fT_tape dT_tape nT_tape iT_length (u.2.2.2.2.1) (u.2.2.2.2.2) iT_kind iT_at iT_number jT_name iT_next ++ (WM hM aM kM iM_stands iM_variables iM_rows iM_goals iM_differents iM_cases fM_from fM_to fM_whole fM_ways iM_plainRows fM_plainRow fM_kept fM_goalOver fM_goalUnder fM_goalMax fM_different))))) (va_A (WL hL aL kL hT hM (.ref dF_tree) iL_names gL_key fL_kind fL_one fL_two fL_base iL_params fL_paramOver dL_paramOver nL_params fL_paramUnder dL_paramUnder nL_pu gL_over gL_under fL_bound iL_nameAt iL_startAt iL_steps jL_scaleOver jL_scaleUnder ++ (WF hF aF kF dF_tree nF_tree fF_tree ++ (WT hT aT kT fT_tape dT_tape nT_tape iT_length iT_fault iT_place iT_kind iT_at iT_number jT_name iT_next ++ (WM hM aM kM iM_stands iM_variables iM_rows iM_goals iM_differents iM_cases fM_from fM_to fM_whole fM_ways iM_plainRows fM_plainRow fM_kept fM_goalOver fM_goalUnder fM_goalMax fM_different)))) sz)) 1 6 (va_A (WL hL aL kL hT hM (.ref dF_tree) iL_names gL_key fL_kind fL_one fL_two fL_base iL_params fL_paramOver dL_paramOver nL_params fL_paramUnder dL_paramUnder nL_pu gL_over gL_under fL_bound iL_nameAt iL_startAt iL_steps jL_scaleOver jL_scaleUnder ++ (WF hF aF kF dF_tree nF_tree fF_tree ++ (WT hT aT kT fT_tape dT_tape nT_tape iT_length iT_fault iT_place iT_kind iT_at iT_number jT_name iT_next ++ (WM hM aM kM iM_stands iM_variables iM_rows iM_goals iM_differents iM_cases fM_from fM_to fM_whole fM_ways iM_plainRows fM_plainRow fM_kept fM_goalOver fM_goalUnder fM_goalMax fM_different)))) sz)
end
section
theorem dX10_linear_0 : decode cX10_linear 0 = .ok (.aload_n 0, 1) := dk_42 (by decide +kernel)
theorem dX10_linear_1 : decode cX10_linear 1 = .ok (.getfield 55, 3) := dk_180 (by decide +kernel)
theorem dX10_linear_4 : decode cX10_linear 4 = .ok (.iload_n 1, 1) := dk_27 (by decide +kernel)
theorem dX10_linear_5 : decode cX10_linear 5 = .ok (.iconst 3, 1) := dk_6 (by decide +kernel)
theorem dX10_linear_6 : decode cX10_linear 6 = .ok (.iadd, 1) := dk_96 (by decide +kernel)
theorem dX10_linear_7 : decode cX10_linear 7 = .ok (.iaload, 1) := dk_46 (by decide +kernel)
theorem dX10_linear_8 : decode cX10_linear 8 = .ok (.istore_n 3, 1) := dk_62 (by decide +kernel)
theorem dX10_linear_9 : decode cX10_linear 9 = .ok (.aload_n 0, 1) := dk_42 (by decide +kernel)
theorem dX10_linear_10 : decode cX10_linear 10 = .ok (.iload_n 3, 1) := dk_29 (by decide +kernel)
theorem dX10_linear_11 : decode cX10_linear 11 = .ok (.iload_n 2, 1) := dk_28 (by decide +kernel)
theorem dX10_linear_12 : decode cX10_linear 12 = .ok (.invokevirtual 211, 3) := dk_182 (by decide +kernel)
theorem dX10_linear_15 : decode cX10_linear 15 = .ok (.aload_n 0, 1) := dk_42 (by decide +kernel)
theorem dX10_linear_16 : decode cX10_linear 16 = .ok (.getfield 55, 3) := dk_180 (by decide +kernel)
theorem dX10_linear_19 : decode cX10_linear 19 = .ok (.iload_n 3, 1) := dk_29 (by decide +kernel)
theorem dX10_linear_20 : decode cX10_linear 20 = .ok (.bipush 6, 2) := dk_16 (by decide +kernel)
theorem dX10_linear_22 : decode cX10_linear 22 = .ok (.iadd, 1) := dk_96 (by decide +kernel)
theorem dX10_linear_23 : decode cX10_linear 23 = .ok (.iaload, 1) := dk_46 (by decide +kernel)
theorem dX10_linear_24 : decode cX10_linear 24 = .ok (.istore_n 3, 1) := dk_62 (by decide +kernel)
theorem dX10_linear_25 : decode cX10_linear 25 = .ok (.iconst 0, 1) := dk_3 (by decide +kernel)
theorem dX10_linear_26 : decode cX10_linear 26 = .ok (.istore 4, 2) := dk_54 (by decide +kernel)
theorem dX10_linear_28 : decode cX10_linear 28 = .ok (.iload 4, 2) := dk_21 (by decide +kernel)
theorem dX10_linear_30 : decode cX10_linear 30 = .ok (.sipush 4000, 3) := dk_17 (by decide +kernel)
theorem dX10_linear_33 : decode cX10_linear 33 = .ok (.if_icmp .ge 66, 3) := dk_162 (by decide +kernel)
theorem dX10_linear_36 : decode cX10_linear 36 = .ok (.iload_n 3, 1) := dk_29 (by decide +kernel)
theorem dX10_linear_37 : decode cX10_linear 37 = .ok (.ifCond .eq 62, 3) := dk_153 (by decide +kernel)
theorem dX10_linear_40 : decode cX10_linear 40 = .ok (.aload_n 0, 1) := dk_42 (by decide +kernel)
theorem dX10_linear_41 : decode cX10_linear 41 = .ok (.invokevirtual 214, 3) := dk_182 (by decide +kernel)
theorem dX10_linear_44 : decode cX10_linear 44 = .ok (.aload_n 0, 1) := dk_42 (by decide +kernel)
theorem dX10_linear_45 : decode cX10_linear 45 = .ok (.iload_n 3, 1) := dk_29 (by decide +kernel)
theorem dX10_linear_46 : decode cX10_linear 46 = .ok (.iload_n 2, 1) := dk_28 (by decide +kernel)
theorem dX10_linear_47 : decode cX10_linear 47 = .ok (.iconst 1, 1) := dk_4 (by decide +kernel)
theorem dX10_linear_48 : decode cX10_linear 48 = .ok (.iadd, 1) := dk_96 (by decide +kernel)
theorem dX10_linear_49 : decode cX10_linear 49 = .ok (.invokevirtual 211, 3) := dk_182 (by decide +kernel)
theorem dX10_linear_52 : decode cX10_linear 52 = .ok (.aload_n 0, 1) := dk_42 (by decide +kernel)
theorem dX10_linear_53 : decode cX10_linear 53 = .ok (.iload_n 2, 1) := dk_28 (by decide +kernel)
theorem dX10_linear_54 : decode cX10_linear 54 = .ok (.aload_n 0, 1) := dk_42 (by decide +kernel)
theorem dX10_linear_55 : decode cX10_linear 55 = .ok (.getfield 55, 3) := dk_180 (by decide +kernel)
theorem dX10_linear_58 : decode cX10_linear 58 = .ok (.iload_n 3, 1) := dk_29 (by decide +kernel)
theorem dX10_linear_59 : decode cX10_linear 59 = .ok (.iconst 2, 1) := dk_5 (by decide +kernel)
theorem dX10_linear_60 : decode cX10_linear 60 = .ok (.iadd, 1) := dk_96 (by decide +kernel)
theorem dX10_linear_61 : decode cX10_linear 61 = .ok (.iaload, 1) := dk_46 (by decide +kernel)
theorem dX10_linear_62 : decode cX10_linear 62 = .ok (.bipush 45, 2) := dk_16 (by decide +kernel)
theorem dX10_linear_64 : decode cX10_linear 64 = .ok (.if_icmp .ne 7, 3) := dk_160 (by decide +kernel)
theorem dX10_linear_67 : decode cX10_linear 67 = .ok (.iconst 1, 1) := dk_4 (by decide +kernel)
theorem dX10_linear_68 : decode cX10_linear 68 = .ok (.goto 4, 3) := dk_167 (by decide +kernel)
theorem dX10_linear_71 : decode cX10_linear 71 = .ok (.iconst 0, 1) := dk_3 (by decide +kernel)
theorem dX10_linear_72 : decode cX10_linear 72 = .ok (.aload_n 0, 1) := dk_42 (by decide +kernel)
theorem dX10_linear_73 : decode cX10_linear 73 = .ok (.getfield 55, 3) := dk_180 (by decide +kernel)
theorem dX10_linear_76 : decode cX10_linear 76 = .ok (.iload_n 3, 1) := dk_29 (by decide +kernel)
theorem dX10_linear_77 : decode cX10_linear 77 = .ok (.iconst 1, 1) := dk_4 (by decide +kernel)
theorem dX10_linear_78 : decode cX10_linear 78 = .ok (.iadd, 1) := dk_96 (by decide +kernel)
theorem dX10_linear_79 : decode cX10_linear 79 = .ok (.iaload, 1) := dk_46 (by decide +kernel)
theorem dX10_linear_80 : decode cX10_linear 80 = .ok (.invokevirtual 217, 3) := dk_182 (by decide +kernel)
theorem dX10_linear_83 : decode cX10_linear 83 = .ok (.aload_n 0, 1) := dk_42 (by decide +kernel)
theorem dX10_linear_84 : decode cX10_linear 84 = .ok (.getfield 55, 3) := dk_180 (by decide +kernel)
theorem dX10_linear_87 : decode cX10_linear 87 = .ok (.iload_n 3, 1) := dk_29 (by decide +kernel)
theorem dX10_linear_88 : decode cX10_linear 88 = .ok (.bipush 6, 2) := dk_16 (by decide +kernel)
theorem dX10_linear_90 : decode cX10_linear 90 = .ok (.iadd, 1) := dk_96 (by decide +kernel)
theorem dX10_linear_91 : decode cX10_linear 91 = .ok (.iaload, 1) := dk_46 (by decide +kernel)
theorem dX10_linear_92 : decode cX10_linear 92 = .ok (.istore_n 3, 1) := dk_62 (by decide +kernel)
theorem dX10_linear_93 : decode cX10_linear 93 = .ok (.iinc 4 1, 3) := dk_132 (by decide +kernel)
theorem dX10_linear_96 : decode cX10_linear 96 = .ok (.goto (-68), 3) := dk_167 (by decide +kernel)
theorem dX10_linear_99 : decode cX10_linear 99 = .ok (.return_, 1) := dk_177 (by decide +kernel)
theorem iwsMX10_linear_in10 : ∀ w ∈ wsX100, w ∈ wsMX10_linear := fun w h => List.mem_cons_of_mem _ (iwsGW_in10 w h)
theorem gwsMX10_linear_0 : GoodIn wsMX10_linear (wsV RX10 211 RX10 yX10_term wsMX10_term) := goodIn_rec (hd := [.methodLink RX10 211 yX10_term, .instanceMethod yX10_term, .selects RX10 yX10_term yX10_term, .initialized RX10]) (by decide +kernel) (by decide +kernel) gdwsGW
theorem gwsMX10_linear_1 : GoodIn wsMX10_linear (wsV RX10 214 RX10 yX10_step wsMX10_step) := goodIn_sub (fun w h => List.mem_cons_of_mem _ (gwsGW_0 w h)) (gdV (by decide +kernel) gdwsMX10_step)
theorem gwsMX10_linear_2 : GoodIn wsMX10_linear (wsV RX10 217 RX10 yX10_join wsMX10_join) := goodIn_sub (fun w h => List.mem_cons_of_mem _ (gwsGW_1 w h)) (gdV (by decide +kernel) gdwsMX10_join)
theorem hm_m_X10_linear_0 : (.fieldLink RX10 55 "OptimaWorks$Worker" "tree" "[I" : Cond) ∈ wsMX10_linear := by decide +kernel
set_option maxHeartbeats 4000000 in
set_option maxRecDepth 100000 in
/-- a LINEAR worked out -/
theorem m_X10_linear (l : Launch) (hst : l.stackTraces = false) (ev : Nat) (ih_X10_term : Cm_X10_term l (ev + 1)) : Cm_X10_linear l (ev + 1) := by
  intro dC dI hL aL kL hT hM iL_names gL_key fL_kind fL_one fL_two fL_base iL_params fL_paramOver dL_paramOver nL_params fL_paramUnder dL_paramUnder nL_pu gL_over gL_under fL_bound iL_nameAt iL_startAt iL_steps jL_scaleOver jL_scaleUnder hF aF kF dF_tree nF_tree fF_tree aT kT fT_tape dT_tape nT_tape iT_length iT_fault iT_place iT_kind iT_at iT_number jT_name iT_next aM kM iM_stands iM_variables iM_rows iM_goals iM_differents iM_cases fM_from fM_to fM_whole fM_ways iM_plainRows fM_plainRow fM_kept fM_goalOver fM_goalUnder fM_goalMax fM_different V lo lv p1 p2 b_iL_names b_fL_kind b_fL_two b_fL_base b_iL_params b_nL_params b_nm b_pm b_pu b_nF_tree b_fT_tape b_nT_tape b_iT_length b_iT_at b_iT_number b_iT_next b_len b_iM_stands b_iM_variables b_iM_rows b_iM_goals b_iM_differents b_iM_cases b_fM_ways b_iM_plainRows b_fM_plainRow b_pr b_p2 hV hn hlv hsl sz
  refine vx_ofW (cc := cX10_linear) (maxL := 5) (ret := none) (by decide) rfl ?_
  intro p e s m args below meth c s₁ B hml htab hv
  obtain ⟨rfl, hsz, hP, hK, hD0, hE⟩ := hv
  have hx := B.exec
  have hb := B.bytes
  have hr := B.returns
  have hts := atoms_spec (ws := wsMX10_linear) B.pre
  have hown : s.vm.findClass RX10 = some m.cls := findClass_of_methodNamed B.named
  have hlocks := B.notSynchronized
  subst hsz
  have hD := hD0.self (sz := s.heap.size)
  generalize hAe : va_A (WL hL aL kL hT hM (.ref dF_tree) iL_names gL_key fL_kind fL_one fL_two fL_base iL_params fL_paramOver dL_paramOver nL_params fL_paramUnder dL_paramUnder nL_pu gL_over gL_under fL_bound iL_nameAt iL_startAt iL_steps jL_scaleOver jL_scaleUnder ++ (WF hF aF kF dF_tree nF_tree fF_tree ++ (WT hT aT kT fT_tape dT_tape nT_tape iT_length iT_fault iT_place iT_kind iT_at iT_number jT_name iT_next ++ (WM hM aM kM iM_stands iM_variables iM_rows iM_goals iM_differents iM_cases fM_from fM_to fM_whole fM_ways iM_plainRows fM_plainRow fM_kept fM_goalOver fM_goalUnder fM_goalMax fM_different)))) s.heap.size = A at hD hE ⊢
  have hA : ∀ q : Nat, s.heap.size ≤ q → A q := fun q h => by rw [← hAe]; exact Or.inr h
  have hS : va_S A s.heap s.heap [] := va_S.rf
  have hl := lv_entry ([.ref (hL 0), .int p1, .int p2]) (n := 5) (Nat.le_of_ble_eq_true rfl)
  rw [lg_entry_eq]
  generalize (lg_sl ([.ref (hL 0), .int p1, .int p2]) ++ List.replicate (5 - (lg_sl ([.ref (hL 0), .int p1, .int p2])).length) Slot.unset).toArray = ls at hl ⊢
  have hl : lv_has ls 5 [(0, .ref (hL 0)), (1, .int p1), (2, .int p2)] := hl
  have hr0 := TrL.rng hV hn
  refine lv_aload_n hx hb dX10_linear_0 rfl (lv_at hl 0 rfl) ?_
  refine va_get (D := (dC, dI)) (ci := 10) (v := .ref dF_tree) (C := RX10) (T := TX10) (N := 20) hx hb hts iwsMX10_linear_in10 hown hK hP 0 rfl rfl 2 (by decide) (hts _ hm_m_X10_linear_0) (fun _ h9 => h9) rfl dX10_linear_1 ?_
  refine lv_iload_n hx hb dX10_linear_4 rfl (lv_at hl 1 rfl) ?_
  refine lv_iconst (v := 3) hx hb dX10_linear_5 (by decide) ?_
  refine lv_iadd hx hb dX10_linear_6 ?_
  refine lv_topi (fun y1 hy1 => ?_)
  obtain rfl : (iI (p1.toInt + 3)) = y1 := (hy1.trans (iI_add2 (iI_of _) (by decide : (3 : Int32) = iI 3))).symm
  refine va_iald (cA := kF 0) (n := nF_tree) (f := fF_tree) hx hb hK hP 11 10 rfl rfl (vp_iI (by omega) (by omega) (by omega)) dX10_linear_7 ?_
  refine lv_topi (fun v2 hv2 => ?_)
  have b_v2 : v2.toInt = twL fF_tree (p1.toInt + 3) := by rw [hv2]; exact tw_i (by omega) (by omega)
  have b1_v2 : V v2.toInt 2 lv := by rw [hv2]; exact Vld (tw_i (by omega) (by omega)) (TrL.c1 hV hn)
  clear hv2
  refine lv_istore_n hx hb dX10_linear_8 rfl hl (by decide) rfl (fun ls (hl : lv_has ls _ ([(3, .int v2), (0, .ref (hL 0)), (1, .int p1), (2, .int p2)])) => ?_)
  have hr1 := TrL.rng hV (by assumption : V v2.toInt _ _)
  refine lv_aload_n hx hb dX10_linear_9 rfl (lv_at hl 1 rfl) ?_
  refine lv_iload_n hx hb dX10_linear_10 rfl (lv_at hl 0 rfl) ?_
  refine lv_iload_n hx hb dX10_linear_11 rfl (lv_at hl 3 rfl) ?_
  refine W.known (fun hz0 _ => ?_)
  have hFc := allFree hD hS hA
  refine vx_callv (vx_runV (As := [.int v2, .int p2]) (rest := []) ⟨hx, hb, hml, hown, hts⟩ (ih_X10_term dC dI hL aL kL hT hM iL_names gL_key fL_kind fL_one fL_two fL_base iL_params fL_paramOver dL_paramOver nL_params fL_paramUnder dL_paramUnder nL_pu gL_over gL_under fL_bound iL_nameAt iL_startAt iL_steps jL_scaleOver jL_scaleUnder hF aF kF dF_tree nF_tree fF_tree aT kT fT_tape dT_tape nT_tape iT_length iT_fault iT_place iT_kind iT_at iT_number jT_name iT_next aM kM iM_stands iM_variables iM_rows iM_goals iM_differents iM_cases fM_from fM_to fM_whole fM_ways iM_plainRows fM_plainRow fM_kept fM_goalOver fM_goalUnder fM_goalMax fM_different V lo lv v2 p2 (b_iL_names) b_fL_kind b_fL_two b_fL_base (b_iL_params) (by first | exact b_nL_params | with_reducible assumption | exact ⟨by omega, by omega⟩ | assumption) (by first | with_reducible assumption | omega | (rw [iI_t (by omega) (by omega)]; omega) | assumption) (by first | with_reducible assumption | omega | (rw [iI_t (by omega) (by omega)]; omega) | assumption) (by first | with_reducible assumption | omega | (rw [iI_t (by omega) (by omega)]; omega) | assumption) (by first | exact b_nF_tree | with_reducible assumption | exact ⟨by omega, by omega⟩ | assumption) b_fT_tape (by first | exact b_nT_tape | with_reducible assumption | exact ⟨by omega, by omega⟩ | assumption) (b_iT_length) (b_iT_at) (b_iT_number) (b_iT_next) (by first | with_reducible assumption | omega | assumption) (b_iM_stands) (b_iM_variables) (b_iM_rows) (b_iM_goals) (b_iM_differents) (b_iM_cases) b_fM_ways (b_iM_plainRows) b_fM_plainRow (by first | with_reducible assumption | omega | assumption) (b_p2) (by first | with_reducible assumption | omega | (rw [iI_t (by omega) (by omega)]; omega) | decide | assumption) (by first | with_reducible assumption | omega | (rw [iI_t (by omega) (by omega)]; omega) | decide | assumption) (by first | with_reducible assumption | omega | (rw [iI_t (by omega) (by omega)]; omega) | decide | assumption) (by first | with_reducible assumption | omega | (rw [iI_t (by omega) (by omega)]; omega) | decide | assumption) s.heap.size) (cwV 2 hts gwsMX10_linear_0 rfl rfl rfl (by decide +kernel) ⟨by first | decide +kernel | (dsimp only [headSpec] <;> omega), by first | decide +kernel | (dsimp only [headSpec] <;> omega)⟩) (fz_preE (va_recv hK hP (ci := 10) (q0 := 0) rfl rfl) hP hK hD (fun a U g mk qE => qE.call) (fun U hU9 hW => by rw [hU9]; exact (((hE : CE A s s.heap).kept hS.2.1).narrow (fun q h => hFc q h)).warm hW)) rfl rfl hl.1 rfl (lv_room (Nat.le_of_ble_eq_true rfl)) dX10_linear_12 ⟨by first | decide +kernel | (dsimp only [headSpec] <;> omega), by first | decide +kernel | (dsimp only [headSpec] <;> omega)⟩) hS (fun q _ h => hFc q h) hFc (fun q _ h => hFc q h) (fun E ce q9 u t9_ H locs ht hvm hw9 hB9 hz1 hk1 hS hc1 hc2 hc3 => ?_) (fun u t9_ H locs ht hvm hw9 hB9 hz1 hk1 hS => ?_)
  · revert u hw9 hB9
    refine fz_p6 ?_
    intro gL_over_3 gL_under_3 fL_bound_3 iL_steps_3 iT_fault_3 iT_place_3 hw9 hB9
    try dsimp only at hw9 hB9
    revert hB9
    refine fz_a2 ?_
    intro hEx hB9
    clear hw9
    have hP : va_P (dC, dI) vwCl (WL hL aL kL hT hM (.ref dF_tree) iL_names gL_key fL_kind fL_one fL_two fL_base iL_params fL_paramOver dL_paramOver nL_params fL_paramUnder dL_paramUnder nL_pu gL_over_3 gL_under_3 fL_bound_3 iL_nameAt iL_startAt iL_steps_3 jL_scaleOver jL_scaleUnder ++ (WF hF aF kF dF_tree nF_tree fF_tree ++ (WT hT aT kT fT_tape dT_tape nT_tape iT_length iT_fault_3 iT_place_3 iT_kind iT_at iT_number jT_name iT_next ++ (WM hM aM kM iM_stands iM_variables iM_rows iM_goals iM_differents iM_cases fM_from fM_to fM_whole fM_ways iM_plainRows fM_plainRow fM_kept fM_goalOver fM_goalUnder fM_goalMax fM_different)))) H := fz_P ht hB9.1
    have hD := fz_sd hP (hB9.2.weaken (fun _ q _ h => hFc q.1 h)) rfl
    exact vx_out (fun x hx9 => (htab x hx9).elim) hlocks hc1 hc2 hc3 (fun t9_ ht hvm => ⟨(gL_over_3, gL_under_3, fL_bound_3, iL_steps_3, iT_fault_3, iT_place_3), trivial, ⟨(by have h9 := hEx; exact h9), by rw [ht]; exact hP, hD⟩, hS.F ht⟩) hS.2.2 (by decide +kernel) (by decide +kernel)
  revert u hw9 hB9
  refine fz_p6 ?_
  intro gL_over_3 gL_under_3 fL_bound_3 iL_steps_3 iT_fault_3 iT_place_3 hw9 hB9
  try dsimp only at hw9 hB9
  clear hw9
  have hz8 := hB9.2.2
  rw [ht] at hz8
  have hz9 : H.size ≤ s.heap.size + 0 := by rw [hz8]; exact hz0
  refine W.tight (cells2 := 0) (slots2 := 0) hz9 (nS_0 hz9) ?_
  clear hz8 hz9
  have hP : va_P (dC, dI) vwCl (WL hL aL kL hT hM (.ref dF_tree) iL_names gL_key fL_kind fL_one fL_two fL_base iL_params fL_paramOver dL_paramOver nL_params fL_paramUnder dL_paramUnder nL_pu gL_over_3 gL_under_3 fL_bound_3 iL_nameAt iL_startAt iL_steps_3 jL_scaleOver jL_scaleUnder ++ (WF hF aF kF dF_tree nF_tree fF_tree ++ (WT hT aT kT fT_tape dT_tape nT_tape iT_length iT_fault_3 iT_place_3 iT_kind iT_at iT_number jT_name iT_next ++ (WM hM aM kM iM_stands iM_variables iM_rows iM_goals iM_differents iM_cases fM_from fM_to fM_whole fM_ways iM_plainRows fM_plainRow fM_kept fM_goalOver fM_goalUnder fM_goalMax fM_different)))) H := fz_P ht hB9.1
  have hD := fz_sd hP (hB9.2.1.weaken (fun _ q _ h => hFc q.1 h)) rfl
  refine lv_aload_n hx hb dX10_linear_15 rfl (lv_at hl 1 rfl) ?_
  refine va_get (D := (dC, dI)) (ci := 10) (v := .ref dF_tree) (C := RX10) (T := TX10) (N := 20) hx hb hts iwsMX10_linear_in10 hown hK hP 0 rfl rfl 2 (by decide) (hts _ hm_m_X10_linear_0) (fun _ h9 => h9) rfl dX10_linear_16 ?_
  refine lv_iload_n hx hb dX10_linear_19 rfl (lv_at hl 0 rfl) ?_
  refine lv_bipush (v := 6) hx hb dX10_linear_20 (by decide) ?_
  refine lv_iadd hx hb dX10_linear_22 ?_
  refine lv_topi (fun y4 hy4 => ?_)
  obtain rfl : (iI (v2.toInt + 6)) = y4 := (hy4.trans (iI_add2 (iI_of _) (by decide : (6 : Int32) = iI 6))).symm
  refine va_iald (cA := kF 0) (n := nF_tree) (f := fF_tree) hx hb hK hP 11 10 rfl rfl (vp_iI (by omega) (by omega) (by omega)) dX10_linear_23 ?_
  refine lv_topi (fun v5 hv5 => ?_)
  have b_v5 : v5.toInt = twL fF_tree (v2.toInt + 6) := by rw [hv5]; exact tw_i (by omega) (by omega)
  have b1_v5 : v5.toInt = 0 ∨ V v5.toInt 2 lv := by rw [hv5]; exact tnx (tw_i (by omega) (by omega)) (TrL.nx hV (k := 2) (L := lv) (by assumption))
  clear hv5
  refine lv_istore_n hx hb dX10_linear_24 rfl hl (by decide) rfl (fun ls (hl : lv_has ls _ ([(3, .int v5), (0, .ref (hL 0)), (1, .int p1), (2, .int p2)])) => ?_)
  refine lv_iconst (v := 0) hx hb dX10_linear_25 (by decide) ?_
  refine lv_istore hx hb dX10_linear_26 hl (by decide) rfl (fun ls (hl : lv_has ls _ ([(4, .int 0), (3, .int v5), (0, .ref (hL 0)), (1, .int p1), (2, .int p2)])) => ?_)
  have hl : lv_has _ _ ([(4, .int 0), (3, .int v5), (0, .ref (hL 0)), (1, .int p1), (2, .int p2)]) := lv_sub hl [0, 1, 2, 3, 4] rfl
  refine (fun (loop : ∀ (n9 : Nat) (gL_over_x28 : Nat → Int64) (gL_under_x28 : Nat → Int64) (fL_bound_x28 : Nat → Int32) (iL_steps_x28 : Int32) (iT_fault_x28 : Int32) (iT_place_x28 : Int32) (l4_x28 : Int32) (l3_x28 : Int32) (H : Heap) (locs : List Loc) (ls : Array Slot), (0 ≤ l4_x28.toInt ∧ l4_x28.toInt ≤ 4000) → (l3_x28.toInt = 0 ∨ V l3_x28.toInt 2 lv) → (4000 - l4_x28.toInt < ((n9 : Nat) : Int)) → va_P (dC, dI) vwCl (WL hL aL kL hT hM (.ref dF_tree) iL_names gL_key fL_kind fL_one fL_two fL_base iL_params fL_paramOver dL_paramOver nL_params fL_paramUnder dL_paramUnder nL_pu gL_over_x28 gL_under_x28 fL_bound_x28 iL_nameAt iL_startAt iL_steps_x28 jL_scaleOver jL_scaleUnder ++ (WF hF aF kF dF_tree nF_tree fF_tree ++ (WT hT aT kT fT_tape dT_tape nT_tape iT_length iT_fault_x28 iT_place_x28 iT_kind iT_at iT_number jT_name iT_next ++ (WM hM aM kM iM_stands iM_variables iM_rows iM_goals iM_differents iM_cases fM_from fM_to fM_whole fM_ways iM_plainRows fM_plainRow fM_kept fM_goalOver fM_goalUnder fM_goalMax fM_different)))) H → va_D A (WL hL aL kL hT hM (.ref dF_tree) iL_names gL_key fL_kind fL_one fL_two fL_base iL_params fL_paramOver dL_paramOver nL_params fL_paramUnder dL_paramUnder nL_pu gL_over_x28 gL_under_x28 fL_bound_x28 iL_nameAt iL_startAt iL_steps_x28 jL_scaleOver jL_scaleUnder ++ (WF hF aF kF dF_tree nF_tree fF_tree ++ (WT hT aT kT fT_tape dT_tape nT_tape iT_length iT_fault_x28 iT_place_x28 iT_kind iT_at iT_number jT_name iT_next ++ (WM hM aM kM iM_stands iM_variables iM_rows iM_goals iM_differents iM_cases fM_from fM_to fM_whole fM_ways iM_plainRows fM_plainRow fM_kept fM_goalOver fM_goalUnder fM_goalMax fM_different)))) → va_S A s.heap H locs → lv_has ls 5 [(4, .int l4_x28), (3, .int l3_x28), (0, .ref (hL 0)), (1, .int p1), (2, .int p2)] → W p l e _ s m _ below meth c H locs 0 0 _ (F0 m 28 ls [])) => loop (4001) gL_over_3 gL_under_3 fL_bound_3 iL_steps_3 iT_fault_3 iT_place_3 0 v5 _ _ _ (show 0 ≤ (0 : Int32).toInt ∧ (0 : Int32).toInt ≤ 4000 from by decide) (show v5.toInt = 0 ∨ V v5.toInt 2 lv from by assumption) ((by have e9 : (0 : Int32).toInt = 0 := (by decide : (0 : Int32).toInt = 0); omega)) hP hD hS hl) ?_
  intro n9
  induction n9 with
  | zero => intro gL_over_x28 gL_under_x28 fL_bound_x28 iL_steps_x28 iT_fault_x28 iT_place_x28 l4_x28 l3_x28 H locs ls b_l4_x28 hpt hf9; exact False.elim (by omega)
  | succ n9 ihx28 =>
    intro gL_over_x28 gL_under_x28 fL_bound_x28 iL_steps_x28 iT_fault_x28 iT_place_x28 l4_x28 l3_x28 H locs ls b_l4_x28 hpt hfx28 hP hD hS hl
    refine lv_iload hx hb dX10_linear_28 (lv_at hl 0 rfl) ?_
    refine lv_sipush (v := 4000) hx hb dX10_linear_30 (by decide) ?_
    refine W.cut (pc := 99) (fun H locs ls stk =>  stk = [] ∧ va_P (dC, dI) vwCl (WL hL aL kL hT hM (.ref dF_tree) iL_names gL_key fL_kind fL_one fL_two fL_base iL_params fL_paramOver dL_paramOver nL_params fL_paramUnder dL_paramUnder nL_pu gL_over_x28 gL_under_x28 fL_bound_x28 iL_nameAt iL_startAt iL_steps_x28 jL_scaleOver jL_scaleUnder ++ (WF hF aF kF dF_tree nF_tree fF_tree ++ (WT hT aT kT fT_tape dT_tape nT_tape iT_length iT_fault_x28 iT_place_x28 iT_kind iT_at iT_number jT_name iT_next ++ (WM hM aM kM iM_stands iM_variables iM_rows iM_goals iM_differents iM_cases fM_from fM_to fM_whole fM_ways iM_plainRows fM_plainRow fM_kept fM_goalOver fM_goalUnder fM_goalMax fM_different)))) H ∧ va_D A (WL hL aL kL hT hM (.ref dF_tree) iL_names gL_key fL_kind fL_one fL_two fL_base iL_params fL_paramOver dL_paramOver nL_params fL_paramUnder dL_paramUnder nL_pu gL_over_x28 gL_under_x28 fL_bound_x28 iL_nameAt iL_startAt iL_steps_x28 jL_scaleOver jL_scaleUnder ++ (WF hF aF kF dF_tree nF_tree fF_tree ++ (WT hT aT kT fT_tape dT_tape nT_tape iT_length iT_fault_x28 iT_place_x28 iT_kind iT_at iT_number jT_name iT_next ++ (WM hM aM kM iM_stands iM_variables iM_rows iM_goals iM_differents iM_cases fM_from fM_to fM_whole fM_ways iM_plainRows fM_plainRow fM_kept fM_goalOver fM_goalUnder fM_goalMax fM_different)))) ∧ va_S A s.heap H locs ∧ lv_has ls 5 [(4, .int l4_x28), (3, .int l3_x28), (0, .ref (hL 0)), (1, .int p1), (2, .int p2)]) (fun join15 => ?_) ?_
    · refine lv_icmp_ge (tgt := 99) hx hb dX10_linear_33 (by decide) (fun c_33 => ?_) (fun c_33 => ?_)
      · have t_33 : l4_x28.toInt ≥ 4000 := toI_ge c_33 rfl (by decide : (4000 : Int32).toInt = 4000)
        have hl : lv_has _ _ ([(4, .int l4_x28), (3, .int l3_x28), (0, .ref (hL 0)), (1, .int p1), (2, .int p2)]) := lv_sub hl [0, 1, 2, 3, 4] rfl
        exact join15 _ _ _ _ ⟨rfl, hP, hD, hS, hl⟩
      · have t_33 : ¬ l4_x28.toInt ≥ 4000 := toI_nge c_33 rfl (by decide : (4000 : Int32).toInt = 4000)
        refine lv_iload_n hx hb dX10_linear_36 rfl (lv_at hl 1 rfl) ?_
        refine lv_if_eq (tgt := 99) hx hb dX10_linear_37 (by decide) (fun c_37 => ?_) (fun c_37 => ?_)
        · have t_37 : l3_x28.toInt = 0 := toI_eq c_37 rfl (by decide : (0 : Int32).toInt = 0)
          have hl : lv_has _ _ ([(4, .int l4_x28), (3, .int l3_x28), (0, .ref (hL 0)), (1, .int p1), (2, .int p2)]) := lv_sub hl [0, 1, 2, 3, 4] rfl
          exact join15 _ _ _ _ ⟨rfl, hP, hD, hS, hl⟩
        · have t_37 : ¬ l3_x28.toInt = 0 := toI_neq c_37 rfl (by decide : (0 : Int32).toInt = 0)
          have hpv := hpt.resolve_left t_37
          have hr1 := TrL.rng hV hpv
          refine lv_aload_n hx hb dX10_linear_40 rfl (lv_at hl 2 rfl) ?_
          refine W.known (fun hz0 _ => ?_)
          have p9 := cj_4_0_2 (WL hL aL kL hT hM (.ref dF_tree) iL_names gL_key fL_kind fL_one fL_two fL_base iL_params fL_paramOver dL_paramOver nL_params fL_paramUnder dL_paramUnder nL_pu gL_over_x28 gL_under_x28 fL_bound_x28 iL_nameAt iL_startAt iL_steps_x28 jL_scaleOver jL_scaleUnder) (WF hF aF kF dF_tree nF_tree fF_tree) (WT hT aT kT fT_tape dT_tape nT_tape iT_length iT_fault_x28 iT_place_x28 iT_kind iT_at iT_number jT_name iT_next) (WM hM aM kM iM_stands iM_variables iM_rows iM_goals iM_differents iM_cases fM_from fM_to fM_whole fM_ways iM_plainRows fM_plainRow fM_kept fM_goalOver fM_goalUnder fM_goalMax fM_different)
          have hPc := hP.mem (fun q h => p9.mem_iff.mpr (List.mem_append_left _ h))
          have hDc := (hD.perm p9).left
          have hKc : va_K (dC, dI) vwCl (tL kL ++ (tT kT)) _ := hK.sub [0, 1, 2, 3, 4, 5, 6, 7, 8, 9, 11] rfl
          have hFc := freeG p9 hD hS hA
          refine vx_callv (vx_runV (As := []) (rest := []) ⟨hx, hb, hml, hown, hts⟩ (m_X10_step l hst dC dI hL aL kL hT hM (.ref dF_tree) iL_names gL_key fL_kind fL_one fL_two fL_base iL_params fL_paramOver dL_paramOver nL_params fL_paramUnder dL_paramUnder nL_pu gL_over_x28 gL_under_x28 fL_bound_x28 iL_nameAt iL_startAt iL_steps_x28 jL_scaleOver jL_scaleUnder aT kT fT_tape dT_tape nT_tape iT_length iT_fault_x28 iT_place_x28 iT_kind iT_at iT_number jT_name iT_next (b_iL_names) b_fL_kind b_fL_two b_fL_base (b_iL_params) (by first | exact b_nL_params | with_reducible assumption | exact ⟨by omega, by omega⟩ | assumption) (by first | with_reducible assumption | omega | (rw [iI_t (by omega) (by omega)]; omega) | assumption) (by first | with_reducible assumption | omega | (rw [iI_t (by omega) (by omega)]; omega) | assumption) (by first | with_reducible assumption | omega | (rw [iI_t (by omega) (by omega)]; omega) | assumption) b_fT_tape (by first | exact b_nT_tape | with_reducible assumption | exact ⟨by omega, by omega⟩ | assumption) (b_iT_length) (b_iT_at) (b_iT_number) (b_iT_next) (by first | with_reducible assumption | omega | assumption) H.size) (cwV 0 hts gwsMX10_linear_1 rfl rfl rfl (by decide +kernel) ⟨by first | decide +kernel | (dsimp only [headSpec] <;> omega), by first | decide +kernel | (dsimp only [headSpec] <;> omega)⟩) (fz_preE (va_recv hK hP (ci := 10) (q0 := 0) rfl rfl) hPc hKc hDc (fun a U g mk qE => qE.call) (fun U hU9 hW => by rw [hU9]; exact (((hE : CE A s s.heap).kept hS.2.1).narrow (fun q h => hFc q h)).warm hW)) rfl rfl hl.1 rfl (lv_room (Nat.le_of_ble_eq_true rfl)) dX10_linear_41 ⟨by first | decide +kernel | (dsimp only [headSpec] <;> omega), by first | decide +kernel | (dsimp only [headSpec] <;> omega)⟩) hS (fun q _ h => hFc q h) hFc (fun q _ h => hFc q h) (fun E ce q9 u t9_ H locs ht hvm hw9 hB9 hz1 hk1 hS hc1 hc2 hc3 => ?_) (fun u t9_ H locs ht hvm hw9 hB9 hz1 hk1 hS => ?_)
          · revert u hw9 hB9
            refine fz_p3 ?_
            intro iL_steps_56 iT_fault_56 iT_place_56 hw9 hB9
            try dsimp only at hw9 hB9
            revert hB9
            refine fz_a2 ?_
            intro hEx hB9
            clear hw9
            have p8 := cj_4_0_2 (WL hL aL kL hT hM (.ref dF_tree) iL_names gL_key fL_kind fL_one fL_two fL_base iL_params fL_paramOver dL_paramOver nL_params fL_paramUnder dL_paramUnder nL_pu gL_over_x28 gL_under_x28 fL_bound_x28 iL_nameAt iL_startAt iL_steps_56 jL_scaleOver jL_scaleUnder) (WF hF aF kF dF_tree nF_tree fF_tree) (WT hT aT kT fT_tape dT_tape nT_tape iT_length iT_fault_56 iT_place_56 iT_kind iT_at iT_number jT_name iT_next) (WM hM aM kM iM_stands iM_variables iM_rows iM_goals iM_differents iM_cases fM_from fM_to fM_whole fM_ways iM_plainRows fM_plainRow fM_kept fM_goalOver fM_goalUnder fM_goalMax fM_different)
            obtain ⟨hP, hD⟩ := frameG p9 p8 hP hD hk1 hFc (fz_P ht hB9.1) hB9.2
            exact vx_out (fun x hx9 => (htab x hx9).elim) hlocks hc1 hc2 hc3 (fun t9_ ht hvm => ⟨(gL_over_x28, gL_under_x28, fL_bound_x28, iL_steps_56, iT_fault_56, iT_place_56), trivial, ⟨(by have h9 := hEx; exact h9), by rw [ht]; exact hP, hD⟩, hS.F ht⟩) hS.2.2 (by decide +kernel) (by decide +kernel)
          revert u hw9 hB9
          refine fz_p3 ?_
          intro iL_steps_56 iT_fault_56 iT_place_56 hw9 hB9
          try dsimp only at hw9 hB9
          clear hw9
          have hz8 := hB9.2.2
          rw [ht] at hz8
          have hz9 : H.size ≤ s.heap.size + 0 := by rw [hz8]; exact hz0
          refine W.tight (cells2 := 0) (slots2 := 0) hz9 (nS_0 hz9) ?_
          clear hz8 hz9
          have p8 := cj_4_0_2 (WL hL aL kL hT hM (.ref dF_tree) iL_names gL_key fL_kind fL_one fL_two fL_base iL_params fL_paramOver dL_paramOver nL_params fL_paramUnder dL_paramUnder nL_pu gL_over_x28 gL_under_x28 fL_bound_x28 iL_nameAt iL_startAt iL_steps_56 jL_scaleOver jL_scaleUnder) (WF hF aF kF dF_tree nF_tree fF_tree) (WT hT aT kT fT_tape dT_tape nT_tape iT_length iT_fault_56 iT_place_56 iT_kind iT_at iT_number jT_name iT_next) (WM hM aM kM iM_stands iM_variables iM_rows iM_goals iM_differents iM_cases fM_from fM_to fM_whole fM_ways iM_plainRows fM_plainRow fM_kept fM_goalOver fM_goalUnder fM_goalMax fM_different)
          obtain ⟨hP, hD⟩ := frameG p9 p8 hP hD hk1 hFc (fz_P ht hB9.1) hB9.2.1
          refine lv_aload_n hx hb dX10_linear_44 rfl (lv_at hl 2 rfl) ?_
          refine lv_iload_n hx hb dX10_linear_45 rfl (lv_at hl 1 rfl) ?_
          refine lv_iload_n hx hb dX10_linear_46 rfl (lv_at hl 4 rfl) ?_
          refine lv_iconst (v := 1) hx hb dX10_linear_47 (by decide) ?_
          refine lv_iadd hx hb dX10_linear_48 ?_
          refine lv_topi (fun y57 hy57 => ?_)
          obtain rfl : (iI (p2.toInt + 1)) = y57 := (hy57.trans (iI_add2 (iI_of _) (by decide : (1 : Int32) = iI 1))).symm
          refine W.known (fun hz0 _ => ?_)
          have hFc := allFree hD hS hA
          refine vx_callv (vx_runV (As := [.int l3_x28, .int (iI (p2.toInt + 1))]) (rest := []) ⟨hx, hb, hml, hown, hts⟩ (ih_X10_term dC dI hL aL kL hT hM iL_names gL_key fL_kind fL_one fL_two fL_base iL_params fL_paramOver dL_paramOver nL_params fL_paramUnder dL_paramUnder nL_pu gL_over_x28 gL_under_x28 fL_bound_x28 iL_nameAt iL_startAt iL_steps_56 jL_scaleOver jL_scaleUnder hF aF kF dF_tree nF_tree fF_tree aT kT fT_tape dT_tape nT_tape iT_length iT_fault_56 iT_place_56 iT_kind iT_at iT_number jT_name iT_next aM kM iM_stands iM_variables iM_rows iM_goals iM_differents iM_cases fM_from fM_to fM_whole fM_ways iM_plainRows fM_plainRow fM_kept fM_goalOver fM_goalUnder fM_goalMax fM_different V lo lv l3_x28 (iI (p2.toInt + 1)) (b_iL_names) b_fL_kind b_fL_two b_fL_base (b_iL_params) (by first | exact b_nL_params | with_reducible assumption | exact ⟨by omega, by omega⟩ | assumption) (by first | with_reducible assumption | omega | (rw [iI_t (by omega) (by omega)]; omega) | assumption) (by first | with_reducible assumption | omega | (rw [iI_t (by omega) (by omega)]; omega) | assumption) (by first | with_reducible assumption | omega | (rw [iI_t (by omega) (by omega)]; omega) | assumption) (by first | exact b_nF_tree | with_reducible assumption | exact ⟨by omega, by omega⟩ | assumption) b_fT_tape (by first | exact b_nT_tape | with_reducible assumption | exact ⟨by omega, by omega⟩ | assumption) (b_iT_length) (b_iT_at) (b_iT_number) (b_iT_next) (by first | with_reducible assumption | omega | assumption) (b_iM_stands) (b_iM_variables) (b_iM_rows) (b_iM_goals) (b_iM_differents) (b_iM_cases) b_fM_ways (b_iM_plainRows) b_fM_plainRow (by first | with_reducible assumption | omega | assumption) (iI_rng (Int.le_trans (by decide) (Int.add_le_add (b_p2.1) (Int.le_refl _))) (by omega) (by decide) (by decide)) (by first | with_reducible assumption | omega | (rw [iI_t (by omega) (by omega)]; omega) | decide | assumption) (by first | with_reducible assumption | omega | (rw [iI_t (by omega) (by omega)]; omega) | decide | assumption) (by first | with_reducible assumption | omega | (rw [iI_t (by omega) (by omega)]; omega) | decide | assumption) (by first | with_reducible assumption | omega | (rw [iI_t (by omega) (by omega)]; omega) | decide | assumption) H.size) (cwV 2 hts gwsMX10_linear_0 rfl rfl rfl (by decide +kernel) ⟨by first | decide +kernel | (dsimp only [headSpec] <;> omega), by first | decide +kernel | (dsimp only [headSpec] <;> omega)⟩) (fz_preE (va_recv hK hP (ci := 10) (q0 := 0) rfl rfl) hP hK hD (fun a U g mk qE => qE.call) (fun U hU9 hW => by rw [hU9]; exact (((hE : CE A s s.heap).kept hS.2.1).narrow (fun q h => hFc q h)).warm hW)) rfl rfl hl.1 rfl (lv_room (Nat.le_of_ble_eq_true rfl)) dX10_linear_49 ⟨by first | decide +kernel | (dsimp only [headSpec] <;> omega), by first | decide +kernel | (dsimp only [headSpec] <;> omega)⟩) hS (fun q _ h => hFc q h) hFc (fun q _ h => hFc q h) (fun E ce q9 u t9_ H locs ht hvm hw9 hB9 hz1 hk1 hS hc1 hc2 hc3 => ?_) (fun u t9_ H locs ht hvm hw9 hB9 hz1 hk1 hS => ?_)
          · revert u hw9 hB9
            refine fz_p6 ?_
            intro gL_over_58 gL_under_58 fL_bound_58 iL_steps_58 iT_fault_58 iT_place_58 hw9 hB9
            try dsimp only at hw9 hB9
            revert hB9
            refine fz_a2 ?_
            intro hEx hB9
            clear hw9
            have hP : va_P (dC, dI) vwCl (WL hL aL kL hT hM (.ref dF_tree) iL_names gL_key fL_kind fL_one fL_two fL_base iL_params fL_paramOver dL_paramOver nL_params fL_paramUnder dL_paramUnder nL_pu gL_over_58 gL_under_58 fL_bound_58 iL_nameAt iL_startAt iL_steps_58 jL_scaleOver jL_scaleUnder ++ (WF hF aF kF dF_tree nF_tree fF_tree ++ (WT hT aT kT fT_tape dT_tape nT_tape iT_length iT_fault_58 iT_place_58 iT_kind iT_at iT_number jT_name iT_next ++ (WM hM aM kM iM_stands iM_variables iM_rows iM_goals iM_differents iM_cases fM_from fM_to fM_whole fM_ways iM_plainRows fM_plainRow fM_kept fM_goalOver fM_goalUnder fM_goalMax fM_different)))) H := fz_P ht hB9.1
            have hD := fz_sd hP (hB9.2.weaken (fun _ q _ h => hFc q.1 h)) rfl
            exact vx_out (fun x hx9 => (htab x hx9).elim) hlocks hc1 hc2 hc3 (fun t9_ ht hvm => ⟨(gL_over_58, gL_under_58, fL_bound_58, iL_steps_58, iT_fault_58, iT_place_58), trivial, ⟨(by have h9 := hEx; exact h9), by rw [ht]; exact hP, hD⟩, hS.F ht⟩) hS.2.2 (by decide +kernel) (by decide +kernel)
          revert u hw9 hB9
          refine fz_p6 ?_
          intro gL_over_58 gL_under_58 fL_bound_58 iL_steps_58 iT_fault_58 iT_place_58 hw9 hB9
          try dsimp only at hw9 hB9
          clear hw9
          have hz8 := hB9.2.2
          rw [ht] at hz8
          have hz9 : H.size ≤ s.heap.size + 0 := by rw [hz8]; exact hz0
          refine W.tight (cells2 := 0) (slots2 := 0) hz9 (nS_0 hz9) ?_
          clear hz8 hz9
          have hP : va_P (dC, dI) vwCl (WL hL aL kL hT hM (.ref dF_tree) iL_names gL_key fL_kind fL_one fL_two fL_base iL_params fL_paramOver dL_paramOver nL_params fL_paramUnder dL_paramUnder nL_pu gL_over_58 gL_under_58 fL_bound_58 iL_nameAt iL_startAt iL_steps_58 jL_scaleOver jL_scaleUnder ++ (WF hF aF kF dF_tree nF_tree fF_tree ++ (WT hT aT kT fT_tape dT_tape nT_tape iT_length iT_fault_58 iT_place_58 iT_kind iT_at iT_number jT_name iT_next ++ (WM hM aM kM iM_stands iM_variables iM_rows iM_goals iM_differents iM_cases fM_from fM_to fM_whole fM_ways iM_plainRows fM_plainRow fM_kept fM_goalOver fM_goalUnder fM_goalMax fM_different)))) H := fz_P ht hB9.1
          have hD := fz_sd hP (hB9.2.1.weaken (fun _ q _ h => hFc q.1 h)) rfl
          refine lv_aload_n hx hb dX10_linear_52 rfl (lv_at hl 2 rfl) ?_
          refine lv_iload_n hx hb dX10_linear_53 rfl (lv_at hl 4 rfl) ?_
          refine lv_aload_n hx hb dX10_linear_54 rfl (lv_at hl 2 rfl) ?_
          refine va_get (D := (dC, dI)) (ci := 10) (v := .ref dF_tree) (C := RX10) (T := TX10) (N := 20) hx hb hts iwsMX10_linear_in10 hown hK hP 0 rfl rfl 2 (by decide) (hts _ hm_m_X10_linear_0) (fun _ h9 => h9) rfl dX10_linear_55 ?_
          refine lv_iload_n hx hb dX10_linear_58 rfl (lv_at hl 1 rfl) ?_
          refine lv_iconst (v := 2) hx hb dX10_linear_59 (by decide) ?_
          refine lv_iadd hx hb dX10_linear_60 ?_
          refine lv_topi (fun y59 hy59 => ?_)
          obtain rfl : (iI (l3_x28.toInt + 2)) = y59 := (hy59.trans (iI_add2 (iI_of _) (by decide : (2 : Int32) = iI 2))).symm
          refine va_iald (cA := kF 0) (n := nF_tree) (f := fF_tree) hx hb hK hP 11 10 rfl rfl (vp_iI (by omega) (by omega) (by omega)) dX10_linear_61 ?_
          refine lv_topi (fun v60 hv60 => ?_)
          have b_v60 : v60.toInt = twL fF_tree (l3_x28.toInt + 2) := by rw [hv60]; exact tw_i (by omega) (by omega)
          clear hv60
          refine lv_bipush (v := 45) hx hb dX10_linear_62 (by decide) ?_
          refine W.cut (pc := 72) (fun H locs ls stk => ∃ (k0_j16 : Int32), (0 ≤ k0_j16.toInt ∧ k0_j16.toInt ≤ 1) ∧  stk = [.int k0_j16, .int p2, .ref (hL 0)] ∧ va_P (dC, dI) vwCl (WL hL aL kL hT hM (.ref dF_tree) iL_names gL_key fL_kind fL_one fL_two fL_base iL_params fL_paramOver dL_paramOver nL_params fL_paramUnder dL_paramUnder nL_pu gL_over_58 gL_under_58 fL_bound_58 iL_nameAt iL_startAt iL_steps_58 jL_scaleOver jL_scaleUnder ++ (WF hF aF kF dF_tree nF_tree fF_tree ++ (WT hT aT kT fT_tape dT_tape nT_tape iT_length iT_fault_58 iT_place_58 iT_kind iT_at iT_number jT_name iT_next ++ (WM hM aM kM iM_stands iM_variables iM_rows iM_goals iM_differents iM_cases fM_from fM_to fM_whole fM_ways iM_plainRows fM_plainRow fM_kept fM_goalOver fM_goalUnder fM_goalMax fM_different)))) H ∧ va_D A (WL hL aL kL hT hM (.ref dF_tree) iL_names gL_key fL_kind fL_one fL_two fL_base iL_params fL_paramOver dL_paramOver nL_params fL_paramUnder dL_paramUnder nL_pu gL_over_58 gL_under_58 fL_bound_58 iL_nameAt iL_startAt iL_steps_58 jL_scaleOver jL_scaleUnder ++ (WF hF aF kF dF_tree nF_tree fF_tree ++ (WT hT aT kT fT_tape dT_tape nT_tape iT_length iT_fault_58 iT_place_58 iT_kind iT_at iT_number jT_name iT_next ++ (WM hM aM kM iM_stands iM_variables iM_rows iM_goals iM_differents iM_cases fM_from fM_to fM_whole fM_ways iM_plainRows fM_plainRow fM_kept fM_goalOver fM_goalUnder fM_goalMax fM_different)))) ∧ va_S A s.heap H locs ∧ lv_has ls 5 [(4, .int l4_x28), (3, .int l3_x28), (0, .ref (hL 0)), (1, .int p1), (2, .int p2)]) (fun join16 => ?_) ?_
          · refine lv_icmp_ne (tgt := 71) hx hb dX10_linear_64 (by decide) (fun c_64 => ?_) (fun c_64 => ?_)
            · have t_64 : v60.toInt ≠ 45 := toI_ne c_64 rfl (by decide : (45 : Int32).toInt = 45)
              refine lv_iconst (v := 0) hx hb dX10_linear_71 (by decide) ?_
              have hl : lv_has _ _ ([(4, .int l4_x28), (3, .int l3_x28), (0, .ref (hL 0)), (1, .int p1), (2, .int p2)]) := lv_sub hl [0, 1, 2, 3, 4] rfl
              exact join16 _ _ _ _ ⟨0, (show 0 ≤ (0 : Int32).toInt ∧ (0 : Int32).toInt ≤ 1 from by decide), rfl, hP, hD, hS, hl⟩
            · have t_64 : v60.toInt = 45 := toI_nne c_64 rfl (by decide : (45 : Int32).toInt = 45)
              refine lv_iconst (v := 1) hx hb dX10_linear_67 (by decide) ?_
              refine lv_goto (tgt := 72) hx hb dX10_linear_68 (by decide) ?_
              have hl : lv_has _ _ ([(4, .int l4_x28), (3, .int l3_x28), (0, .ref (hL 0)), (1, .int p1), (2, .int p2)]) := lv_sub hl [0, 1, 2, 3, 4] rfl
              exact join16 _ _ _ _ ⟨1, (show 0 ≤ (1 : Int32).toInt ∧ (1 : Int32).toInt ≤ 1 from by decide), rfl, hP, hD, hS, hl⟩
          · rintro H locs ls stk ⟨k0_j16, b_k0_j16, rfl, hP, hD, hS, hl⟩
            refine lv_aload_n hx hb dX10_linear_72 rfl (lv_at hl 2 rfl) ?_
            refine va_get (D := (dC, dI)) (ci := 10) (v := .ref dF_tree) (C := RX10) (T := TX10) (N := 20) hx hb hts iwsMX10_linear_in10 hown hK hP 0 rfl rfl 2 (by decide) (hts _ hm_m_X10_linear_0) (fun _ h9 => h9) rfl dX10_linear_73 ?_
            refine lv_iload_n hx hb dX10_linear_76 rfl (lv_at hl 1 rfl) ?_
            refine lv_iconst (v := 1) hx hb dX10_linear_77 (by decide) ?_
            refine lv_iadd hx hb dX10_linear_78 ?_
            refine lv_topi (fun y61 hy61 => ?_)
            obtain rfl : (iI (l3_x28.toInt + 1)) = y61 := (hy61.trans (iI_add2 (iI_of _) (by decide : (1 : Int32) = iI 1))).symm
            refine va_iald (cA := kF 0) (n := nF_tree) (f := fF_tree) hx hb hK hP 11 10 rfl rfl (vp_iI (by omega) (by omega) (by omega)) dX10_linear_79 ?_
            refine lv_topi (fun v62 hv62 => ?_)
            have b_v62 : v62.toInt = twL fF_tree (l3_x28.toInt + 1) := by rw [hv62]; exact tw_i (by omega) (by omega)
            clear hv62
            refine W.known (fun hz0 _ => ?_)
            have p9 := cj_4_0_2_3 (WL hL aL kL hT hM (.ref dF_tree) iL_names gL_key fL_kind fL_one fL_two fL_base iL_params fL_paramOver dL_paramOver nL_params fL_paramUnder dL_paramUnder nL_pu gL_over_58 gL_under_58 fL_bound_58 iL_nameAt iL_startAt iL_steps_58 jL_scaleOver jL_scaleUnder) (WF hF aF kF dF_tree nF_tree fF_tree) (WT hT aT kT fT_tape dT_tape nT_tape iT_length iT_fault_58 iT_place_58 iT_kind iT_at iT_number jT_name iT_next) (WM hM aM kM iM_stands iM_variables iM_rows iM_goals iM_differents iM_cases fM_from fM_to fM_whole fM_ways iM_plainRows fM_plainRow fM_kept fM_goalOver fM_goalUnder fM_goalMax fM_different)
            have hPc := hP.mem (fun q h => p9.mem_iff.mpr (List.mem_append_left _ h))
            have hDc := (hD.perm p9).left
            have hKc : va_K (dC, dI) vwCl (tL kL ++ (tT kT ++ (tM kM))) _ := hK.sub [0, 1, 2, 3, 4, 5, 6, 7, 8, 9, 11, 12, 13, 14, 15, 16, 17, 18, 19, 20, 21] rfl
            have hFc := freeG p9 hD hS hA
            refine vx_callv (vx_runV (As := [.int p2, .int k0_j16, .int v62]) (rest := []) ⟨hx, hb, hml, hown, hts⟩ (m_X10_join l hst dC dI hL aL kL hT hM (.ref dF_tree) iL_names gL_key fL_kind fL_one fL_two fL_base iL_params fL_paramOver dL_paramOver nL_params fL_paramUnder dL_paramUnder nL_pu gL_over_58 gL_under_58 fL_bound_58 iL_nameAt iL_startAt iL_steps_58 jL_scaleOver jL_scaleUnder aT kT fT_tape dT_tape nT_tape iT_length iT_fault_58 iT_place_58 iT_kind iT_at iT_number jT_name iT_next aM kM iM_stands iM_variables iM_rows iM_goals iM_differents iM_cases fM_from fM_to fM_whole fM_ways iM_plainRows fM_plainRow fM_kept fM_goalOver fM_goalUnder fM_goalMax fM_different p2 k0_j16 v62 (b_iL_names) b_fL_kind b_fL_two b_fL_base (b_iL_params) (by first | exact b_nL_params | with_reducible assumption | exact ⟨by omega, by omega⟩ | assumption) (by first | with_reducible assumption | omega | (rw [iI_t (by omega) (by omega)]; omega) | assumption) (by first | with_reducible assumption | omega | (rw [iI_t (by omega) (by omega)]; omega) | assumption) (by first | with_reducible assumption | omega | (rw [iI_t (by omega) (by omega)]; omega) | assumption) b_fT_tape (by first | exact b_nT_tape | with_reducible assumption | exact ⟨by omega, by omega⟩ | assumption) (b_iT_length) (b_iT_at) (b_iT_number) (b_iT_next) (by first | with_reducible assumption | omega | assumption) (b_iM_stands) (b_iM_variables) (b_iM_rows) (b_iM_goals) (b_iM_differents) (b_iM_cases) b_fM_ways (b_iM_plainRows) b_fM_plainRow (by first | with_reducible assumption | omega | assumption) (b_p2) H.size) (cwV 3 hts gwsMX10_linear_2 rfl rfl rfl (by decide +kernel) ⟨by first | decide +kernel | (dsimp only [headSpec] <;> omega), by first | decide +kernel | (dsimp only [headSpec] <;> omega)⟩) (fz_preE (va_recv hK hP (ci := 10) (q0 := 0) rfl rfl) hPc hKc hDc (fun a U g mk qE => qE.call) (fun U hU9 hW => by rw [hU9]; exact (((hE : CE A s s.heap).kept hS.2.1).narrow (fun q h => hFc q h)).warm hW)) rfl rfl hl.1 rfl (lv_room (Nat.le_of_ble_eq_true rfl)) dX10_linear_80 ⟨by first | decide +kernel | (dsimp only [headSpec] <;> omega), by first | decide +kernel | (dsimp only [headSpec] <;> omega)⟩) hS (fun q _ h => hFc q h) hFc (fun q _ h => hFc q h) (fun E ce q9 u t9_ H locs ht hvm hw9 hB9 hz1 hk1 hS hc1 hc2 hc3 => ?_) (fun u t9_ H locs ht hvm hw9 hB9 hz1 hk1 hS => ?_)
            · revert u hw9 hB9
              refine fz_p4 ?_
              intro gL_over_63 gL_under_63 iT_fault_63 iT_place_63 hw9 hB9
              try dsimp only at hw9 hB9
              revert hB9
              refine fz_a2 ?_
              intro hEx hB9
              clear hw9
              have p8 := cj_4_0_2_3 (WL hL aL kL hT hM (.ref dF_tree) iL_names gL_key fL_kind fL_one fL_two fL_base iL_params fL_paramOver dL_paramOver nL_params fL_paramUnder dL_paramUnder nL_pu gL_over_63 gL_under_63 fL_bound_58 iL_nameAt iL_startAt iL_steps_58 jL_scaleOver jL_scaleUnder) (WF hF aF kF dF_tree nF_tree fF_tree) (WT hT aT kT fT_tape dT_tape nT_tape iT_length iT_fault_63 iT_place_63 iT_kind iT_at iT_number jT_name iT_next) (WM hM aM kM iM_stands iM_variables iM_rows iM_goals iM_differents iM_cases fM_from fM_to fM_whole fM_ways iM_plainRows fM_plainRow fM_kept fM_goalOver fM_goalUnder fM_goalMax fM_different)
              obtain ⟨hP, hD⟩ := frameG p9 p8 hP hD hk1 hFc (fz_P ht hB9.1) hB9.2
              exact vx_out (fun x hx9 => (htab x hx9).elim) hlocks hc1 hc2 hc3 (fun t9_ ht hvm => ⟨(gL_over_63, gL_under_63, fL_bound_58, iL_steps_58, iT_fault_63, iT_place_63), trivial, ⟨(by have h9 := hEx; exact h9), by rw [ht]; exact hP, hD⟩, hS.F ht⟩) hS.2.2 (by decide +kernel) (by decide +kernel)
            revert u hw9 hB9
            refine fz_p4 ?_
            intro gL_over_63 gL_under_63 iT_fault_63 iT_place_63 hw9 hB9
            try dsimp only at hw9 hB9
            clear hw9
            have hz8 := hB9.2.2
            rw [ht] at hz8
            have hz9 : H.size ≤ s.heap.size + 0 := by rw [hz8]; exact hz0
            refine W.tight (cells2 := 0) (slots2 := 0) hz9 (nS_0 hz9) ?_
            clear hz8 hz9
            have p8 := cj_4_0_2_3 (WL hL aL kL hT hM (.ref dF_tree) iL_names gL_key fL_kind fL_one fL_two fL_base iL_params fL_paramOver dL_paramOver nL_params fL_paramUnder dL_paramUnder nL_pu gL_over_63 gL_under_63 fL_bound_58 iL_nameAt iL_startAt iL_steps_58 jL_scaleOver jL_scaleUnder) (WF hF aF kF dF_tree nF_tree fF_tree) (WT hT aT kT fT_tape dT_tape nT_tape iT_length iT_fault_63 iT_place_63 iT_kind iT_at iT_number jT_name iT_next) (WM hM aM kM iM_stands iM_variables iM_rows iM_goals iM_differents iM_cases fM_from fM_to fM_whole fM_ways iM_plainRows fM_plainRow fM_kept fM_goalOver fM_goalUnder fM_goalMax fM_different)
            obtain ⟨hP, hD⟩ := frameG p9 p8 hP hD hk1 hFc (fz_P ht hB9.1) hB9.2.1
            refine lv_aload_n hx hb dX10_linear_83 rfl (lv_at hl 2 rfl) ?_
            refine va_get (D := (dC, dI)) (ci := 10) (v := .ref dF_tree) (C := RX10) (T := TX10) (N := 20) hx hb hts iwsMX10_linear_in10 hown hK hP 0 rfl rfl 2 (by decide) (hts _ hm_m_X10_linear_0) (fun _ h9 => h9) rfl dX10_linear_84 ?_
            refine lv_iload_n hx hb dX10_linear_87 rfl (lv_at hl 1 rfl) ?_
            refine lv_bipush (v := 6) hx hb dX10_linear_88 (by decide) ?_
            refine lv_iadd hx hb dX10_linear_90 ?_
            refine lv_topi (fun y64 hy64 => ?_)
            obtain rfl : (iI (l3_x28.toInt + 6)) = y64 := (hy64.trans (iI_add2 (iI_of _) (by decide : (6 : Int32) = iI 6))).symm
            refine va_iald (cA := kF 0) (n := nF_tree) (f := fF_tree) hx hb hK hP 11 10 rfl rfl (vp_iI (by omega) (by omega) (by omega)) dX10_linear_91 ?_
            refine lv_topi (fun v65 hv65 => ?_)
            have b_v65 : v65.toInt = twL fF_tree (l3_x28.toInt + 6) := by rw [hv65]; exact tw_i (by omega) (by omega)
            have b1_v65 : v65.toInt = 0 ∨ V v65.toInt 2 lv := by rw [hv65]; exact tnx (tw_i (by omega) (by omega)) (TrL.nx hV (k := 2) (L := lv) (by assumption))
            clear hv65
            refine lv_istore_n hx hb dX10_linear_92 rfl hl (by decide) rfl (fun ls (hl : lv_has ls _ ([(3, .int v65), (4, .int l4_x28), (0, .ref (hL 0)), (1, .int p1), (2, .int p2)])) => ?_)
            refine lv_iinc (v := (iI (l4_x28.toInt + 1))) hx hb dX10_linear_93 hl (k := 1) rfl (iI_add2 (iI_of _) (by decide : (1 : Int32) = iI 1)) (by decide) rfl (fun ls (hl : lv_has ls _ ([(4, .int (iI (l4_x28.toInt + 1))), (3, .int v65), (0, .ref (hL 0)), (1, .int p1), (2, .int p2)])) => ?_)
            refine lv_goto (tgt := 28) hx hb dX10_linear_96 (by decide) ?_
            have hl : lv_has _ _ ([(4, .int (iI (l4_x28.toInt + 1))), (3, .int v65), (0, .ref (hL 0)), (1, .int p1), (2, .int p2)]) := lv_sub hl [0, 1, 2, 3, 4] rfl
            exact ihx28 gL_over_63 gL_under_63 fL_bound_58 iL_steps_58 iT_fault_63 iT_place_63 (iI (l4_x28.toInt + 1)) v65 _ _ _ (iI_rng (Int.le_trans (by decide) (Int.add_le_add (b_l4_x28.1) (Int.le_refl _))) (by omega) (by decide) (by decide)) (show v65.toInt = 0 ∨ V v65.toInt 2 lv from by assumption) (by have e9 : ((iI (l4_x28.toInt + 1))).toInt = (l4_x28.toInt + 1) := (iI_t (Int.le_trans (by decide) (Int.add_le_add (b_l4_x28.1) (Int.le_refl _))) (Int.le_trans (Int.add_le_add (b_l4_x28.2) (Int.le_refl _)) (by decide))); omega) hP hD hS hl
    · rintro H locs ls stk ⟨rfl, hP, hD, hS, hl⟩
      refine vx_ret ?_
      refine W.known (fun hz9 _ => ?_)
      refine W.widen (k := 1) (n := 6) (by decide +kernel) (by decide +kernel) ?_
      exact W.vret hx hb hr (fun t9_ ht hW => ⟨⟨(gL_over_x28, gL_under_x28, fL_bound_x28, iL_steps_x28, iT_fault_x28, iT_place_x28), rfl, trivial, by rw [ht]; exact hP, hD, by rw [ht]; first | done | exact Nat.le_antisymm hz9 hS.1⟩, hS.F ht⟩) hS.2.2 dX10_linear_99
theorem dX10_term_0 : decode cX10_term 0 = .ok (.aload_n 0, 1) := dk_42 (by decide +kernel)
theorem dX10_term_1 : decode cX10_term 1 = .ok (.getfield 55, 3) := dk_180 (by decide +kernel)
theorem dX10_term_4 : decode cX10_term 4 = .ok (.iload_n 1, 1) := dk_27 (by decide +kernel)
theorem dX10_term_5 : decode cX10_term 5 = .ok (.iconst 3, 1) := dk_6 (by decide +kernel)
theorem dX10_term_6 : decode cX10_term 6 = .ok (.iadd, 1) := dk_96 (by decide +kernel)
theorem dX10_term_7 : decode cX10_term 7 = .ok (.iaload, 1) := dk_46 (by decide +kernel)
theorem dX10_term_8 : decode cX10_term 8 = .ok (.istore_n 3, 1) := dk_62 (by decide +kernel)
theorem dX10_term_9 : decode cX10_term 9 = .ok (.aload_n 0, 1) := dk_42 (by decide +kernel)
theorem dX10_term_10 : decode cX10_term 10 = .ok (.iload_n 3, 1) := dk_29 (by decide +kernel)
theorem dX10_term_11 : decode cX10_term 11 = .ok (.iload_n 2, 1) := dk_28 (by decide +kernel)
theorem dX10_term_12 : decode cX10_term 12 = .ok (.invokevirtual 221, 3) := dk_182 (by decide +kernel)
theorem dX10_term_15 : decode cX10_term 15 = .ok (.aload_n 0, 1) := dk_42 (by decide +kernel)
theorem dX10_term_16 : decode cX10_term 16 = .ok (.getfield 55, 3) := dk_180 (by decide +kernel)
theorem dX10_term_19 : decode cX10_term 19 = .ok (.iload_n 3, 1) := dk_29 (by decide +kernel)
theorem dX10_term_20 : decode cX10_term 20 = .ok (.bipush 6, 2) := dk_16 (by decide +kernel)
theorem dX10_term_22 : decode cX10_term 22 = .ok (.iadd, 1) := dk_96 (by decide +kernel)
theorem dX10_term_23 : decode cX10_term 23 = .ok (.iaload, 1) := dk_46 (by decide +kernel)
theorem dX10_term_24 : decode cX10_term 24 = .ok (.istore_n 3, 1) := dk_62 (by decide +kernel)
theorem dX10_term_25 : decode cX10_term 25 = .ok (.iconst 0, 1) := dk_3 (by decide +kernel)
theorem dX10_term_26 : decode cX10_term 26 = .ok (.istore 4, 2) := dk_54 (by decide +kernel)
theorem dX10_term_28 : decode cX10_term 28 = .ok (.iload 4, 2) := dk_21 (by decide +kernel)
theorem dX10_term_30 : decode cX10_term 30 = .ok (.sipush 4000, 3) := dk_17 (by decide +kernel)
theorem dX10_term_33 : decode cX10_term 33 = .ok (.if_icmp .ge 77, 3) := dk_162 (by decide +kernel)
theorem dX10_term_36 : decode cX10_term 36 = .ok (.iload_n 3, 1) := dk_29 (by decide +kernel)
theorem dX10_term_37 : decode cX10_term 37 = .ok (.ifCond .eq 73, 3) := dk_153 (by decide +kernel)
theorem dX10_term_40 : decode cX10_term 40 = .ok (.aload_n 0, 1) := dk_42 (by decide +kernel)
theorem dX10_term_41 : decode cX10_term 41 = .ok (.invokevirtual 214, 3) := dk_182 (by decide +kernel)
theorem dX10_term_44 : decode cX10_term 44 = .ok (.aload_n 0, 1) := dk_42 (by decide +kernel)
theorem dX10_term_45 : decode cX10_term 45 = .ok (.iload_n 3, 1) := dk_29 (by decide +kernel)
theorem dX10_term_46 : decode cX10_term 46 = .ok (.iload_n 2, 1) := dk_28 (by decide +kernel)
theorem dX10_term_47 : decode cX10_term 47 = .ok (.iconst 1, 1) := dk_4 (by decide +kernel)
theorem dX10_term_48 : decode cX10_term 48 = .ok (.iadd, 1) := dk_96 (by decide +kernel)
theorem dX10_term_49 : decode cX10_term 49 = .ok (.invokevirtual 221, 3) := dk_182 (by decide +kernel)
theorem dX10_term_52 : decode cX10_term 52 = .ok (.aload_n 0, 1) := dk_42 (by decide +kernel)
theorem dX10_term_53 : decode cX10_term 53 = .ok (.getfield 55, 3) := dk_180 (by decide +kernel)
theorem dX10_term_56 : decode cX10_term 56 = .ok (.iload_n 3, 1) := dk_29 (by decide +kernel)
theorem dX10_term_57 : decode cX10_term 57 = .ok (.iconst 2, 1) := dk_5 (by decide +kernel)
theorem dX10_term_58 : decode cX10_term 58 = .ok (.iadd, 1) := dk_96 (by decide +kernel)
theorem dX10_term_59 : decode cX10_term 59 = .ok (.iaload, 1) := dk_46 (by decide +kernel)
theorem dX10_term_60 : decode cX10_term 60 = .ok (.bipush 42, 2) := dk_16 (by decide +kernel)
theorem dX10_term_62 : decode cX10_term 62 = .ok (.if_icmp .ne 19, 3) := dk_160 (by decide +kernel)
theorem dX10_term_65 : decode cX10_term 65 = .ok (.aload_n 0, 1) := dk_42 (by decide +kernel)
theorem dX10_term_66 : decode cX10_term 66 = .ok (.iload_n 2, 1) := dk_28 (by decide +kernel)
theorem dX10_term_67 : decode cX10_term 67 = .ok (.aload_n 0, 1) := dk_42 (by decide +kernel)
theorem dX10_term_68 : decode cX10_term 68 = .ok (.getfield 55, 3) := dk_180 (by decide +kernel)
theorem dX10_term_71 : decode cX10_term 71 = .ok (.iload_n 3, 1) := dk_29 (by decide +kernel)
theorem dX10_term_72 : decode cX10_term 72 = .ok (.iconst 1, 1) := dk_4 (by decide +kernel)
theorem dX10_term_73 : decode cX10_term 73 = .ok (.iadd, 1) := dk_96 (by decide +kernel)
theorem dX10_term_74 : decode cX10_term 74 = .ok (.iaload, 1) := dk_46 (by decide +kernel)
theorem dX10_term_75 : decode cX10_term 75 = .ok (.invokevirtual 224, 3) := dk_182 (by decide +kernel)
theorem dX10_term_78 : decode cX10_term 78 = .ok (.goto 16, 3) := dk_167 (by decide +kernel)
theorem dX10_term_81 : decode cX10_term 81 = .ok (.aload_n 0, 1) := dk_42 (by decide +kernel)
theorem dX10_term_82 : decode cX10_term 82 = .ok (.iload_n 2, 1) := dk_28 (by decide +kernel)
theorem dX10_term_83 : decode cX10_term 83 = .ok (.aload_n 0, 1) := dk_42 (by decide +kernel)
theorem dX10_term_84 : decode cX10_term 84 = .ok (.getfield 55, 3) := dk_180 (by decide +kernel)
theorem dX10_term_87 : decode cX10_term 87 = .ok (.iload_n 3, 1) := dk_29 (by decide +kernel)
theorem dX10_term_88 : decode cX10_term 88 = .ok (.iconst 1, 1) := dk_4 (by decide +kernel)
theorem dX10_term_89 : decode cX10_term 89 = .ok (.iadd, 1) := dk_96 (by decide +kernel)
theorem dX10_term_90 : decode cX10_term 90 = .ok (.iaload, 1) := dk_46 (by decide +kernel)
theorem dX10_term_91 : decode cX10_term 91 = .ok (.invokevirtual 227, 3) := dk_182 (by decide +kernel)
theorem dX10_term_94 : decode cX10_term 94 = .ok (.aload_n 0, 1) := dk_42 (by decide +kernel)
theorem dX10_term_95 : decode cX10_term 95 = .ok (.getfield 55, 3) := dk_180 (by decide +kernel)
theorem dX10_term_98 : decode cX10_term 98 = .ok (.iload_n 3, 1) := dk_29 (by decide +kernel)
theorem dX10_term_99 : decode cX10_term 99 = .ok (.bipush 6, 2) := dk_16 (by decide +kernel)
theorem dX10_term_101 : decode cX10_term 101 = .ok (.iadd, 1) := dk_96 (by decide +kernel)
theorem dX10_term_102 : decode cX10_term 102 = .ok (.iaload, 1) := dk_46 (by decide +kernel)
theorem dX10_term_103 : decode cX10_term 103 = .ok (.istore_n 3, 1) := dk_62 (by decide +kernel)
theorem dX10_term_104 : decode cX10_term 104 = .ok (.iinc 4 1, 3) := dk_132 (by decide +kernel)
theorem dX10_term_107 : decode cX10_term 107 = .ok (.goto (-79), 3) := dk_167 (by decide +kernel)
theorem dX10_term_110 : decode cX10_term 110 = .ok (.return_, 1) := dk_177 (by decide +kernel)
theorem iwsMX10_term_in10 : ∀ w ∈ wsX100, w ∈ wsMX10_term := fun w h => List.mem_cons_of_mem _ (iwsGW_in10 w h)
theorem gwsMX10_term_0 : GoodIn wsMX10_term (wsV RX10 221 RX10 yX10_factor wsMX10_factor) := goodIn_rec (hd := [.methodLink RX10 221 yX10_factor, .instanceMethod yX10_factor, .selects RX10 yX10_factor yX10_factor, .initialized RX10]) (by decide +kernel) (by decide +kernel) gdwsGW
theorem gwsMX10_term_1 : GoodIn wsMX10_term (wsV RX10 214 RX10 yX10_step wsMX10_step) := goodIn_sub (fun w h => List.mem_cons_of_mem _ (gwsGW_0 w h)) (gdV (by decide +kernel) gdwsMX10_step)
theorem gwsMX10_term_2 : GoodIn wsMX10_term (wsV RX10 227 RX10 yX10_divide wsMX10_divide) := goodIn_sub (fun w h => List.mem_cons_of_mem _ (gwsGW_2 w h)) (gdV (by decide +kernel) gdwsMX10_divide)
theorem gwsMX10_term_3 : GoodIn wsMX10_term (wsV RX10 224 RX10 yX10_multiply wsMX10_multiply) := goodIn_sub (fun w h => List.mem_cons_of_mem _ (gwsGW_3 w h)) (gdV (by decide +kernel) gdwsMX10_multiply)
theorem hm_m_X10_term_0 : (.fieldLink RX10 55 "OptimaWorks$Worker" "tree" "[I" : Cond) ∈ wsMX10_term := by decide +kernel
set_option maxHeartbeats 4000000 in
set_option maxRecDepth 100000 in
/-- a TERM worked out -/
theorem m_X10_term (l : Launch) (hst : l.stackTraces = false) (ev : Nat) (ih_X10_factor : Cm_X10_factor l (ev)) : Cm_X10_term l (ev + 1) := by
  intro dC dI hL aL kL hT hM iL_names gL_key fL_kind fL_one fL_two fL_base iL_params fL_paramOver dL_paramOver nL_params fL_paramUnder dL_paramUnder nL_pu gL_over gL_under fL_bound iL_nameAt iL_startAt iL_steps jL_scaleOver jL_scaleUnder hF aF kF dF_tree nF_tree fF_tree aT kT fT_tape dT_tape nT_tape iT_length iT_fault iT_place iT_kind iT_at iT_number jT_name iT_next aM kM iM_stands iM_variables iM_rows iM_goals iM_differents iM_cases fM_from fM_to fM_whole fM_ways iM_plainRows fM_plainRow fM_kept fM_goalOver fM_goalUnder fM_goalMax fM_different V lo lv p1 p2 b_iL_names b_fL_kind b_fL_two b_fL_base b_iL_params b_nL_params b_nm b_pm b_pu b_nF_tree b_fT_tape b_nT_tape b_iT_length b_iT_at b_iT_number b_iT_next b_len b_iM_stands b_iM_variables b_iM_rows b_iM_goals b_iM_differents b_iM_cases b_fM_ways b_iM_plainRows b_fM_plainRow b_pr b_p2 hV hn hlv hsl sz
  refine vx_ofW (cc := cX10_term) (maxL := 5) (ret := none) (by decide) rfl ?_
  intro p e s m args below meth c s₁ B hml htab hv
  obtain ⟨rfl, hsz, hP, hK, hD0, hE⟩ := hv
  have hx := B.exec
  have hb := B.bytes
  have hr := B.returns
  have hts := atoms_spec (ws := wsMX10_term) B.pre
  have hown : s.vm.findClass RX10 = some m.cls := findClass_of_methodNamed B.named
  have hlocks := B.notSynchronized
  subst hsz
  have hD := hD0.self (sz := s.heap.size)
  generalize hAe : va_A (WL hL aL kL hT hM (.ref dF_tree) iL_names gL_key fL_kind fL_one fL_two fL_base iL_params fL_paramOver dL_paramOver nL_params fL_paramUnder dL_paramUnder nL_pu gL_over gL_under fL_bound iL_nameAt iL_startAt iL_steps jL_scaleOver jL_scaleUnder ++ (WF hF aF kF dF_tree nF_tree fF_tree ++ (WT hT aT kT fT_tape dT_tape nT_tape iT_length iT_fault iT_place iT_kind iT_at iT_number jT_name iT_next ++ (WM hM aM kM iM_stands iM_variables iM_rows iM_goals iM_differents iM_cases fM_from fM_to fM_whole fM_ways iM_plainRows fM_plainRow fM_kept fM_goalOver fM_goalUnder fM_goalMax fM_different)))) s.heap.size = A at hD hE ⊢
  have hA : ∀ q : Nat, s.heap.size ≤ q → A q := fun q h => by rw [← hAe]; exact Or.inr h
  have hS : va_S A s.heap s.heap [] := va_S.rf
  have hl := lv_entry ([.ref (hL 0), .int p1, .int p2]) (n := 5) (Nat.le_of_ble_eq_true rfl)
  rw [lg_entry_eq]
  generalize (lg_sl ([.ref (hL 0), .int p1, .int p2]) ++ List.replicate (5 - (lg_sl ([.ref (hL 0), .int p1, .int p2])).length) Slot.unset).toArray = ls at hl ⊢
  have hl : lv_has ls 5 [(0, .ref (hL 0)), (1, .int p1), (2, .int p2)] := hl
  have hr0 := TrL.rng hV hn
  refine lv_aload_n hx hb dX10_term_0 rfl (lv_at hl 0 rfl) ?_
  refine va_get (D := (dC, dI)) (ci := 10) (v := .ref dF_tree) (C := RX10) (T := TX10) (N := 20) hx hb hts iwsMX10_term_in10 hown hK hP 0 rfl rfl 2 (by decide) (hts _ hm_m_X10_term_0) (fun _ h9 => h9) rfl dX10_term_1 ?_
  refine lv_iload_n hx hb dX10_term_4 rfl (lv_at hl 1 rfl) ?_
  refine lv_iconst (v := 3) hx hb dX10_term_5 (by decide) ?_
  refine lv_iadd hx hb dX10_term_6 ?_
  refine lv_topi (fun y1 hy1 => ?_)
  obtain rfl : (iI (p1.toInt + 3)) = y1 := (hy1.trans (iI_add2 (iI_of _) (by decide : (3 : Int32) = iI 3))).symm
  refine va_iald (cA := kF 0) (n := nF_tree) (f := fF_tree) hx hb hK hP 11 10 rfl rfl (vp_iI (by omega) (by omega) (by omega)) dX10_term_7 ?_
  refine lv_topi (fun v2 hv2 => ?_)
  have b_v2 : v2.toInt = twL fF_tree (p1.toInt + 3) := by rw [hv2]; exact tw_i (by omega) (by omega)
  have b1_v2 : V v2.toInt 3 (lv + 1) := by rw [hv2]; exact Vld (tw_i (by omega) (by omega)) (TrL.c2 hV hn)
  clear hv2
  refine lv_istore_n hx hb dX10_term_8 rfl hl (by decide) rfl (fun ls (hl : lv_has ls _ ([(3, .int v2), (0, .ref (hL 0)), (1, .int p1), (2, .int p2)])) => ?_)
  have hr1 := TrL.rng hV (by assumption : V v2.toInt _ _)
  refine lv_aload_n hx hb dX10_term_9 rfl (lv_at hl 1 rfl) ?_
  refine lv_iload_n hx hb dX10_term_10 rfl (lv_at hl 0 rfl) ?_
  refine lv_iload_n hx hb dX10_term_11 rfl (lv_at hl 3 rfl) ?_
  refine W.known (fun hz0 _ => ?_)
  have hFc := allFree hD hS hA
  refine vx_callv (vx_runV (As := [.int v2, .int p2]) (rest := []) ⟨hx, hb, hml, hown, hts⟩ (ih_X10_factor dC dI hL aL kL hT hM iL_names gL_key fL_kind fL_one fL_two fL_base iL_params fL_paramOver dL_paramOver nL_params fL_paramUnder dL_paramUnder nL_pu gL_over gL_under fL_bound iL_nameAt iL_startAt iL_steps jL_scaleOver jL_scaleUnder hF aF kF dF_tree nF_tree fF_tree aT kT fT_tape dT_tape nT_tape iT_length iT_fault iT_place iT_kind iT_at iT_number jT_name iT_next aM kM iM_stands iM_variables iM_rows iM_goals iM_differents iM_cases fM_from fM_to fM_whole fM_ways iM_plainRows fM_plainRow fM_kept fM_goalOver fM_goalUnder fM_goalMax fM_different V lo (lv + 1) v2 p2 (b_iL_names) b_fL_kind b_fL_two b_fL_base (b_iL_params) (by first | exact b_nL_params | with_reducible assumption | exact ⟨by omega, by omega⟩ | assumption) (by first | with_reducible assumption | omega | (rw [iI_t (by omega) (by omega)]; omega) | assumption) (by first | with_reducible assumption | omega | (rw [iI_t (by omega) (by omega)]; omega) | assumption) (by first | with_reducible assumption | omega | (rw [iI_t (by omega) (by omega)]; omega) | assumption) (by first | exact b_nF_tree | with_reducible assumption | exact ⟨by omega, by omega⟩ | assumption) b_fT_tape (by first | exact b_nT_tape | with_reducible assumption | exact ⟨by omega, by omega⟩ | assumption) (b_iT_length) (b_iT_at) (b_iT_number) (b_iT_next) (by first | with_reducible assumption | omega | assumption) (b_iM_stands) (b_iM_variables) (b_iM_rows) (b_iM_goals) (b_iM_differents) (b_iM_cases) b_fM_ways (b_iM_plainRows) b_fM_plainRow (by first | with_reducible assumption | omega | assumption) (b_p2) (by first | with_reducible assumption | omega | (rw [iI_t (by omega) (by omega)]; omega) | decide | assumption) (by first | with_reducible assumption | omega | (rw [iI_t (by omega) (by omega)]; omega) | decide | assumption) (by first | with_reducible assumption | omega | (rw [iI_t (by omega) (by omega)]; omega) | decide | assumption) (by first | with_reducible assumption | omega | (rw [iI_t (by omega) (by omega)]; omega) | decide | assumption) s.heap.size) (cwV 2 hts gwsMX10_term_0 rfl rfl rfl (by decide +kernel) ⟨by first | decide +kernel | (dsimp only [headSpec] <;> omega), by first | decide +kernel | (dsimp only [headSpec] <;> omega)⟩) (fz_preE (va_recv hK hP (ci := 10) (q0 := 0) rfl rfl) hP hK hD (fun a U g mk qE => qE.call) (fun U hU9 hW => by rw [hU9]; exact (((hE : CE A s s.heap).kept hS.2.1).narrow (fun q h => hFc q h)).warm hW)) rfl rfl hl.1 rfl (lv_room (Nat.le_of_ble_eq_true rfl)) dX10_term_12 ⟨by first | decide +kernel | (dsimp only [headSpec] <;> omega), by first | decide +kernel | (dsimp only [headSpec] <;> omega)⟩) hS (fun q _ h => hFc q h) hFc (fun q _ h => hFc q h) (fun E ce q9 u t9_ H locs ht hvm hw9 hB9 hz1 hk1 hS hc1 hc2 hc3 => ?_) (fun u t9_ H locs ht hvm hw9 hB9 hz1 hk1 hS => ?_)
  · revert u hw9 hB9
    refine fz_p6 ?_
    intro gL_over_3 gL_under_3 fL_bound_3 iL_steps_3 iT_fault_3 iT_place_3 hw9 hB9
    try dsimp only at hw9 hB9
    revert hB9
    refine fz_a2 ?_
    intro hEx hB9
    clear hw9
    have hP : va_P (dC, dI) vwCl (WL hL aL kL hT hM (.ref dF_tree) iL_names gL_key fL_kind fL_one fL_two fL_base iL_params fL_paramOver dL_paramOver nL_params fL_paramUnder dL_paramUnder nL_pu gL_over_3 gL_under_3 fL_bound_3 iL_nameAt iL_startAt iL_steps_3 jL_scaleOver jL_scaleUnder ++ (WF hF aF kF dF_tree nF_tree fF_tree ++ (WT hT aT kT fT_tape dT_tape nT_tape iT_length iT_fault_3 iT_place_3 iT_kind iT_at iT_number jT_name iT_next ++ (WM hM aM kM iM_stands iM_variables iM_rows iM_goals iM_differents iM_cases fM_from fM_to fM_whole fM_ways iM_plainRows fM_plainRow fM_kept fM_goalOver fM_goalUnder fM_goalMax fM_different)))) H := fz_P ht hB9.1
    have hD := fz_sd hP (hB9.2.weaken (fun _ q _ h => hFc q.1 h)) rfl
    exact vx_out (fun x hx9 => (htab x hx9).elim) hlocks hc1 hc2 hc3 (fun t9_ ht hvm => ⟨(gL_over_3, gL_under_3, fL_bound_3, iL_steps_3, iT_fault_3, iT_place_3), trivial, ⟨(by have h9 := hEx; exact h9), by rw [ht]; exact hP, hD⟩, hS.F ht⟩) hS.2.2 (by decide +kernel) (by decide +kernel)
  revert u hw9 hB9
  refine fz_p6 ?_
  intro gL_over_3 gL_under_3 fL_bound_3 iL_steps_3 iT_fault_3 iT_place_3 hw9 hB9
  try dsimp only at hw9 hB9
  clear hw9
  have hz8 := hB9.2.2
  rw [ht] at hz8
  have hz9 : H.size ≤ s.heap.size + 0 := by rw [hz8]; exact hz0
  refine W.tight (cells2 := 0) (slots2 := 0) hz9 (nS_0 hz9) ?_
  clear hz8 hz9
  have hP : va_P (dC, dI) vwCl (WL hL aL kL hT hM (.ref dF_tree) iL_names gL_key fL_kind fL_one fL_two fL_base iL_params fL_paramOver dL_paramOver nL_params fL_paramUnder dL_paramUnder nL_pu gL_over_3 gL_under_3 fL_bound_3 iL_nameAt iL_startAt iL_steps_3 jL_scaleOver jL_scaleUnder ++ (WF hF aF kF dF_tree nF_tree fF_tree ++ (WT hT aT kT fT_tape dT_tape nT_tape iT_length iT_fault_3 iT_place_3 iT_kind iT_at iT_number jT_name iT_next ++ (WM hM aM kM iM_stands iM_variables iM_rows iM_goals iM_differents iM_cases fM_from fM_to fM_whole fM_ways iM_plainRows fM_plainRow fM_kept fM_goalOver fM_goalUnder fM_goalMax fM_different)))) H := fz_P ht hB9.1
  have hD := fz_sd hP (hB9.2.1.weaken (fun _ q _ h => hFc q.1 h)) rfl
  refine lv_aload_n hx hb dX10_term_15 rfl (lv_at hl 1 rfl) ?_
  refine va_get (D := (dC, dI)) (ci := 10) (v := .ref dF_tree) (C := RX10) (T := TX10) (N := 20) hx hb hts iwsMX10_term_in10 hown hK hP 0 rfl rfl 2 (by decide) (hts _ hm_m_X10_term_0) (fun _ h9 => h9) rfl dX10_term_16 ?_
  refine lv_iload_n hx hb dX10_term_19 rfl (lv_at hl 0 rfl) ?_
  refine lv_bipush (v := 6) hx hb dX10_term_20 (by decide) ?_
  refine lv_iadd hx hb dX10_term_22 ?_
  refine lv_topi (fun y4 hy4 => ?_)
  obtain rfl : (iI (v2.toInt + 6)) = y4 := (hy4.trans (iI_add2 (iI_of _) (by decide : (6 : Int32) = iI 6))).symm
  refine va_iald (cA := kF 0) (n := nF_tree) (f := fF_tree) hx hb hK hP 11 10 rfl rfl (vp_iI (by omega) (by omega) (by omega)) dX10_term_23 ?_
  refine lv_topi (fun v5 hv5 => ?_)
  have b_v5 : v5.toInt = twL fF_tree (v2.toInt + 6) := by rw [hv5]; exact tw_i (by omega) (by omega)
  have b1_v5 : v5.toInt = 0 ∨ V v5.toInt 3 (lv + 1) := by rw [hv5]; exact tnx (tw_i (by omega) (by omega)) (TrL.nx hV (k := 3) (L := lv + 1) (by assumption))
  clear hv5
  refine lv_istore_n hx hb dX10_term_24 rfl hl (by decide) rfl (fun ls (hl : lv_has ls _ ([(3, .int v5), (0, .ref (hL 0)), (1, .int p1), (2, .int p2)])) => ?_)
  refine lv_iconst (v := 0) hx hb dX10_term_25 (by decide) ?_
  refine lv_istore hx hb dX10_term_26 hl (by decide) rfl (fun ls (hl : lv_has ls _ ([(4, .int 0), (3, .int v5), (0, .ref (hL 0)), (1, .int p1), (2, .int p2)])) => ?_)
  have hl : lv_has _ _ ([(4, .int 0), (3, .int v5), (0, .ref (hL 0)), (1, .int p1), (2, .int p2)]) := lv_sub hl [0, 1, 2, 3, 4] rfl
  refine (fun (loop : ∀ (n9 : Nat) (gL_over_x28 : Nat → Int64) (gL_under_x28 : Nat → Int64) (fL_bound_x28 : Nat → Int32) (iL_steps_x28 : Int32) (iT_fault_x28 : Int32) (iT_place_x28 : Int32) (l4_x28 : Int32) (l3_x28 : Int32) (H : Heap) (locs : List Loc) (ls : Array Slot), (0 ≤ l4_x28.toInt ∧ l4_x28.toInt ≤ 4000) → (l3_x28.toInt = 0 ∨ V l3_x28.toInt 3 (lv + 1)) → (4000 - l4_x28.toInt < ((n9 : Nat) : Int)) → va_P (dC, dI) vwCl (WL hL aL kL hT hM (.ref dF_tree) iL_names gL_key fL_kind fL_one fL_two fL_base iL_params fL_paramOver dL_paramOver nL_params fL_paramUnder dL_paramUnder nL_pu gL_over_x28 gL_under_x28 fL_bound_x28 iL_nameAt iL_startAt iL_steps_x28 jL_scaleOver jL_scaleUnder ++ (WF hF aF kF dF_tree nF_tree fF_tree ++ (WT hT aT kT fT_tape dT_tape nT_tape iT_length iT_fault_x28 iT_place_x28 iT_kind iT_at iT_number jT_name iT_next ++ (WM hM aM kM iM_stands iM_variables iM_rows iM_goals iM_differents iM_cases fM_from fM_to fM_whole fM_ways iM_plainRows fM_plainRow fM_kept fM_goalOver fM_goalUnder fM_goalMax fM_different)))) H → va_D A (WL hL aL kL hT hM (.ref dF_tree) iL_names gL_key fL_kind fL_one fL_two fL_base iL_params fL_paramOver dL_paramOver nL_params fL_paramUnder dL_paramUnder nL_pu gL_over_x28 gL_under_x28 fL_bound_x28 iL_nameAt iL_startAt iL_steps_x28 jL_scaleOver jL_scaleUnder ++ (WF hF aF kF dF_tree nF_tree fF_tree ++ (WT hT aT kT fT_tape dT_tape nT_tape iT_length iT_fault_x28 iT_place_x28 iT_kind iT_at iT_number jT_name iT_next ++ (WM hM aM kM iM_stands iM_variables iM_rows iM_goals iM_differents iM_cases fM_from fM_to fM_whole fM_ways iM_plainRows fM_plainRow fM_kept fM_goalOver fM_goalUnder fM_goalMax fM_different)))) → va_S A s.heap H locs → lv_has ls 5 [(4, .int l4_x28), (3, .int l3_x28), (0, .ref (hL 0)), (1, .int p1), (2, .int p2)] → W p l e _ s m _ below meth c H locs 0 0 _ (F0 m 28 ls [])) => loop (4001) gL_over_3 gL_under_3 fL_bound_3 iL_steps_3 iT_fault_3 iT_place_3 0 v5 _ _ _ (show 0 ≤ (0 : Int32).toInt ∧ (0 : Int32).toInt ≤ 4000 from by decide) (show v5.toInt = 0 ∨ V v5.toInt 3 (lv + 1) from by assumption) ((by have e9 : (0 : Int32).toInt = 0 := (by decide : (0 : Int32).toInt = 0); omega)) hP hD hS hl) ?_
  intro n9
  induction n9 with
  | zero => intro gL_over_x28 gL_under_x28 fL_bound_x28 iL_steps_x28 iT_fault_x28 iT_place_x28 l4_x28 l3_x28 H locs ls b_l4_x28 hpt hf9; exact False.elim (by omega)
  | succ n9 ihx28 =>
    intro gL_over_x28 gL_under_x28 fL_bound_x28 iL_steps_x28 iT_fault_x28 iT_place_x28 l4_x28 l3_x28 H locs ls b_l4_x28 hpt hfx28 hP hD hS hl
    refine lv_iload hx hb dX10_term_28 (lv_at hl 0 rfl) ?_
    refine lv_sipush (v := 4000) hx hb dX10_term_30 (by decide) ?_
    refine W.cut (pc := 110) (fun H locs ls stk =>  stk = [] ∧ va_P (dC, dI) vwCl (WL hL aL kL hT hM (.ref dF_tree) iL_names gL_key fL_kind fL_one fL_two fL_base iL_params fL_paramOver dL_paramOver nL_params fL_paramUnder dL_paramUnder nL_pu gL_over_x28 gL_under_x28 fL_bound_x28 iL_nameAt iL_startAt iL_steps_x28 jL_scaleOver jL_scaleUnder ++ (WF hF aF kF dF_tree nF_tree fF_tree ++ (WT hT aT kT fT_tape dT_tape nT_tape iT_length iT_fault_x28 iT_place_x28 iT_kind iT_at iT_number jT_name iT_next ++ (WM hM aM kM iM_stands iM_variables iM_rows iM_goals iM_differents iM_cases fM_from fM_to fM_whole fM_ways iM_plainRows fM_plainRow fM_kept fM_goalOver fM_goalUnder fM_goalMax fM_different)))) H ∧ va_D A (WL hL aL kL hT hM (.ref dF_tree) iL_names gL_key fL_kind fL_one fL_two fL_base iL_params fL_paramOver dL_paramOver nL_params fL_paramUnder dL_paramUnder nL_pu gL_over_x28 gL_under_x28 fL_bound_x28 iL_nameAt iL_startAt iL_steps_x28 jL_scaleOver jL_scaleUnder ++ (WF hF aF kF dF_tree nF_tree fF_tree ++ (WT hT aT kT fT_tape dT_tape nT_tape iT_length iT_fault_x28 iT_place_x28 iT_kind iT_at iT_number jT_name iT_next ++ (WM hM aM kM iM_stands iM_variables iM_rows iM_goals iM_differents iM_cases fM_from fM_to fM_whole fM_ways iM_plainRows fM_plainRow fM_kept fM_goalOver fM_goalUnder fM_goalMax fM_different)))) ∧ va_S A s.heap H locs ∧ lv_has ls 5 [(4, .int l4_x28), (3, .int l3_x28), (0, .ref (hL 0)), (1, .int p1), (2, .int p2)]) (fun join15 => ?_) ?_
    · refine lv_icmp_ge (tgt := 110) hx hb dX10_term_33 (by decide) (fun c_33 => ?_) (fun c_33 => ?_)
      · have t_33 : l4_x28.toInt ≥ 4000 := toI_ge c_33 rfl (by decide : (4000 : Int32).toInt = 4000)
        have hl : lv_has _ _ ([(4, .int l4_x28), (3, .int l3_x28), (0, .ref (hL 0)), (1, .int p1), (2, .int p2)]) := lv_sub hl [0, 1, 2, 3, 4] rfl
        exact join15 _ _ _ _ ⟨rfl, hP, hD, hS, hl⟩
      · have t_33 : ¬ l4_x28.toInt ≥ 4000 := toI_nge c_33 rfl (by decide : (4000 : Int32).toInt = 4000)
        refine lv_iload_n hx hb dX10_term_36 rfl (lv_at hl 1 rfl) ?_
        refine lv_if_eq (tgt := 110) hx hb dX10_term_37 (by decide) (fun c_37 => ?_) (fun c_37 => ?_)
        · have t_37 : l3_x28.toInt = 0 := toI_eq c_37 rfl (by decide : (0 : Int32).toInt = 0)
          have hl : lv_has _ _ ([(4, .int l4_x28), (3, .int l3_x28), (0, .ref (hL 0)), (1, .int p1), (2, .int p2)]) := lv_sub hl [0, 1, 2, 3, 4] rfl
          exact join15 _ _ _ _ ⟨rfl, hP, hD, hS, hl⟩
        · have t_37 : ¬ l3_x28.toInt = 0 := toI_neq c_37 rfl (by decide : (0 : Int32).toInt = 0)
          have hpv := hpt.resolve_left t_37
          have hr1 := TrL.rng hV hpv
          refine lv_aload_n hx hb dX10_term_40 rfl (lv_at hl 2 rfl) ?_
          refine W.known (fun hz0 _ => ?_)
          have p9 := cj_4_0_2 (WL hL aL kL hT hM (.ref dF_tree) iL_names gL_key fL_kind fL_one fL_two fL_base iL_params fL_paramOver dL_paramOver nL_params fL_paramUnder dL_paramUnder nL_pu gL_over_x28 gL_under_x28 fL_bound_x28 iL_nameAt iL_startAt iL_steps_x28 jL_scaleOver jL_scaleUnder) (WF hF aF kF dF_tree nF_tree fF_tree) (WT hT aT kT fT_tape dT_tape nT_tape iT_length iT_fault_x28 iT_place_x28 iT_kind iT_at iT_number jT_name iT_next) (WM hM aM kM iM_stands iM_variables iM_rows iM_goals iM_differents iM_cases fM_from fM_to fM_whole fM_ways iM_plainRows fM_plainRow fM_kept fM_goalOver fM_goalUnder fM_goalMax fM_different)
          have hPc := hP.mem (fun q h => p9.mem_iff.mpr (List.mem_append_left _ h))
          have hDc := (hD.perm p9).left
          have hKc : va_K (dC, dI) vwCl (tL kL ++ (tT kT)) _ := hK.sub [0, 1, 2, 3, 4, 5, 6, 7, 8, 9, 11] rfl
          have hFc := freeG p9 hD hS hA
          refine vx_callv (vx_runV (As := []) (rest := []) ⟨hx, hb, hml, hown, hts⟩ (m_X10_step l hst dC dI hL aL kL hT hM (.ref dF_tree) iL_names gL_key fL_kind fL_one fL_two fL_base iL_params fL_paramOver dL_paramOver nL_params fL_paramUnder dL_paramUnder nL_pu gL_over_x28 gL_under_x28 fL_bound_x28 iL_nameAt iL_startAt iL_steps_x28 jL_scaleOver jL_scaleUnder aT kT fT_tape dT_tape nT_tape iT_length iT_fault_x28 iT_place_x28 iT_kind iT_at iT_number jT_name iT_next (b_iL_names) b_fL_kind b_fL_two b_fL_base (b_iL_params) (by first | exact b_nL_params | with_reducible assumption | exact ⟨by omega, by omega⟩ | assumption) (by first | with_reducible assumption | omega | (rw [iI_t (by omega) (by omega)]; omega) | assumption) (by first | with_reducible assumption | omega | (rw [iI_t (by omega) (by omega)]; omega) | assumption) (by first | with_reducible assumption | omega | (rw [iI_t (by omega) (by omega)]; omega) | assumption) b_fT_tape (by first | exact b_nT_tape | with_reducible assumption | exact ⟨by omega, by omega⟩ | assumption) (b_iT_length) (b_iT_at) (b_iT_number) (b_iT_next) (by first | with_reducible assumption | omega | assumption) H.size) (cwV 0 hts gwsMX10_term_1 rfl rfl rfl (by decide +kernel) ⟨by first | decide +kernel | (dsimp only [headSpec] <;> omega), by first | decide +kernel | (dsimp only [headSpec] <;> omega)⟩) (fz_preE (va_recv hK hP (ci := 10) (q0 := 0) rfl rfl) hPc hKc hDc (fun a U g mk qE => qE.call) (fun U hU9 hW => by rw [hU9]; exact (((hE : CE A s s.heap).kept hS.2.1).narrow (fun q h => hFc q h)).warm hW)) rfl rfl hl.1 rfl (lv_room (Nat.le_of_ble_eq_true rfl)) dX10_term_41 ⟨by first | decide +kernel | (dsimp only [headSpec] <;> omega), by first | decide +kernel | (dsimp only [headSpec] <;> omega)⟩) hS (fun q _ h => hFc q h) hFc (fun q _ h => hFc q h) (fun E ce q9 u t9_ H locs ht hvm hw9 hB9 hz1 hk1 hS hc1 hc2 hc3 => ?_) (fun u t9_ H locs ht hvm hw9 hB9 hz1 hk1 hS => ?_)
          · revert u hw9 hB9
            refine fz_p3 ?_
            intro iL_steps_101 iT_fault_101 iT_place_101 hw9 hB9
            try dsimp only at hw9 hB9
            revert hB9
            refine fz_a2 ?_
            intro hEx hB9
            clear hw9
            have p8 := cj_4_0_2 (WL hL aL kL hT hM (.ref dF_tree) iL_names gL_key fL_kind fL_one fL_two fL_base iL_params fL_paramOver dL_paramOver nL_params fL_paramUnder dL_paramUnder nL_pu gL_over_x28 gL_under_x28 fL_bound_x28 iL_nameAt iL_startAt iL_steps_101 jL_scaleOver jL_scaleUnder) (WF hF aF kF dF_tree nF_tree fF_tree) (WT hT aT kT fT_tape dT_tape nT_tape iT_length iT_fault_101 iT_place_101 iT_kind iT_at iT_number jT_name iT_next) (WM hM aM kM iM_stands iM_variables iM_rows iM_goals iM_differents iM_cases fM_from fM_to fM_whole fM_ways iM_plainRows fM_plainRow fM_kept fM_goalOver fM_goalUnder fM_goalMax fM_different)
            obtain ⟨hP, hD⟩ := frameG p9 p8 hP hD hk1 hFc (fz_P ht hB9.1) hB9.2
            exact vx_out (fun x hx9 => (htab x hx9).elim) hlocks hc1 hc2 hc3 (fun t9_ ht hvm => ⟨(gL_over_x28, gL_under_x28, fL_bound_x28, iL_steps_101, iT_fault_101, iT_place_101), trivial, ⟨(by have h9 := hEx; exact h9), by rw [ht]; exact hP, hD⟩, hS.F ht⟩) hS.2.2 (by decide +kernel) (by decide +kernel)
          revert u hw9 hB9
          refine fz_p3 ?_
          intro iL_steps_101 iT_fault_101 iT_place_101 hw9 hB9
          try dsimp only at hw9 hB9
          clear hw9
          have hz8 := hB9.2.2
          rw [ht] at hz8
          have hz9 : H.size ≤ s.heap.size + 0 := by rw [hz8]; exact hz0
          refine W.tight (cells2 := 0) (slots2 := 0) hz9 (nS_0 hz9) ?_
          clear hz8 hz9
          have p8 := cj_4_0_2 (WL hL aL kL hT hM (.ref dF_tree) iL_names gL_key fL_kind fL_one fL_two fL_base iL_params fL_paramOver dL_paramOver nL_params fL_paramUnder dL_paramUnder nL_pu gL_over_x28 gL_under_x28 fL_bound_x28 iL_nameAt iL_startAt iL_steps_101 jL_scaleOver jL_scaleUnder) (WF hF aF kF dF_tree nF_tree fF_tree) (WT hT aT kT fT_tape dT_tape nT_tape iT_length iT_fault_101 iT_place_101 iT_kind iT_at iT_number jT_name iT_next) (WM hM aM kM iM_stands iM_variables iM_rows iM_goals iM_differents iM_cases fM_from fM_to fM_whole fM_ways iM_plainRows fM_plainRow fM_kept fM_goalOver fM_goalUnder fM_goalMax fM_different)
          obtain ⟨hP, hD⟩ := frameG p9 p8 hP hD hk1 hFc (fz_P ht hB9.1) hB9.2.1
          refine lv_aload_n hx hb dX10_term_44 rfl (lv_at hl 2 rfl) ?_
          refine lv_iload_n hx hb dX10_term_45 rfl (lv_at hl 1 rfl) ?_
          refine lv_iload_n hx hb dX10_term_46 rfl (lv_at hl 4 rfl) ?_
          refine lv_iconst (v := 1) hx hb dX10_term_47 (by decide) ?_
          refine lv_iadd hx hb dX10_term_48 ?_
          refine lv_topi (fun y102 hy102 => ?_)
          obtain rfl : (iI (p2.toInt + 1)) = y102 := (hy102.trans (iI_add2 (iI_of _) (by decide : (1 : Int32) = iI 1))).symm
          refine W.known (fun hz0 _ => ?_)
          have hFc := allFree hD hS hA
          refine vx_callv (vx_runV (As := [.int l3_x28, .int (iI (p2.toInt + 1))]) (rest := []) ⟨hx, hb, hml, hown, hts⟩ (ih_X10_factor dC dI hL aL kL hT hM iL_names gL_key fL_kind fL_one fL_two fL_base iL_params fL_paramOver dL_paramOver nL_params fL_paramUnder dL_paramUnder nL_pu gL_over_x28 gL_under_x28 fL_bound_x28 iL_nameAt iL_startAt iL_steps_101 jL_scaleOver jL_scaleUnder hF aF kF dF_tree nF_tree fF_tree aT kT fT_tape dT_tape nT_tape iT_length iT_fault_101 iT_place_101 iT_kind iT_at iT_number jT_name iT_next aM kM iM_stands iM_variables iM_rows iM_goals iM_differents iM_cases fM_from fM_to fM_whole fM_ways iM_plainRows fM_plainRow fM_kept fM_goalOver fM_goalUnder fM_goalMax fM_different V lo (lv + 1) l3_x28 (iI (p2.toInt + 1)) (b_iL_names) b_fL_kind b_fL_two b_fL_base (b_iL_params) (by first | exact b_nL_params | with_reducible assumption | exact ⟨by omega, by omega⟩ | assumption) (by first | with_reducible assumption | omega | (rw [iI_t (by omega) (by omega)]; omega) | assumption) (by first | with_reducible assumption | omega | (rw [iI_t (by omega) (by omega)]; omega) | assumption) (by first | with_reducible assumption | omega | (rw [iI_t (by omega) (by omega)]; omega) | assumption) (by first | exact b_nF_tree | with_reducible assumption | exact ⟨by omega, by omega⟩ | assumption) b_fT_tape (by first | exact b_nT_tape | with_reducible assumption | exact ⟨by omega, by omega⟩ | assumption) (b_iT_length) (b_iT_at) (b_iT_number) (b_iT_next) (by first | with_reducible assumption | omega | assumption) (b_iM_stands) (b_iM_variables) (b_iM_rows) (b_iM_goals) (b_iM_differents) (b_iM_cases) b_fM_ways (b_iM_plainRows) b_fM_plainRow (by first | with_reducible assumption | omega | assumption) (iI_rng (Int.le_trans (by decide) (Int.add_le_add (b_p2.1) (Int.le_refl _))) (by omega) (by decide) (by decide)) (by first | with_reducible assumption | omega | (rw [iI_t (by omega) (by omega)]; omega) | decide | assumption) (by first | with_reducible assumption | omega | (rw [iI_t (by omega) (by omega)]; omega) | decide | assumption) (by first | with_reducible assumption | omega | (rw [iI_t (by omega) (by omega)]; omega) | decide | assumption) (by first | with_reducible assumption | omega | (rw [iI_t (by omega) (by omega)]; omega) | decide | assumption) H.size) (cwV 2 hts gwsMX10_term_0 rfl rfl rfl (by decide +kernel) ⟨by first | decide +kernel | (dsimp only [headSpec] <;> omega), by first | decide +kernel | (dsimp only [headSpec] <;> omega)⟩) (fz_preE (va_recv hK hP (ci := 10) (q0 := 0) rfl rfl) hP hK hD (fun a U g mk qE => qE.call) (fun U hU9 hW => by rw [hU9]; exact (((hE : CE A s s.heap).kept hS.2.1).narrow (fun q h => hFc q h)).warm hW)) rfl rfl hl.1 rfl (lv_room (Nat.le_of_ble_eq_true rfl)) dX10_term_49 ⟨by first | decide +kernel | (dsimp only [headSpec] <;> omega), by first | decide +kernel | (dsimp only [headSpec] <;> omega)⟩) hS (fun q _ h => hFc q h) hFc (fun q _ h => hFc q h) (fun E ce q9 u t9_ H locs ht hvm hw9 hB9 hz1 hk1 hS hc1 hc2 hc3 => ?_) (fun u t9_ H locs ht hvm hw9 hB9 hz1 hk1 hS => ?_)
          · revert u hw9 hB9
            refine fz_p6 ?_
            intro gL_over_103 gL_under_103 fL_bound_103 iL_steps_103 iT_fault_103 iT_place_103 hw9 hB9
            try dsimp only at hw9 hB9
            revert hB9
            refine fz_a2 ?_
            intro hEx hB9
            clear hw9
            have hP : va_P (dC, dI) vwCl (WL hL aL kL hT hM (.ref dF_tree) iL_names gL_key fL_kind fL_one fL_two fL_base iL_params fL_paramOver dL_paramOver nL_params fL_paramUnder dL_paramUnder nL_pu gL_over_103 gL_under_103 fL_bound_103 iL_nameAt iL_startAt iL_steps_103 jL_scaleOver jL_scaleUnder ++ (WF hF aF kF dF_tree nF_tree fF_tree ++ (WT hT aT kT fT_tape dT_tape nT_tape iT_length iT_fault_103 iT_place_103 iT_kind iT_at iT_number jT_name iT_next ++ (WM hM aM kM iM_stands iM_variables iM_rows iM_goals iM_differents iM_cases fM_from fM_to fM_whole fM_ways iM_plainRows fM_plainRow fM_kept fM_goalOver fM_goalUnder fM_goalMax fM_different)))) H := fz_P ht hB9.1
            have hD := fz_sd hP (hB9.2.weaken (fun _ q _ h => hFc q.1 h)) rfl
            exact vx_out (fun x hx9 => (htab x hx9).elim) hlocks hc1 hc2 hc3 (fun t9_ ht hvm => ⟨(gL_over_103, gL_under_103, fL_bound_103, iL_steps_103, iT_fault_103, iT_place_103), trivial, ⟨(by have h9 := hEx; exact h9), by rw [ht]; exact hP, hD⟩, hS.F ht⟩) hS.2.2 (by decide +kernel) (by decide +kernel)
          revert u hw9 hB9
          refine fz_p6 ?_
          intro gL_over_103 gL_under_103 fL_bound_103 iL_steps_103 iT_fault_103 iT_place_103 hw9 hB9
          try dsimp only at hw9 hB9
          clear hw9
          have hz8 := hB9.2.2
          rw [ht] at hz8
          have hz9 : H.size ≤ s.heap.size + 0 := by rw [hz8]; exact hz0
          refine W.tight (cells2 := 0) (slots2 := 0) hz9 (nS_0 hz9) ?_
          clear hz8 hz9
          have hP : va_P (dC, dI) vwCl (WL hL aL kL hT hM (.ref dF_tree) iL_names gL_key fL_kind fL_one fL_two fL_base iL_params fL_paramOver dL_paramOver nL_params fL_paramUnder dL_paramUnder nL_pu gL_over_103 gL_under_103 fL_bound_103 iL_nameAt iL_startAt iL_steps_103 jL_scaleOver jL_scaleUnder ++ (WF hF aF kF dF_tree nF_tree fF_tree ++ (WT hT aT kT fT_tape dT_tape nT_tape iT_length iT_fault_103 iT_place_103 iT_kind iT_at iT_number jT_name iT_next ++ (WM hM aM kM iM_stands iM_variables iM_rows iM_goals iM_differents iM_cases fM_from fM_to fM_whole fM_ways iM_plainRows fM_plainRow fM_kept fM_goalOver fM_goalUnder fM_goalMax fM_different)))) H := fz_P ht hB9.1
          have hD := fz_sd hP (hB9.2.1.weaken (fun _ q _ h => hFc q.1 h)) rfl
          refine lv_aload_n hx hb dX10_term_52 rfl (lv_at hl 2 rfl) ?_
          refine va_get (D := (dC, dI)) (ci := 10) (v := .ref dF_tree) (C := RX10) (T := TX10) (N := 20) hx hb hts iwsMX10_term_in10 hown hK hP 0 rfl rfl 2 (by decide) (hts _ hm_m_X10_term_0) (fun _ h9 => h9) rfl dX10_term_53 ?_
          refine lv_iload_n hx hb dX10_term_56 rfl (lv_at hl 1 rfl) ?_
          refine lv_iconst (v := 2) hx hb dX10_term_57 (by decide) ?_
          refine lv_iadd hx hb dX10_term_58 ?_
          refine lv_topi (fun y104 hy104 => ?_)
          obtain rfl : (iI (l3_x28.toInt + 2)) = y104 := (hy104.trans (iI_add2 (iI_of _) (by decide : (2 : Int32) = iI 2))).symm
          refine va_iald (cA := kF 0) (n := nF_tree) (f := fF_tree) hx hb hK hP 11 10 rfl rfl (vp_iI (by omega) (by omega) (by omega)) dX10_term_59 ?_
          refine lv_topi (fun v105 hv105 => ?_)
          have b_v105 : v105.toInt = twL fF_tree (l3_x28.toInt + 2) := by rw [hv105]; exact tw_i (by omega) (by omega)
          clear hv105
          refine lv_bipush (v := 42) hx hb dX10_term_60 (by decide) ?_
          refine W.cut (pc := 94) (fun H locs ls stk => ∃ (gL_over_j16 : Nat → Int64) (gL_under_j16 : Nat → Int64) (iT_fault_j16 : Int32) (iT_place_j16 : Int32),  stk = [] ∧ va_P (dC, dI) vwCl (WL hL aL kL hT hM (.ref dF_tree) iL_names gL_key fL_kind fL_one fL_two fL_base iL_params fL_paramOver dL_paramOver nL_params fL_paramUnder dL_paramUnder nL_pu gL_over_j16 gL_under_j16 fL_bound_103 iL_nameAt iL_startAt iL_steps_103 jL_scaleOver jL_scaleUnder ++ (WF hF aF kF dF_tree nF_tree fF_tree ++ (WT hT aT kT fT_tape dT_tape nT_tape iT_length iT_fault_j16 iT_place_j16 iT_kind iT_at iT_number jT_name iT_next ++ (WM hM aM kM iM_stands iM_variables iM_rows iM_goals iM_differents iM_cases fM_from fM_to fM_whole fM_ways iM_plainRows fM_plainRow fM_kept fM_goalOver fM_goalUnder fM_goalMax fM_different)))) H ∧ va_D A (WL hL aL kL hT hM (.ref dF_tree) iL_names gL_key fL_kind fL_one fL_two fL_base iL_params fL_paramOver dL_paramOver nL_params fL_paramUnder dL_paramUnder nL_pu gL_over_j16 gL_under_j16 fL_bound_103 iL_nameAt iL_startAt iL_steps_103 jL_scaleOver jL_scaleUnder ++ (WF hF aF kF dF_tree nF_tree fF_tree ++ (WT hT aT kT fT_tape dT_tape nT_tape iT_length iT_fault_j16 iT_place_j16 iT_kind iT_at iT_number jT_name iT_next ++ (WM hM aM kM iM_stands iM_variables iM_rows iM_goals iM_differents iM_cases fM_from fM_to fM_whole fM_ways iM_plainRows fM_plainRow fM_kept fM_goalOver fM_goalUnder fM_goalMax fM_different)))) ∧ va_S A s.heap H locs ∧ lv_has ls 5 [(4, .int l4_x28), (3, .int l3_x28), (0, .ref (hL 0)), (1, .int p1), (2, .int p2)]) (fun join16 => ?_) ?_
          · refine lv_icmp_ne (tgt := 81) hx hb dX10_term_62 (by decide) (fun c_62 => ?_) (fun c_62 => ?_)
            · have t_62 : v105.toInt ≠ 42 := toI_ne c_62 rfl (by decide : (42 : Int32).toInt = 42)
              refine lv_aload_n hx hb dX10_term_81 rfl (lv_at hl 2 rfl) ?_
              refine lv_iload_n hx hb dX10_term_82 rfl (lv_at hl 4 rfl) ?_
              refine lv_aload_n hx hb dX10_term_83 rfl (lv_at hl 2 rfl) ?_
              refine va_get (D := (dC, dI)) (ci := 10) (v := .ref dF_tree) (C := RX10) (T := TX10) (N := 20) hx hb hts iwsMX10_term_in10 hown hK hP 0 rfl rfl 2 (by decide) (hts _ hm_m_X10_term_0) (fun _ h9 => h9) rfl dX10_term_84 ?_
              refine lv_iload_n hx hb dX10_term_87 rfl (lv_at hl 1 rfl) ?_
              refine lv_iconst (v := 1) hx hb dX10_term_88 (by decide) ?_
              refine lv_iadd hx hb dX10_term_89 ?_
              refine lv_topi (fun y112 hy112 => ?_)
              obtain rfl : (iI (l3_x28.toInt + 1)) = y112 := (hy112.trans (iI_add2 (iI_of _) (by decide : (1 : Int32) = iI 1))).symm
              refine va_iald (cA := kF 0) (n := nF_tree) (f := fF_tree) hx hb hK hP 11 10 rfl rfl (vp_iI (by omega) (by omega) (by omega)) dX10_term_90 ?_
              refine lv_topi (fun v113 hv113 => ?_)
              have b_v113 : v113.toInt = twL fF_tree (l3_x28.toInt + 1) := by rw [hv113]; exact tw_i (by omega) (by omega)
              clear hv113
              refine W.known (fun hz0 _ => ?_)
              have p9 := cj_4_0_2_3 (WL hL aL kL hT hM (.ref dF_tree) iL_names gL_key fL_kind fL_one fL_two fL_base iL_params fL_paramOver dL_paramOver nL_params fL_paramUnder dL_paramUnder nL_pu gL_over_103 gL_under_103 fL_bound_103 iL_nameAt iL_startAt iL_steps_103 jL_scaleOver jL_scaleUnder) (WF hF aF kF dF_tree nF_tree fF_tree) (WT hT aT kT fT_tape dT_tape nT_tape iT_length iT_fault_103 iT_place_103 iT_kind iT_at iT_number jT_name iT_next) (WM hM aM kM iM_stands iM_variables iM_rows iM_goals iM_differents iM_cases fM_from fM_to fM_whole fM_ways iM_plainRows fM_plainRow fM_kept fM_goalOver fM_goalUnder fM_goalMax fM_different)
              have hPc := hP.mem (fun q h => p9.mem_iff.mpr (List.mem_append_left _ h))
              have hDc := (hD.perm p9).left
              have hKc : va_K (dC, dI) vwCl (tL kL ++ (tT kT ++ (tM kM))) _ := hK.sub [0, 1, 2, 3, 4, 5, 6, 7, 8, 9, 11, 12, 13, 14, 15, 16, 17, 18, 19, 20, 21] rfl
              have hFc := freeG p9 hD hS hA
              refine vx_callv (vx_runV (As := [.int p2, .int v113]) (rest := []) ⟨hx, hb, hml, hown, hts⟩ (m_X10_divide l hst dC dI hL aL kL hT hM (.ref dF_tree) iL_names gL_key fL_kind fL_one fL_two fL_base iL_params fL_paramOver dL_paramOver nL_params fL_paramUnder dL_paramUnder nL_pu gL_over_103 gL_under_103 fL_bound_103 iL_nameAt iL_startAt iL_steps_103 jL_scaleOver jL_scaleUnder aT kT fT_tape dT_tape nT_tape iT_length iT_fault_103 iT_place_103 iT_kind iT_at iT_number jT_name iT_next aM kM iM_stands iM_variables iM_rows iM_goals iM_differents iM_cases fM_from fM_to fM_whole fM_ways iM_plainRows fM_plainRow fM_kept fM_goalOver fM_goalUnder fM_goalMax fM_different p2 v113 (b_iL_names) b_fL_kind b_fL_two b_fL_base (b_iL_params) (by first | exact b_nL_params | with_reducible assumption | exact ⟨by omega, by omega⟩ | assumption) (by first | with_reducible assumption | omega | (rw [iI_t (by omega) (by omega)]; omega) | assumption) (by first | with_reducible assumption | omega | (rw [iI_t (by omega) (by omega)]; omega) | assumption) (by first | with_reducible assumption | omega | (rw [iI_t (by omega) (by omega)]; omega) | assumption) b_fT_tape (by first | exact b_nT_tape | with_reducible assumption | exact ⟨by omega, by omega⟩ | assumption) (b_iT_length) (b_iT_at) (b_iT_number) (b_iT_next) (by first | with_reducible assumption | omega | assumption) (b_iM_stands) (b_iM_variables) (b_iM_rows) (b_iM_goals) (b_iM_differents) (b_iM_cases) b_fM_ways (b_iM_plainRows) b_fM_plainRow (by first | with_reducible assumption | omega | assumption) (b_p2) H.size) (cwV 2 hts gwsMX10_term_2 rfl rfl rfl (by decide +kernel) ⟨by first | decide +kernel | (dsimp only [headSpec] <;> omega), by first | decide +kernel | (dsimp only [headSpec] <;> omega)⟩) (fz_preE (va_recv hK hP (ci := 10) (q0 := 0) rfl rfl) hPc hKc hDc (fun a U g mk qE => qE.call) (fun U hU9 hW => by rw [hU9]; exact (((hE : CE A s s.heap).kept hS.2.1).narrow (fun q h => hFc q h)).warm hW)) rfl rfl hl.1 rfl (lv_room (Nat.le_of_ble_eq_true rfl)) dX10_term_91 ⟨by first | decide +kernel | (dsimp only [headSpec] <;> omega), by first | decide +kernel | (dsimp only [headSpec] <;> omega)⟩) hS (fun q _ h => hFc q h) hFc (fun q _ h => hFc q h) (fun E ce q9 u t9_ H locs ht hvm hw9 hB9 hz1 hk1 hS hc1 hc2 hc3 => ?_) (fun u t9_ H locs ht hvm hw9 hB9 hz1 hk1 hS => ?_)
              · revert u hw9 hB9
                refine fz_p4 ?_
                intro gL_over_114 gL_under_114 iT_fault_114 iT_place_114 hw9 hB9
                try dsimp only at hw9 hB9
                revert hB9
                refine fz_a2 ?_
                intro hEx hB9
                clear hw9
                have p8 := cj_4_0_2_3 (WL hL aL kL hT hM (.ref dF_tree) iL_names gL_key fL_kind fL_one fL_two fL_base iL_params fL_paramOver dL_paramOver nL_params fL_paramUnder dL_paramUnder nL_pu gL_over_114 gL_under_114 fL_bound_103 iL_nameAt iL_startAt iL_steps_103 jL_scaleOver jL_scaleUnder) (WF hF aF kF dF_tree nF_tree fF_tree) (WT hT aT kT fT_tape dT_tape nT_tape iT_length iT_fault_114 iT_place_114 iT_kind iT_at iT_number jT_name iT_next) (WM hM aM kM iM_stands iM_variables iM_rows iM_goals iM_differents iM_cases fM_from fM_to fM_whole fM_ways iM_plainRows fM_plainRow fM_kept fM_goalOver fM_goalUnder fM_goalMax fM_different)
                obtain ⟨hP, hD⟩ := frameG p9 p8 hP hD hk1 hFc (fz_P ht hB9.1) hB9.2
                exact vx_out (fun x hx9 => (htab x hx9).elim) hlocks hc1 hc2 hc3 (fun t9_ ht hvm => ⟨(gL_over_114, gL_under_114, fL_bound_103, iL_steps_103, iT_fault_114, iT_place_114), trivial, ⟨(by have h9 := hEx; exact h9), by rw [ht]; exact hP, hD⟩, hS.F ht⟩) hS.2.2 (by decide +kernel) (by decide +kernel)
              revert u hw9 hB9
              refine fz_p4 ?_
              intro gL_over_114 gL_under_114 iT_fault_114 iT_place_114 hw9 hB9
              try dsimp only at hw9 hB9
              clear hw9
              have hz8 := hB9.2.2
              rw [ht] at hz8
              have hz9 : H.size ≤ s.heap.size + 0 := by rw [hz8]; exact hz0
              refine W.tight (cells2 := 0) (slots2 := 0) hz9 (nS_0 hz9) ?_
              clear hz8 hz9
              have p8 := cj_4_0_2_3 (WL hL aL kL hT hM (.ref dF_tree) iL_names gL_key fL_kind fL_one fL_two fL_base iL_params fL_paramOver dL_paramOver nL_params fL_paramUnder dL_paramUnder nL_pu gL_over_114 gL_under_114 fL_bound_103 iL_nameAt iL_startAt iL_steps_103 jL_scaleOver jL_scaleUnder) (WF hF aF kF dF_tree nF_tree fF_tree) (WT hT aT kT fT_tape dT_tape nT_tape iT_length iT_fault_114 iT_place_114 iT_kind iT_at iT_number jT_name iT_next) (WM hM aM kM iM_stands iM_variables iM_rows iM_goals iM_differents iM_cases fM_from fM_to fM_whole fM_ways iM_plainRows fM_plainRow fM_kept fM_goalOver fM_goalUnder fM_goalMax fM_different)
              obtain ⟨hP, hD⟩ := frameG p9 p8 hP hD hk1 hFc (fz_P ht hB9.1) hB9.2.1
              have hl : lv_has _ _ ([(4, .int l4_x28), (3, .int l3_x28), (0, .ref (hL 0)), (1, .int p1), (2, .int p2)]) := lv_sub hl [0, 1, 2, 3, 4] rfl
              exact join16 _ _ _ _ ⟨gL_over_114, gL_under_114, iT_fault_114, iT_place_114, rfl, hP, hD, hS, hl⟩
            · have t_62 : v105.toInt = 42 := toI_nne c_62 rfl (by decide : (42 : Int32).toInt = 42)
              refine lv_aload_n hx hb dX10_term_65 rfl (lv_at hl 2 rfl) ?_
              refine lv_iload_n hx hb dX10_term_66 rfl (lv_at hl 4 rfl) ?_
              refine lv_aload_n hx hb dX10_term_67 rfl (lv_at hl 2 rfl) ?_
              refine va_get (D := (dC, dI)) (ci := 10) (v := .ref dF_tree) (C := RX10) (T := TX10) (N := 20) hx hb hts iwsMX10_term_in10 hown hK hP 0 rfl rfl 2 (by decide) (hts _ hm_m_X10_term_0) (fun _ h9 => h9) rfl dX10_term_68 ?_
              refine lv_iload_n hx hb dX10_term_71 rfl (lv_at hl 1 rfl) ?_
              refine lv_iconst (v := 1) hx hb dX10_term_72 (by decide) ?_
              refine lv_iadd hx hb dX10_term_73 ?_
              refine lv_topi (fun y115 hy115 => ?_)
              obtain rfl : (iI (l3_x28.toInt + 1)) = y115 := (hy115.trans (iI_add2 (iI_of _) (by decide : (1 : Int32) = iI 1))).symm
              refine va_iald (cA := kF 0) (n := nF_tree) (f := fF_tree) hx hb hK hP 11 10 rfl rfl (vp_iI (by omega) (by omega) (by omega)) dX10_term_74 ?_
              refine lv_topi (fun v116 hv116 => ?_)
              have b_v116 : v116.toInt = twL fF_tree (l3_x28.toInt + 1) := by rw [hv116]; exact tw_i (by omega) (by omega)
              clear hv116
              refine W.known (fun hz0 _ => ?_)
              have p9 := cj_4_0_2_3 (WL hL aL kL hT hM (.ref dF_tree) iL_names gL_key fL_kind fL_one fL_two fL_base iL_params fL_paramOver dL_paramOver nL_params fL_paramUnder dL_paramUnder nL_pu gL_over_103 gL_under_103 fL_bound_103 iL_nameAt iL_startAt iL_steps_103 jL_scaleOver jL_scaleUnder) (WF hF aF kF dF_tree nF_tree fF_tree) (WT hT aT kT fT_tape dT_tape nT_tape iT_length iT_fault_103 iT_place_103 iT_kind iT_at iT_number jT_name iT_next) (WM hM aM kM iM_stands iM_variables iM_rows iM_goals iM_differents iM_cases fM_from fM_to fM_whole fM_ways iM_plainRows fM_plainRow fM_kept fM_goalOver fM_goalUnder fM_goalMax fM_different)
              have hPc := hP.mem (fun q h => p9.mem_iff.mpr (List.mem_append_left _ h))
              have hDc := (hD.perm p9).left
              have hKc : va_K (dC, dI) vwCl (tL kL ++ (tT kT ++ (tM kM))) _ := hK.sub [0, 1, 2, 3, 4, 5, 6, 7, 8, 9, 11, 12, 13, 14, 15, 16, 17, 18, 19, 20, 21] rfl
              have hFc := freeG p9 hD hS hA
              refine vx_callv (vx_runV (As := [.int p2, .int v116]) (rest := []) ⟨hx, hb, hml, hown, hts⟩ (m_X10_multiply l hst dC dI hL aL kL hT hM (.ref dF_tree) iL_names gL_key fL_kind fL_one fL_two fL_base iL_params fL_paramOver dL_paramOver nL_params fL_paramUnder dL_paramUnder nL_pu gL_over_103 gL_under_103 fL_bound_103 iL_nameAt iL_startAt iL_steps_103 jL_scaleOver jL_scaleUnder aT kT fT_tape dT_tape nT_tape iT_length iT_fault_103 iT_place_103 iT_kind iT_at iT_number jT_name iT_next aM kM iM_stands iM_variables iM_rows iM_goals iM_differents iM_cases fM_from fM_to fM_whole fM_ways iM_plainRows fM_plainRow fM_kept fM_goalOver fM_goalUnder fM_goalMax fM_different p2 v116 (b_iL_names) b_fL_kind b_fL_two b_fL_base (b_iL_params) (by first | exact b_nL_params | with_reducible assumption | exact ⟨by omega, by omega⟩ | assumption) (by first | with_reducible assumption | omega | (rw [iI_t (by omega) (by omega)]; omega) | assumption) (by first | with_reducible assumption | omega | (rw [iI_t (by omega) (by omega)]; omega) | assumption) (by first | with_reducible assumption | omega | (rw [iI_t (by omega) (by omega)]; omega) | assumption) b_fT_tape (by first | exact b_nT_tape | with_reducible assumption | exact ⟨by omega, by omega⟩ | assumption) (b_iT_length) (b_iT_at) (b_iT_number) (b_iT_next) (by first | with_reducible assumption | omega | assumption) (b_iM_stands) (b_iM_variables) (b_iM_rows) (b_iM_goals) (b_iM_differents) (b_iM_cases) b_fM_ways (b_iM_plainRows) b_fM_plainRow (by first | with_reducible assumption | omega | assumption) (b_p2) H.size) (cwV 2 hts gwsMX10_term_3 rfl rfl rfl (by decide +kernel) ⟨by first | decide +kernel | (dsimp only [headSpec] <;> omega), by first | decide +kernel | (dsimp only [headSpec] <;> omega)⟩) (fz_preE (va_recv hK hP (ci := 10) (q0 := 0) rfl rfl) hPc hKc hDc (fun a U g mk qE => qE.call) (fun U hU9 hW => by rw [hU9]; exact (((hE : CE A s s.heap).kept hS.2.1).narrow (fun q h => hFc q h)).warm hW)) rfl rfl hl.1 rfl (lv_room (Nat.le_of_ble_eq_true rfl)) dX10_term_75 ⟨by first | decide +kernel | (dsimp only [headSpec] <;> omega), by first | decide +kernel | (dsimp only [headSpec] <;> omega)⟩) hS (fun q _ h => hFc q h) hFc (fun q _ h => hFc q h) (fun E ce q9 u t9_ H locs ht hvm hw9 hB9 hz1 hk1 hS hc1 hc2 hc3 => ?_) (fun u t9_ H locs ht hvm hw9 hB9 hz1 hk1 hS => ?_)
              · revert u hw9 hB9
                refine fz_p4 ?_
                intro gL_over_117 gL_under_117 iT_fault_117 iT_place_117 hw9 hB9
                try dsimp only at hw9 hB9
                revert hB9
                refine fz_a2 ?_
                intro hEx hB9
                clear hw9
                have p8 := cj_4_0_2_3 (WL hL aL kL hT hM (.ref dF_tree) iL_names gL_key fL_kind fL_one fL_two fL_base iL_params fL_paramOver dL_paramOver nL_params fL_paramUnder dL_paramUnder nL_pu gL_over_117 gL_under_117 fL_bound_103 iL_nameAt iL_startAt iL_steps_103 jL_scaleOver jL_scaleUnder) (WF hF aF kF dF_tree nF_tree fF_tree) (WT hT aT kT fT_tape dT_tape nT_tape iT_length iT_fault_117 iT_place_117 iT_kind iT_at iT_number jT_name iT_next) (WM hM aM kM iM_stands iM_variables iM_rows iM_goals iM_differents iM_cases fM_from fM_to fM_whole fM_ways iM_plainRows fM_plainRow fM_kept fM_goalOver fM_goalUnder fM_goalMax fM_different)
                obtain ⟨hP, hD⟩ := frameG p9 p8 hP hD hk1 hFc (fz_P ht hB9.1) hB9.2
                exact vx_out (fun x hx9 => (htab x hx9).elim) hlocks hc1 hc2 hc3 (fun t9_ ht hvm => ⟨(gL_over_117, gL_under_117, fL_bound_103, iL_steps_103, iT_fault_117, iT_place_117), trivial, ⟨(by have h9 := hEx; exact h9), by rw [ht]; exact hP, hD⟩, hS.F ht⟩) hS.2.2 (by decide +kernel) (by decide +kernel)
              revert u hw9 hB9
              refine fz_p4 ?_
              intro gL_over_117 gL_under_117 iT_fault_117 iT_place_117 hw9 hB9
              try dsimp only at hw9 hB9
              clear hw9
              have hz8 := hB9.2.2
              rw [ht] at hz8
              have hz9 : H.size ≤ s.heap.size + 0 := by rw [hz8]; exact hz0
              refine W.tight (cells2 := 0) (slots2 := 0) hz9 (nS_0 hz9) ?_
              clear hz8 hz9
              have p8 := cj_4_0_2_3 (WL hL aL kL hT hM (.ref dF_tree) iL_names gL_key fL_kind fL_one fL_two fL_base iL_params fL_paramOver dL_paramOver nL_params fL_paramUnder dL_paramUnder nL_pu gL_over_117 gL_under_117 fL_bound_103 iL_nameAt iL_startAt iL_steps_103 jL_scaleOver jL_scaleUnder) (WF hF aF kF dF_tree nF_tree fF_tree) (WT hT aT kT fT_tape dT_tape nT_tape iT_length iT_fault_117 iT_place_117 iT_kind iT_at iT_number jT_name iT_next) (WM hM aM kM iM_stands iM_variables iM_rows iM_goals iM_differents iM_cases fM_from fM_to fM_whole fM_ways iM_plainRows fM_plainRow fM_kept fM_goalOver fM_goalUnder fM_goalMax fM_different)
              obtain ⟨hP, hD⟩ := frameG p9 p8 hP hD hk1 hFc (fz_P ht hB9.1) hB9.2.1
              refine lv_goto (tgt := 94) hx hb dX10_term_78 (by decide) ?_
              have hl : lv_has _ _ ([(4, .int l4_x28), (3, .int l3_x28), (0, .ref (hL 0)), (1, .int p1), (2, .int p2)]) := lv_sub hl [0, 1, 2, 3, 4] rfl
              exact join16 _ _ _ _ ⟨gL_over_117, gL_under_117, iT_fault_117, iT_place_117, rfl, hP, hD, hS, hl⟩
          · intro H locs ls stk
            refine fz_e4 ?_
            intro gL_over_j16 gL_under_j16 iT_fault_j16 iT_place_j16
            refine fz_a5 ?_
            intro hst9_0 hP hD hS hl
            subst hst9_0
            refine lv_aload_n hx hb dX10_term_94 rfl (lv_at hl 2 rfl) ?_
            refine va_get (D := (dC, dI)) (ci := 10) (v := .ref dF_tree) (C := RX10) (T := TX10) (N := 20) hx hb hts iwsMX10_term_in10 hown hK hP 0 rfl rfl 2 (by decide) (hts _ hm_m_X10_term_0) (fun _ h9 => h9) rfl dX10_term_95 ?_
            refine lv_iload_n hx hb dX10_term_98 rfl (lv_at hl 1 rfl) ?_
            refine lv_bipush (v := 6) hx hb dX10_term_99 (by decide) ?_
            refine lv_iadd hx hb dX10_term_101 ?_
            refine lv_topi (fun y118 hy118 => ?_)
            obtain rfl : (iI (l3_x28.toInt + 6)) = y118 := (hy118.trans (iI_add2 (iI_of _) (by decide : (6 : Int32) = iI 6))).symm
            refine va_iald (cA := kF 0) (n := nF_tree) (f := fF_tree) hx hb hK hP 11 10 rfl rfl (vp_iI (by omega) (by omega) (by omega)) dX10_term_102 ?_
            refine lv_topi (fun v119 hv119 => ?_)
            have b_v119 : v119.toInt = twL fF_tree (l3_x28.toInt + 6) := by rw [hv119]; exact tw_i (by omega) (by omega)
            have b1_v119 : v119.toInt = 0 ∨ V v119.toInt 3 (lv + 1) := by rw [hv119]; exact tnx (tw_i (by omega) (by omega)) (TrL.nx hV (k := 3) (L := lv + 1) (by assumption))
            clear hv119
            refine lv_istore_n hx hb dX10_term_103 rfl hl (by decide) rfl (fun ls (hl : lv_has ls _ ([(3, .int v119), (4, .int l4_x28), (0, .ref (hL 0)), (1, .int p1), (2, .int p2)])) => ?_)
            refine lv_iinc (v := (iI (l4_x28.toInt + 1))) hx hb dX10_term_104 hl (k := 1) rfl (iI_add2 (iI_of _) (by decide : (1 : Int32) = iI 1)) (by decide) rfl (fun ls (hl : lv_has ls _ ([(4, .int (iI (l4_x28.toInt + 1))), (3, .int v119), (0, .ref (hL 0)), (1, .int p1), (2, .int p2)])) => ?_)
            refine lv_goto (tgt := 28) hx hb dX10_term_107 (by decide) ?_
            have hl : lv_has _ _ ([(4, .int (iI (l4_x28.toInt + 1))), (3, .int v119), (0, .ref (hL 0)), (1, .int p1), (2, .int p2)]) := lv_sub hl [0, 1, 2, 3, 4] rfl
            exact ihx28 gL_over_j16 gL_under_j16 fL_bound_103 iL_steps_103 iT_fault_j16 iT_place_j16 (iI (l4_x28.toInt + 1)) v119 _ _ _ (iI_rng (Int.le_trans (by decide) (Int.add_le_add (b_l4_x28.1) (Int.le_refl _))) (by omega) (by decide) (by decide)) (show v119.toInt = 0 ∨ V v119.toInt 3 (lv + 1) from by assumption) (by have e9 : ((iI (l4_x28.toInt + 1))).toInt = (l4_x28.toInt + 1) := (iI_t (Int.le_trans (by decide) (Int.add_le_add (b_l4_x28.1) (Int.le_refl _))) (Int.le_trans (Int.add_le_add (b_l4_x28.2) (Int.le_refl _)) (by decide))); omega) hP hD hS hl
    · rintro H locs ls stk ⟨rfl, hP, hD, hS, hl⟩
      refine vx_ret ?_
      refine W.known (fun hz9 _ => ?_)
      refine W.widen (k := 1) (n := 6) (by decide +kernel) (by decide +kernel) ?_
      exact W.vret hx hb hr (fun t9_ ht hW => ⟨⟨(gL_over_x28, gL_under_x28, fL_bound_x28, iL_steps_x28, iT_fault_x28, iT_place_x28), rfl, trivial, by rw [ht]; exact hP, hD, by rw [ht]; first | done | exact Nat.le_antisymm hz9 hS.1⟩, hS.F ht⟩) hS.2.2 dX10_term_110
theorem dX10_factor_0 : decode cX10_factor 0 = .ok (.aload_n 0, 1) := dk_42 (by decide +kernel)
theorem dX10_factor_1 : decode cX10_factor 1 = .ok (.getfield 55, 3) := dk_180 (by decide +kernel)
theorem dX10_factor_4 : decode cX10_factor 4 = .ok (.iload_n 1, 1) := dk_27 (by decide +kernel)
theorem dX10_factor_5 : decode cX10_factor 5 = .ok (.iconst 0, 1) := dk_3 (by decide +kernel)
theorem dX10_factor_6 : decode cX10_factor 6 = .ok (.iadd, 1) := dk_96 (by decide +kernel)
theorem dX10_factor_7 : decode cX10_factor 7 = .ok (.iaload, 1) := dk_46 (by decide +kernel)
theorem dX10_factor_8 : decode cX10_factor 8 = .ok (.tableswitch 139 3 7 #[36, 58, 85, 98, 123], 36) := by decide +kernel
theorem dX10_factor_44 : decode cX10_factor 44 = .ok (.aload_n 0, 1) := dk_42 (by decide +kernel)
theorem dX10_factor_45 : decode cX10_factor 45 = .ok (.invokevirtual 214, 3) := dk_182 (by decide +kernel)
theorem dX10_factor_48 : decode cX10_factor 48 = .ok (.aload_n 0, 1) := dk_42 (by decide +kernel)
theorem dX10_factor_49 : decode cX10_factor 49 = .ok (.iload_n 2, 1) := dk_28 (by decide +kernel)
theorem dX10_factor_50 : decode cX10_factor 50 = .ok (.aload_n 0, 1) := dk_42 (by decide +kernel)
theorem dX10_factor_51 : decode cX10_factor 51 = .ok (.getfield 55, 3) := dk_180 (by decide +kernel)
theorem dX10_factor_54 : decode cX10_factor 54 = .ok (.iload_n 1, 1) := dk_27 (by decide +kernel)
theorem dX10_factor_55 : decode cX10_factor 55 = .ok (.iconst 3, 1) := dk_6 (by decide +kernel)
theorem dX10_factor_56 : decode cX10_factor 56 = .ok (.iadd, 1) := dk_96 (by decide +kernel)
theorem dX10_factor_57 : decode cX10_factor 57 = .ok (.iaload, 1) := dk_46 (by decide +kernel)
theorem dX10_factor_58 : decode cX10_factor 58 = .ok (.i2l, 1) := dk_133 (by decide +kernel)
theorem dX10_factor_59 : decode cX10_factor 59 = .ok (.lconst 1, 1) := dk_10 (by decide +kernel)
theorem dX10_factor_60 : decode cX10_factor 60 = .ok (.invokevirtual 230, 3) := dk_182 (by decide +kernel)
theorem dX10_factor_63 : decode cX10_factor 63 = .ok (.goto 90, 3) := dk_167 (by decide +kernel)
theorem dX10_factor_66 : decode cX10_factor 66 = .ok (.aload_n 0, 1) := dk_42 (by decide +kernel)
theorem dX10_factor_67 : decode cX10_factor 67 = .ok (.invokevirtual 214, 3) := dk_182 (by decide +kernel)
theorem dX10_factor_70 : decode cX10_factor 70 = .ok (.aload_n 0, 1) := dk_42 (by decide +kernel)
theorem dX10_factor_71 : decode cX10_factor 71 = .ok (.iload_n 2, 1) := dk_28 (by decide +kernel)
theorem dX10_factor_72 : decode cX10_factor 72 = .ok (.aload_n 0, 1) := dk_42 (by decide +kernel)
theorem dX10_factor_73 : decode cX10_factor 73 = .ok (.getfield 44, 3) := dk_180 (by decide +kernel)
theorem dX10_factor_76 : decode cX10_factor 76 = .ok (.aload_n 0, 1) := dk_42 (by decide +kernel)
theorem dX10_factor_77 : decode cX10_factor 77 = .ok (.getfield 55, 3) := dk_180 (by decide +kernel)
theorem dX10_factor_80 : decode cX10_factor 80 = .ok (.iload_n 1, 1) := dk_27 (by decide +kernel)
theorem dX10_factor_81 : decode cX10_factor 81 = .ok (.iconst 3, 1) := dk_6 (by decide +kernel)
theorem dX10_factor_82 : decode cX10_factor 82 = .ok (.iadd, 1) := dk_96 (by decide +kernel)
theorem dX10_factor_83 : decode cX10_factor 83 = .ok (.iaload, 1) := dk_46 (by decide +kernel)
theorem dX10_factor_84 : decode cX10_factor 84 = .ok (.iaload, 1) := dk_46 (by decide +kernel)
theorem dX10_factor_85 : decode cX10_factor 85 = .ok (.i2l, 1) := dk_133 (by decide +kernel)
theorem dX10_factor_86 : decode cX10_factor 86 = .ok (.lconst 1, 1) := dk_10 (by decide +kernel)
theorem dX10_factor_87 : decode cX10_factor 87 = .ok (.invokevirtual 230, 3) := dk_182 (by decide +kernel)
theorem dX10_factor_90 : decode cX10_factor 90 = .ok (.goto 63, 3) := dk_167 (by decide +kernel)
theorem dX10_factor_93 : decode cX10_factor 93 = .ok (.aload_n 0, 1) := dk_42 (by decide +kernel)
theorem dX10_factor_94 : decode cX10_factor 94 = .ok (.invokevirtual 214, 3) := dk_182 (by decide +kernel)
theorem dX10_factor_97 : decode cX10_factor 97 = .ok (.aload_n 0, 1) := dk_42 (by decide +kernel)
theorem dX10_factor_98 : decode cX10_factor 98 = .ok (.iload_n 1, 1) := dk_27 (by decide +kernel)
theorem dX10_factor_99 : decode cX10_factor 99 = .ok (.iload_n 2, 1) := dk_28 (by decide +kernel)
theorem dX10_factor_100 : decode cX10_factor 100 = .ok (.invokevirtual 234, 3) := dk_182 (by decide +kernel)
theorem dX10_factor_103 : decode cX10_factor 103 = .ok (.goto 50, 3) := dk_167 (by decide +kernel)
theorem dX10_factor_106 : decode cX10_factor 106 = .ok (.aload_n 0, 1) := dk_42 (by decide +kernel)
theorem dX10_factor_107 : decode cX10_factor 107 = .ok (.invokevirtual 214, 3) := dk_182 (by decide +kernel)
theorem dX10_factor_110 : decode cX10_factor 110 = .ok (.aload_n 0, 1) := dk_42 (by decide +kernel)
theorem dX10_factor_111 : decode cX10_factor 111 = .ok (.aload_n 0, 1) := dk_42 (by decide +kernel)
theorem dX10_factor_112 : decode cX10_factor 112 = .ok (.getfield 55, 3) := dk_180 (by decide +kernel)
theorem dX10_factor_115 : decode cX10_factor 115 = .ok (.iload_n 1, 1) := dk_27 (by decide +kernel)
theorem dX10_factor_116 : decode cX10_factor 116 = .ok (.iconst 3, 1) := dk_6 (by decide +kernel)
theorem dX10_factor_117 : decode cX10_factor 117 = .ok (.iadd, 1) := dk_96 (by decide +kernel)
theorem dX10_factor_118 : decode cX10_factor 118 = .ok (.iaload, 1) := dk_46 (by decide +kernel)
theorem dX10_factor_119 : decode cX10_factor 119 = .ok (.iload_n 2, 1) := dk_28 (by decide +kernel)
theorem dX10_factor_120 : decode cX10_factor 120 = .ok (.invokevirtual 221, 3) := dk_182 (by decide +kernel)
theorem dX10_factor_123 : decode cX10_factor 123 = .ok (.aload_n 0, 1) := dk_42 (by decide +kernel)
theorem dX10_factor_124 : decode cX10_factor 124 = .ok (.iload_n 2, 1) := dk_28 (by decide +kernel)
theorem dX10_factor_125 : decode cX10_factor 125 = .ok (.invokevirtual 237, 3) := dk_182 (by decide +kernel)
theorem dX10_factor_128 : decode cX10_factor 128 = .ok (.goto 25, 3) := dk_167 (by decide +kernel)
theorem dX10_factor_131 : decode cX10_factor 131 = .ok (.aload_n 0, 1) := dk_42 (by decide +kernel)
theorem dX10_factor_132 : decode cX10_factor 132 = .ok (.aload_n 0, 1) := dk_42 (by decide +kernel)
theorem dX10_factor_133 : decode cX10_factor 133 = .ok (.getfield 55, 3) := dk_180 (by decide +kernel)
theorem dX10_factor_136 : decode cX10_factor 136 = .ok (.iload_n 1, 1) := dk_27 (by decide +kernel)
theorem dX10_factor_137 : decode cX10_factor 137 = .ok (.iconst 3, 1) := dk_6 (by decide +kernel)
theorem dX10_factor_138 : decode cX10_factor 138 = .ok (.iadd, 1) := dk_96 (by decide +kernel)
theorem dX10_factor_139 : decode cX10_factor 139 = .ok (.iaload, 1) := dk_46 (by decide +kernel)
theorem dX10_factor_140 : decode cX10_factor 140 = .ok (.iload_n 2, 1) := dk_28 (by decide +kernel)
theorem dX10_factor_141 : decode cX10_factor 141 = .ok (.invokevirtual 133, 3) := dk_182 (by decide +kernel)
theorem dX10_factor_144 : decode cX10_factor 144 = .ok (.goto 9, 3) := dk_167 (by decide +kernel)
theorem dX10_factor_147 : decode cX10_factor 147 = .ok (.aload_n 0, 1) := dk_42 (by decide +kernel)
theorem dX10_factor_148 : decode cX10_factor 148 = .ok (.iload_n 1, 1) := dk_27 (by decide +kernel)
theorem dX10_factor_149 : decode cX10_factor 149 = .ok (.iload_n 2, 1) := dk_28 (by decide +kernel)
theorem dX10_factor_150 : decode cX10_factor 150 = .ok (.invokevirtual 240, 3) := dk_182 (by decide +kernel)
theorem dX10_factor_153 : decode cX10_factor 153 = .ok (.return_, 1) := dk_177 (by decide +kernel)
theorem iwsMX10_factor_in10 : ∀ w ∈ wsX100, w ∈ wsMX10_factor := fun w h => List.mem_cons_of_mem _ (iwsGW_in10 w h)
theorem gwsMX10_factor_0 : GoodIn wsMX10_factor (wsV RX10 214 RX10 yX10_step wsMX10_step) := goodIn_sub (fun w h => List.mem_cons_of_mem _ (gwsGW_0 w h)) (gdV (by decide +kernel) gdwsMX10_step)
theorem gwsMX10_factor_1 : GoodIn wsMX10_factor (wsV RX10 230 RX10 yX10_setNumber wsMX10_setNumber) := goodIn_sub (fun w h => List.mem_cons_of_mem _ (gwsGW_4 w h)) (gdV (by decide +kernel) gdwsMX10_setNumber)
theorem gwsMX10_factor_2 : GoodIn wsMX10_factor (wsV RX10 234 RX10 yX10_lookUp wsMX10_lookUp) := goodIn_rec (hd := [.methodLink RX10 234 yX10_lookUp, .instanceMethod yX10_lookUp, .selects RX10 yX10_lookUp yX10_lookUp, .initialized RX10]) (by decide +kernel) (by decide +kernel) gdwsGW
theorem gwsMX10_factor_3 : GoodIn wsMX10_factor (wsV RX10 221 RX10 yX10_factor wsMX10_factor) := goodIn_rec (hd := [.methodLink RX10 221 yX10_factor, .instanceMethod yX10_factor, .selects RX10 yX10_factor yX10_factor, .initialized RX10]) (by decide +kernel) (by decide +kernel) gdwsGW
theorem gwsMX10_factor_4 : GoodIn wsMX10_factor (wsV RX10 237 RX10 yX10_turn wsMX10_turn) := goodIn_sub (fun w h => List.mem_cons_of_mem _ (gwsGW_5 w h)) (gdV (by decide +kernel) gdwsMX10_turn)
theorem gwsMX10_factor_5 : GoodIn wsMX10_factor (wsV RX10 133 RX10 yX10_linear wsMX10_linear) := goodIn_rec (hd := [.methodLink RX10 133 yX10_linear, .instanceMethod yX10_linear, .selects RX10 yX10_linear yX10_linear, .initialized RX10]) (by decide +kernel) (by decide +kernel) gdwsGW
theorem gwsMX10_factor_6 : GoodIn wsMX10_factor (wsV RX10 240 RX10 yX10_sum wsMX10_sum) := goodIn_rec (hd := [.methodLink RX10 240 yX10_sum, .instanceMethod yX10_sum, .selects RX10 yX10_sum yX10_sum, .initialized RX10]) (by decide +kernel) (by decide +kernel) gdwsGW
theorem hm_m_X10_factor_0 : (.fieldLink RX10 55 "OptimaWorks$Worker" "tree" "[I" : Cond) ∈ wsMX10_factor := by decide +kernel
set_option maxHeartbeats 4000000 in
set_option maxRecDepth 100000 in
/-- a FACTOR worked out -/
theorem m_X10_factor (l : Launch) (hst : l.stackTraces = false) (ev : Nat) (ih_X10_lookUp : Cm_X10_lookUp l (ev + 1)) (ih_X10_factor : Cm_X10_factor l (ev)) (ih_X10_linear : Cm_X10_linear l (ev)) (ih_X10_sum : Cm_X10_sum l (ev + 1)) : Cm_X10_factor l (ev + 1) := by
  intro dC dI hL aL kL hT hM iL_names gL_key fL_kind fL_one fL_two fL_base iL_params fL_paramOver dL_paramOver nL_params fL_paramUnder dL_paramUnder nL_pu gL_over gL_under fL_bound iL_nameAt iL_startAt iL_steps jL_scaleOver jL_scaleUnder hF aF kF dF_tree nF_tree fF_tree aT kT fT_tape dT_tape nT_tape iT_length iT_fault iT_place iT_kind iT_at iT_number jT_name iT_next aM kM iM_stands iM_variables iM_rows iM_goals iM_differents iM_cases fM_from fM_to fM_whole fM_ways iM_plainRows fM_plainRow fM_kept fM_goalOver fM_goalUnder fM_goalMax fM_different V lo lv p1 p2 b_iL_names b_fL_kind b_fL_two b_fL_base b_iL_params b_nL_params b_nm b_pm b_pu b_nF_tree b_fT_tape b_nT_tape b_iT_length b_iT_at b_iT_number b_iT_next b_len b_iM_stands b_iM_variables b_iM_rows b_iM_goals b_iM_differents b_iM_cases b_fM_ways b_iM_plainRows b_fM_plainRow b_pr b_p2 hV hn hlv hsl sz
  refine vx_ofW (cc := cX10_factor) (maxL := 3) (ret := none) (by decide) rfl ?_
  intro p e s m args below meth c s₁ B hml htab hv
  obtain ⟨rfl, hsz, hP, hK, hD0, hE⟩ := hv
  have hx := B.exec
  have hb := B.bytes
  have hr := B.returns
  have hts := atoms_spec (ws := wsMX10_factor) B.pre
  have hown : s.vm.findClass RX10 = some m.cls := findClass_of_methodNamed B.named
  have hlocks := B.notSynchronized
  subst hsz
  have hD := hD0.self (sz := s.heap.size)
  generalize hAe : va_A (WL hL aL kL hT hM (.ref dF_tree) iL_names gL_key fL_kind fL_one fL_two fL_base iL_params fL_paramOver dL_paramOver nL_params fL_paramUnder dL_paramUnder nL_pu gL_over gL_under fL_bound iL_nameAt iL_startAt iL_steps jL_scaleOver jL_scaleUnder ++ (WF hF aF kF dF_tree nF_tree fF_tree ++ (WT hT aT kT fT_tape dT_tape nT_tape iT_length iT_fault iT_place iT_kind iT_at iT_number jT_name iT_next ++ (WM hM aM kM iM_stands iM_variables iM_rows iM_goals iM_differents iM_cases fM_from fM_to fM_whole fM_ways iM_plainRows fM_plainRow fM_kept fM_goalOver fM_goalUnder fM_goalMax fM_different)))) s.heap.size = A at hD hE ⊢
  have hA : ∀ q : Nat, s.heap.size ≤ q → A q := fun q h => by rw [← hAe]; exact Or.inr h
  have hS : va_S A s.heap s.heap [] := va_S.rf
  have hl := lv_entry ([.ref (hL 0), .int p1, .int p2]) (n := 3) (Nat.le_of_ble_eq_true rfl)
  rw [lg_entry_eq]
  generalize (lg_sl ([.ref (hL 0), .int p1, .int p2]) ++ List.replicate (3 - (lg_sl ([.ref (hL 0), .int p1, .int p2])).length) Slot.unset).toArray = ls at hl ⊢
  have hl : lv_has ls 3 [(0, .ref (hL 0)), (1, .int p1), (2, .int p2)] := hl
  have hr0 := TrL.rng hV hn
  have hk3 := TrL.k3 hV hn
  refine lv_aload_n hx hb dX10_factor_0 rfl (lv_at hl 0 rfl) ?_
  refine va_get (D := (dC, dI)) (ci := 10) (v := .ref dF_tree) (C := RX10) (T := TX10) (N := 20) hx hb hts iwsMX10_factor_in10 hown hK hP 0 rfl rfl 2 (by decide) (hts _ hm_m_X10_factor_0) (fun _ h9 => h9) rfl dX10_factor_1 ?_
  refine lv_iload_n hx hb dX10_factor_4 rfl (lv_at hl 1 rfl) ?_
  refine lv_iconst (v := 0) hx hb dX10_factor_5 (by decide) ?_
  refine lv_iadd hx hb dX10_factor_6 ?_
  refine lv_topi (fun y1 hy1 => ?_)
  obtain rfl : (iI (p1.toInt + 0)) = y1 := (hy1.trans (iI_add2 (iI_of _) (by decide : (0 : Int32) = iI 0))).symm
  refine va_iald (cA := kF 0) (n := nF_tree) (f := fF_tree) hx hb hK hP 11 10 rfl rfl (vp_iI (by omega) (by omega) (by omega)) dX10_factor_7 ?_
  refine lv_topi (fun v2 hv2 => ?_)
  have b_v2 : v2.toInt = twL fF_tree p1.toInt := by rw [hv2]; exact tw_i0 (by omega) (by omega)
  clear hv2
  refine W.cut (pc := 153) (fun H locs ls stk => ∃ (gL_over_j2 : Nat → Int64) (gL_under_j2 : Nat → Int64) (fL_bound_j2 : Nat → Int32) (iL_steps_j2 : Int32) (iT_fault_j2 : Int32) (iT_place_j2 : Int32),  stk = [] ∧ va_P (dC, dI) vwCl (WL hL aL kL hT hM (.ref dF_tree) iL_names gL_key fL_kind fL_one fL_two fL_base iL_params fL_paramOver dL_paramOver nL_params fL_paramUnder dL_paramUnder nL_pu gL_over_j2 gL_under_j2 fL_bound_j2 iL_nameAt iL_startAt iL_steps_j2 jL_scaleOver jL_scaleUnder ++ (WF hF aF kF dF_tree nF_tree fF_tree ++ (WT hT aT kT fT_tape dT_tape nT_tape iT_length iT_fault_j2 iT_place_j2 iT_kind iT_at iT_number jT_name iT_next ++ (WM hM aM kM iM_stands iM_variables iM_rows iM_goals iM_differents iM_cases fM_from fM_to fM_whole fM_ways iM_plainRows fM_plainRow fM_kept fM_goalOver fM_goalUnder fM_goalMax fM_different)))) H ∧ va_D A (WL hL aL kL hT hM (.ref dF_tree) iL_names gL_key fL_kind fL_one fL_two fL_base iL_params fL_paramOver dL_paramOver nL_params fL_paramUnder dL_paramUnder nL_pu gL_over_j2 gL_under_j2 fL_bound_j2 iL_nameAt iL_startAt iL_steps_j2 jL_scaleOver jL_scaleUnder ++ (WF hF aF kF dF_tree nF_tree fF_tree ++ (WT hT aT kT fT_tape dT_tape nT_tape iT_length iT_fault_j2 iT_place_j2 iT_kind iT_at iT_number jT_name iT_next ++ (WM hM aM kM iM_stands iM_variables iM_rows iM_goals iM_differents iM_cases fM_from fM_to fM_whole fM_ways iM_plainRows fM_plainRow fM_kept fM_goalOver fM_goalUnder fM_goalMax fM_different)))) ∧ va_S A s.heap H locs ∧ lv_has ls 3 [(0, .ref (hL 0)), (1, .int p1), (2, .int p2)]) (fun join2 => ?_) ?_
  · by_cases s_8_3 : v2 = 3
    · have ts_8_3 : v2.toInt = 3 := toI_eq s_8_3 rfl (by decide)
      refine lv_tableIn (off := 36) (tgt := 44) hx hb dX10_factor_8 (by rw [s_8_3]; decide) (by rw [s_8_3]; decide) (by rw [s_8_3]; decide) (by decide) ?_
      refine lv_aload_n hx hb dX10_factor_44 rfl (lv_at hl 0 rfl) ?_
      refine W.known (fun hz0 _ => ?_)
      have p9 := cj_4_0_2 (WL hL aL kL hT hM (.ref dF_tree) iL_names gL_key fL_kind fL_one fL_two fL_base iL_params fL_paramOver dL_paramOver nL_params fL_paramUnder dL_paramUnder nL_pu gL_over gL_under fL_bound iL_nameAt iL_startAt iL_steps jL_scaleOver jL_scaleUnder) (WF hF aF kF dF_tree nF_tree fF_tree) (WT hT aT kT fT_tape dT_tape nT_tape iT_length iT_fault iT_place iT_kind iT_at iT_number jT_name iT_next) (WM hM aM kM iM_stands iM_variables iM_rows iM_goals iM_differents iM_cases fM_from fM_to fM_whole fM_ways iM_plainRows fM_plainRow fM_kept fM_goalOver fM_goalUnder fM_goalMax fM_different)
      have hPc := hP.mem (fun q h => p9.mem_iff.mpr (List.mem_append_left _ h))
      have hDc := (hD.perm p9).left
      have hKc : va_K (dC, dI) vwCl (tL kL ++ (tT kT)) _ := hK.sub [0, 1, 2, 3, 4, 5, 6, 7, 8, 9, 11] rfl
      have hFc := freeG p9 hD hS hA
      refine vx_callv (vx_runV (As := []) (rest := []) ⟨hx, hb, hml, hown, hts⟩ (m_X10_step l hst dC dI hL aL kL hT hM (.ref dF_tree) iL_names gL_key fL_kind fL_one fL_two fL_base iL_params fL_paramOver dL_paramOver nL_params fL_paramUnder dL_paramUnder nL_pu gL_over gL_under fL_bound iL_nameAt iL_startAt iL_steps jL_scaleOver jL_scaleUnder aT kT fT_tape dT_tape nT_tape iT_length iT_fault iT_place iT_kind iT_at iT_number jT_name iT_next (b_iL_names) b_fL_kind b_fL_two b_fL_base (b_iL_params) (by first | exact b_nL_params | with_reducible assumption | exact ⟨by omega, by omega⟩ | assumption) (by first | with_reducible assumption | omega | (rw [iI_t (by omega) (by omega)]; omega) | assumption) (by first | with_reducible assumption | omega | (rw [iI_t (by omega) (by omega)]; omega) | assumption) (by first | with_reducible assumption | omega | (rw [iI_t (by omega) (by omega)]; omega) | assumption) b_fT_tape (by first | exact b_nT_tape | with_reducible assumption | exact ⟨by omega, by omega⟩ | assumption) (b_iT_length) (b_iT_at) (b_iT_number) (b_iT_next) (by first | with_reducible assumption | omega | assumption) s.heap.size) (cwV 0 hts gwsMX10_factor_0 rfl rfl rfl (by decide +kernel) ⟨by first | decide +kernel | (dsimp only [headSpec] <;> omega), by first | decide +kernel | (dsimp only [headSpec] <;> omega)⟩) (fz_preE (va_recv hK hP (ci := 10) (q0 := 0) rfl rfl) hPc hKc hDc (fun a U g mk qE => qE.call) (fun U hU9 hW => by rw [hU9]; exact (((hE : CE A s s.heap).kept hS.2.1).narrow (fun q h => hFc q h)).warm hW)) rfl rfl hl.1 rfl (lv_room (Nat.le_of_ble_eq_true rfl)) dX10_factor_45 ⟨by first | decide +kernel | (dsimp only [headSpec] <;> omega), by first | decide +kernel | (dsimp only [headSpec] <;> omega)⟩) hS (fun q _ h => hFc q h) hFc (fun q _ h => hFc q h) (fun E ce q9 u t9_ H locs ht hvm hw9 hB9 hz1 hk1 hS hc1 hc2 hc3 => ?_) (fun u t9_ H locs ht hvm hw9 hB9 hz1 hk1 hS => ?_)
      · revert u hw9 hB9
        refine fz_p3 ?_
        intro iL_steps_25 iT_fault_25 iT_place_25 hw9 hB9
        try dsimp only at hw9 hB9
        revert hB9
        refine fz_a2 ?_
        intro hEx hB9
        clear hw9
        have p8 := cj_4_0_2 (WL hL aL kL hT hM (.ref dF_tree) iL_names gL_key fL_kind fL_one fL_two fL_base iL_params fL_paramOver dL_paramOver nL_params fL_paramUnder dL_paramUnder nL_pu gL_over gL_under fL_bound iL_nameAt iL_startAt iL_steps_25 jL_scaleOver jL_scaleUnder) (WF hF aF kF dF_tree nF_tree fF_tree) (WT hT aT kT fT_tape dT_tape nT_tape iT_length iT_fault_25 iT_place_25 iT_kind iT_at iT_number jT_name iT_next) (WM hM aM kM iM_stands iM_variables iM_rows iM_goals iM_differents iM_cases fM_from fM_to fM_whole fM_ways iM_plainRows fM_plainRow fM_kept fM_goalOver fM_goalUnder fM_goalMax fM_different)
        obtain ⟨hP, hD⟩ := frameG p9 p8 hP hD hk1 hFc (fz_P ht hB9.1) hB9.2
        exact vx_out (fun x hx9 => (htab x hx9).elim) hlocks hc1 hc2 hc3 (fun t9_ ht hvm => ⟨(gL_over, gL_under, fL_bound, iL_steps_25, iT_fault_25, iT_place_25), trivial, ⟨(by have h9 := hEx; exact h9), by rw [ht]; exact hP, hD⟩, hS.F ht⟩) hS.2.2 (by decide +kernel) (by decide +kernel)
      revert u hw9 hB9
      refine fz_p3 ?_
      intro iL_steps_25 iT_fault_25 iT_place_25 hw9 hB9
      try dsimp only at hw9 hB9
      clear hw9
      have hz8 := hB9.2.2
      rw [ht] at hz8
      have hz9 : H.size ≤ s.heap.size + 0 := by rw [hz8]; exact hz0
      refine W.tight (cells2 := 0) (slots2 := 0) hz9 (nS_0 hz9) ?_
      clear hz8 hz9
      have p8 := cj_4_0_2 (WL hL aL kL hT hM (.ref dF_tree) iL_names gL_key fL_kind fL_one fL_two fL_base iL_params fL_paramOver dL_paramOver nL_params fL_paramUnder dL_paramUnder nL_pu gL_over gL_under fL_bound iL_nameAt iL_startAt iL_steps_25 jL_scaleOver jL_scaleUnder) (WF hF aF kF dF_tree nF_tree fF_tree) (WT hT aT kT fT_tape dT_tape nT_tape iT_length iT_fault_25 iT_place_25 iT_kind iT_at iT_number jT_name iT_next) (WM hM aM kM iM_stands iM_variables iM_rows iM_goals iM_differents iM_cases fM_from fM_to fM_whole fM_ways iM_plainRows fM_plainRow fM_kept fM_goalOver fM_goalUnder fM_goalMax fM_different)
      obtain ⟨hP, hD⟩ := frameG p9 p8 hP hD hk1 hFc (fz_P ht hB9.1) hB9.2.1
      refine lv_aload_n hx hb dX10_factor_48 rfl (lv_at hl 0 rfl) ?_
      refine lv_iload_n hx hb dX10_factor_49 rfl (lv_at hl 2 rfl) ?_
      refine lv_aload_n hx hb dX10_factor_50 rfl (lv_at hl 0 rfl) ?_
      refine va_get (D := (dC, dI)) (ci := 10) (v := .ref dF_tree) (C := RX10) (T := TX10) (N := 20) hx hb hts iwsMX10_factor_in10 hown hK hP 0 rfl rfl 2 (by decide) (hts _ hm_m_X10_factor_0) (fun _ h9 => h9) rfl dX10_factor_51 ?_
      refine lv_iload_n hx hb dX10_factor_54 rfl (lv_at hl 1 rfl) ?_
      refine lv_iconst (v := 3) hx hb dX10_factor_55 (by decide) ?_
      refine lv_iadd hx hb dX10_factor_56 ?_
      refine lv_topi (fun y26 hy26 => ?_)
      obtain rfl : (iI (p1.toInt + 3)) = y26 := (hy26.trans (iI_add2 (iI_of _) (by decide : (3 : Int32) = iI 3))).symm
      refine va_iald (cA := kF 0) (n := nF_tree) (f := fF_tree) hx hb hK hP 11 10 rfl rfl (vp_iI (by omega) (by omega) (by omega)) dX10_factor_57 ?_
      refine lv_topi (fun v27 hv27 => ?_)
      have b_v27 : v27.toInt = twL fF_tree (p1.toInt + 3) := by rw [hv27]; exact tw_i (by omega) (by omega)
      clear hv27
      refine lv_i2l hx hb dX10_factor_58 rfl ?_
      refine lv_topl (fun v28 hv28 => ?_)
      clear hv28
      refine lv_lconst (v := 1) hx hb dX10_factor_59 (by decide) ?_
      have p9 := cj_4_0_3 (WL hL aL kL hT hM (.ref dF_tree) iL_names gL_key fL_kind fL_one fL_two fL_base iL_params fL_paramOver dL_paramOver nL_params fL_paramUnder dL_paramUnder nL_pu gL_over gL_under fL_bound iL_nameAt iL_startAt iL_steps_25 jL_scaleOver jL_scaleUnder) (WF hF aF kF dF_tree nF_tree fF_tree) (WT hT aT kT fT_tape dT_tape nT_tape iT_length iT_fault_25 iT_place_25 iT_kind iT_at iT_number jT_name iT_next) (WM hM aM kM iM_stands iM_variables iM_rows iM_goals iM_differents iM_cases fM_from fM_to fM_whole fM_ways iM_plainRows fM_plainRow fM_kept fM_goalOver fM_goalUnder fM_goalMax fM_different)
      have hPc := hP.mem (fun q h => p9.mem_iff.mpr (List.mem_append_left _ h))
      have hDc := (hD.perm p9).left
      have hKc : va_K (dC, dI) vwCl (tL kL ++ (tM kM)) _ := hK.sub [0, 1, 2, 3, 4, 5, 6, 7, 8, 9, 12, 13, 14, 15, 16, 17, 18, 19, 20, 21] rfl
      have hFc := freeG p9 hD hS hA
      refine va_callv (va_runV (As := [.int p2, .long v28, .long 1]) (rest := []) ⟨hx, hb, hml, hown, hts⟩ (m_X10_setNumber l dC dI hL aL kL hT hM (.ref dF_tree) iL_names gL_key fL_kind fL_one fL_two fL_base iL_params fL_paramOver dL_paramOver nL_params fL_paramUnder dL_paramUnder nL_pu gL_over gL_under fL_bound iL_nameAt iL_startAt iL_steps_25 jL_scaleOver jL_scaleUnder aM kM iM_stands iM_variables iM_rows iM_goals iM_differents iM_cases fM_from fM_to fM_whole fM_ways iM_plainRows fM_plainRow fM_kept fM_goalOver fM_goalUnder fM_goalMax fM_different p2 v28 1 (b_iL_names) b_fL_kind b_fL_two b_fL_base (b_iL_params) (by first | exact b_nL_params | with_reducible assumption | exact ⟨by omega, by omega⟩ | assumption) (by first | with_reducible assumption | omega | (rw [iI_t (by omega) (by omega)]; omega) | assumption) (by first | with_reducible assumption | omega | (rw [iI_t (by omega) (by omega)]; omega) | assumption) (by first | with_reducible assumption | omega | (rw [iI_t (by omega) (by omega)]; omega) | assumption) (b_iM_stands) (b_iM_variables) (b_iM_rows) (b_iM_goals) (b_iM_differents) (b_iM_cases) b_fM_ways (b_iM_plainRows) b_fM_plainRow (by first | with_reducible assumption | omega | assumption) (b_p2) H.size) (cwV 3 hts gwsMX10_factor_1 rfl rfl rfl (by decide +kernel) ⟨by first | decide +kernel | (dsimp only [headSpec] <;> omega), by first | decide +kernel | (dsimp only [headSpec] <;> omega)⟩) (fz_pre (va_recv hK hP (ci := 10) (q0 := 0) rfl rfl) hPc hKc hDc) rfl rfl hl.1 rfl (lv_room (Nat.le_of_ble_eq_true rfl)) dX10_factor_60 ⟨by first | decide +kernel | (dsimp only [headSpec] <;> omega), by first | decide +kernel | (dsimp only [headSpec] <;> omega)⟩) hS (fun q _ h => hFc q h) hFc (fun u t9_ H locs ht hvm hw9 hB9 hz1 hk1 hS => ?_)
      revert u hw9 hB9
      refine fz_p2 ?_
      intro gL_over_29 gL_under_29 hw9 hB9
      try dsimp only at hw9 hB9
      clear hw9
      have p8 := cj_4_0_3 (WL hL aL kL hT hM (.ref dF_tree) iL_names gL_key fL_kind fL_one fL_two fL_base iL_params fL_paramOver dL_paramOver nL_params fL_paramUnder dL_paramUnder nL_pu gL_over_29 gL_under_29 fL_bound iL_nameAt iL_startAt iL_steps_25 jL_scaleOver jL_scaleUnder) (WF hF aF kF dF_tree nF_tree fF_tree) (WT hT aT kT fT_tape dT_tape nT_tape iT_length iT_fault_25 iT_place_25 iT_kind iT_at iT_number jT_name iT_next) (WM hM aM kM iM_stands iM_variables iM_rows iM_goals iM_differents iM_cases fM_from fM_to fM_whole fM_ways iM_plainRows fM_plainRow fM_kept fM_goalOver fM_goalUnder fM_goalMax fM_different)
      obtain ⟨hP, hD⟩ := frameG p9 p8 hP hD hk1 hFc (fz_P ht hB9.1) hB9.2
      refine lv_goto (tgt := 153) hx hb dX10_factor_63 (by decide) ?_
      have hl : lv_has _ _ ([(0, .ref (hL 0)), (1, .int p1), (2, .int p2)]) := lv_sub hl [0, 1, 2] rfl
      exact join2 _ _ _ _ ⟨gL_over_29, gL_under_29, fL_bound, iL_steps_25, iT_fault_25, iT_place_25, rfl, hP, hD, hS, hl⟩
    · have ts_8_3 : ¬ v2.toInt = 3 := toI_neq s_8_3 rfl (by decide)
      by_cases s_8_4 : v2 = 4
      · have ts_8_4 : v2.toInt = 4 := toI_eq s_8_4 rfl (by decide)
        refine lv_tableIn (off := 58) (tgt := 66) hx hb dX10_factor_8 (by rw [s_8_4]; decide) (by rw [s_8_4]; decide) (by rw [s_8_4]; decide) (by decide) ?_
        have hc4 := TrL.c3b hV hn (by omega)
        refine lv_aload_n hx hb dX10_factor_66 rfl (lv_at hl 0 rfl) ?_
        refine W.known (fun hz0 _ => ?_)
        have p9 := cj_4_0_2 (WL hL aL kL hT hM (.ref dF_tree) iL_names gL_key fL_kind fL_one fL_two fL_base iL_params fL_paramOver dL_paramOver nL_params fL_paramUnder dL_paramUnder nL_pu gL_over gL_under fL_bound iL_nameAt iL_startAt iL_steps jL_scaleOver jL_scaleUnder) (WF hF aF kF dF_tree nF_tree fF_tree) (WT hT aT kT fT_tape dT_tape nT_tape iT_length iT_fault iT_place iT_kind iT_at iT_number jT_name iT_next) (WM hM aM kM iM_stands iM_variables iM_rows iM_goals iM_differents iM_cases fM_from fM_to fM_whole fM_ways iM_plainRows fM_plainRow fM_kept fM_goalOver fM_goalUnder fM_goalMax fM_different)
        have hPc := hP.mem (fun q h => p9.mem_iff.mpr (List.mem_append_left _ h))
        have hDc := (hD.perm p9).left
        have hKc : va_K (dC, dI) vwCl (tL kL ++ (tT kT)) _ := hK.sub [0, 1, 2, 3, 4, 5, 6, 7, 8, 9, 11] rfl
        have hFc := freeG p9 hD hS hA
        refine vx_callv (vx_runV (As := []) (rest := []) ⟨hx, hb, hml, hown, hts⟩ (m_X10_step l hst dC dI hL aL kL hT hM (.ref dF_tree) iL_names gL_key fL_kind fL_one fL_two fL_base iL_params fL_paramOver dL_paramOver nL_params fL_paramUnder dL_paramUnder nL_pu gL_over gL_under fL_bound iL_nameAt iL_startAt iL_steps jL_scaleOver jL_scaleUnder aT kT fT_tape dT_tape nT_tape iT_length iT_fault iT_place iT_kind iT_at iT_number jT_name iT_next (b_iL_names) b_fL_kind b_fL_two b_fL_base (b_iL_params) (by first | exact b_nL_params | with_reducible assumption | exact ⟨by omega, by omega⟩ | assumption) (by first | with_reducible assumption | omega | (rw [iI_t (by omega) (by omega)]; omega) | assumption) (by first | with_reducible assumption | omega | (rw [iI_t (by omega) (by omega)]; omega) | assumption) (by first | with_reducible assumption | omega | (rw [iI_t (by omega) (by omega)]; omega) | assumption) b_fT_tape (by first | exact b_nT_tape | with_reducible assumption | exact ⟨by omega, by omega⟩ | assumption) (b_iT_length) (b_iT_at) (b_iT_number) (b_iT_next) (by first | with_reducible assumption | omega | assumption) s.heap.size) (cwV 0 hts gwsMX10_factor_0 rfl rfl rfl (by decide +kernel) ⟨by first | decide +kernel | (dsimp only [headSpec] <;> omega), by first | decide +kernel | (dsimp only [headSpec] <;> omega)⟩) (fz_preE (va_recv hK hP (ci := 10) (q0 := 0) rfl rfl) hPc hKc hDc (fun a U g mk qE => qE.call) (fun U hU9 hW => by rw [hU9]; exact (((hE : CE A s s.heap).kept hS.2.1).narrow (fun q h => hFc q h)).warm hW)) rfl rfl hl.1 rfl (lv_room (Nat.le_of_ble_eq_true rfl)) dX10_factor_67 ⟨by first | decide +kernel | (dsimp only [headSpec] <;> omega), by first | decide +kernel | (dsimp only [headSpec] <;> omega)⟩) hS (fun q _ h => hFc q h) hFc (fun q _ h => hFc q h) (fun E ce q9 u t9_ H locs ht hvm hw9 hB9 hz1 hk1 hS hc1 hc2 hc3 => ?_) (fun u t9_ H locs ht hvm hw9 hB9 hz1 hk1 hS => ?_)
        · revert u hw9 hB9
          refine fz_p3 ?_
          intro iL_steps_30 iT_fault_30 iT_place_30 hw9 hB9
          try dsimp only at hw9 hB9
          revert hB9
          refine fz_a2 ?_
          intro hEx hB9
          clear hw9
          have p8 := cj_4_0_2 (WL hL aL kL hT hM (.ref dF_tree) iL_names gL_key fL_kind fL_one fL_two fL_base iL_params fL_paramOver dL_paramOver nL_params fL_paramUnder dL_paramUnder nL_pu gL_over gL_under fL_bound iL_nameAt iL_startAt iL_steps_30 jL_scaleOver jL_scaleUnder) (WF hF aF kF dF_tree nF_tree fF_tree) (WT hT aT kT fT_tape dT_tape nT_tape iT_length iT_fault_30 iT_place_30 iT_kind iT_at iT_number jT_name iT_next) (WM hM aM kM iM_stands iM_variables iM_rows iM_goals iM_differents iM_cases fM_from fM_to fM_whole fM_ways iM_plainRows fM_plainRow fM_kept fM_goalOver fM_goalUnder fM_goalMax fM_different)
          obtain ⟨hP, hD⟩ := frameG p9 p8 hP hD hk1 hFc (fz_P ht hB9.1) hB9.2
          exact vx_out (fun x hx9 => (htab x hx9).elim) hlocks hc1 hc2 hc3 (fun t9_ ht hvm => ⟨(gL_over, gL_under, fL_bound, iL_steps_30, iT_fault_30, iT_place_30), trivial, ⟨(by have h9 := hEx; exact h9), by rw [ht]; exact hP, hD⟩, hS.F ht⟩) hS.2.2 (by decide +kernel) (by decide +kernel)
        revert u hw9 hB9
        refine fz_p3 ?_
        intro iL_steps_30 iT_fault_30 iT_place_30 hw9 hB9
        try dsimp only at hw9 hB9
        clear hw9
        have hz8 := hB9.2.2
        rw [ht] at hz8
        have hz9 : H.size ≤ s.heap.size + 0 := by rw [hz8]; exact hz0
        refine W.tight (cells2 := 0) (slots2 := 0) hz9 (nS_0 hz9) ?_
        clear hz8 hz9
        have p8 := cj_4_0_2 (WL hL aL kL hT hM (.ref dF_tree) iL_names gL_key fL_kind fL_one fL_two fL_base iL_params fL_paramOver dL_paramOver nL_params fL_paramUnder dL_paramUnder nL_pu gL_over gL_under fL_bound iL_nameAt iL_startAt iL_steps_30 jL_scaleOver jL_scaleUnder) (WF hF aF kF dF_tree nF_tree fF_tree) (WT hT aT kT fT_tape dT_tape nT_tape iT_length iT_fault_30 iT_place_30 iT_kind iT_at iT_number jT_name iT_next) (WM hM aM kM iM_stands iM_variables iM_rows iM_goals iM_differents iM_cases fM_from fM_to fM_whole fM_ways iM_plainRows fM_plainRow fM_kept fM_goalOver fM_goalUnder fM_goalMax fM_different)
        obtain ⟨hP, hD⟩ := frameG p9 p8 hP hD hk1 hFc (fz_P ht hB9.1) hB9.2.1
        refine lv_aload_n hx hb dX10_factor_70 rfl (lv_at hl 0 rfl) ?_
        refine lv_iload_n hx hb dX10_factor_71 rfl (lv_at hl 2 rfl) ?_
        refine lv_aload_n hx hb dX10_factor_72 rfl (lv_at hl 0 rfl) ?_
        refine va_get (D := (dC, dI)) (ci := 10) (v := .ref (aL 9)) (C := RX10) (T := TX10) (N := 20) hx hb hts iwsMX10_factor_in10 hown hK hP 0 rfl rfl 14 (by decide) (hts (.fieldLink RX10 44 "OptimaWorks$Worker" "bound" "[I") (by decide +kernel)) (fun _ h9 => h9) rfl dX10_factor_73 ?_
        refine lv_aload_n hx hb dX10_factor_76 rfl (lv_at hl 0 rfl) ?_
        refine va_get (D := (dC, dI)) (ci := 10) (v := .ref dF_tree) (C := RX10) (T := TX10) (N := 20) hx hb hts iwsMX10_factor_in10 hown hK hP 0 rfl rfl 2 (by decide) (hts _ hm_m_X10_factor_0) (fun _ h9 => h9) rfl dX10_factor_77 ?_
        refine lv_iload_n hx hb dX10_factor_80 rfl (lv_at hl 1 rfl) ?_
        refine lv_iconst (v := 3) hx hb dX10_factor_81 (by decide) ?_
        refine lv_iadd hx hb dX10_factor_82 ?_
        refine lv_topi (fun y31 hy31 => ?_)
        obtain rfl : (iI (p1.toInt + 3)) = y31 := (hy31.trans (iI_add2 (iI_of _) (by decide : (3 : Int32) = iI 3))).symm
        refine va_iald (cA := kF 0) (n := nF_tree) (f := fF_tree) hx hb hK hP 11 10 rfl rfl (vp_iI (by omega) (by omega) (by omega)) dX10_factor_83 ?_
        refine lv_topi (fun v32 hv32 => ?_)
        have b_v32 : v32.toInt = twL fF_tree (p1.toInt + 3) := by rw [hv32]; exact tw_i (by omega) (by omega)
        clear hv32
        refine va_iald (cA := kL 9) (n := 64) (f := fL_bound) hx hb hK hP 10 9 rfl rfl (vp_in_iff.mpr ⟨(by omega), (by omega)⟩) dX10_factor_84 ?_
        refine lv_topi (fun v33 hv33 => ?_)
        clear hv33
        refine lv_i2l hx hb dX10_factor_85 rfl ?_
        refine lv_topl (fun v34 hv34 => ?_)
        clear hv34
        refine lv_lconst (v := 1) hx hb dX10_factor_86 (by decide) ?_
        have p9 := cj_4_0_3 (WL hL aL kL hT hM (.ref dF_tree) iL_names gL_key fL_kind fL_one fL_two fL_base iL_params fL_paramOver dL_paramOver nL_params fL_paramUnder dL_paramUnder nL_pu gL_over gL_under fL_bound iL_nameAt iL_startAt iL_steps_30 jL_scaleOver jL_scaleUnder) (WF hF aF kF dF_tree nF_tree fF_tree) (WT hT aT kT fT_tape dT_tape nT_tape iT_length iT_fault_30 iT_place_30 iT_kind iT_at iT_number jT_name iT_next) (WM hM aM kM iM_stands iM_variables iM_rows iM_goals iM_differents iM_cases fM_from fM_to fM_whole fM_ways iM_plainRows fM_plainRow fM_kept fM_goalOver fM_goalUnder fM_goalMax fM_different)
        have hPc := hP.mem (fun q h => p9.mem_iff.mpr (List.mem_append_left _ h))
        have hDc := (hD.perm p9).left
        have hKc : va_K (dC, dI) vwCl (tL kL ++ (tM kM)) _ := hK.sub [0, 1, 2, 3, 4, 5, 6, 7, 8, 9, 12, 13, 14, 15, 16, 17, 18, 19, 20, 21] rfl
        have hFc := freeG p9 hD hS hA
        refine va_callv (va_runV (As := [.int p2, .long v34, .long 1]) (rest := []) ⟨hx, hb, hml, hown, hts⟩ (m_X10_setNumber l dC dI hL aL kL hT hM (.ref dF_tree) iL_names gL_key fL_kind fL_one fL_two fL_base iL_params fL_paramOver dL_paramOver nL_params fL_paramUnder dL_paramUnder nL_pu gL_over gL_under fL_bound iL_nameAt iL_startAt iL_steps_30 jL_scaleOver jL_scaleUnder aM kM iM_stands iM_variables iM_rows iM_goals iM_differents iM_cases fM_from fM_to fM_whole fM_ways iM_plainRows fM_plainRow fM_kept fM_goalOver fM_goalUnder fM_goalMax fM_different p2 v34 1 (b_iL_names) b_fL_kind b_fL_two b_fL_base (b_iL_params) (by first | exact b_nL_params | with_reducible assumption | exact ⟨by omega, by omega⟩ | assumption) (by first | with_reducible assumption | omega | (rw [iI_t (by omega) (by omega)]; omega) | assumption) (by first | with_reducible assumption | omega | (rw [iI_t (by omega) (by omega)]; omega) | assumption) (by first | with_reducible assumption | omega | (rw [iI_t (by omega) (by omega)]; omega) | assumption) (b_iM_stands) (b_iM_variables) (b_iM_rows) (b_iM_goals) (b_iM_differents) (b_iM_cases) b_fM_ways (b_iM_plainRows) b_fM_plainRow (by first | with_reducible assumption | omega | assumption) (b_p2) H.size) (cwV 3 hts gwsMX10_factor_1 rfl rfl rfl (by decide +kernel) ⟨by first | decide +kernel | (dsimp only [headSpec] <;> omega), by first | decide +kernel | (dsimp only [headSpec] <;> omega)⟩) (fz_pre (va_recv hK hP (ci := 10) (q0 := 0) rfl rfl) hPc hKc hDc) rfl rfl hl.1 rfl (lv_room (Nat.le_of_ble_eq_true rfl)) dX10_factor_87 ⟨by first | decide +kernel | (dsimp only [headSpec] <;> omega), by first | decide +kernel | (dsimp only [headSpec] <;> omega)⟩) hS (fun q _ h => hFc q h) hFc (fun u t9_ H locs ht hvm hw9 hB9 hz1 hk1 hS => ?_)
        revert u hw9 hB9
        refine fz_p2 ?_
        intro gL_over_35 gL_under_35 hw9 hB9
        try dsimp only at hw9 hB9
        clear hw9
        have p8 := cj_4_0_3 (WL hL aL kL hT hM (.ref dF_tree) iL_names gL_key fL_kind fL_one fL_two fL_base iL_params fL_paramOver dL_paramOver nL_params fL_paramUnder dL_paramUnder nL_pu gL_over_35 gL_under_35 fL_bound iL_nameAt iL_startAt iL_steps_30 jL_scaleOver jL_scaleUnder) (WF hF aF kF dF_tree nF_tree fF_tree) (WT hT aT kT fT_tape dT_tape nT_tape iT_length iT_fault_30 iT_place_30 iT_kind iT_at iT_number jT_name iT_next) (WM hM aM kM iM_stands iM_variables iM_rows iM_goals iM_differents iM_cases fM_from fM_to fM_whole fM_ways iM_plainRows fM_plainRow fM_kept fM_goalOver fM_goalUnder fM_goalMax fM_different)
        obtain ⟨hP, hD⟩ := frameG p9 p8 hP hD hk1 hFc (fz_P ht hB9.1) hB9.2
        refine lv_goto (tgt := 153) hx hb dX10_factor_90 (by decide) ?_
        have hl : lv_has _ _ ([(0, .ref (hL 0)), (1, .int p1), (2, .int p2)]) := lv_sub hl [0, 1, 2] rfl
        exact join2 _ _ _ _ ⟨gL_over_35, gL_under_35, fL_bound, iL_steps_30, iT_fault_30, iT_place_30, rfl, hP, hD, hS, hl⟩
      · have ts_8_4 : ¬ v2.toInt = 4 := toI_neq s_8_4 rfl (by decide)
        by_cases s_8_5 : v2 = 5
        · have ts_8_5 : v2.toInt = 5 := toI_eq s_8_5 rfl (by decide)
          refine lv_tableIn (off := 85) (tgt := 93) hx hb dX10_factor_8 (by rw [s_8_5]; decide) (by rw [s_8_5]; decide) (by rw [s_8_5]; decide) (by decide) ?_
          refine lv_aload_n hx hb dX10_factor_93 rfl (lv_at hl 0 rfl) ?_
          refine W.known (fun hz0 _ => ?_)
          have p9 := cj_4_0_2 (WL hL aL kL hT hM (.ref dF_tree) iL_names gL_key fL_kind fL_one fL_two fL_base iL_params fL_paramOver dL_paramOver nL_params fL_paramUnder dL_paramUnder nL_pu gL_over gL_under fL_bound iL_nameAt iL_startAt iL_steps jL_scaleOver jL_scaleUnder) (WF hF aF kF dF_tree nF_tree fF_tree) (WT hT aT kT fT_tape dT_tape nT_tape iT_length iT_fault iT_place iT_kind iT_at iT_number jT_name iT_next) (WM hM aM kM iM_stands iM_variables iM_rows iM_goals iM_differents iM_cases fM_from fM_to fM_whole fM_ways iM_plainRows fM_plainRow fM_kept fM_goalOver fM_goalUnder fM_goalMax fM_different)
          have hPc := hP.mem (fun q h => p9.mem_iff.mpr (List.mem_append_left _ h))
          have hDc := (hD.perm p9).left
          have hKc : va_K (dC, dI) vwCl (tL kL ++ (tT kT)) _ := hK.sub [0, 1, 2, 3, 4, 5, 6, 7, 8, 9, 11] rfl
          have hFc := freeG p9 hD hS hA
          refine vx_callv (vx_runV (As := []) (rest := []) ⟨hx, hb, hml, hown, hts⟩ (m_X10_step l hst dC dI hL aL kL hT hM (.ref dF_tree) iL_names gL_key fL_kind fL_one fL_two fL_base iL_params fL_paramOver dL_paramOver nL_params fL_paramUnder dL_paramUnder nL_pu gL_over gL_under fL_bound iL_nameAt iL_startAt iL_steps jL_scaleOver jL_scaleUnder aT kT fT_tape dT_tape nT_tape iT_length iT_fault iT_place iT_kind iT_at iT_number jT_name iT_next (b_iL_names) b_fL_kind b_fL_two b_fL_base (b_iL_params) (by first | exact b_nL_params | with_reducible assumption | exact ⟨by omega, by omega⟩ | assumption) (by first | with_reducible assumption | omega | (rw [iI_t (by omega) (by omega)]; omega) | assumption) (by first | with_reducible assumption | omega | (rw [iI_t (by omega) (by omega)]; omega) | assumption) (by first | with_reducible assumption | omega | (rw [iI_t (by omega) (by omega)]; omega) | assumption) b_fT_tape (by first | exact b_nT_tape | with_reducible assumption | exact ⟨by omega, by omega⟩ | assumption) (b_iT_length) (b_iT_at) (b_iT_number) (b_iT_next) (by first | with_reducible assumption | omega | assumption) s.heap.size) (cwV 0 hts gwsMX10_factor_0 rfl rfl rfl (by decide +kernel) ⟨by first | decide +kernel | (dsimp only [headSpec] <;> omega), by first | decide +kernel | (dsimp only [headSpec] <;> omega)⟩) (fz_preE (va_recv hK hP (ci := 10) (q0 := 0) rfl rfl) hPc hKc hDc (fun a U g mk qE => qE.call) (fun U hU9 hW => by rw [hU9]; exact (((hE : CE A s s.heap).kept hS.2.1).narrow (fun q h => hFc q h)).warm hW)) rfl rfl hl.1 rfl (lv_room (Nat.le_of_ble_eq_true rfl)) dX10_factor_94 ⟨by first | decide +kernel | (dsimp only [headSpec] <;> omega), by first | decide +kernel | (dsimp only [headSpec] <;> omega)⟩) hS (fun q _ h => hFc q h) hFc (fun q _ h => hFc q h) (fun E ce q9 u t9_ H locs ht hvm hw9 hB9 hz1 hk1 hS hc1 hc2 hc3 => ?_) (fun u t9_ H locs ht hvm hw9 hB9 hz1 hk1 hS => ?_)
          · revert u hw9 hB9
            refine fz_p3 ?_
            intro iL_steps_36 iT_fault_36 iT_place_36 hw9 hB9
            try dsimp only at hw9 hB9
            revert hB9
            refine fz_a2 ?_
            intro hEx hB9
            clear hw9
            have p8 := cj_4_0_2 (WL hL aL kL hT hM (.ref dF_tree) iL_names gL_key fL_kind fL_one fL_two fL_base iL_params fL_paramOver dL_paramOver nL_params fL_paramUnder dL_paramUnder nL_pu gL_over gL_under fL_bound iL_nameAt iL_startAt iL_steps_36 jL_scaleOver jL_scaleUnder) (WF hF aF kF dF_tree nF_tree fF_tree) (WT hT aT kT fT_tape dT_tape nT_tape iT_length iT_fault_36 iT_place_36 iT_kind iT_at iT_number jT_name iT_next) (WM hM aM kM iM_stands iM_variables iM_rows iM_goals iM_differents iM_cases fM_from fM_to fM_whole fM_ways iM_plainRows fM_plainRow fM_kept fM_goalOver fM_goalUnder fM_goalMax fM_different)
            obtain ⟨hP, hD⟩ := frameG p9 p8 hP hD hk1 hFc (fz_P ht hB9.1) hB9.2
            exact vx_out (fun x hx9 => (htab x hx9).elim) hlocks hc1 hc2 hc3 (fun t9_ ht hvm => ⟨(gL_over, gL_under, fL_bound, iL_steps_36, iT_fault_36, iT_place_36), trivial, ⟨(by have h9 := hEx; exact h9), by rw [ht]; exact hP, hD⟩, hS.F ht⟩) hS.2.2 (by decide +kernel) (by decide +kernel)
          revert u hw9 hB9
          refine fz_p3 ?_
          intro iL_steps_36 iT_fault_36 iT_place_36 hw9 hB9
          try dsimp only at hw9 hB9
          clear hw9
          have hz8 := hB9.2.2
          rw [ht] at hz8
          have hz9 : H.size ≤ s.heap.size + 0 := by rw [hz8]; exact hz0
          refine W.tight (cells2 := 0) (slots2 := 0) hz9 (nS_0 hz9) ?_
          clear hz8 hz9
          have p8 := cj_4_0_2 (WL hL aL kL hT hM (.ref dF_tree) iL_names gL_key fL_kind fL_one fL_two fL_base iL_params fL_paramOver dL_paramOver nL_params fL_paramUnder dL_paramUnder nL_pu gL_over gL_under fL_bound iL_nameAt iL_startAt iL_steps_36 jL_scaleOver jL_scaleUnder) (WF hF aF kF dF_tree nF_tree fF_tree) (WT hT aT kT fT_tape dT_tape nT_tape iT_length iT_fault_36 iT_place_36 iT_kind iT_at iT_number jT_name iT_next) (WM hM aM kM iM_stands iM_variables iM_rows iM_goals iM_differents iM_cases fM_from fM_to fM_whole fM_ways iM_plainRows fM_plainRow fM_kept fM_goalOver fM_goalUnder fM_goalMax fM_different)
          obtain ⟨hP, hD⟩ := frameG p9 p8 hP hD hk1 hFc (fz_P ht hB9.1) hB9.2.1
          refine lv_aload_n hx hb dX10_factor_97 rfl (lv_at hl 0 rfl) ?_
          refine lv_iload_n hx hb dX10_factor_98 rfl (lv_at hl 1 rfl) ?_
          refine lv_iload_n hx hb dX10_factor_99 rfl (lv_at hl 2 rfl) ?_
          refine W.known (fun hz0 _ => ?_)
          have hFc := allFree hD hS hA
          refine vx_callv (vx_runV (As := [.int p1, .int p2]) (rest := []) ⟨hx, hb, hml, hown, hts⟩ (ih_X10_lookUp dC dI hL aL kL hT hM iL_names gL_key fL_kind fL_one fL_two fL_base iL_params fL_paramOver dL_paramOver nL_params fL_paramUnder dL_paramUnder nL_pu gL_over gL_under fL_bound iL_nameAt iL_startAt iL_steps_36 jL_scaleOver jL_scaleUnder hF aF kF dF_tree nF_tree fF_tree aT kT fT_tape dT_tape nT_tape iT_length iT_fault_36 iT_place_36 iT_kind iT_at iT_number jT_name iT_next aM kM iM_stands iM_variables iM_rows iM_goals iM_differents iM_cases fM_from fM_to fM_whole fM_ways iM_plainRows fM_plainRow fM_kept fM_goalOver fM_goalUnder fM_goalMax fM_different V lo lv p1 p2 (b_iL_names) b_fL_kind b_fL_two b_fL_base (b_iL_params) (by first | exact b_nL_params | with_reducible assumption | exact ⟨by omega, by omega⟩ | assumption) (by first | with_reducible assumption | omega | (rw [iI_t (by omega) (by omega)]; omega) | assumption) (by first | with_reducible assumption | omega | (rw [iI_t (by omega) (by omega)]; omega) | assumption) (by first | with_reducible assumption | omega | (rw [iI_t (by omega) (by omega)]; omega) | assumption) (by first | exact b_nF_tree | with_reducible assumption | exact ⟨by omega, by omega⟩ | assumption) b_fT_tape (by first | exact b_nT_tape | with_reducible assumption | exact ⟨by omega, by omega⟩ | assumption) (b_iT_length) (b_iT_at) (b_iT_number) (b_iT_next) (by first | with_reducible assumption | omega | assumption) (b_iM_stands) (b_iM_variables) (b_iM_rows) (b_iM_goals) (b_iM_differents) (b_iM_cases) b_fM_ways (b_iM_plainRows) b_fM_plainRow (by first | with_reducible assumption | omega | assumption) (b_p2) (by first | with_reducible assumption | omega | (rw [iI_t (by omega) (by omega)]; omega) | decide | assumption) (by first | with_reducible assumption | omega | (rw [iI_t (by omega) (by omega)]; omega) | decide | assumption) (by first | with_reducible assumption | omega | (rw [iI_t (by omega) (by omega)]; omega) | decide | assumption) (by first | with_reducible assumption | omega | (rw [iI_t (by omega) (by omega)]; omega) | decide | assumption) (by first | with_reducible assumption | omega | (rw [iI_t (by omega) (by omega)]; omega) | decide | assumption) H.size) (cwV 2 hts gwsMX10_factor_2 rfl rfl rfl (by decide +kernel) ⟨by first | decide +kernel | (dsimp only [headSpec] <;> omega), by first | decide +kernel | (dsimp only [headSpec] <;> omega)⟩) (fz_preE (va_recv hK hP (ci := 10) (q0 := 0) rfl rfl) hP hK hD (fun a U g mk qE => qE.call) (fun U hU9 hW => by rw [hU9]; exact (((hE : CE A s s.heap).kept hS.2.1).narrow (fun q h => hFc q h)).warm hW)) rfl rfl hl.1 rfl (lv_room (Nat.le_of_ble_eq_true rfl)) dX10_factor_100 ⟨by first | decide +kernel | (dsimp only [headSpec] <;> omega), by first | decide +kernel | (dsimp only [headSpec] <;> omega)⟩) hS (fun q _ h => hFc q h) hFc (fun q _ h => hFc q h) (fun E ce q9 u t9_ H locs ht hvm hw9 hB9 hz1 hk1 hS hc1 hc2 hc3 => ?_) (fun u t9_ H locs ht hvm hw9 hB9 hz1 hk1 hS => ?_)
          · revert u hw9 hB9
            refine fz_p6 ?_
            intro gL_over_37 gL_under_37 fL_bound_37 iL_steps_37 iT_fault_37 iT_place_37 hw9 hB9
            try dsimp only at hw9 hB9
            revert hB9
            refine fz_a2 ?_
            intro hEx hB9
            clear hw9
            have hP : va_P (dC, dI) vwCl (WL hL aL kL hT hM (.ref dF_tree) iL_names gL_key fL_kind fL_one fL_two fL_base iL_params fL_paramOver dL_paramOver nL_params fL_paramUnder dL_paramUnder nL_pu gL_over_37 gL_under_37 fL_bound_37 iL_nameAt iL_startAt iL_steps_37 jL_scaleOver jL_scaleUnder ++ (WF hF aF kF dF_tree nF_tree fF_tree ++ (WT hT aT kT fT_tape dT_tape nT_tape iT_length iT_fault_37 iT_place_37 iT_kind iT_at iT_number jT_name iT_next ++ (WM hM aM kM iM_stands iM_variables iM_rows iM_goals iM_differents iM_cases fM_from fM_to fM_whole fM_ways iM_plainRows fM_plainRow fM_kept fM_goalOver fM_goalUnder fM_goalMax fM_different)))) H := fz_P ht hB9.1
            have hD := fz_sd hP (hB9.2.weaken (fun _ q _ h => hFc q.1 h)) rfl
            exact vx_out (fun x hx9 => (htab x hx9).elim) hlocks hc1 hc2 hc3 (fun t9_ ht hvm => ⟨(gL_over_37, gL_under_37, fL_bound_37, iL_steps_37, iT_fault_37, iT_place_37), trivial, ⟨(by have h9 := hEx; exact h9), by rw [ht]; exact hP, hD⟩, hS.F ht⟩) hS.2.2 (by decide +kernel) (by decide +kernel)
          revert u hw9 hB9
          refine fz_p6 ?_
          intro gL_over_37 gL_under_37 fL_bound_37 iL_steps_37 iT_fault_37 iT_place_37 hw9 hB9
          try dsimp only at hw9 hB9
          clear hw9
          have hz8 := hB9.2.2
          rw [ht] at hz8
          have hz9 : H.size ≤ s.heap.size + 0 := by rw [hz8]; exact hz0
          refine W.tight (cells2 := 0) (slots2 := 0) hz9 (nS_0 hz9) ?_
          clear hz8 hz9
          have hP : va_P (dC, dI) vwCl (WL hL aL kL hT hM (.ref dF_tree) iL_names gL_key fL_kind fL_one fL_two fL_base iL_params fL_paramOver dL_paramOver nL_params fL_paramUnder dL_paramUnder nL_pu gL_over_37 gL_under_37 fL_bound_37 iL_nameAt iL_startAt iL_steps_37 jL_scaleOver jL_scaleUnder ++ (WF hF aF kF dF_tree nF_tree fF_tree ++ (WT hT aT kT fT_tape dT_tape nT_tape iT_length iT_fault_37 iT_place_37 iT_kind iT_at iT_number jT_name iT_next ++ (WM hM aM kM iM_stands iM_variables iM_rows iM_goals iM_differents iM_cases fM_from fM_to fM_whole fM_ways iM_plainRows fM_plainRow fM_kept fM_goalOver fM_goalUnder fM_goalMax fM_different)))) H := fz_P ht hB9.1
          have hD := fz_sd hP (hB9.2.1.weaken (fun _ q _ h => hFc q.1 h)) rfl
          refine lv_goto (tgt := 153) hx hb dX10_factor_103 (by decide) ?_
          have hl : lv_has _ _ ([(0, .ref (hL 0)), (1, .int p1), (2, .int p2)]) := lv_sub hl [0, 1, 2] rfl
          exact join2 _ _ _ _ ⟨gL_over_37, gL_under_37, fL_bound_37, iL_steps_37, iT_fault_37, iT_place_37, rfl, hP, hD, hS, hl⟩
        · have ts_8_5 : ¬ v2.toInt = 5 := toI_neq s_8_5 rfl (by decide)
          by_cases s_8_6 : v2 = 6
          · have ts_8_6 : v2.toInt = 6 := toI_eq s_8_6 rfl (by decide)
            refine lv_tableIn (off := 98) (tgt := 106) hx hb dX10_factor_8 (by rw [s_8_6]; decide) (by rw [s_8_6]; decide) (by rw [s_8_6]; decide) (by decide) ?_
            refine lv_aload_n hx hb dX10_factor_106 rfl (lv_at hl 0 rfl) ?_
            refine W.known (fun hz0 _ => ?_)
            have p9 := cj_4_0_2 (WL hL aL kL hT hM (.ref dF_tree) iL_names gL_key fL_kind fL_one fL_two fL_base iL_params fL_paramOver dL_paramOver nL_params fL_paramUnder dL_paramUnder nL_pu gL_over gL_under fL_bound iL_nameAt iL_startAt iL_steps jL_scaleOver jL_scaleUnder) (WF hF aF kF dF_tree nF_tree fF_tree) (WT hT aT kT fT_tape dT_tape nT_tape iT_length iT_fault iT_place iT_kind iT_at iT_number jT_name iT_next) (WM hM aM kM iM_stands iM_variables iM_rows iM_goals iM_differents iM_cases fM_from fM_to fM_whole fM_ways iM_plainRows fM_plainRow fM_kept fM_goalOver fM_goalUnder fM_goalMax fM_different)
            have hPc := hP.mem (fun q h => p9.mem_iff.mpr (List.mem_append_left _ h))
            have hDc := (hD.perm p9).left
            have hKc : va_K (dC, dI) vwCl (tL kL ++ (tT kT)) _ := hK.sub [0, 1, 2, 3, 4, 5, 6, 7, 8, 9, 11] rfl
            have hFc := freeG p9 hD hS hA
            refine vx_callv (vx_runV (As := []) (rest := []) ⟨hx, hb, hml, hown, hts⟩ (m_X10_step l hst dC dI hL aL kL hT hM (.ref dF_tree) iL_names gL_key fL_kind fL_one fL_two fL_base iL_params fL_paramOver dL_paramOver nL_params fL_paramUnder dL_paramUnder nL_pu gL_over gL_under fL_bound iL_nameAt iL_startAt iL_steps jL_scaleOver jL_scaleUnder aT kT fT_tape dT_tape nT_tape iT_length iT_fault iT_place iT_kind iT_at iT_number jT_name iT_next (b_iL_names) b_fL_kind b_fL_two b_fL_base (b_iL_params) (by first | exact b_nL_params | with_reducible assumption | exact ⟨by omega, by omega⟩ | assumption) (by first | with_reducible assumption | omega | (rw [iI_t (by omega) (by omega)]; omega) | assumption) (by first | with_reducible assumption | omega | (rw [iI_t (by omega) (by omega)]; omega) | assumption) (by first | with_reducible assumption | omega | (rw [iI_t (by omega) (by omega)]; omega) | assumption) b_fT_tape (by first | exact b_nT_tape | with_reducible assumption | exact ⟨by omega, by omega⟩ | assumption) (b_iT_length) (b_iT_at) (b_iT_number) (b_iT_next) (by first | with_reducible assumption | omega | assumption) s.heap.size) (cwV 0 hts gwsMX10_factor_0 rfl rfl rfl (by decide +kernel) ⟨by first | decide +kernel | (dsimp only [headSpec] <;> omega), by first | decide +kernel | (dsimp only [headSpec] <;> omega)⟩) (fz_preE (va_recv hK hP (ci := 10) (q0 := 0) rfl rfl) hPc hKc hDc (fun a U g mk qE => qE.call) (fun U hU9 hW => by rw [hU9]; exact (((hE : CE A s s.heap).kept hS.2.1).narrow (fun q h => hFc q h)).warm hW)) rfl rfl hl.1 rfl (lv_room (Nat.le_of_ble_eq_true rfl)) dX10_factor_107 ⟨by first | decide +kernel | (dsimp only [headSpec] <;> omega), by first | decide +kernel | (dsimp only [headSpec] <;> omega)⟩) hS (fun q _ h => hFc q h) hFc (fun q _ h => hFc q h) (fun E ce q9 u t9_ H locs ht hvm hw9 hB9 hz1 hk1 hS hc1 hc2 hc3 => ?_) (fun u t9_ H locs ht hvm hw9 hB9 hz1 hk1 hS => ?_)
            · revert u hw9 hB9
              refine fz_p3 ?_
              intro iL_steps_38 iT_fault_38 iT_place_38 hw9 hB9
              try dsimp only at hw9 hB9
              revert hB9
              refine fz_a2 ?_
              intro hEx hB9
              clear hw9
              have p8 := cj_4_0_2 (WL hL aL kL hT hM (.ref dF_tree) iL_names gL_key fL_kind fL_one fL_two fL_base iL_params fL_paramOver dL_paramOver nL_params fL_paramUnder dL_paramUnder nL_pu gL_over gL_under fL_bound iL_nameAt iL_startAt iL_steps_38 jL_scaleOver jL_scaleUnder) (WF hF aF kF dF_tree nF_tree fF_tree) (WT hT aT kT fT_tape dT_tape nT_tape iT_length iT_fault_38 iT_place_38 iT_kind iT_at iT_number jT_name iT_next) (WM hM aM kM iM_stands iM_variables iM_rows iM_goals iM_differents iM_cases fM_from fM_to fM_whole fM_ways iM_plainRows fM_plainRow fM_kept fM_goalOver fM_goalUnder fM_goalMax fM_different)
              obtain ⟨hP, hD⟩ := frameG p9 p8 hP hD hk1 hFc (fz_P ht hB9.1) hB9.2
              exact vx_out (fun x hx9 => (htab x hx9).elim) hlocks hc1 hc2 hc3 (fun t9_ ht hvm => ⟨(gL_over, gL_under, fL_bound, iL_steps_38, iT_fault_38, iT_place_38), trivial, ⟨(by have h9 := hEx; exact h9), by rw [ht]; exact hP, hD⟩, hS.F ht⟩) hS.2.2 (by decide +kernel) (by decide +kernel)
            revert u hw9 hB9
            refine fz_p3 ?_
            intro iL_steps_38 iT_fault_38 iT_place_38 hw9 hB9
            try dsimp only at hw9 hB9
            clear hw9
            have hz8 := hB9.2.2
            rw [ht] at hz8
            have hz9 : H.size ≤ s.heap.size + 0 := by rw [hz8]; exact hz0
            refine W.tight (cells2 := 0) (slots2 := 0) hz9 (nS_0 hz9) ?_
            clear hz8 hz9
            have p8 := cj_4_0_2 (WL hL aL kL hT hM (.ref dF_tree) iL_names gL_key fL_kind fL_one fL_two fL_base iL_params fL_paramOver dL_paramOver nL_params fL_paramUnder dL_paramUnder nL_pu gL_over gL_under fL_bound iL_nameAt iL_startAt iL_steps_38 jL_scaleOver jL_scaleUnder) (WF hF aF kF dF_tree nF_tree fF_tree) (WT hT aT kT fT_tape dT_tape nT_tape iT_length iT_fault_38 iT_place_38 iT_kind iT_at iT_number jT_name iT_next) (WM hM aM kM iM_stands iM_variables iM_rows iM_goals iM_differents iM_cases fM_from fM_to fM_whole fM_ways iM_plainRows fM_plainRow fM_kept fM_goalOver fM_goalUnder fM_goalMax fM_different)
            obtain ⟨hP, hD⟩ := frameG p9 p8 hP hD hk1 hFc (fz_P ht hB9.1) hB9.2.1
            refine lv_aload_n hx hb dX10_factor_110 rfl (lv_at hl 0 rfl) ?_
            refine lv_aload_n hx hb dX10_factor_111 rfl (lv_at hl 0 rfl) ?_
            refine va_get (D := (dC, dI)) (ci := 10) (v := .ref dF_tree) (C := RX10) (T := TX10) (N := 20) hx hb hts iwsMX10_factor_in10 hown hK hP 0 rfl rfl 2 (by decide) (hts _ hm_m_X10_factor_0) (fun _ h9 => h9) rfl dX10_factor_112 ?_
            refine lv_iload_n hx hb dX10_factor_115 rfl (lv_at hl 1 rfl) ?_
            refine lv_iconst (v := 3) hx hb dX10_factor_116 (by decide) ?_
            refine lv_iadd hx hb dX10_factor_117 ?_
            refine lv_topi (fun y39 hy39 => ?_)
            obtain rfl : (iI (p1.toInt + 3)) = y39 := (hy39.trans (iI_add2 (iI_of _) (by decide : (3 : Int32) = iI 3))).symm
            refine va_iald (cA := kF 0) (n := nF_tree) (f := fF_tree) hx hb hK hP 11 10 rfl rfl (vp_iI (by omega) (by omega) (by omega)) dX10_factor_118 ?_
            refine lv_topi (fun v40 hv40 => ?_)
            have b_v40 : v40.toInt = twL fF_tree (p1.toInt + 3) := by rw [hv40]; exact tw_i (by omega) (by omega)
            have b1_v40 : V v40.toInt 3 (lv + 1) := by rw [hv40]; exact Vld (tw_i (by omega) (by omega)) (TrL.c3t hV hn (by omega))
            clear hv40
            refine lv_iload_n hx hb dX10_factor_119 rfl (lv_at hl 2 rfl) ?_
            refine W.known (fun hz0 _ => ?_)
            have hFc := allFree hD hS hA
            refine vx_callv (vx_runV (As := [.int v40, .int p2]) (rest := []) ⟨hx, hb, hml, hown, hts⟩ (ih_X10_factor dC dI hL aL kL hT hM iL_names gL_key fL_kind fL_one fL_two fL_base iL_params fL_paramOver dL_paramOver nL_params fL_paramUnder dL_paramUnder nL_pu gL_over gL_under fL_bound iL_nameAt iL_startAt iL_steps_38 jL_scaleOver jL_scaleUnder hF aF kF dF_tree nF_tree fF_tree aT kT fT_tape dT_tape nT_tape iT_length iT_fault_38 iT_place_38 iT_kind iT_at iT_number jT_name iT_next aM kM iM_stands iM_variables iM_rows iM_goals iM_differents iM_cases fM_from fM_to fM_whole fM_ways iM_plainRows fM_plainRow fM_kept fM_goalOver fM_goalUnder fM_goalMax fM_different V lo (lv + 1) v40 p2 (b_iL_names) b_fL_kind b_fL_two b_fL_base (b_iL_params) (by first | exact b_nL_params | with_reducible assumption | exact ⟨by omega, by omega⟩ | assumption) (by first | with_reducible assumption | omega | (rw [iI_t (by omega) (by omega)]; omega) | assumption) (by first | with_reducible assumption | omega | (rw [iI_t (by omega) (by omega)]; omega) | assumption) (by first | with_reducible assumption | omega | (rw [iI_t (by omega) (by omega)]; omega) | assumption) (by first | exact b_nF_tree | with_reducible assumption | exact ⟨by omega, by omega⟩ | assumption) b_fT_tape (by first | exact b_nT_tape | with_reducible assumption | exact ⟨by omega, by omega⟩ | assumption) (b_iT_length) (b_iT_at) (b_iT_number) (b_iT_next) (by first | with_reducible assumption | omega | assumption) (b_iM_stands) (b_iM_variables) (b_iM_rows) (b_iM_goals) (b_iM_differents) (b_iM_cases) b_fM_ways (b_iM_plainRows) b_fM_plainRow (by first | with_reducible assumption | omega | assumption) (b_p2) (by first | with_reducible assumption | omega | (rw [iI_t (by omega) (by omega)]; omega) | decide | assumption) (by first | with_reducible assumption | omega | (rw [iI_t (by omega) (by omega)]; omega) | decide | assumption) (by first | with_reducible assumption | omega | (rw [iI_t (by omega) (by omega)]; omega) | decide | assumption) (by first | with_reducible assumption | omega | (rw [iI_t (by omega) (by omega)]; omega) | decide | assumption) H.size) (cwV 2 hts gwsMX10_factor_3 rfl rfl rfl (by decide +kernel) ⟨by first | decide +kernel | (dsimp only [headSpec] <;> omega), by first | decide +kernel | (dsimp only [headSpec] <;> omega)⟩) (fz_preE (va_recv hK hP (ci := 10) (q0 := 0) rfl rfl) hP hK hD (fun a U g mk qE => qE.call) (fun U hU9 hW => by rw [hU9]; exact (((hE : CE A s s.heap).kept hS.2.1).narrow (fun q h => hFc q h)).warm hW)) rfl rfl hl.1 rfl (lv_room (Nat.le_of_ble_eq_true rfl)) dX10_factor_120 ⟨by first | decide +kernel | (dsimp only [headSpec] <;> omega), by first | decide +kernel | (dsimp only [headSpec] <;> omega)⟩) hS (fun q _ h => hFc q h) hFc (fun q _ h => hFc q h) (fun E ce q9 u t9_ H locs ht hvm hw9 hB9 hz1 hk1 hS hc1 hc2 hc3 => ?_) (fun u t9_ H locs ht hvm hw9 hB9 hz1 hk1 hS => ?_)
            · revert u hw9 hB9
              refine fz_p6 ?_
              intro gL_over_41 gL_under_41 fL_bound_41 iL_steps_41 iT_fault_41 iT_place_41 hw9 hB9
              try dsimp only at hw9 hB9
              revert hB9
              refine fz_a2 ?_
              intro hEx hB9
              clear hw9
              have hP : va_P (dC, dI) vwCl (WL hL aL kL hT hM (.ref dF_tree) iL_names gL_key fL_kind fL_one fL_two fL_base iL_params fL_paramOver dL_paramOver nL_params fL_paramUnder dL_paramUnder nL_pu gL_over_41 gL_under_41 fL_bound_41 iL_nameAt iL_startAt iL_steps_41 jL_scaleOver jL_scaleUnder ++ (WF hF aF kF dF_tree nF_tree fF_tree ++ (WT hT aT kT fT_tape dT_tape nT_tape iT_length iT_fault_41 iT_place_41 iT_kind iT_at iT_number jT_name iT_next ++ (WM hM aM kM iM_stands iM_variables iM_rows iM_goals iM_differents iM_cases fM_from fM_to fM_whole fM_ways iM_plainRows fM_plainRow fM_kept fM_goalOver fM_goalUnder fM_goalMax fM_different)))) H := fz_P ht hB9.1
              have hD := fz_sd hP (hB9.2.weaken (fun _ q _ h => hFc q.1 h)) rfl
              exact vx_out (fun x hx9 => (htab x hx9).elim) hlocks hc1 hc2 hc3 (fun t9_ ht hvm => ⟨(gL_over_41, gL_under_41, fL_bound_41, iL_steps_41, iT_fault_41, iT_place_41), trivial, ⟨(by have h9 := hEx; exact h9), by rw [ht]; exact hP, hD⟩, hS.F ht⟩) hS.2.2 (by decide +kernel) (by decide +kernel)
            revert u hw9 hB9
            refine fz_p6 ?_
            intro gL_over_41 gL_under_41 fL_bound_41 iL_steps_41 iT_fault_41 iT_place_41 hw9 hB9
            try dsimp only at hw9 hB9
            clear hw9
            have hz8 := hB9.2.2
            rw [ht] at hz8
            have hz9 : H.size ≤ s.heap.size + 0 := by rw [hz8]; exact hz0
            refine W.tight (cells2 := 0) (slots2 := 0) hz9 (nS_0 hz9) ?_
            clear hz8 hz9
            have hP : va_P (dC, dI) vwCl (WL hL aL kL hT hM (.ref dF_tree) iL_names gL_key fL_kind fL_one fL_two fL_base iL_params fL_paramOver dL_paramOver nL_params fL_paramUnder dL_paramUnder nL_pu gL_over_41 gL_under_41 fL_bound_41 iL_nameAt iL_startAt iL_steps_41 jL_scaleOver jL_scaleUnder ++ (WF hF aF kF dF_tree nF_tree fF_tree ++ (WT hT aT kT fT_tape dT_tape nT_tape iT_length iT_fault_41 iT_place_41 iT_kind iT_at iT_number jT_name iT_next ++ (WM hM aM kM iM_stands iM_variables iM_rows iM_goals iM_differents iM_cases fM_from fM_to fM_whole fM_ways iM_plainRows fM_plainRow fM_kept fM_goalOver fM_goalUnder fM_goalMax fM_different)))) H := fz_P ht hB9.1
            have hD := fz_sd hP (hB9.2.1.weaken (fun _ q _ h => hFc q.1 h)) rfl
            refine lv_aload_n hx hb dX10_factor_123 rfl (lv_at hl 0 rfl) ?_
            refine lv_iload_n hx hb dX10_factor_124 rfl (lv_at hl 2 rfl) ?_
            have p9 := cj_4_0_3 (WL hL aL kL hT hM (.ref dF_tree) iL_names gL_key fL_kind fL_one fL_two fL_base iL_params fL_paramOver dL_paramOver nL_params fL_paramUnder dL_paramUnder nL_pu gL_over_41 gL_under_41 fL_bound_41 iL_nameAt iL_startAt iL_steps_41 jL_scaleOver jL_scaleUnder) (WF hF aF kF dF_tree nF_tree fF_tree) (WT hT aT kT fT_tape dT_tape nT_tape iT_length iT_fault_41 iT_place_41 iT_kind iT_at iT_number jT_name iT_next) (WM hM aM kM iM_stands iM_variables iM_rows iM_goals iM_differents iM_cases fM_from fM_to fM_whole fM_ways iM_plainRows fM_plainRow fM_kept fM_goalOver fM_goalUnder fM_goalMax fM_different)
            have hPc := hP.mem (fun q h => p9.mem_iff.mpr (List.mem_append_left _ h))
            have hDc := (hD.perm p9).left
            have hKc : va_K (dC, dI) vwCl (tL kL ++ (tM kM)) _ := hK.sub [0, 1, 2, 3, 4, 5, 6, 7, 8, 9, 12, 13, 14, 15, 16, 17, 18, 19, 20, 21] rfl
            have hFc := freeG p9 hD hS hA
            refine va_callv (va_runV (As := [.int p2]) (rest := []) ⟨hx, hb, hml, hown, hts⟩ (m_X10_turn l dC dI hL aL kL hT hM (.ref dF_tree) iL_names gL_key fL_kind fL_one fL_two fL_base iL_params fL_paramOver dL_paramOver nL_params fL_paramUnder dL_paramUnder nL_pu gL_over_41 gL_under_41 fL_bound_41 iL_nameAt iL_startAt iL_steps_41 jL_scaleOver jL_scaleUnder aM kM iM_stands iM_variables iM_rows iM_goals iM_differents iM_cases fM_from fM_to fM_whole fM_ways iM_plainRows fM_plainRow fM_kept fM_goalOver fM_goalUnder fM_goalMax fM_different p2 (b_iL_names) b_fL_kind b_fL_two b_fL_base (b_iL_params) (by first | exact b_nL_params | with_reducible assumption | exact ⟨by omega, by omega⟩ | assumption) (by first | with_reducible assumption | omega | (rw [iI_t (by omega) (by omega)]; omega) | assumption) (by first | with_reducible assumption | omega | (rw [iI_t (by omega) (by omega)]; omega) | assumption) (by first | with_reducible assumption | omega | (rw [iI_t (by omega) (by omega)]; omega) | assumption) (b_iM_stands) (b_iM_variables) (b_iM_rows) (b_iM_goals) (b_iM_differents) (b_iM_cases) b_fM_ways (b_iM_plainRows) b_fM_plainRow (by first | with_reducible assumption | omega | assumption) (⟨b_p2.1, Int.le_trans b_p2.2 (by decide)⟩) H.size) (cwV 1 hts gwsMX10_factor_4 rfl rfl rfl (by decide +kernel) ⟨by first | decide +kernel | (dsimp only [headSpec] <;> omega), by first | decide +kernel | (dsimp only [headSpec] <;> omega)⟩) (fz_pre (va_recv hK hP (ci := 10) (q0 := 0) rfl rfl) hPc hKc hDc) rfl rfl hl.1 rfl (lv_room (Nat.le_of_ble_eq_true rfl)) dX10_factor_125 ⟨by first | decide +kernel | (dsimp only [headSpec] <;> omega), by first | decide +kernel | (dsimp only [headSpec] <;> omega)⟩) hS (fun q _ h => hFc q h) hFc (fun gL_over_42 t9_ H locs ht hvm hw9 hB9 hz1 hk1 hS => ?_)
            clear hw9
            have p8 := cj_4_0_3 (WL hL aL kL hT hM (.ref dF_tree) iL_names gL_key fL_kind fL_one fL_two fL_base iL_params fL_paramOver dL_paramOver nL_params fL_paramUnder dL_paramUnder nL_pu gL_over_42 gL_under_41 fL_bound_41 iL_nameAt iL_startAt iL_steps_41 jL_scaleOver jL_scaleUnder) (WF hF aF kF dF_tree nF_tree fF_tree) (WT hT aT kT fT_tape dT_tape nT_tape iT_length iT_fault_41 iT_place_41 iT_kind iT_at iT_number jT_name iT_next) (WM hM aM kM iM_stands iM_variables iM_rows iM_goals iM_differents iM_cases fM_from fM_to fM_whole fM_ways iM_plainRows fM_plainRow fM_kept fM_goalOver fM_goalUnder fM_goalMax fM_different)
            obtain ⟨hP, hD⟩ := frameG p9 p8 hP hD hk1 hFc (fz_P ht hB9.1) hB9.2
            refine lv_goto (tgt := 153) hx hb dX10_factor_128 (by decide) ?_
            have hl : lv_has _ _ ([(0, .ref (hL 0)), (1, .int p1), (2, .int p2)]) := lv_sub hl [0, 1, 2] rfl
            exact join2 _ _ _ _ ⟨gL_over_42, gL_under_41, fL_bound_41, iL_steps_41, iT_fault_41, iT_place_41, rfl, hP, hD, hS, hl⟩
          · have ts_8_6 : ¬ v2.toInt = 6 := toI_neq s_8_6 rfl (by decide)
            by_cases s_8_7 : v2 = 7
            · have ts_8_7 : v2.toInt = 7 := toI_eq s_8_7 rfl (by decide)
              refine lv_tableIn (off := 123) (tgt := 131) hx hb dX10_factor_8 (by rw [s_8_7]; decide) (by rw [s_8_7]; decide) (by rw [s_8_7]; decide) (by decide) ?_
              refine lv_aload_n hx hb dX10_factor_131 rfl (lv_at hl 0 rfl) ?_
              refine lv_aload_n hx hb dX10_factor_132 rfl (lv_at hl 0 rfl) ?_
              refine va_get (D := (dC, dI)) (ci := 10) (v := .ref dF_tree) (C := RX10) (T := TX10) (N := 20) hx hb hts iwsMX10_factor_in10 hown hK hP 0 rfl rfl 2 (by decide) (hts _ hm_m_X10_factor_0) (fun _ h9 => h9) rfl dX10_factor_133 ?_
              refine lv_iload_n hx hb dX10_factor_136 rfl (lv_at hl 1 rfl) ?_
              refine lv_iconst (v := 3) hx hb dX10_factor_137 (by decide) ?_
              refine lv_iadd hx hb dX10_factor_138 ?_
              refine lv_topi (fun y43 hy43 => ?_)
              obtain rfl : (iI (p1.toInt + 3)) = y43 := (hy43.trans (iI_add2 (iI_of _) (by decide : (3 : Int32) = iI 3))).symm
              refine va_iald (cA := kF 0) (n := nF_tree) (f := fF_tree) hx hb hK hP 11 10 rfl rfl (vp_iI (by omega) (by omega) (by omega)) dX10_factor_139 ?_
              refine lv_topi (fun v44 hv44 => ?_)
              have b_v44 : v44.toInt = twL fF_tree (p1.toInt + 3) := by rw [hv44]; exact tw_i (by omega) (by omega)
              have b1_v44 : V v44.toInt 1 (lv + 1) := by rw [hv44]; exact Vld (tw_i (by omega) (by omega)) (TrL.c3g hV hn (by omega))
              clear hv44
              refine lv_iload_n hx hb dX10_factor_140 rfl (lv_at hl 2 rfl) ?_
              refine W.known (fun hz0 _ => ?_)
              have hFc := allFree hD hS hA
              refine vx_callv (vx_runV (As := [.int v44, .int p2]) (rest := []) ⟨hx, hb, hml, hown, hts⟩ (ih_X10_linear dC dI hL aL kL hT hM iL_names gL_key fL_kind fL_one fL_two fL_base iL_params fL_paramOver dL_paramOver nL_params fL_paramUnder dL_paramUnder nL_pu gL_over gL_under fL_bound iL_nameAt iL_startAt iL_steps jL_scaleOver jL_scaleUnder hF aF kF dF_tree nF_tree fF_tree aT kT fT_tape dT_tape nT_tape iT_length iT_fault iT_place iT_kind iT_at iT_number jT_name iT_next aM kM iM_stands iM_variables iM_rows iM_goals iM_differents iM_cases fM_from fM_to fM_whole fM_ways iM_plainRows fM_plainRow fM_kept fM_goalOver fM_goalUnder fM_goalMax fM_different V lo (lv + 1) v44 p2 (b_iL_names) b_fL_kind b_fL_two b_fL_base (b_iL_params) (by first | exact b_nL_params | with_reducible assumption | exact ⟨by omega, by omega⟩ | assumption) (by first | with_reducible assumption | omega | (rw [iI_t (by omega) (by omega)]; omega) | assumption) (by first | with_reducible assumption | omega | (rw [iI_t (by omega) (by omega)]; omega) | assumption) (by first | with_reducible assumption | omega | (rw [iI_t (by omega) (by omega)]; omega) | assumption) (by first | exact b_nF_tree | with_reducible assumption | exact ⟨by omega, by omega⟩ | assumption) b_fT_tape (by first | exact b_nT_tape | with_reducible assumption | exact ⟨by omega, by omega⟩ | assumption) (b_iT_length) (b_iT_at) (b_iT_number) (b_iT_next) (by first | with_reducible assumption | omega | assumption) (b_iM_stands) (b_iM_variables) (b_iM_rows) (b_iM_goals) (b_iM_differents) (b_iM_cases) b_fM_ways (b_iM_plainRows) b_fM_plainRow (by first | with_reducible assumption | omega | assumption) (b_p2) (by first | with_reducible assumption | omega | (rw [iI_t (by omega) (by omega)]; omega) | decide | assumption) (by first | with_reducible assumption | omega | (rw [iI_t (by omega) (by omega)]; omega) | decide | assumption) (by first | with_reducible assumption | omega | (rw [iI_t (by omega) (by omega)]; omega) | decide | assumption) (by first | with_reducible assumption | omega | (rw [iI_t (by omega) (by omega)]; omega) | decide | assumption) s.heap.size) (cwV 2 hts gwsMX10_factor_5 rfl rfl rfl (by decide +kernel) ⟨by first | decide +kernel | (dsimp only [headSpec] <;> omega), by first | decide +kernel | (dsimp only [headSpec] <;> omega)⟩) (fz_preE (va_recv hK hP (ci := 10) (q0 := 0) rfl rfl) hP hK hD (fun a U g mk qE => qE.call) (fun U hU9 hW => by rw [hU9]; exact (((hE : CE A s s.heap).kept hS.2.1).narrow (fun q h => hFc q h)).warm hW)) rfl rfl hl.1 rfl (lv_room (Nat.le_of_ble_eq_true rfl)) dX10_factor_141 ⟨by first | decide +kernel | (dsimp only [headSpec] <;> omega), by first | decide +kernel | (dsimp only [headSpec] <;> omega)⟩) hS (fun q _ h => hFc q h) hFc (fun q _ h => hFc q h) (fun E ce q9 u t9_ H locs ht hvm hw9 hB9 hz1 hk1 hS hc1 hc2 hc3 => ?_) (fun u t9_ H locs ht hvm hw9 hB9 hz1 hk1 hS => ?_)
              · revert u hw9 hB9
                refine fz_p6 ?_
                intro gL_over_45 gL_under_45 fL_bound_45 iL_steps_45 iT_fault_45 iT_place_45 hw9 hB9
                try dsimp only at hw9 hB9
                revert hB9
                refine fz_a2 ?_
                intro hEx hB9
                clear hw9
                have hP : va_P (dC, dI) vwCl (WL hL aL kL hT hM (.ref dF_tree) iL_names gL_key fL_kind fL_one fL_two fL_base iL_params fL_paramOver dL_paramOver nL_params fL_paramUnder dL_paramUnder nL_pu gL_over_45 gL_under_45 fL_bound_45 iL_nameAt iL_startAt iL_steps_45 jL_scaleOver jL_scaleUnder ++ (WF hF aF kF dF_tree nF_tree fF_tree ++ (WT hT aT kT fT_tape dT_tape nT_tape iT_length iT_fault_45 iT_place_45 iT_kind iT_at iT_number jT_name iT_next ++ (WM hM aM kM iM_stands iM_variables iM_rows iM_goals iM_differents iM_cases fM_from fM_to fM_whole fM_ways iM_plainRows fM_plainRow fM_kept fM_goalOver fM_goalUnder fM_goalMax fM_different)))) H := fz_P ht hB9.1
                have hD := fz_sd hP (hB9.2.weaken (fun _ q _ h => hFc q.1 h)) rfl
                exact vx_out (fun x hx9 => (htab x hx9).elim) hlocks hc1 hc2 hc3 (fun t9_ ht hvm => ⟨(gL_over_45, gL_under_45, fL_bound_45, iL_steps_45, iT_fault_45, iT_place_45), trivial, ⟨(by have h9 := hEx; exact h9), by rw [ht]; exact hP, hD⟩, hS.F ht⟩) hS.2.2 (by decide +kernel) (by decide +kernel)
              revert u hw9 hB9
              refine fz_p6 ?_
              intro gL_over_45 gL_under_45 fL_bound_45 iL_steps_45 iT_fault_45 iT_place_45 hw9 hB9
              try dsimp only at hw9 hB9
              clear hw9
              have hz8 := hB9.2.2
              rw [ht] at hz8
              have hz9 : H.size ≤ s.heap.size + 0 := by rw [hz8]; exact hz0
              refine W.tight (cells2 := 0) (slots2 := 0) hz9 (nS_0 hz9) ?_
              clear hz8 hz9
              have hP : va_P (dC, dI) vwCl (WL hL aL kL hT hM (.ref dF_tree) iL_names gL_key fL_kind fL_one fL_two fL_base iL_params fL_paramOver dL_paramOver nL_params fL_paramUnder dL_paramUnder nL_pu gL_over_45 gL_under_45 fL_bound_45 iL_nameAt iL_startAt iL_steps_45 jL_scaleOver jL_scaleUnder ++ (WF hF aF kF dF_tree nF_tree fF_tree ++ (WT hT aT kT fT_tape dT_tape nT_tape iT_length iT_fault_45 iT_place_45 iT_kind iT_at iT_number jT_name iT_next ++ (WM hM aM kM iM_stands iM_variables iM_rows iM_goals iM_differents iM_cases fM_from fM_to fM_whole fM_ways iM_plainRows fM_plainRow fM_kept fM_goalOver fM_goalUnder fM_goalMax fM_different)))) H := fz_P ht hB9.1
              have hD := fz_sd hP (hB9.2.1.weaken (fun _ q _ h => hFc q.1 h)) rfl
              refine lv_goto (tgt := 153) hx hb dX10_factor_144 (by decide) ?_
              have hl : lv_has _ _ ([(0, .ref (hL 0)), (1, .int p1), (2, .int p2)]) := lv_sub hl [0, 1, 2] rfl
              exact join2 _ _ _ _ ⟨gL_over_45, gL_under_45, fL_bound_45, iL_steps_45, iT_fault_45, iT_place_45, rfl, hP, hD, hS, hl⟩
            · have ts_8_7 : ¬ v2.toInt = 7 := toI_neq s_8_7 rfl (by decide)
              refine lv_tableOut (tgt := 147) hx hb dX10_factor_8 (by have := lv_neT s_8_3 (show Int32.toInt 3 = 3 by decide); have := lv_neT s_8_4 (show Int32.toInt 4 = 4 by decide); have := lv_neT s_8_5 (show Int32.toInt 5 = 5 by decide); have := lv_neT s_8_6 (show Int32.toInt 6 = 6 by decide); have := lv_neT s_8_7 (show Int32.toInt 7 = 7 by decide); omega) (by decide) ?_
              refine lv_aload_n hx hb dX10_factor_147 rfl (lv_at hl 0 rfl) ?_
              refine lv_iload_n hx hb dX10_factor_148 rfl (lv_at hl 1 rfl) ?_
              refine lv_iload_n hx hb dX10_factor_149 rfl (lv_at hl 2 rfl) ?_
              refine W.known (fun hz0 _ => ?_)
              have hFc := allFree hD hS hA
              refine vx_callv (vx_runV (As := [.int p1, .int p2]) (rest := []) ⟨hx, hb, hml, hown, hts⟩ (ih_X10_sum dC dI hL aL kL hT hM iL_names gL_key fL_kind fL_one fL_two fL_base iL_params fL_paramOver dL_paramOver nL_params fL_paramUnder dL_paramUnder nL_pu gL_over gL_under fL_bound iL_nameAt iL_startAt iL_steps jL_scaleOver jL_scaleUnder hF aF kF dF_tree nF_tree fF_tree aT kT fT_tape dT_tape nT_tape iT_length iT_fault iT_place iT_kind iT_at iT_number jT_name iT_next aM kM iM_stands iM_variables iM_rows iM_goals iM_differents iM_cases fM_from fM_to fM_whole fM_ways iM_plainRows fM_plainRow fM_kept fM_goalOver fM_goalUnder fM_goalMax fM_different V lo lv p1 p2 (b_iL_names) b_fL_kind b_fL_two b_fL_base (b_iL_params) (by first | exact b_nL_params | with_reducible assumption | exact ⟨by omega, by omega⟩ | assumption) (by first | with_reducible assumption | omega | (rw [iI_t (by omega) (by omega)]; omega) | assumption) (by first | with_reducible assumption | omega | (rw [iI_t (by omega) (by omega)]; omega) | assumption) (by first | with_reducible assumption | omega | (rw [iI_t (by omega) (by omega)]; omega) | assumption) (by first | exact b_nF_tree | with_reducible assumption | exact ⟨by omega, by omega⟩ | assumption) b_fT_tape (by first | exact b_nT_tape | with_reducible assumption | exact ⟨by omega, by omega⟩ | assumption) (b_iT_length) (b_iT_at) (b_iT_number) (b_iT_next) (by first | with_reducible assumption | omega | assumption) (b_iM_stands) (b_iM_variables) (b_iM_rows) (b_iM_goals) (b_iM_differents) (b_iM_cases) b_fM_ways (b_iM_plainRows) b_fM_plainRow (by first | with_reducible assumption | omega | assumption) (b_p2) (by first | with_reducible assumption | omega | (rw [iI_t (by omega) (by omega)]; omega) | decide | assumption) (by first | with_reducible assumption | omega | (rw [iI_t (by omega) (by omega)]; omega) | decide | assumption) (by first | with_reducible assumption | omega | (rw [iI_t (by omega) (by omega)]; omega) | decide | assumption) (by first | with_reducible assumption | omega | (rw [iI_t (by omega) (by omega)]; omega) | decide | assumption) (by first | with_reducible assumption | omega | (rw [iI_t (by omega) (by omega)]; omega) | decide | assumption) s.heap.size) (cwV 2 hts gwsMX10_factor_6 rfl rfl rfl (by decide +kernel) ⟨by first | decide +kernel | (dsimp only [headSpec] <;> omega), by first | decide +kernel | (dsimp only [headSpec] <;> omega)⟩) (fz_preE (va_recv hK hP (ci := 10) (q0 := 0) rfl rfl) hP hK hD (fun a U g mk qE => qE.call) (fun U hU9 hW => by rw [hU9]; exact (((hE : CE A s s.heap).kept hS.2.1).narrow (fun q h => hFc q h)).warm hW)) rfl rfl hl.1 rfl (lv_room (Nat.le_of_ble_eq_true rfl)) dX10_factor_150 ⟨by first | decide +kernel | (dsimp only [headSpec] <;> omega), by first | decide +kernel | (dsimp only [headSpec] <;> omega)⟩) hS (fun q _ h => hFc q h) hFc (fun q _ h => hFc q h) (fun E ce q9 u t9_ H locs ht hvm hw9 hB9 hz1 hk1 hS hc1 hc2 hc3 => ?_) (fun u t9_ H locs ht hvm hw9 hB9 hz1 hk1 hS => ?_)
              · revert u hw9 hB9
                refine fz_p6 ?_
                intro gL_over_46 gL_under_46 fL_bound_46 iL_steps_46 iT_fault_46 iT_place_46 hw9 hB9
                try dsimp only at hw9 hB9
                revert hB9
                refine fz_a2 ?_
                intro hEx hB9
                clear hw9
                have hP : va_P (dC, dI) vwCl (WL hL aL kL hT hM (.ref dF_tree) iL_names gL_key fL_kind fL_one fL_two fL_base iL_params fL_paramOver dL_paramOver nL_params fL_paramUnder dL_paramUnder nL_pu gL_over_46 gL_under_46 fL_bound_46 iL_nameAt iL_startAt iL_steps_46 jL_scaleOver jL_scaleUnder ++ (WF hF aF kF dF_tree nF_tree fF_tree ++ (WT hT aT kT fT_tape dT_tape nT_tape iT_length iT_fault_46 iT_place_46 iT_kind iT_at iT_number jT_name iT_next ++ (WM hM aM kM iM_stands iM_variables iM_rows iM_goals iM_differents iM_cases fM_from fM_to fM_whole fM_ways iM_plainRows fM_plainRow fM_kept fM_goalOver fM_goalUnder fM_goalMax fM_different)))) H := fz_P ht hB9.1
                have hD := fz_sd hP (hB9.2.weaken (fun _ q _ h => hFc q.1 h)) rfl
                exact vx_out (fun x hx9 => (htab x hx9).elim) hlocks hc1 hc2 hc3 (fun t9_ ht hvm => ⟨(gL_over_46, gL_under_46, fL_bound_46, iL_steps_46, iT_fault_46, iT_place_46), trivial, ⟨(by have h9 := hEx; exact h9), by rw [ht]; exact hP, hD⟩, hS.F ht⟩) hS.2.2 (by decide +kernel) (by decide +kernel)
              revert u hw9 hB9
              refine fz_p6 ?_
              intro gL_over_46 gL_under_46 fL_bound_46 iL_steps_46 iT_fault_46 iT_place_46 hw9 hB9
              try dsimp only at hw9 hB9
              clear hw9
              have hz8 := hB9.2.2
              rw [ht] at hz8
              have hz9 : H.size ≤ s.heap.size + 0 := by rw [hz8]; exact hz0
              refine W.tight (cells2 := 0) (slots2 := 0) hz9 (nS_0 hz9) ?_
              clear hz8 hz9
              have hP : va_P (dC, dI) vwCl (WL hL aL kL hT hM (.ref dF_tree) iL_names gL_key fL_kind fL_one fL_two fL_base iL_params fL_paramOver dL_paramOver nL_params fL_paramUnder dL_paramUnder nL_pu gL_over_46 gL_under_46 fL_bound_46 iL_nameAt iL_startAt iL_steps_46 jL_scaleOver jL_scaleUnder ++ (WF hF aF kF dF_tree nF_tree fF_tree ++ (WT hT aT kT fT_tape dT_tape nT_tape iT_length iT_fault_46 iT_place_46 iT_kind iT_at iT_number jT_name iT_next ++ (WM hM aM kM iM_stands iM_variables iM_rows iM_goals iM_differents iM_cases fM_from fM_to fM_whole fM_ways iM_plainRows fM_plainRow fM_kept fM_goalOver fM_goalUnder fM_goalMax fM_different)))) H := fz_P ht hB9.1
              have hD := fz_sd hP (hB9.2.1.weaken (fun _ q _ h => hFc q.1 h)) rfl
              have hl : lv_has _ _ ([(0, .ref (hL 0)), (1, .int p1), (2, .int p2)]) := lv_sub hl [0, 1, 2] rfl
              exact join2 _ _ _ _ ⟨gL_over_46, gL_under_46, fL_bound_46, iL_steps_46, iT_fault_46, iT_place_46, rfl, hP, hD, hS, hl⟩
  · intro H locs ls stk
    refine fz_e6 ?_
    intro gL_over_j2 gL_under_j2 fL_bound_j2 iL_steps_j2 iT_fault_j2 iT_place_j2
    refine fz_a5 ?_
    intro hst9_0 hP hD hS hl
    subst hst9_0
    refine vx_ret ?_
    refine W.known (fun hz9 _ => ?_)
    refine W.widen (k := 1) (n := 6) (by decide +kernel) (by decide +kernel) ?_
    exact W.vret hx hb hr (fun t9_ ht hW => ⟨⟨(gL_over_j2, gL_under_j2, fL_bound_j2, iL_steps_j2, iT_fault_j2, iT_place_j2), rfl, trivial, by rw [ht]; exact hP, hD, by rw [ht]; first | done | exact Nat.le_antisymm hz9 hS.1⟩, hS.F ht⟩) hS.2.2 dX10_factor_153
end
section
theorem dX10_lookUp_0 : decode cX10_lookUp 0 = .ok (.aload_n 0, 1) := dk_42 (by decide +kernel)
theorem dX10_lookUp_1 : decode cX10_lookUp 1 = .ok (.getfield 55, 3) := dk_180 (by decide +kernel)
theorem dX10_lookUp_4 : decode cX10_lookUp 4 = .ok (.iload_n 1, 1) := dk_27 (by decide +kernel)
theorem dX10_lookUp_5 : decode cX10_lookUp 5 = .ok (.iconst 3, 1) := dk_6 (by decide +kernel)
theorem dX10_lookUp_6 : decode cX10_lookUp 6 = .ok (.iadd, 1) := dk_96 (by decide +kernel)
theorem dX10_lookUp_7 : decode cX10_lookUp 7 = .ok (.iaload, 1) := dk_46 (by decide +kernel)
theorem dX10_lookUp_8 : decode cX10_lookUp 8 = .ok (.istore_n 3, 1) := dk_62 (by decide +kernel)
theorem dX10_lookUp_9 : decode cX10_lookUp 9 = .ok (.aload_n 0, 1) := dk_42 (by decide +kernel)
theorem dX10_lookUp_10 : decode cX10_lookUp 10 = .ok (.getfield 27, 3) := dk_180 (by decide +kernel)
theorem dX10_lookUp_13 : decode cX10_lookUp 13 = .ok (.iload_n 3, 1) := dk_29 (by decide +kernel)
theorem dX10_lookUp_14 : decode cX10_lookUp 14 = .ok (.iaload, 1) := dk_46 (by decide +kernel)
theorem dX10_lookUp_15 : decode cX10_lookUp 15 = .ok (.istore 4, 2) := dk_54 (by decide +kernel)
theorem dX10_lookUp_17 : decode cX10_lookUp 17 = .ok (.aload_n 0, 1) := dk_42 (by decide +kernel)
theorem dX10_lookUp_18 : decode cX10_lookUp 18 = .ok (.getfield 21, 3) := dk_180 (by decide +kernel)
theorem dX10_lookUp_21 : decode cX10_lookUp 21 = .ok (.iload_n 3, 1) := dk_29 (by decide +kernel)
theorem dX10_lookUp_22 : decode cX10_lookUp 22 = .ok (.iaload, 1) := dk_46 (by decide +kernel)
theorem dX10_lookUp_23 : decode cX10_lookUp 23 = .ok (.iconst (-1), 1) := dk_2 (by decide +kernel)
theorem dX10_lookUp_24 : decode cX10_lookUp 24 = .ok (.if_icmp .eq 77, 3) := dk_159 (by decide +kernel)
theorem dX10_lookUp_27 : decode cX10_lookUp 27 = .ok (.aload_n 0, 1) := dk_42 (by decide +kernel)
theorem dX10_lookUp_28 : decode cX10_lookUp 28 = .ok (.aload_n 0, 1) := dk_42 (by decide +kernel)
theorem dX10_lookUp_29 : decode cX10_lookUp 29 = .ok (.getfield 55, 3) := dk_180 (by decide +kernel)
theorem dX10_lookUp_32 : decode cX10_lookUp 32 = .ok (.iload_n 1, 1) := dk_27 (by decide +kernel)
theorem dX10_lookUp_33 : decode cX10_lookUp 33 = .ok (.iconst 4, 1) := dk_7 (by decide +kernel)
theorem dX10_lookUp_34 : decode cX10_lookUp 34 = .ok (.iadd, 1) := dk_96 (by decide +kernel)
theorem dX10_lookUp_35 : decode cX10_lookUp 35 = .ok (.iaload, 1) := dk_46 (by decide +kernel)
theorem dX10_lookUp_36 : decode cX10_lookUp 36 = .ok (.aload_n 0, 1) := dk_42 (by decide +kernel)
theorem dX10_lookUp_37 : decode cX10_lookUp 37 = .ok (.getfield 21, 3) := dk_180 (by decide +kernel)
theorem dX10_lookUp_40 : decode cX10_lookUp 40 = .ok (.iload_n 3, 1) := dk_29 (by decide +kernel)
theorem dX10_lookUp_41 : decode cX10_lookUp 41 = .ok (.iaload, 1) := dk_46 (by decide +kernel)
theorem dX10_lookUp_42 : decode cX10_lookUp 42 = .ok (.iload_n 2, 1) := dk_28 (by decide +kernel)
theorem dX10_lookUp_43 : decode cX10_lookUp 43 = .ok (.invokevirtual 243, 3) := dk_182 (by decide +kernel)
theorem dX10_lookUp_46 : decode cX10_lookUp 46 = .ok (.istore 5, 2) := dk_54 (by decide +kernel)
theorem dX10_lookUp_48 : decode cX10_lookUp 48 = .ok (.aload_n 0, 1) := dk_42 (by decide +kernel)
theorem dX10_lookUp_49 : decode cX10_lookUp 49 = .ok (.getfield 24, 3) := dk_180 (by decide +kernel)
theorem dX10_lookUp_52 : decode cX10_lookUp 52 = .ok (.iload_n 3, 1) := dk_29 (by decide +kernel)
theorem dX10_lookUp_53 : decode cX10_lookUp 53 = .ok (.iaload, 1) := dk_46 (by decide +kernel)
theorem dX10_lookUp_54 : decode cX10_lookUp 54 = .ok (.iconst (-1), 1) := dk_2 (by decide +kernel)
theorem dX10_lookUp_55 : decode cX10_lookUp 55 = .ok (.if_icmp .eq 39, 3) := dk_159 (by decide +kernel)
theorem dX10_lookUp_58 : decode cX10_lookUp 58 = .ok (.iload 5, 2) := dk_21 (by decide +kernel)
theorem dX10_lookUp_60 : decode cX10_lookUp 60 = .ok (.aload_n 0, 1) := dk_42 (by decide +kernel)
theorem dX10_lookUp_61 : decode cX10_lookUp 61 = .ok (.getfield 24, 3) := dk_180 (by decide +kernel)
theorem dX10_lookUp_64 : decode cX10_lookUp 64 = .ok (.aload_n 0, 1) := dk_42 (by decide +kernel)
theorem dX10_lookUp_65 : decode cX10_lookUp 65 = .ok (.getfield 24, 3) := dk_180 (by decide +kernel)
theorem dX10_lookUp_68 : decode cX10_lookUp 68 = .ok (.iload_n 3, 1) := dk_29 (by decide +kernel)
theorem dX10_lookUp_69 : decode cX10_lookUp 69 = .ok (.iaload, 1) := dk_46 (by decide +kernel)
theorem dX10_lookUp_70 : decode cX10_lookUp 70 = .ok (.iaload, 1) := dk_46 (by decide +kernel)
theorem dX10_lookUp_71 : decode cX10_lookUp 71 = .ok (.imul, 1) := dk_104 (by decide +kernel)
theorem dX10_lookUp_72 : decode cX10_lookUp 72 = .ok (.aload_n 0, 1) := dk_42 (by decide +kernel)
theorem dX10_lookUp_73 : decode cX10_lookUp 73 = .ok (.aload_n 0, 1) := dk_42 (by decide +kernel)
theorem dX10_lookUp_74 : decode cX10_lookUp 74 = .ok (.getfield 55, 3) := dk_180 (by decide +kernel)
theorem dX10_lookUp_77 : decode cX10_lookUp 77 = .ok (.iload_n 1, 1) := dk_27 (by decide +kernel)
theorem dX10_lookUp_78 : decode cX10_lookUp 78 = .ok (.iconst 5, 1) := dk_8 (by decide +kernel)
theorem dX10_lookUp_79 : decode cX10_lookUp 79 = .ok (.iadd, 1) := dk_96 (by decide +kernel)
theorem dX10_lookUp_80 : decode cX10_lookUp 80 = .ok (.iaload, 1) := dk_46 (by decide +kernel)
theorem dX10_lookUp_81 : decode cX10_lookUp 81 = .ok (.aload_n 0, 1) := dk_42 (by decide +kernel)
theorem dX10_lookUp_82 : decode cX10_lookUp 82 = .ok (.getfield 24, 3) := dk_180 (by decide +kernel)
theorem dX10_lookUp_85 : decode cX10_lookUp 85 = .ok (.iload_n 3, 1) := dk_29 (by decide +kernel)
theorem dX10_lookUp_86 : decode cX10_lookUp 86 = .ok (.iaload, 1) := dk_46 (by decide +kernel)
theorem dX10_lookUp_87 : decode cX10_lookUp 87 = .ok (.iload_n 2, 1) := dk_28 (by decide +kernel)
theorem dX10_lookUp_88 : decode cX10_lookUp 88 = .ok (.invokevirtual 243, 3) := dk_182 (by decide +kernel)
theorem dX10_lookUp_91 : decode cX10_lookUp 91 = .ok (.iadd, 1) := dk_96 (by decide +kernel)
theorem dX10_lookUp_92 : decode cX10_lookUp 92 = .ok (.istore 5, 2) := dk_54 (by decide +kernel)
theorem dX10_lookUp_94 : decode cX10_lookUp 94 = .ok (.iload 4, 2) := dk_21 (by decide +kernel)
theorem dX10_lookUp_96 : decode cX10_lookUp 96 = .ok (.iload 5, 2) := dk_21 (by decide +kernel)
theorem dX10_lookUp_98 : decode cX10_lookUp 98 = .ok (.iadd, 1) := dk_96 (by decide +kernel)
theorem dX10_lookUp_99 : decode cX10_lookUp 99 = .ok (.istore 4, 2) := dk_54 (by decide +kernel)
theorem dX10_lookUp_101 : decode cX10_lookUp 101 = .ok (.aload_n 0, 1) := dk_42 (by decide +kernel)
theorem dX10_lookUp_102 : decode cX10_lookUp 102 = .ok (.getfield 17, 3) := dk_180 (by decide +kernel)
theorem dX10_lookUp_105 : decode cX10_lookUp 105 = .ok (.iload_n 3, 1) := dk_29 (by decide +kernel)
theorem dX10_lookUp_106 : decode cX10_lookUp 106 = .ok (.iaload, 1) := dk_46 (by decide +kernel)
theorem dX10_lookUp_107 : decode cX10_lookUp 107 = .ok (.iconst 2, 1) := dk_5 (by decide +kernel)
theorem dX10_lookUp_108 : decode cX10_lookUp 108 = .ok (.if_icmp .ne 27, 3) := dk_160 (by decide +kernel)
theorem dX10_lookUp_111 : decode cX10_lookUp 111 = .ok (.aload_n 0, 1) := dk_42 (by decide +kernel)
theorem dX10_lookUp_112 : decode cX10_lookUp 112 = .ok (.iload_n 2, 1) := dk_28 (by decide +kernel)
theorem dX10_lookUp_113 : decode cX10_lookUp 113 = .ok (.aload_n 0, 1) := dk_42 (by decide +kernel)
theorem dX10_lookUp_114 : decode cX10_lookUp 114 = .ok (.getfield 30, 3) := dk_180 (by decide +kernel)
theorem dX10_lookUp_117 : decode cX10_lookUp 117 = .ok (.iload 4, 2) := dk_21 (by decide +kernel)
theorem dX10_lookUp_119 : decode cX10_lookUp 119 = .ok (.iaload, 1) := dk_46 (by decide +kernel)
theorem dX10_lookUp_120 : decode cX10_lookUp 120 = .ok (.i2l, 1) := dk_133 (by decide +kernel)
theorem dX10_lookUp_121 : decode cX10_lookUp 121 = .ok (.aload_n 0, 1) := dk_42 (by decide +kernel)
theorem dX10_lookUp_122 : decode cX10_lookUp 122 = .ok (.getfield 33, 3) := dk_180 (by decide +kernel)
theorem dX10_lookUp_125 : decode cX10_lookUp 125 = .ok (.iload 4, 2) := dk_21 (by decide +kernel)
theorem dX10_lookUp_127 : decode cX10_lookUp 127 = .ok (.iaload, 1) := dk_46 (by decide +kernel)
theorem dX10_lookUp_128 : decode cX10_lookUp 128 = .ok (.i2l, 1) := dk_133 (by decide +kernel)
theorem dX10_lookUp_129 : decode cX10_lookUp 129 = .ok (.invokevirtual 230, 3) := dk_182 (by decide +kernel)
theorem dX10_lookUp_132 : decode cX10_lookUp 132 = .ok (.goto 25, 3) := dk_167 (by decide +kernel)
theorem dX10_lookUp_135 : decode cX10_lookUp 135 = .ok (.aload_n 0, 1) := dk_42 (by decide +kernel)
theorem dX10_lookUp_136 : decode cX10_lookUp 136 = .ok (.iload_n 2, 1) := dk_28 (by decide +kernel)
theorem dX10_lookUp_137 : decode cX10_lookUp 137 = .ok (.lconst 0, 1) := dk_9 (by decide +kernel)
theorem dX10_lookUp_138 : decode cX10_lookUp 138 = .ok (.lconst 1, 1) := dk_10 (by decide +kernel)
theorem dX10_lookUp_139 : decode cX10_lookUp 139 = .ok (.invokevirtual 230, 3) := dk_182 (by decide +kernel)
theorem dX10_lookUp_142 : decode cX10_lookUp 142 = .ok (.aload_n 0, 1) := dk_42 (by decide +kernel)
theorem dX10_lookUp_143 : decode cX10_lookUp 143 = .ok (.getfield 36, 3) := dk_180 (by decide +kernel)
theorem dX10_lookUp_146 : decode cX10_lookUp 146 = .ok (.iload_n 2, 1) := dk_28 (by decide +kernel)
theorem dX10_lookUp_147 : decode cX10_lookUp 147 = .ok (.bipush 9, 2) := dk_16 (by decide +kernel)
theorem dX10_lookUp_149 : decode cX10_lookUp 149 = .ok (.imul, 1) := dk_104 (by decide +kernel)
theorem dX10_lookUp_150 : decode cX10_lookUp 150 = .ok (.iconst 1, 1) := dk_4 (by decide +kernel)
theorem dX10_lookUp_151 : decode cX10_lookUp 151 = .ok (.iadd, 1) := dk_96 (by decide +kernel)
theorem dX10_lookUp_152 : decode cX10_lookUp 152 = .ok (.iload 4, 2) := dk_21 (by decide +kernel)
theorem dX10_lookUp_154 : decode cX10_lookUp 154 = .ok (.iadd, 1) := dk_96 (by decide +kernel)
theorem dX10_lookUp_155 : decode cX10_lookUp 155 = .ok (.lconst 1, 1) := dk_10 (by decide +kernel)
theorem dX10_lookUp_156 : decode cX10_lookUp 156 = .ok (.lastore, 1) := dk_80 (by decide +kernel)
theorem dX10_lookUp_157 : decode cX10_lookUp 157 = .ok (.return_, 1) := dk_177 (by decide +kernel)
theorem iwsMX10_lookUp_in10 : ∀ w ∈ wsX100, w ∈ wsMX10_lookUp := fun w h => List.mem_cons_of_mem _ (iwsGW_in10 w h)
theorem gwsMX10_lookUp_0 : GoodIn wsMX10_lookUp (wsV RX10 243 RX10 yX10_place wsMX10_place) := goodIn_rec (hd := [.methodLink RX10 243 yX10_place, .instanceMethod yX10_place, .selects RX10 yX10_place yX10_place, .initialized RX10]) (by decide +kernel) (by decide +kernel) gdwsGW
theorem gwsMX10_lookUp_1 : GoodIn wsMX10_lookUp (wsV RX10 230 RX10 yX10_setNumber wsMX10_setNumber) := goodIn_sub (fun w h => List.mem_cons_of_mem _ (gwsGW_4 w h)) (gdV (by decide +kernel) gdwsMX10_setNumber)
theorem hm_m_X10_lookUp_0 : (.fieldLink RX10 55 "OptimaWorks$Worker" "tree" "[I" : Cond) ∈ wsMX10_lookUp := by decide +kernel
theorem hm_m_X10_lookUp_1 : (.fieldLink RX10 21 "OptimaWorks$Worker" "one" "[I" : Cond) ∈ wsMX10_lookUp := by decide +kernel
theorem hm_m_X10_lookUp_2 : (.fieldLink RX10 24 "OptimaWorks$Worker" "two" "[I" : Cond) ∈ wsMX10_lookUp := by decide +kernel
set_option maxHeartbeats 4000000 in
set_option maxRecDepth 100000 in
/-- a name looked up -/
theorem m_X10_lookUp (l : Launch) (hst : l.stackTraces = false) (ev : Nat) (ih_X10_place : Cm_X10_place l (ev)) : Cm_X10_lookUp l (ev + 1) := by
  intro dC dI hL aL kL hT hM iL_names gL_key fL_kind fL_one fL_two fL_base iL_params fL_paramOver dL_paramOver nL_params fL_paramUnder dL_paramUnder nL_pu gL_over gL_under fL_bound iL_nameAt iL_startAt iL_steps jL_scaleOver jL_scaleUnder hF aF kF dF_tree nF_tree fF_tree aT kT fT_tape dT_tape nT_tape iT_length iT_fault iT_place iT_kind iT_at iT_number jT_name iT_next aM kM iM_stands iM_variables iM_rows iM_goals iM_differents iM_cases fM_from fM_to fM_whole fM_ways iM_plainRows fM_plainRow fM_kept fM_goalOver fM_goalUnder fM_goalMax fM_different V lo lv p1 p2 b_iL_names b_fL_kind b_fL_two b_fL_base b_iL_params b_nL_params b_nm b_pm b_pu b_nF_tree b_fT_tape b_nT_tape b_iT_length b_iT_at b_iT_number b_iT_next b_len b_iM_stands b_iM_variables b_iM_rows b_iM_goals b_iM_differents b_iM_cases b_fM_ways b_iM_plainRows b_fM_plainRow b_pr b_p2 hV hn hlv hsl hk5 sz
  refine vx_ofW (cc := cX10_lookUp) (maxL := 6) (ret := none) (by decide) rfl ?_
  intro p e s m args below meth c s₁ B hml htab hv
  obtain ⟨rfl, hsz, hP, hK, hD0, hE⟩ := hv
  have hx := B.exec
  have hb := B.bytes
  have hr := B.returns
  have hts := atoms_spec (ws := wsMX10_lookUp) B.pre
  have hown : s.vm.findClass RX10 = some m.cls := findClass_of_methodNamed B.named
  have hlocks := B.notSynchronized
  subst hsz
  have hD := hD0.self (sz := s.heap.size)
  generalize hAe : va_A (WL hL aL kL hT hM (.ref dF_tree) iL_names gL_key fL_kind fL_one fL_two fL_base iL_params fL_paramOver dL_paramOver nL_params fL_paramUnder dL_paramUnder nL_pu gL_over gL_under fL_bound iL_nameAt iL_startAt iL_steps jL_scaleOver jL_scaleUnder ++ (WF hF aF kF dF_tree nF_tree fF_tree ++ (WT hT aT kT fT_tape dT_tape nT_tape iT_length iT_fault iT_place iT_kind iT_at iT_number jT_name iT_next ++ (WM hM aM kM iM_stands iM_variables iM_rows iM_goals iM_differents iM_cases fM_from fM_to fM_whole fM_ways iM_plainRows fM_plainRow fM_kept fM_goalOver fM_goalUnder fM_goalMax fM_different)))) s.heap.size = A at hD hE ⊢
  have hA : ∀ q : Nat, s.heap.size ≤ q → A q := fun q h => by rw [← hAe]; exact Or.inr h
  have hS : va_S A s.heap s.heap [] := va_S.rf
  have hl := lv_entry ([.ref (hL 0), .int p1, .int p2]) (n := 6) (Nat.le_of_ble_eq_true rfl)
  rw [lg_entry_eq]
  generalize (lg_sl ([.ref (hL 0), .int p1, .int p2]) ++ List.replicate (6 - (lg_sl ([.ref (hL 0), .int p1, .int p2])).length) Slot.unset).toArray = ls at hl ⊢
  have hl : lv_has ls 6 [(0, .ref (hL 0)), (1, .int p1), (2, .int p2)] := hl
  have hr0 := TrL.rng hV hn
  have hc := TrL.c3n hV hn hk5
  refine lv_aload_n hx hb dX10_lookUp_0 rfl (lv_at hl 0 rfl) ?_
  refine va_get (D := (dC, dI)) (ci := 10) (v := .ref dF_tree) (C := RX10) (T := TX10) (N := 20) hx hb hts iwsMX10_lookUp_in10 hown hK hP 0 rfl rfl 2 (by decide) (hts _ hm_m_X10_lookUp_0) (fun _ h9 => h9) rfl dX10_lookUp_1 ?_
  refine lv_iload_n hx hb dX10_lookUp_4 rfl (lv_at hl 1 rfl) ?_
  refine lv_iconst (v := 3) hx hb dX10_lookUp_5 (by decide) ?_
  refine lv_iadd hx hb dX10_lookUp_6 ?_
  refine lv_topi (fun y1 hy1 => ?_)
  obtain rfl : (iI (p1.toInt + 3)) = y1 := (hy1.trans (iI_add2 (iI_of _) (by decide : (3 : Int32) = iI 3))).symm
  refine va_iald (cA := kF 0) (n := nF_tree) (f := fF_tree) hx hb hK hP 11 10 rfl rfl (vp_iI (by omega) (by omega) (by omega)) dX10_lookUp_7 ?_
  refine lv_topi (fun v2 hv2 => ?_)
  have b_v2 : v2.toInt = twL fF_tree (p1.toInt + 3) := by rw [hv2]; exact tw_i (by omega) (by omega)
  clear hv2
  have hN := b_nm _ hc.1 hc.2.1
  rw [← b_v2] at hc hN
  have hN2 := hN.2.1 hc.2.2.1.1
  have hmr : 1 ≤ MeL fL_one fL_two v2.toInt ∧ MeL fL_one fL_two v2.toInt ≤ 144 := MeV_r hN2.1 hN2.2
  have hs1 : ¬ twL fL_one v2.toInt = -1 → 0 ≤ twL fL_one v2.toInt ∧ twL fL_one v2.toInt < iL_names.toInt := fun h9 => (hN2.1.resolve_left h9).r
  have hs2 : ¬ twL fL_two v2.toInt = -1 → 0 ≤ twL fL_two v2.toInt ∧ twL fL_two v2.toInt < iL_names.toInt := fun h9 => (hN2.2.resolve_left h9).r
  refine lv_istore_n hx hb dX10_lookUp_8 rfl hl (by decide) rfl (fun ls (hl : lv_has ls _ ([(3, .int v2), (0, .ref (hL 0)), (1, .int p1), (2, .int p2)])) => ?_)
  refine lv_aload_n hx hb dX10_lookUp_9 rfl (lv_at hl 1 rfl) ?_
  refine va_get (D := (dC, dI)) (ci := 10) (v := .ref (aL 4)) (C := RX10) (T := TX10) (N := 20) hx hb hts iwsMX10_lookUp_in10 hown hK hP 0 rfl rfl 8 (by decide) (hts (.fieldLink RX10 27 "OptimaWorks$Worker" "base" "[I") (by decide +kernel)) (fun _ h9 => h9) rfl dX10_lookUp_10 ?_
  refine lv_iload_n hx hb dX10_lookUp_13 rfl (lv_at hl 0 rfl) ?_
  refine va_iald (cA := kL 4) (n := 40) (f := fL_base) hx hb hK hP 5 4 rfl rfl (vp_in_iff.mpr ⟨(by omega), (by omega)⟩) dX10_lookUp_14 ?_
  refine lv_topi (fun v3 hv3 => ?_)
  have b_v3 : 0 ≤ v3.toInt ∧ v3.toInt ≤ 2560 := by rw [hv3]; exact b_fL_base _
  have b1_v3 : v3.toInt = twL fL_base v2.toInt := by rw [hv3]; exact tw_r
  clear hv3
  refine lv_istore hx hb dX10_lookUp_15 hl (by decide) rfl (fun ls (hl : lv_has ls _ ([(4, .int v3), (3, .int v2), (0, .ref (hL 0)), (1, .int p1), (2, .int p2)])) => ?_)
  refine lv_aload_n hx hb dX10_lookUp_17 rfl (lv_at hl 2 rfl) ?_
  refine va_get (D := (dC, dI)) (ci := 10) (v := .ref (aL 2)) (C := RX10) (T := TX10) (N := 20) hx hb hts iwsMX10_lookUp_in10 hown hK hP 0 rfl rfl 6 (by decide) (hts _ hm_m_X10_lookUp_1) (fun _ h9 => h9) rfl dX10_lookUp_18 ?_
  refine lv_iload_n hx hb dX10_lookUp_21 rfl (lv_at hl 1 rfl) ?_
  refine va_iald (cA := kL 2) (n := 40) (f := fL_one) hx hb hK hP 3 2 rfl rfl (vp_in_iff.mpr ⟨(by omega), (by omega)⟩) dX10_lookUp_22 ?_
  refine lv_topi (fun v4 hv4 => ?_)
  have b_v4 : v4.toInt = twL fL_one v2.toInt := by rw [hv4]; exact tw_r
  clear hv4
  refine lv_iconst (v := (-1)) hx hb dX10_lookUp_23 (by decide) ?_
  refine W.cut (pc := 101) (fun H locs ls stk => ∃ (gL_over_j6 : Nat → Int64) (gL_under_j6 : Nat → Int64) (fL_bound_j6 : Nat → Int32) (iL_steps_j6 : Int32) (iT_fault_j6 : Int32) (iT_place_j6 : Int32) (l4_j6 : Int32), (0 ≤ l4_j6.toInt ∧ l4_j6.toInt ≤ 5000) ∧ ((twL fL_kind v2.toInt = 2 → l4_j6.toInt < ((nL_params : Nat) : Int)) ∧ (twL fL_kind v2.toInt ≠ 2 → l4_j6.toInt < 8)) ∧  stk = [] ∧ va_P (dC, dI) vwCl (WL hL aL kL hT hM (.ref dF_tree) iL_names gL_key fL_kind fL_one fL_two fL_base iL_params fL_paramOver dL_paramOver nL_params fL_paramUnder dL_paramUnder nL_pu gL_over_j6 gL_under_j6 fL_bound_j6 iL_nameAt iL_startAt iL_steps_j6 jL_scaleOver jL_scaleUnder ++ (WF hF aF kF dF_tree nF_tree fF_tree ++ (WT hT aT kT fT_tape dT_tape nT_tape iT_length iT_fault_j6 iT_place_j6 iT_kind iT_at iT_number jT_name iT_next ++ (WM hM aM kM iM_stands iM_variables iM_rows iM_goals iM_differents iM_cases fM_from fM_to fM_whole fM_ways iM_plainRows fM_plainRow fM_kept fM_goalOver fM_goalUnder fM_goalMax fM_different)))) H ∧ va_D A (WL hL aL kL hT hM (.ref dF_tree) iL_names gL_key fL_kind fL_one fL_two fL_base iL_params fL_paramOver dL_paramOver nL_params fL_paramUnder dL_paramUnder nL_pu gL_over_j6 gL_under_j6 fL_bound_j6 iL_nameAt iL_startAt iL_steps_j6 jL_scaleOver jL_scaleUnder ++ (WF hF aF kF dF_tree nF_tree fF_tree ++ (WT hT aT kT fT_tape dT_tape nT_tape iT_length iT_fault_j6 iT_place_j6 iT_kind iT_at iT_number jT_name iT_next ++ (WM hM aM kM iM_stands iM_variables iM_rows iM_goals iM_differents iM_cases fM_from fM_to fM_whole fM_ways iM_plainRows fM_plainRow fM_kept fM_goalOver fM_goalUnder fM_goalMax fM_different)))) ∧ va_S A s.heap H locs ∧ lv_has ls 6 [(4, .int l4_j6), (3, .int v2), (0, .ref (hL 0)), (1, .int p1), (2, .int p2)]) (fun join6 => ?_) ?_
  · refine lv_icmp_eq (tgt := 101) hx hb dX10_lookUp_24 (by decide) (fun c_24 => ?_) (fun c_24 => ?_)
    · have t_24 : v4.toInt = (-1) := toI_eq c_24 rfl (by decide : ((-1) : Int32).toInt = (-1))
      have hl : lv_has _ _ ([(4, .int v3), (3, .int v2), (0, .ref (hL 0)), (1, .int p1), (2, .int p2)]) := lv_sub hl [0, 1, 2, 3, 4] rfl
      exact join6 _ _ _ _ ⟨gL_over, gL_under, fL_bound, iL_steps, iT_fault, iT_place, v3, (⟨b_v3.1, Int.le_trans b_v3.2 (by decide)⟩), (show (twL fL_kind v2.toInt = 2 → v3.toInt < ((nL_params : Nat) : Int)) ∧ (twL fL_kind v2.toInt ≠ 2 → v3.toInt < 8) from ⟨fun h => by have h8 := hN.2.2.1 h; (try rw [iI_t (by omega) (by omega)]); omega, fun h => by have h8 := hN.2.2.2 hc.2.2.1.1 h hc.2.2.1.2; (try rw [iI_t (by omega) (by omega)]); omega⟩), rfl, hP, hD, hS, hl⟩
    · have t_24 : ¬ v4.toInt = (-1) := toI_neq c_24 rfl (by decide : ((-1) : Int32).toInt = (-1))
      refine lv_aload_n hx hb dX10_lookUp_27 rfl (lv_at hl 2 rfl) ?_
      refine lv_aload_n hx hb dX10_lookUp_28 rfl (lv_at hl 2 rfl) ?_
      refine va_get (D := (dC, dI)) (ci := 10) (v := .ref dF_tree) (C := RX10) (T := TX10) (N := 20) hx hb hts iwsMX10_lookUp_in10 hown hK hP 0 rfl rfl 2 (by decide) (hts _ hm_m_X10_lookUp_0) (fun _ h9 => h9) rfl dX10_lookUp_29 ?_
      refine lv_iload_n hx hb dX10_lookUp_32 rfl (lv_at hl 3 rfl) ?_
      refine lv_iconst (v := 4) hx hb dX10_lookUp_33 (by decide) ?_
      refine lv_iadd hx hb dX10_lookUp_34 ?_
      refine lv_topi (fun y27 hy27 => ?_)
      obtain rfl : (iI (p1.toInt + 4)) = y27 := (hy27.trans (iI_add2 (iI_of _) (by decide : (4 : Int32) = iI 4))).symm
      refine va_iald (cA := kF 0) (n := nF_tree) (f := fF_tree) hx hb hK hP 11 10 rfl rfl (vp_iI (by omega) (by omega) (by omega)) dX10_lookUp_35 ?_
      refine lv_topi (fun v28 hv28 => ?_)
      have b_v28 : v28.toInt = twL fF_tree (p1.toInt + 4) := by rw [hv28]; exact tw_i (by omega) (by omega)
      have b1_v28 : V v28.toInt 1 (lv + 1) := by rw [hv28]; exact Vld (tw_i (by omega) (by omega)) (hc.2.2.2 (by omega)).1
      clear hv28
      refine lv_aload_n hx hb dX10_lookUp_36 rfl (lv_at hl 2 rfl) ?_
      refine va_get (D := (dC, dI)) (ci := 10) (v := .ref (aL 2)) (C := RX10) (T := TX10) (N := 20) hx hb hts iwsMX10_lookUp_in10 hown hK hP 0 rfl rfl 6 (by decide) (hts _ hm_m_X10_lookUp_1) (fun _ h9 => h9) rfl dX10_lookUp_37 ?_
      refine lv_iload_n hx hb dX10_lookUp_40 rfl (lv_at hl 1 rfl) ?_
      refine va_iald (cA := kL 2) (n := 40) (f := fL_one) hx hb hK hP 3 2 rfl rfl (vp_in_iff.mpr ⟨(by omega), (by omega)⟩) dX10_lookUp_41 ?_
      refine lv_topi (fun v29 hv29 => ?_)
      have b_v29 : v29.toInt = twL fL_one v2.toInt := by rw [hv29]; exact tw_r
      clear hv29
      refine lv_iload_n hx hb dX10_lookUp_42 rfl (lv_at hl 4 rfl) ?_
      refine W.known (fun hz0 _ => ?_)
      have hFc := allFree hD hS hA
      refine vx_calli (vx_runV (As := [.int v28, .int v29, .int p2]) (rest := []) ⟨hx, hb, hml, hown, hts⟩ (ih_X10_place dC dI hL aL kL hT hM iL_names gL_key fL_kind fL_one fL_two fL_base iL_params fL_paramOver dL_paramOver nL_params fL_paramUnder dL_paramUnder nL_pu gL_over gL_under fL_bound iL_nameAt iL_startAt iL_steps jL_scaleOver jL_scaleUnder hF aF kF dF_tree nF_tree fF_tree aT kT fT_tape dT_tape nT_tape iT_length iT_fault iT_place iT_kind iT_at iT_number jT_name iT_next aM kM iM_stands iM_variables iM_rows iM_goals iM_differents iM_cases fM_from fM_to fM_whole fM_ways iM_plainRows fM_plainRow fM_kept fM_goalOver fM_goalUnder fM_goalMax fM_different V lo (lv + 1) v28 v29 p2 (b_iL_names) b_fL_kind b_fL_two b_fL_base (b_iL_params) (by first | exact b_nL_params | with_reducible assumption | exact ⟨by omega, by omega⟩ | assumption) (by first | with_reducible assumption | omega | (rw [iI_t (by omega) (by omega)]; omega) | assumption) (by first | with_reducible assumption | omega | (rw [iI_t (by omega) (by omega)]; omega) | assumption) (by first | with_reducible assumption | omega | (rw [iI_t (by omega) (by omega)]; omega) | assumption) (by first | exact b_nF_tree | with_reducible assumption | exact ⟨by omega, by omega⟩ | assumption) b_fT_tape (by first | exact b_nT_tape | with_reducible assumption | exact ⟨by omega, by omega⟩ | assumption) (b_iT_length) (b_iT_at) (b_iT_number) (b_iT_next) (by first | with_reducible assumption | omega | assumption) (b_iM_stands) (b_iM_variables) (b_iM_rows) (b_iM_goals) (b_iM_differents) (b_iM_cases) b_fM_ways (b_iM_plainRows) b_fM_plainRow (by first | with_reducible assumption | omega | assumption) (b_p2) (by first | with_reducible assumption | omega | (rw [iI_t (by omega) (by omega)]; omega) | decide | assumption) (by first | with_reducible assumption | omega | (rw [iI_t (by omega) (by omega)]; omega) | decide | assumption) (by first | with_reducible assumption | omega | (rw [iI_t (by omega) (by omega)]; omega) | decide | assumption) (by have h9 : v29.toInt = _ := b_v29; rw [h9]; exact hN2.1.resolve_left (by omega)) (by first | with_reducible assumption | omega | (rw [iI_t (by omega) (by omega)]; omega) | decide | assumption) s.heap.size) (cwV 3 hts gwsMX10_lookUp_0 rfl rfl rfl (by decide +kernel) ⟨by first | decide +kernel | (dsimp only [headSpec] <;> omega), by first | decide +kernel | (dsimp only [headSpec] <;> omega)⟩) (fz_preE (va_recv hK hP (ci := 10) (q0 := 0) rfl rfl) hP hK hD (fun a U g mk qE => qE.call) (fun U hU9 hW => by rw [hU9]; exact (((hE : CE A s s.heap).kept hS.2.1).narrow (fun q h => hFc q h)).warm hW)) rfl rfl hl.1 rfl (lv_room (Nat.le_of_ble_eq_true rfl)) dX10_lookUp_43 ⟨by first | decide +kernel | (dsimp only [headSpec] <;> omega), by first | decide +kernel | (dsimp only [headSpec] <;> omega)⟩) hS (fun q _ h => hFc q h) hFc (fun q _ h => hFc q h) (fun E ce q9 u t9_ H locs ht hvm hw9 hB9 hz1 hk1 hS hc1 hc2 hc3 => ?_) (fun r30 u t9_ H locs ht hvm hw9 hB9 hz1 hk1 hS => ?_)
      · revert u hw9 hB9
        refine fz_p6 ?_
        intro gL_over_30 gL_under_30 fL_bound_30 iL_steps_30 iT_fault_30 iT_place_30 hw9 hB9
        try dsimp only at hw9 hB9
        revert hB9
        refine fz_a2 ?_
        intro hEx hB9
        clear hw9
        have hP : va_P (dC, dI) vwCl (WL hL aL kL hT hM (.ref dF_tree) iL_names gL_key fL_kind fL_one fL_two fL_base iL_params fL_paramOver dL_paramOver nL_params fL_paramUnder dL_paramUnder nL_pu gL_over_30 gL_under_30 fL_bound_30 iL_nameAt iL_startAt iL_steps_30 jL_scaleOver jL_scaleUnder ++ (WF hF aF kF dF_tree nF_tree fF_tree ++ (WT hT aT kT fT_tape dT_tape nT_tape iT_length iT_fault_30 iT_place_30 iT_kind iT_at iT_number jT_name iT_next ++ (WM hM aM kM iM_stands iM_variables iM_rows iM_goals iM_differents iM_cases fM_from fM_to fM_whole fM_ways iM_plainRows fM_plainRow fM_kept fM_goalOver fM_goalUnder fM_goalMax fM_different)))) H := fz_P ht hB9.1
        have hD := fz_sd hP (hB9.2.weaken (fun _ q _ h => hFc q.1 h)) rfl
        exact vx_out (fun x hx9 => (htab x hx9).elim) hlocks hc1 hc2 hc3 (fun t9_ ht hvm => ⟨(gL_over_30, gL_under_30, fL_bound_30, iL_steps_30, iT_fault_30, iT_place_30), trivial, ⟨(by have h9 := hEx; exact h9), by rw [ht]; exact hP, hD⟩, hS.F ht⟩) hS.2.2 (by decide +kernel) (by decide +kernel)
      revert u hw9 hB9
      refine fz_p6 ?_
      intro gL_over_30 gL_under_30 fL_bound_30 iL_steps_30 iT_fault_30 iT_place_30 hw9 hB9
      try dsimp only at hw9 hB9
      revert hw9
      refine fz_a2 ?_
      intro b_r30 f30_0
      have hz8 := hB9.2.2
      rw [ht] at hz8
      have hz9 : H.size ≤ s.heap.size + 0 := by rw [hz8]; exact hz0
      refine W.tight (cells2 := 0) (slots2 := 0) hz9 (nS_0 hz9) ?_
      clear hz8 hz9
      have hP : va_P (dC, dI) vwCl (WL hL aL kL hT hM (.ref dF_tree) iL_names gL_key fL_kind fL_one fL_two fL_base iL_params fL_paramOver dL_paramOver nL_params fL_paramUnder dL_paramUnder nL_pu gL_over_30 gL_under_30 fL_bound_30 iL_nameAt iL_startAt iL_steps_30 jL_scaleOver jL_scaleUnder ++ (WF hF aF kF dF_tree nF_tree fF_tree ++ (WT hT aT kT fT_tape dT_tape nT_tape iT_length iT_fault_30 iT_place_30 iT_kind iT_at iT_number jT_name iT_next ++ (WM hM aM kM iM_stands iM_variables iM_rows iM_goals iM_differents iM_cases fM_from fM_to fM_whole fM_ways iM_plainRows fM_plainRow fM_kept fM_goalOver fM_goalUnder fM_goalMax fM_different)))) H := fz_P ht hB9.1
      have hD := fz_sd hP (hB9.2.1.weaken (fun _ q _ h => hFc q.1 h)) rfl
      have hq1 : r30.toInt < twL fL_two (twL fL_one v2.toInt) := by rw [← b_v29]; exact f30_0
      refine lv_istore hx hb dX10_lookUp_46 hl (by decide) rfl (fun ls (hl : lv_has ls _ ([(5, .int r30), (4, .int v3), (3, .int v2), (0, .ref (hL 0)), (1, .int p1), (2, .int p2)])) => ?_)
      refine lv_aload_n hx hb dX10_lookUp_48 rfl (lv_at hl 3 rfl) ?_
      refine va_get (D := (dC, dI)) (ci := 10) (v := .ref (aL 3)) (C := RX10) (T := TX10) (N := 20) hx hb hts iwsMX10_lookUp_in10 hown hK hP 0 rfl rfl 7 (by decide) (hts _ hm_m_X10_lookUp_2) (fun _ h9 => h9) rfl dX10_lookUp_49 ?_
      refine lv_iload_n hx hb dX10_lookUp_52 rfl (lv_at hl 2 rfl) ?_
      refine va_iald (cA := kL 3) (n := 40) (f := fL_two) hx hb hK hP 4 3 rfl rfl (vp_in_iff.mpr ⟨(by omega), (by omega)⟩) dX10_lookUp_53 ?_
      refine lv_topi (fun v31 hv31 => ?_)
      have b_v31 : (-1) ≤ v31.toInt ∧ v31.toInt ≤ 39 := by rw [hv31]; exact b_fL_two _
      have b1_v31 : v31.toInt = twL fL_two v2.toInt := by rw [hv31]; exact tw_r
      clear hv31
      refine lv_iconst (v := (-1)) hx hb dX10_lookUp_54 (by decide) ?_
      refine W.cut (pc := 94) (fun H locs ls stk => ∃ (gL_over_j7 : Nat → Int64) (gL_under_j7 : Nat → Int64) (fL_bound_j7 : Nat → Int32) (iL_steps_j7 : Int32) (iT_fault_j7 : Int32) (iT_place_j7 : Int32) (l5_j7 : Int32), (0 ≤ l5_j7.toInt ∧ l5_j7.toInt ≤ 143) ∧ (l5_j7.toInt < MeL fL_one fL_two v2.toInt) ∧  stk = [] ∧ va_P (dC, dI) vwCl (WL hL aL kL hT hM (.ref dF_tree) iL_names gL_key fL_kind fL_one fL_two fL_base iL_params fL_paramOver dL_paramOver nL_params fL_paramUnder dL_paramUnder nL_pu gL_over_j7 gL_under_j7 fL_bound_j7 iL_nameAt iL_startAt iL_steps_j7 jL_scaleOver jL_scaleUnder ++ (WF hF aF kF dF_tree nF_tree fF_tree ++ (WT hT aT kT fT_tape dT_tape nT_tape iT_length iT_fault_j7 iT_place_j7 iT_kind iT_at iT_number jT_name iT_next ++ (WM hM aM kM iM_stands iM_variables iM_rows iM_goals iM_differents iM_cases fM_from fM_to fM_whole fM_ways iM_plainRows fM_plainRow fM_kept fM_goalOver fM_goalUnder fM_goalMax fM_different)))) H ∧ va_D A (WL hL aL kL hT hM (.ref dF_tree) iL_names gL_key fL_kind fL_one fL_two fL_base iL_params fL_paramOver dL_paramOver nL_params fL_paramUnder dL_paramUnder nL_pu gL_over_j7 gL_under_j7 fL_bound_j7 iL_nameAt iL_startAt iL_steps_j7 jL_scaleOver jL_scaleUnder ++ (WF hF aF kF dF_tree nF_tree fF_tree ++ (WT hT aT kT fT_tape dT_tape nT_tape iT_length iT_fault_j7 iT_place_j7 iT_kind iT_at iT_number jT_name iT_next ++ (WM hM aM kM iM_stands iM_variables iM_rows iM_goals iM_differents iM_cases fM_from fM_to fM_whole fM_ways iM_plainRows fM_plainRow fM_kept fM_goalOver fM_goalUnder fM_goalMax fM_different)))) ∧ va_S A s.heap H locs ∧ lv_has ls 6 [(5, .int l5_j7), (4, .int v3), (3, .int v2), (0, .ref (hL 0)), (1, .int p1), (2, .int p2)]) (fun join7 => ?_) ?_
      · refine lv_icmp_eq (tgt := 94) hx hb dX10_lookUp_55 (by decide) (fun c_55 => ?_) (fun c_55 => ?_)
        · have t_55 : v31.toInt = (-1) := toI_eq c_55 rfl (by decide : ((-1) : Int32).toInt = (-1))
          have hl : lv_has _ _ ([(5, .int r30), (4, .int v3), (3, .int v2), (0, .ref (hL 0)), (1, .int p1), (2, .int p2)]) := lv_sub hl [0, 1, 2, 3, 4, 5] rfl
          exact join7 _ _ _ _ ⟨gL_over_30, gL_under_30, fL_bound_30, iL_steps_30, iT_fault_30, iT_place_30, r30, (by first | exact b_r30 | with_reducible assumption | exact ⟨by omega, by omega⟩ | assumption), (show r30.toInt < MeL fL_one fL_two v2.toInt from by first | exact MeV_lt1 (fk := fL_kind) (nm := 0) (by omega) (by omega) hq1 | (rw [iI_t (by omega) (by omega)]; exact hq3.2)), rfl, hP, hD, hS, hl⟩
        · have t_55 : ¬ v31.toInt = (-1) := toI_neq c_55 rfl (by decide : ((-1) : Int32).toInt = (-1))
          refine lv_iload hx hb dX10_lookUp_58 (lv_at hl 0 rfl) ?_
          refine lv_aload_n hx hb dX10_lookUp_60 rfl (lv_at hl 3 rfl) ?_
          refine va_get (D := (dC, dI)) (ci := 10) (v := .ref (aL 3)) (C := RX10) (T := TX10) (N := 20) hx hb hts iwsMX10_lookUp_in10 hown hK hP 0 rfl rfl 7 (by decide) (hts _ hm_m_X10_lookUp_2) (fun _ h9 => h9) rfl dX10_lookUp_61 ?_
          refine lv_aload_n hx hb dX10_lookUp_64 rfl (lv_at hl 3 rfl) ?_
          refine va_get (D := (dC, dI)) (ci := 10) (v := .ref (aL 3)) (C := RX10) (T := TX10) (N := 20) hx hb hts iwsMX10_lookUp_in10 hown hK hP 0 rfl rfl 7 (by decide) (hts _ hm_m_X10_lookUp_2) (fun _ h9 => h9) rfl dX10_lookUp_65 ?_
          refine lv_iload_n hx hb dX10_lookUp_68 rfl (lv_at hl 2 rfl) ?_
          refine va_iald (cA := kL 3) (n := 40) (f := fL_two) hx hb hK hP 4 3 rfl rfl (vp_in_iff.mpr ⟨(by omega), (by omega)⟩) dX10_lookUp_69 ?_
          refine lv_topi (fun v40 hv40 => ?_)
          have b_v40 : (-1) ≤ v40.toInt ∧ v40.toInt ≤ 39 := by rw [hv40]; exact b_fL_two _
          have b1_v40 : v40.toInt = twL fL_two v2.toInt := by rw [hv40]; exact tw_r
          clear hv40
          refine va_iald (cA := kL 3) (n := 40) (f := fL_two) hx hb hK hP 4 3 rfl rfl (vp_in_iff.mpr ⟨(by omega), (Int.lt_of_le_of_lt (b_v40.2) (by decide))⟩) dX10_lookUp_70 ?_
          refine lv_topi (fun v41 hv41 => ?_)
          have b_v41 : (-1) ≤ v41.toInt ∧ v41.toInt ≤ 39 := by rw [hv41]; exact b_fL_two _
          have b1_v41 : v41.toInt = twL fL_two v40.toInt := by rw [hv41]; exact tw_r
          have b2_v41 : v41.toInt = twL fL_two (twL fL_two v2.toInt) := by rw [hv41]; exact (by rw [← b1_v40]; exact tw_r)
          clear hv41
          refine lv_imul hx hb dX10_lookUp_71 ?_
          refine lv_topi (fun y42 hy42 => ?_)
          obtain rfl : (iI (r30.toInt * v41.toInt)) = y42 := (hy42.trans (iI_mul2 (iI_of _) (iI_of _))).symm
          refine lv_aload_n hx hb dX10_lookUp_72 rfl (lv_at hl 3 rfl) ?_
          refine lv_aload_n hx hb dX10_lookUp_73 rfl (lv_at hl 3 rfl) ?_
          refine va_get (D := (dC, dI)) (ci := 10) (v := .ref dF_tree) (C := RX10) (T := TX10) (N := 20) hx hb hts iwsMX10_lookUp_in10 hown hK hP 0 rfl rfl 2 (by decide) (hts _ hm_m_X10_lookUp_0) (fun _ h9 => h9) rfl dX10_lookUp_74 ?_
          refine lv_iload_n hx hb dX10_lookUp_77 rfl (lv_at hl 4 rfl) ?_
          refine lv_iconst (v := 5) hx hb dX10_lookUp_78 (by decide) ?_
          refine lv_iadd hx hb dX10_lookUp_79 ?_
          refine lv_topi (fun y43 hy43 => ?_)
          obtain rfl : (iI (p1.toInt + 5)) = y43 := (hy43.trans (iI_add2 (iI_of _) (by decide : (5 : Int32) = iI 5))).symm
          refine va_iald (cA := kF 0) (n := nF_tree) (f := fF_tree) hx hb hK hP 11 10 rfl rfl (vp_iI (by omega) (by omega) (by omega)) dX10_lookUp_80 ?_
          refine lv_topi (fun v44 hv44 => ?_)
          have b_v44 : v44.toInt = twL fF_tree (p1.toInt + 5) := by rw [hv44]; exact tw_i (by omega) (by omega)
          have b1_v44 : V v44.toInt 1 (lv + 1) := by rw [hv44]; exact Vld (tw_i (by omega) (by omega)) ((hc.2.2.2 (by omega)).2 (by omega))
          clear hv44
          refine lv_aload_n hx hb dX10_lookUp_81 rfl (lv_at hl 3 rfl) ?_
          refine va_get (D := (dC, dI)) (ci := 10) (v := .ref (aL 3)) (C := RX10) (T := TX10) (N := 20) hx hb hts iwsMX10_lookUp_in10 hown hK hP 0 rfl rfl 7 (by decide) (hts _ hm_m_X10_lookUp_2) (fun _ h9 => h9) rfl dX10_lookUp_82 ?_
          refine lv_iload_n hx hb dX10_lookUp_85 rfl (lv_at hl 2 rfl) ?_
          refine va_iald (cA := kL 3) (n := 40) (f := fL_two) hx hb hK hP 4 3 rfl rfl (vp_in_iff.mpr ⟨(by omega), (by omega)⟩) dX10_lookUp_86 ?_
          refine lv_topi (fun v45 hv45 => ?_)
          have b_v45 : (-1) ≤ v45.toInt ∧ v45.toInt ≤ 39 := by rw [hv45]; exact b_fL_two _
          have b1_v45 : v45.toInt = twL fL_two v2.toInt := by rw [hv45]; exact tw_r
          clear hv45
          refine lv_iload_n hx hb dX10_lookUp_87 rfl (lv_at hl 5 rfl) ?_
          refine W.known (fun hz0 _ => ?_)
          have hFc := allFree hD hS hA
          refine vx_calli (vx_runV (As := [.int v44, .int v45, .int p2]) (rest := [.int (iI (r30.toInt * v41.toInt))]) ⟨hx, hb, hml, hown, hts⟩ (ih_X10_place dC dI hL aL kL hT hM iL_names gL_key fL_kind fL_one fL_two fL_base iL_params fL_paramOver dL_paramOver nL_params fL_paramUnder dL_paramUnder nL_pu gL_over_30 gL_under_30 fL_bound_30 iL_nameAt iL_startAt iL_steps_30 jL_scaleOver jL_scaleUnder hF aF kF dF_tree nF_tree fF_tree aT kT fT_tape dT_tape nT_tape iT_length iT_fault_30 iT_place_30 iT_kind iT_at iT_number jT_name iT_next aM kM iM_stands iM_variables iM_rows iM_goals iM_differents iM_cases fM_from fM_to fM_whole fM_ways iM_plainRows fM_plainRow fM_kept fM_goalOver fM_goalUnder fM_goalMax fM_different V lo (lv + 1) v44 v45 p2 (b_iL_names) b_fL_kind b_fL_two b_fL_base (b_iL_params) (by first | exact b_nL_params | with_reducible assumption | exact ⟨by omega, by omega⟩ | assumption) (by first | with_reducible assumption | omega | (rw [iI_t (by omega) (by omega)]; omega) | assumption) (by first | with_reducible assumption | omega | (rw [iI_t (by omega) (by omega)]; omega) | assumption) (by first | with_reducible assumption | omega | (rw [iI_t (by omega) (by omega)]; omega) | assumption) (by first | exact b_nF_tree | with_reducible assumption | exact ⟨by omega, by omega⟩ | assumption) b_fT_tape (by first | exact b_nT_tape | with_reducible assumption | exact ⟨by omega, by omega⟩ | assumption) (b_iT_length) (b_iT_at) (b_iT_number) (b_iT_next) (by first | with_reducible assumption | omega | assumption) (b_iM_stands) (b_iM_variables) (b_iM_rows) (b_iM_goals) (b_iM_differents) (b_iM_cases) b_fM_ways (b_iM_plainRows) b_fM_plainRow (by first | with_reducible assumption | omega | assumption) (b_p2) (by first | with_reducible assumption | omega | (rw [iI_t (by omega) (by omega)]; omega) | decide | assumption) (by first | with_reducible assumption | omega | (rw [iI_t (by omega) (by omega)]; omega) | decide | assumption) (by first | with_reducible assumption | omega | (rw [iI_t (by omega) (by omega)]; omega) | decide | assumption) (by have h9 : v45.toInt = _ := b1_v45; rw [h9]; exact hN2.2.resolve_left (by omega)) (by first | with_reducible assumption | omega | (rw [iI_t (by omega) (by omega)]; omega) | decide | assumption) H.size) (cwV 3 hts gwsMX10_lookUp_0 rfl rfl rfl (by decide +kernel) ⟨by first | decide +kernel | (dsimp only [headSpec] <;> omega), by first | decide +kernel | (dsimp only [headSpec] <;> omega)⟩) (fz_preE (va_recv hK hP (ci := 10) (q0 := 0) rfl rfl) hP hK hD (fun a U g mk qE => qE.call) (fun U hU9 hW => by rw [hU9]; exact (((hE : CE A s s.heap).kept hS.2.1).narrow (fun q h => hFc q h)).warm hW)) rfl rfl hl.1 rfl (lv_room (Nat.le_of_ble_eq_true rfl)) dX10_lookUp_88 ⟨by first | decide +kernel | (dsimp only [headSpec] <;> omega), by first | decide +kernel | (dsimp only [headSpec] <;> omega)⟩) hS (fun q _ h => hFc q h) hFc (fun q _ h => hFc q h) (fun E ce q9 u t9_ H locs ht hvm hw9 hB9 hz1 hk1 hS hc1 hc2 hc3 => ?_) (fun r46 u t9_ H locs ht hvm hw9 hB9 hz1 hk1 hS => ?_)
          · revert u hw9 hB9
            refine fz_p6 ?_
            intro gL_over_46 gL_under_46 fL_bound_46 iL_steps_46 iT_fault_46 iT_place_46 hw9 hB9
            try dsimp only at hw9 hB9
            revert hB9
            refine fz_a2 ?_
            intro hEx hB9
            clear hw9
            have hP : va_P (dC, dI) vwCl (WL hL aL kL hT hM (.ref dF_tree) iL_names gL_key fL_kind fL_one fL_two fL_base iL_params fL_paramOver dL_paramOver nL_params fL_paramUnder dL_paramUnder nL_pu gL_over_46 gL_under_46 fL_bound_46 iL_nameAt iL_startAt iL_steps_46 jL_scaleOver jL_scaleUnder ++ (WF hF aF kF dF_tree nF_tree fF_tree ++ (WT hT aT kT fT_tape dT_tape nT_tape iT_length iT_fault_46 iT_place_46 iT_kind iT_at iT_number jT_name iT_next ++ (WM hM aM kM iM_stands iM_variables iM_rows iM_goals iM_differents iM_cases fM_from fM_to fM_whole fM_ways iM_plainRows fM_plainRow fM_kept fM_goalOver fM_goalUnder fM_goalMax fM_different)))) H := fz_P ht hB9.1
            have hD := fz_sd hP (hB9.2.weaken (fun _ q _ h => hFc q.1 h)) rfl
            exact vx_out (fun x hx9 => (htab x hx9).elim) hlocks hc1 hc2 hc3 (fun t9_ ht hvm => ⟨(gL_over_46, gL_under_46, fL_bound_46, iL_steps_46, iT_fault_46, iT_place_46), trivial, ⟨(by have h9 := hEx; exact h9), by rw [ht]; exact hP, hD⟩, hS.F ht⟩) hS.2.2 (by decide +kernel) (by decide +kernel)
          revert u hw9 hB9
          refine fz_p6 ?_
          intro gL_over_46 gL_under_46 fL_bound_46 iL_steps_46 iT_fault_46 iT_place_46 hw9 hB9
          try dsimp only at hw9 hB9
          revert hw9
          refine fz_a2 ?_
          intro b_r46 f46_0
          have hz8 := hB9.2.2
          rw [ht] at hz8
          have hz9 : H.size ≤ s.heap.size + 0 := by rw [hz8]; exact hz0
          refine W.tight (cells2 := 0) (slots2 := 0) hz9 (nS_0 hz9) ?_
          clear hz8 hz9
          have hP : va_P (dC, dI) vwCl (WL hL aL kL hT hM (.ref dF_tree) iL_names gL_key fL_kind fL_one fL_two fL_base iL_params fL_paramOver dL_paramOver nL_params fL_paramUnder dL_paramUnder nL_pu gL_over_46 gL_under_46 fL_bound_46 iL_nameAt iL_startAt iL_steps_46 jL_scaleOver jL_scaleUnder ++ (WF hF aF kF dF_tree nF_tree fF_tree ++ (WT hT aT kT fT_tape dT_tape nT_tape iT_length iT_fault_46 iT_place_46 iT_kind iT_at iT_number jT_name iT_next ++ (WM hM aM kM iM_stands iM_variables iM_rows iM_goals iM_differents iM_cases fM_from fM_to fM_whole fM_ways iM_plainRows fM_plainRow fM_kept fM_goalOver fM_goalUnder fM_goalMax fM_different)))) H := fz_P ht hB9.1
          have hD := fz_sd hP (hB9.2.1.weaken (fun _ q _ h => hFc q.1 h)) rfl
          have hq2 : r46.toInt < twL fL_two (twL fL_two v2.toInt) := by rw [← b1_v45]; exact f46_0
          have hq3 := MeV_lt2 (by omega : ¬ twL fL_one v2.toInt = -1) (by omega : ¬ twL fL_two v2.toInt = -1) hN2.1 hN2.2 b_r30.1 hq1 b_r46.1 hq2
          rw [← b2_v41] at hq3
          refine lv_iadd hx hb dX10_lookUp_91 ?_
          refine lv_topi (fun y47 hy47 => ?_)
          obtain rfl : (iI ((r30.toInt * v41.toInt) + r46.toInt)) = y47 := (hy47.trans (iI_add2 rfl (iI_of _))).symm
          refine lv_istore hx hb dX10_lookUp_92 hl (by decide) rfl (fun ls (hl : lv_has ls _ ([(5, .int (iI ((r30.toInt * v41.toInt) + r46.toInt))), (4, .int v3), (3, .int v2), (0, .ref (hL 0)), (1, .int p1), (2, .int p2)])) => ?_)
          have hl : lv_has _ _ ([(5, .int (iI ((r30.toInt * v41.toInt) + r46.toInt))), (4, .int v3), (3, .int v2), (0, .ref (hL 0)), (1, .int p1), (2, .int p2)]) := lv_sub hl [0, 1, 2, 3, 4, 5] rfl
          exact join7 _ _ _ _ ⟨gL_over_46, gL_under_46, fL_bound_46, iL_steps_46, iT_fault_46, iT_place_46, (iI ((r30.toInt * v41.toInt) + r46.toInt)), (iI_rng (by omega) (by omega) (by decide) (by decide)), (show (iI ((r30.toInt * v41.toInt) + r46.toInt)).toInt < MeL fL_one fL_two v2.toInt from by first | exact MeV_lt1 (fk := fL_kind) (nm := 0) (by omega) (by omega) hq1 | (rw [iI_t (by omega) (by omega)]; exact hq3.2)), rfl, hP, hD, hS, hl⟩
      · intro H locs ls stk
        refine fz_e7 ?_
        intro gL_over_j7 gL_under_j7 fL_bound_j7 iL_steps_j7 iT_fault_j7 iT_place_j7 l5_j7
        refine fz_a7 ?_
        intro b_l5_j7 hof hst9_2 hP hD hS hl
        subst hst9_2
        refine lv_iload hx hb dX10_lookUp_94 (lv_at hl 1 rfl) ?_
        refine lv_iload hx hb dX10_lookUp_96 (lv_at hl 0 rfl) ?_
        refine lv_iadd hx hb dX10_lookUp_98 ?_
        refine lv_topi (fun y48 hy48 => ?_)
        obtain rfl : (iI (v3.toInt + l5_j7.toInt)) = y48 := (hy48.trans (iI_add2 (iI_of _) (iI_of _))).symm
        refine lv_istore hx hb dX10_lookUp_99 hl (by decide) rfl (fun ls (hl : lv_has ls _ ([(4, .int (iI (v3.toInt + l5_j7.toInt))), (5, .int l5_j7), (3, .int v2), (0, .ref (hL 0)), (1, .int p1), (2, .int p2)])) => ?_)
        have hl : lv_has _ _ ([(4, .int (iI (v3.toInt + l5_j7.toInt))), (3, .int v2), (0, .ref (hL 0)), (1, .int p1), (2, .int p2)]) := lv_sub hl [0, 2, 3, 4, 5] rfl
        exact join6 _ _ _ _ ⟨gL_over_j7, gL_under_j7, fL_bound_j7, iL_steps_j7, iT_fault_j7, iT_place_j7, (iI (v3.toInt + l5_j7.toInt)), (iI_rng (Int.le_trans (by decide) (Int.add_le_add (b_v3.1) (b_l5_j7.1))) (Int.le_trans (Int.add_le_add (b_v3.2) (b_l5_j7.2)) (by decide)) (by decide) (by decide)), (show (twL fL_kind v2.toInt = 2 → (iI (v3.toInt + l5_j7.toInt)).toInt < ((nL_params : Nat) : Int)) ∧ (twL fL_kind v2.toInt ≠ 2 → (iI (v3.toInt + l5_j7.toInt)).toInt < 8) from ⟨fun h => by have h8 := hN.2.2.1 h; (try rw [iI_t (by omega) (by omega)]); omega, fun h => by have h8 := hN.2.2.2 hc.2.2.1.1 h hc.2.2.1.2; (try rw [iI_t (by omega) (by omega)]); omega⟩), rfl, hP, hD, hS, hl⟩
  · intro H locs ls stk
    refine fz_e7 ?_
    intro gL_over_j6 gL_under_j6 fL_bound_j6 iL_steps_j6 iT_fault_j6 iT_place_j6 l4_j6
    refine fz_a7 ?_
    intro b_l4_j6 hat hst9_2 hP hD hS hl
    subst hst9_2
    refine lv_aload_n hx hb dX10_lookUp_101 rfl (lv_at hl 2 rfl) ?_
    refine va_get (D := (dC, dI)) (ci := 10) (v := .ref (aL 1)) (C := RX10) (T := TX10) (N := 20) hx hb hts iwsMX10_lookUp_in10 hown hK hP 0 rfl rfl 5 (by decide) (hts (.fieldLink RX10 17 "OptimaWorks$Worker" "kind" "[I") (by decide +kernel)) (fun _ h9 => h9) rfl dX10_lookUp_102 ?_
    refine lv_iload_n hx hb dX10_lookUp_105 rfl (lv_at hl 1 rfl) ?_
    refine va_iald (cA := kL 1) (n := 40) (f := fL_kind) hx hb hK hP 2 1 rfl rfl (vp_in_iff.mpr ⟨(by omega), (by omega)⟩) dX10_lookUp_106 ?_
    refine lv_topi (fun v49 hv49 => ?_)
    have b_v49 : 0 ≤ v49.toInt ∧ v49.toInt ≤ 5 := by rw [hv49]; exact b_fL_kind _
    have b1_v49 : v49.toInt = twL fL_kind v2.toInt := by rw [hv49]; exact tw_r
    clear hv49
    refine lv_iconst (v := 2) hx hb dX10_lookUp_107 (by decide) ?_
    refine W.cut (pc := 157) (fun H locs ls stk => ∃ (gL_over_j8 : Nat → Int64) (gL_under_j8 : Nat → Int64),  stk = [] ∧ va_P (dC, dI) vwCl (WL hL aL kL hT hM (.ref dF_tree) iL_names gL_key fL_kind fL_one fL_two fL_base iL_params fL_paramOver dL_paramOver nL_params fL_paramUnder dL_paramUnder nL_pu gL_over_j8 gL_under_j8 fL_bound_j6 iL_nameAt iL_startAt iL_steps_j6 jL_scaleOver jL_scaleUnder ++ (WF hF aF kF dF_tree nF_tree fF_tree ++ (WT hT aT kT fT_tape dT_tape nT_tape iT_length iT_fault_j6 iT_place_j6 iT_kind iT_at iT_number jT_name iT_next ++ (WM hM aM kM iM_stands iM_variables iM_rows iM_goals iM_differents iM_cases fM_from fM_to fM_whole fM_ways iM_plainRows fM_plainRow fM_kept fM_goalOver fM_goalUnder fM_goalMax fM_different)))) H ∧ va_D A (WL hL aL kL hT hM (.ref dF_tree) iL_names gL_key fL_kind fL_one fL_two fL_base iL_params fL_paramOver dL_paramOver nL_params fL_paramUnder dL_paramUnder nL_pu gL_over_j8 gL_under_j8 fL_bound_j6 iL_nameAt iL_startAt iL_steps_j6 jL_scaleOver jL_scaleUnder ++ (WF hF aF kF dF_tree nF_tree fF_tree ++ (WT hT aT kT fT_tape dT_tape nT_tape iT_length iT_fault_j6 iT_place_j6 iT_kind iT_at iT_number jT_name iT_next ++ (WM hM aM kM iM_stands iM_variables iM_rows iM_goals iM_differents iM_cases fM_from fM_to fM_whole fM_ways iM_plainRows fM_plainRow fM_kept fM_goalOver fM_goalUnder fM_goalMax fM_different)))) ∧ va_S A s.heap H locs ∧ lv_has ls 6 [(4, .int l4_j6), (3, .int v2), (0, .ref (hL 0)), (1, .int p1), (2, .int p2)]) (fun join8 => ?_) ?_
    · refine lv_icmp_ne (tgt := 135) hx hb dX10_lookUp_108 (by decide) (fun c_108 => ?_) (fun c_108 => ?_)
      · have t_108 : v49.toInt ≠ 2 := toI_ne c_108 rfl (by decide : (2 : Int32).toInt = 2)
        refine lv_aload_n hx hb dX10_lookUp_135 rfl (lv_at hl 2 rfl) ?_
        refine lv_iload_n hx hb dX10_lookUp_136 rfl (lv_at hl 4 rfl) ?_
        refine lv_lconst (v := 0) hx hb dX10_lookUp_137 (by decide) ?_
        refine lv_lconst (v := 1) hx hb dX10_lookUp_138 (by decide) ?_
        have p9 := cj_4_0_3 (WL hL aL kL hT hM (.ref dF_tree) iL_names gL_key fL_kind fL_one fL_two fL_base iL_params fL_paramOver dL_paramOver nL_params fL_paramUnder dL_paramUnder nL_pu gL_over_j6 gL_under_j6 fL_bound_j6 iL_nameAt iL_startAt iL_steps_j6 jL_scaleOver jL_scaleUnder) (WF hF aF kF dF_tree nF_tree fF_tree) (WT hT aT kT fT_tape dT_tape nT_tape iT_length iT_fault_j6 iT_place_j6 iT_kind iT_at iT_number jT_name iT_next) (WM hM aM kM iM_stands iM_variables iM_rows iM_goals iM_differents iM_cases fM_from fM_to fM_whole fM_ways iM_plainRows fM_plainRow fM_kept fM_goalOver fM_goalUnder fM_goalMax fM_different)
        have hPc := hP.mem (fun q h => p9.mem_iff.mpr (List.mem_append_left _ h))
        have hDc := (hD.perm p9).left
        have hKc : va_K (dC, dI) vwCl (tL kL ++ (tM kM)) _ := hK.sub [0, 1, 2, 3, 4, 5, 6, 7, 8, 9, 12, 13, 14, 15, 16, 17, 18, 19, 20, 21] rfl
        have hFc := freeG p9 hD hS hA
        refine va_callv (va_runV (As := [.int p2, .long 0, .long 1]) (rest := []) ⟨hx, hb, hml, hown, hts⟩ (m_X10_setNumber l dC dI hL aL kL hT hM (.ref dF_tree) iL_names gL_key fL_kind fL_one fL_two fL_base iL_params fL_paramOver dL_paramOver nL_params fL_paramUnder dL_paramUnder nL_pu gL_over_j6 gL_under_j6 fL_bound_j6 iL_nameAt iL_startAt iL_steps_j6 jL_scaleOver jL_scaleUnder aM kM iM_stands iM_variables iM_rows iM_goals iM_differents iM_cases fM_from fM_to fM_whole fM_ways iM_plainRows fM_plainRow fM_kept fM_goalOver fM_goalUnder fM_goalMax fM_different p2 0 1 (b_iL_names) b_fL_kind b_fL_two b_fL_base (b_iL_params) (by first | exact b_nL_params | with_reducible assumption | exact ⟨by omega, by omega⟩ | assumption) (by first | with_reducible assumption | omega | (rw [iI_t (by omega) (by omega)]; omega) | assumption) (by first | with_reducible assumption | omega | (rw [iI_t (by omega) (by omega)]; omega) | assumption) (by first | with_reducible assumption | omega | (rw [iI_t (by omega) (by omega)]; omega) | assumption) (b_iM_stands) (b_iM_variables) (b_iM_rows) (b_iM_goals) (b_iM_differents) (b_iM_cases) b_fM_ways (b_iM_plainRows) b_fM_plainRow (by first | with_reducible assumption | omega | assumption) (b_p2) H.size) (cwV 3 hts gwsMX10_lookUp_1 rfl rfl rfl (by decide +kernel) ⟨by first | decide +kernel | (dsimp only [headSpec] <;> omega), by first | decide +kernel | (dsimp only [headSpec] <;> omega)⟩) (fz_pre (va_recv hK hP (ci := 10) (q0 := 0) rfl rfl) hPc hKc hDc) rfl rfl hl.1 rfl (lv_room (Nat.le_of_ble_eq_true rfl)) dX10_lookUp_139 ⟨by first | decide +kernel | (dsimp only [headSpec] <;> omega), by first | decide +kernel | (dsimp only [headSpec] <;> omega)⟩) hS (fun q _ h => hFc q h) hFc (fun u t9_ H locs ht hvm hw9 hB9 hz1 hk1 hS => ?_)
        revert u hw9 hB9
        refine fz_p2 ?_
        intro gL_over_60 gL_under_60 hw9 hB9
        try dsimp only at hw9 hB9
        clear hw9
        have p8 := cj_4_0_3 (WL hL aL kL hT hM (.ref dF_tree) iL_names gL_key fL_kind fL_one fL_two fL_base iL_params fL_paramOver dL_paramOver nL_params fL_paramUnder dL_paramUnder nL_pu gL_over_60 gL_under_60 fL_bound_j6 iL_nameAt iL_startAt iL_steps_j6 jL_scaleOver jL_scaleUnder) (WF hF aF kF dF_tree nF_tree fF_tree) (WT hT aT kT fT_tape dT_tape nT_tape iT_length iT_fault_j6 iT_place_j6 iT_kind iT_at iT_number jT_name iT_next) (WM hM aM kM iM_stands iM_variables iM_rows iM_goals iM_differents iM_cases fM_from fM_to fM_whole fM_ways iM_plainRows fM_plainRow fM_kept fM_goalOver fM_goalUnder fM_goalMax fM_different)
        obtain ⟨hP, hD⟩ := frameG p9 p8 hP hD hk1 hFc (fz_P ht hB9.1) hB9.2
        refine lv_aload_n hx hb dX10_lookUp_142 rfl (lv_at hl 2 rfl) ?_
        refine va_get (D := (dC, dI)) (ci := 10) (v := .ref (aL 7)) (C := RX10) (T := TX10) (N := 20) hx hb hts iwsMX10_lookUp_in10 hown hK hP 0 rfl rfl 12 (by decide) (hts (.fieldLink RX10 36 "OptimaWorks$Worker" "over" "[J") (by decide +kernel)) (fun _ h9 => h9) rfl dX10_lookUp_143 ?_
        refine lv_iload_n hx hb dX10_lookUp_146 rfl (lv_at hl 4 rfl) ?_
        refine lv_bipush (v := 9) hx hb dX10_lookUp_147 (by decide) ?_
        refine lv_imul hx hb dX10_lookUp_149 ?_
        refine lv_topi (fun y61 hy61 => ?_)
        obtain rfl : (iI (p2.toInt * 9)) = y61 := (hy61.trans (iI_mul2 (iI_of _) (by decide : (9 : Int32) = iI 9))).symm
        refine lv_iconst (v := 1) hx hb dX10_lookUp_150 (by decide) ?_
        refine lv_iadd hx hb dX10_lookUp_151 ?_
        refine lv_topi (fun y62 hy62 => ?_)
        obtain rfl : (iI ((p2.toInt * 9) + 1)) = y62 := (hy62.trans (iI_add2 rfl (by decide : (1 : Int32) = iI 1))).symm
        refine lv_iload hx hb dX10_lookUp_152 (lv_at hl 0 rfl) ?_
        refine lv_iadd hx hb dX10_lookUp_154 ?_
        refine lv_topi (fun y63 hy63 => ?_)
        obtain rfl : (iI (((p2.toInt * 9) + 1) + l4_j6.toInt)) = y63 := (hy63.trans (iI_add2 rfl (iI_of _))).symm
        refine lv_lconst (v := 1) hx hb dX10_lookUp_155 (by decide) ?_
        refine va_last (cA := kL 7) (n := 360) (f := gL_over_60) hx hb hK hP hD hS 8 7 rfl rfl (vp_iI (by omega) (by omega) (by decide)) dX10_lookUp_156 (fun H locs hP hD hS => ?_)
        obtain ⟨u64, hu64⟩ : ∃ f9, f9 = vp_updL gL_over_60 ((iI (((p2.toInt * 9) + 1) + l4_j6.toInt))).toNatClampNeg (1 : Int64) := ⟨_, rfl⟩
        have hP : va_P (dC, dI) vwCl (WL hL aL kL hT hM (.ref dF_tree) iL_names gL_key fL_kind fL_one fL_two fL_base iL_params fL_paramOver dL_paramOver nL_params fL_paramUnder dL_paramUnder nL_pu u64 gL_under_60 fL_bound_j6 iL_nameAt iL_startAt iL_steps_j6 jL_scaleOver jL_scaleUnder ++ (WF hF aF kF dF_tree nF_tree fF_tree ++ (WT hT aT kT fT_tape dT_tape nT_tape iT_length iT_fault_j6 iT_place_j6 iT_kind iT_at iT_number jT_name iT_next ++ (WM hM aM kM iM_stands iM_variables iM_rows iM_goals iM_differents iM_cases fM_from fM_to fM_whole fM_ways iM_plainRows fM_plainRow fM_kept fM_goalOver fM_goalUnder fM_goalMax fM_different)))) H := by rw [hu64]; exact hP
        have hD : va_D A (WL hL aL kL hT hM (.ref dF_tree) iL_names gL_key fL_kind fL_one fL_two fL_base iL_params fL_paramOver dL_paramOver nL_params fL_paramUnder dL_paramUnder nL_pu u64 gL_under_60 fL_bound_j6 iL_nameAt iL_startAt iL_steps_j6 jL_scaleOver jL_scaleUnder ++ (WF hF aF kF dF_tree nF_tree fF_tree ++ (WT hT aT kT fT_tape dT_tape nT_tape iT_length iT_fault_j6 iT_place_j6 iT_kind iT_at iT_number jT_name iT_next ++ (WM hM aM kM iM_stands iM_variables iM_rows iM_goals iM_differents iM_cases fM_from fM_to fM_whole fM_ways iM_plainRows fM_plainRow fM_kept fM_goalOver fM_goalUnder fM_goalMax fM_different)))) := by rw [hu64]; exact hD
        clear hu64
        have hl : lv_has _ _ ([(4, .int l4_j6), (3, .int v2), (0, .ref (hL 0)), (1, .int p1), (2, .int p2)]) := lv_sub hl [0, 1, 2, 3, 4] rfl
        exact join8 _ _ _ _ ⟨u64, gL_under_60, rfl, hP, hD, hS, hl⟩
      · have t_108 : v49.toInt = 2 := toI_nne c_108 rfl (by decide : (2 : Int32).toInt = 2)
        refine lv_aload_n hx hb dX10_lookUp_111 rfl (lv_at hl 2 rfl) ?_
        refine lv_iload_n hx hb dX10_lookUp_112 rfl (lv_at hl 4 rfl) ?_
        refine lv_aload_n hx hb dX10_lookUp_113 rfl (lv_at hl 2 rfl) ?_
        refine va_get (D := (dC, dI)) (ci := 10) (v := .ref dL_paramOver) (C := RX10) (T := TX10) (N := 20) hx hb hts iwsMX10_lookUp_in10 hown hK hP 0 rfl rfl 10 (by decide) (hts (.fieldLink RX10 30 "OptimaWorks$Worker" "paramOver" "[I") (by decide +kernel)) (fun _ h9 => h9) rfl dX10_lookUp_114 ?_
        refine lv_iload hx hb dX10_lookUp_117 (lv_at hl 0 rfl) ?_
        refine va_iald (cA := kL 5) (n := nL_params) (f := fL_paramOver) hx hb hK hP 6 5 rfl rfl (vp_in_iff.mpr ⟨(by omega), (by omega)⟩) dX10_lookUp_119 ?_
        refine lv_topi (fun v65 hv65 => ?_)
        clear hv65
        refine lv_i2l hx hb dX10_lookUp_120 rfl ?_
        refine lv_topl (fun v66 hv66 => ?_)
        clear hv66
        refine lv_aload_n hx hb dX10_lookUp_121 rfl (lv_at hl 2 rfl) ?_
        refine va_get (D := (dC, dI)) (ci := 10) (v := .ref dL_paramUnder) (C := RX10) (T := TX10) (N := 20) hx hb hts iwsMX10_lookUp_in10 hown hK hP 0 rfl rfl 11 (by decide) (hts (.fieldLink RX10 33 "OptimaWorks$Worker" "paramUnder" "[I") (by decide +kernel)) (fun _ h9 => h9) rfl dX10_lookUp_122 ?_
        refine lv_iload hx hb dX10_lookUp_125 (lv_at hl 0 rfl) ?_
        refine va_iald (cA := kL 6) (n := nL_pu) (f := fL_paramUnder) hx hb hK hP 7 6 rfl rfl (vp_in_iff.mpr ⟨(by omega), (by omega)⟩) dX10_lookUp_127 ?_
        refine lv_topi (fun v67 hv67 => ?_)
        clear hv67
        refine lv_i2l hx hb dX10_lookUp_128 rfl ?_
        refine lv_topl (fun v68 hv68 => ?_)
        clear hv68
        have p9 := cj_4_0_3 (WL hL aL kL hT hM (.ref dF_tree) iL_names gL_key fL_kind fL_one fL_two fL_base iL_params fL_paramOver dL_paramOver nL_params fL_paramUnder dL_paramUnder nL_pu gL_over_j6 gL_under_j6 fL_bound_j6 iL_nameAt iL_startAt iL_steps_j6 jL_scaleOver jL_scaleUnder) (WF hF aF kF dF_tree nF_tree fF_tree) (WT hT aT kT fT_tape dT_tape nT_tape iT_length iT_fault_j6 iT_place_j6 iT_kind iT_at iT_number jT_name iT_next) (WM hM aM kM iM_stands iM_variables iM_rows iM_goals iM_differents iM_cases fM_from fM_to fM_whole fM_ways iM_plainRows fM_plainRow fM_kept fM_goalOver fM_goalUnder fM_goalMax fM_different)
        have hPc := hP.mem (fun q h => p9.mem_iff.mpr (List.mem_append_left _ h))
        have hDc := (hD.perm p9).left
        have hKc : va_K (dC, dI) vwCl (tL kL ++ (tM kM)) _ := hK.sub [0, 1, 2, 3, 4, 5, 6, 7, 8, 9, 12, 13, 14, 15, 16, 17, 18, 19, 20, 21] rfl
        have hFc := freeG p9 hD hS hA
        refine va_callv (va_runV (As := [.int p2, .long v66, .long v68]) (rest := []) ⟨hx, hb, hml, hown, hts⟩ (m_X10_setNumber l dC dI hL aL kL hT hM (.ref dF_tree) iL_names gL_key fL_kind fL_one fL_two fL_base iL_params fL_paramOver dL_paramOver nL_params fL_paramUnder dL_paramUnder nL_pu gL_over_j6 gL_under_j6 fL_bound_j6 iL_nameAt iL_startAt iL_steps_j6 jL_scaleOver jL_scaleUnder aM kM iM_stands iM_variables iM_rows iM_goals iM_differents iM_cases fM_from fM_to fM_whole fM_ways iM_plainRows fM_plainRow fM_kept fM_goalOver fM_goalUnder fM_goalMax fM_different p2 v66 v68 (b_iL_names) b_fL_kind b_fL_two b_fL_base (b_iL_params) (by first | exact b_nL_params | with_reducible assumption | exact ⟨by omega, by omega⟩ | assumption) (by first | with_reducible assumption | omega | (rw [iI_t (by omega) (by omega)]; omega) | assumption) (by first | with_reducible assumption | omega | (rw [iI_t (by omega) (by omega)]; omega) | assumption) (by first | with_reducible assumption | omega | (rw [iI_t (by omega) (by omega)]; omega) | assumption) (b_iM_stands) (b_iM_variables) (b_iM_rows) (b_iM_goals) (b_iM_differents) (b_iM_cases) b_fM_ways (b_iM_plainRows) b_fM_plainRow (by first | with_reducible assumption | omega | assumption) (b_p2) H.size) (cwV 3 hts gwsMX10_lookUp_1 rfl rfl rfl (by decide +kernel) ⟨by first | decide +kernel | (dsimp only [headSpec] <;> omega), by first | decide +kernel | (dsimp only [headSpec] <;> omega)⟩) (fz_pre (va_recv hK hP (ci := 10) (q0 := 0) rfl rfl) hPc hKc hDc) rfl rfl hl.1 rfl (lv_room (Nat.le_of_ble_eq_true rfl)) dX10_lookUp_129 ⟨by first | decide +kernel | (dsimp only [headSpec] <;> omega), by first | decide +kernel | (dsimp only [headSpec] <;> omega)⟩) hS (fun q _ h => hFc q h) hFc (fun u t9_ H locs ht hvm hw9 hB9 hz1 hk1 hS => ?_)
        revert u hw9 hB9
        refine fz_p2 ?_
        intro gL_over_69 gL_under_69 hw9 hB9
        try dsimp only at hw9 hB9
        clear hw9
        have p8 := cj_4_0_3 (WL hL aL kL hT hM (.ref dF_tree) iL_names gL_key fL_kind fL_one fL_two fL_base iL_params fL_paramOver dL_paramOver nL_params fL_paramUnder dL_paramUnder nL_pu gL_over_69 gL_under_69 fL_bound_j6 iL_nameAt iL_startAt iL_steps_j6 jL_scaleOver jL_scaleUnder) (WF hF aF kF dF_tree nF_tree fF_tree) (WT hT aT kT fT_tape dT_tape nT_tape iT_length iT_fault_j6 iT_place_j6 iT_kind iT_at iT_number jT_name iT_next) (WM hM aM kM iM_stands iM_variables iM_rows iM_goals iM_differents iM_cases fM_from fM_to fM_whole fM_ways iM_plainRows fM_plainRow fM_kept fM_goalOver fM_goalUnder fM_goalMax fM_different)
        obtain ⟨hP, hD⟩ := frameG p9 p8 hP hD hk1 hFc (fz_P ht hB9.1) hB9.2
        refine lv_goto (tgt := 157) hx hb dX10_lookUp_132 (by decide) ?_
        have hl : lv_has _ _ ([(4, .int l4_j6), (3, .int v2), (0, .ref (hL 0)), (1, .int p1), (2, .int p2)]) := lv_sub hl [0, 1, 2, 3, 4] rfl
        exact join8 _ _ _ _ ⟨gL_over_69, gL_under_69, rfl, hP, hD, hS, hl⟩
    · rintro H locs ls stk ⟨gL_over_j8, gL_under_j8, rfl, hP, hD, hS, hl⟩
      refine vx_ret ?_
      refine W.known (fun hz9 _ => ?_)
      refine W.widen (k := 1) (n := 6) (by decide +kernel) (by decide +kernel) ?_
      exact W.vret hx hb hr (fun t9_ ht hW => ⟨⟨(gL_over_j8, gL_under_j8, fL_bound_j6, iL_steps_j6, iT_fault_j6, iT_place_j6), rfl, trivial, by rw [ht]; exact hP, hD, by rw [ht]; first | done | exact Nat.le_antisymm hz9 hS.1⟩, hS.F ht⟩) hS.2.2 dX10_lookUp_157
theorem dX10_place_0 : decode cX10_place 0 = .ok (.aload_n 0, 1) := dk_42 (by decide +kernel)
theorem dX10_place_1 : decode cX10_place 1 = .ok (.iload_n 1, 1) := dk_27 (by decide +kernel)
theorem dX10_place_2 : decode cX10_place 2 = .ok (.iload_n 3, 1) := dk_29 (by decide +kernel)
theorem dX10_place_3 : decode cX10_place 3 = .ok (.invokevirtual 80, 3) := dk_182 (by decide +kernel)
theorem dX10_place_6 : decode cX10_place 6 = .ok (.aload_n 0, 1) := dk_42 (by decide +kernel)
theorem dX10_place_7 : decode cX10_place 7 = .ok (.getfield 36, 3) := dk_180 (by decide +kernel)
theorem dX10_place_10 : decode cX10_place 10 = .ok (.iload_n 3, 1) := dk_29 (by decide +kernel)
theorem dX10_place_11 : decode cX10_place 11 = .ok (.bipush 9, 2) := dk_16 (by decide +kernel)
theorem dX10_place_13 : decode cX10_place 13 = .ok (.imul, 1) := dk_104 (by decide +kernel)
theorem dX10_place_14 : decode cX10_place 14 = .ok (.laload, 1) := dk_47 (by decide +kernel)
theorem dX10_place_15 : decode cX10_place 15 = .ok (.aload_n 0, 1) := dk_42 (by decide +kernel)
theorem dX10_place_16 : decode cX10_place 16 = .ok (.getfield 21, 3) := dk_180 (by decide +kernel)
theorem dX10_place_19 : decode cX10_place 19 = .ok (.iload_n 2, 1) := dk_28 (by decide +kernel)
theorem dX10_place_20 : decode cX10_place 20 = .ok (.iaload, 1) := dk_46 (by decide +kernel)
theorem dX10_place_21 : decode cX10_place 21 = .ok (.i2l, 1) := dk_133 (by decide +kernel)
theorem dX10_place_22 : decode cX10_place 22 = .ok (.lsub, 1) := dk_101 (by decide +kernel)
theorem dX10_place_23 : decode cX10_place 23 = .ok (.lstore 4, 2) := dk_55 (by decide +kernel)
theorem dX10_place_25 : decode cX10_place 25 = .ok (.aload_n 0, 1) := dk_42 (by decide +kernel)
theorem dX10_place_26 : decode cX10_place 26 = .ok (.getfield 39, 3) := dk_180 (by decide +kernel)
theorem dX10_place_29 : decode cX10_place 29 = .ok (.iload_n 3, 1) := dk_29 (by decide +kernel)
theorem dX10_place_30 : decode cX10_place 30 = .ok (.bipush 9, 2) := dk_16 (by decide +kernel)
theorem dX10_place_32 : decode cX10_place 32 = .ok (.imul, 1) := dk_104 (by decide +kernel)
theorem dX10_place_33 : decode cX10_place 33 = .ok (.laload, 1) := dk_47 (by decide +kernel)
theorem dX10_place_34 : decode cX10_place 34 = .ok (.lconst 1, 1) := dk_10 (by decide +kernel)
theorem dX10_place_35 : decode cX10_place 35 = .ok (.lcmp, 1) := dk_148 (by decide +kernel)
theorem dX10_place_36 : decode cX10_place 36 = .ok (.ifCond .ne 23, 3) := dk_154 (by decide +kernel)
theorem dX10_place_39 : decode cX10_place 39 = .ok (.lload 4, 2) := dk_22 (by decide +kernel)
theorem dX10_place_41 : decode cX10_place 41 = .ok (.lconst 0, 1) := dk_9 (by decide +kernel)
theorem dX10_place_42 : decode cX10_place 42 = .ok (.lcmp, 1) := dk_148 (by decide +kernel)
theorem dX10_place_43 : decode cX10_place 43 = .ok (.ifCond .lt 16, 3) := dk_155 (by decide +kernel)
theorem dX10_place_46 : decode cX10_place 46 = .ok (.lload 4, 2) := dk_22 (by decide +kernel)
theorem dX10_place_48 : decode cX10_place 48 = .ok (.aload_n 0, 1) := dk_42 (by decide +kernel)
theorem dX10_place_49 : decode cX10_place 49 = .ok (.getfield 24, 3) := dk_180 (by decide +kernel)
theorem dX10_place_52 : decode cX10_place 52 = .ok (.iload_n 2, 1) := dk_28 (by decide +kernel)
theorem dX10_place_53 : decode cX10_place 53 = .ok (.iaload, 1) := dk_46 (by decide +kernel)
theorem dX10_place_54 : decode cX10_place 54 = .ok (.i2l, 1) := dk_133 (by decide +kernel)
theorem dX10_place_55 : decode cX10_place 55 = .ok (.lcmp, 1) := dk_148 (by decide +kernel)
theorem dX10_place_56 : decode cX10_place 56 = .ok (.ifCond .lt 20, 3) := dk_155 (by decide +kernel)
theorem dX10_place_59 : decode cX10_place 59 = .ok (.aload_n 0, 1) := dk_42 (by decide +kernel)
theorem dX10_place_60 : decode cX10_place 60 = .ok (.getfield 47, 3) := dk_180 (by decide +kernel)
theorem dX10_place_63 : decode cX10_place 63 = .ok (.bipush 8, 2) := dk_16 (by decide +kernel)
theorem dX10_place_65 : decode cX10_place 65 = .ok (.aload_n 0, 1) := dk_42 (by decide +kernel)
theorem dX10_place_66 : decode cX10_place 66 = .ok (.getfield 55, 3) := dk_180 (by decide +kernel)
theorem dX10_place_69 : decode cX10_place 69 = .ok (.iload_n 1, 1) := dk_27 (by decide +kernel)
theorem dX10_place_70 : decode cX10_place 70 = .ok (.iconst 1, 1) := dk_4 (by decide +kernel)
theorem dX10_place_71 : decode cX10_place 71 = .ok (.iadd, 1) := dk_96 (by decide +kernel)
theorem dX10_place_72 : decode cX10_place 72 = .ok (.iaload, 1) := dk_46 (by decide +kernel)
theorem dX10_place_73 : decode cX10_place 73 = .ok (.invokevirtual 90, 3) := dk_182 (by decide +kernel)
theorem dX10_place_76 : decode cX10_place 76 = .ok (.lload 4, 2) := dk_22 (by decide +kernel)
theorem dX10_place_78 : decode cX10_place 78 = .ok (.l2i, 1) := dk_136 (by decide +kernel)
theorem dX10_place_79 : decode cX10_place 79 = .ok (.ireturn, 1) := dk_172 (by decide +kernel)
theorem iwsMX10_place_in10 : ∀ w ∈ wsX100, w ∈ wsMX10_place := fun w h => List.mem_cons_of_mem _ (iwsGW_in10 w h)
theorem gwsMX10_place_0 : GoodIn wsMX10_place (wsV RX10 80 RX10 yX10_number wsMX10_number) := goodIn_rec (hd := [.methodLink RX10 80 yX10_number, .instanceMethod yX10_number, .selects RX10 yX10_number yX10_number, .initialized RX10]) (by decide +kernel) (by decide +kernel) gdwsGW
theorem gwsMX10_place_1 : GoodIn wsMX10_place (wsV RX10 90 RX9 yX9_fail wsMX9_fail) := goodIn_sub (fun w h => List.mem_cons_of_mem _ (gwsGW_6 w h)) (gdV (by decide +kernel) gdwsMX9_fail)
theorem hm_m_X10_place_0 : (.fieldLink RX10 47 "OptimaWorks$Worker" "words" "LOptimaWorks$Words;" : Cond) ∈ wsMX10_place := by decide +kernel
theorem hm_m_X10_place_1 : (.fieldLink RX10 55 "OptimaWorks$Worker" "tree" "[I" : Cond) ∈ wsMX10_place := by decide +kernel
set_option maxHeartbeats 4000000 in
set_option maxRecDepth 100000 in
/-- a place -/
theorem m_X10_place (l : Launch) (hst : l.stackTraces = false) (ev : Nat) (ih_X10_number : Cm_X10_number l (ev)) : Cm_X10_place l (ev) := by
  intro dC dI hL aL kL hT hM iL_names gL_key fL_kind fL_one fL_two fL_base iL_params fL_paramOver dL_paramOver nL_params fL_paramUnder dL_paramUnder nL_pu gL_over gL_under fL_bound iL_nameAt iL_startAt iL_steps jL_scaleOver jL_scaleUnder hF aF kF dF_tree nF_tree fF_tree aT kT fT_tape dT_tape nT_tape iT_length iT_fault iT_place iT_kind iT_at iT_number jT_name iT_next aM kM iM_stands iM_variables iM_rows iM_goals iM_differents iM_cases fM_from fM_to fM_whole fM_ways iM_plainRows fM_plainRow fM_kept fM_goalOver fM_goalUnder fM_goalMax fM_different V lo lv p1 p2 p3 b_iL_names b_fL_kind b_fL_two b_fL_base b_iL_params b_nL_params b_nm b_pm b_pu b_nF_tree b_fT_tape b_nT_tape b_iT_length b_iT_at b_iT_number b_iT_next b_len b_iM_stands b_iM_variables b_iM_rows b_iM_goals b_iM_differents b_iM_cases b_fM_ways b_iM_plainRows b_fM_plainRow b_pr b_p3 hV hn hlv hst2 hsl sz
  refine vx_ofW (cc := cX10_place) (maxL := 6) (ret := (some .int)) (by decide) rfl ?_
  intro p e s m args below meth c s₁ B hml htab hv
  obtain ⟨rfl, hsz, hP, hK, hD0, hE⟩ := hv
  have hx := B.exec
  have hb := B.bytes
  have hr := B.returns
  have hts := atoms_spec (ws := wsMX10_place) B.pre
  have hown : s.vm.findClass RX10 = some m.cls := findClass_of_methodNamed B.named
  have hlocks := B.notSynchronized
  subst hsz
  have hD := hD0.self (sz := s.heap.size)
  generalize hAe : va_A (WL hL aL kL hT hM (.ref dF_tree) iL_names gL_key fL_kind fL_one fL_two fL_base iL_params fL_paramOver dL_paramOver nL_params fL_paramUnder dL_paramUnder nL_pu gL_over gL_under fL_bound iL_nameAt iL_startAt iL_steps jL_scaleOver jL_scaleUnder ++ (WF hF aF kF dF_tree nF_tree fF_tree ++ (WT hT aT kT fT_tape dT_tape nT_tape iT_length iT_fault iT_place iT_kind iT_at iT_number jT_name iT_next ++ (WM hM aM kM iM_stands iM_variables iM_rows iM_goals iM_differents iM_cases fM_from fM_to fM_whole fM_ways iM_plainRows fM_plainRow fM_kept fM_goalOver fM_goalUnder fM_goalMax fM_different)))) s.heap.size = A at hD hE ⊢
  have hA : ∀ q : Nat, s.heap.size ≤ q → A q := fun q h => by rw [← hAe]; exact Or.inr h
  have hS : va_S A s.heap s.heap [] := va_S.rf
  have hl := lv_entry ([.ref (hL 0), .int p1, .int p2, .int p3]) (n := 6) (Nat.le_of_ble_eq_true rfl)
  rw [lg_entry_eq]
  generalize (lg_sl ([.ref (hL 0), .int p1, .int p2, .int p3]) ++ List.replicate (6 - (lg_sl ([.ref (hL 0), .int p1, .int p2, .int p3])).length) Slot.unset).toArray = ls at hl ⊢
  have hl : lv_has ls 6 [(0, .ref (hL 0)), (1, .int p1), (2, .int p2), (3, .int p3)] := hl
  have hr0 := TrL.rng hV hn
  have hs1 := hst2.r
  have hs2 := hst2.w
  refine lv_aload_n hx hb dX10_place_0 rfl (lv_at hl 0 rfl) ?_
  refine lv_iload_n hx hb dX10_place_1 rfl (lv_at hl 1 rfl) ?_
  refine lv_iload_n hx hb dX10_place_2 rfl (lv_at hl 3 rfl) ?_
  refine W.known (fun hz0 _ => ?_)
  have hFc := allFree hD hS hA
  refine vx_callv (vx_runV (As := [.int p1, .int p3]) (rest := []) ⟨hx, hb, hml, hown, hts⟩ (ih_X10_number dC dI hL aL kL hT hM iL_names gL_key fL_kind fL_one fL_two fL_base iL_params fL_paramOver dL_paramOver nL_params fL_paramUnder dL_paramUnder nL_pu gL_over gL_under fL_bound iL_nameAt iL_startAt iL_steps jL_scaleOver jL_scaleUnder hF aF kF dF_tree nF_tree fF_tree aT kT fT_tape dT_tape nT_tape iT_length iT_fault iT_place iT_kind iT_at iT_number jT_name iT_next aM kM iM_stands iM_variables iM_rows iM_goals iM_differents iM_cases fM_from fM_to fM_whole fM_ways iM_plainRows fM_plainRow fM_kept fM_goalOver fM_goalUnder fM_goalMax fM_different V lo lv p1 p3 (b_iL_names) b_fL_kind b_fL_two b_fL_base (b_iL_params) (by first | exact b_nL_params | with_reducible assumption | exact ⟨by omega, by omega⟩ | assumption) (by first | with_reducible assumption | omega | (rw [iI_t (by omega) (by omega)]; omega) | assumption) (by first | with_reducible assumption | omega | (rw [iI_t (by omega) (by omega)]; omega) | assumption) (by first | with_reducible assumption | omega | (rw [iI_t (by omega) (by omega)]; omega) | assumption) (by first | exact b_nF_tree | with_reducible assumption | exact ⟨by omega, by omega⟩ | assumption) b_fT_tape (by first | exact b_nT_tape | with_reducible assumption | exact ⟨by omega, by omega⟩ | assumption) (b_iT_length) (b_iT_at) (b_iT_number) (b_iT_next) (by first | with_reducible assumption | omega | assumption) (b_iM_stands) (b_iM_variables) (b_iM_rows) (b_iM_goals) (b_iM_differents) (b_iM_cases) b_fM_ways (b_iM_plainRows) b_fM_plainRow (by first | with_reducible assumption | omega | assumption) (b_p3) (by first | with_reducible assumption | omega | (rw [iI_t (by omega) (by omega)]; omega) | decide | assumption) (by first | with_reducible assumption | omega | (rw [iI_t (by omega) (by omega)]; omega) | decide | assumption) (by first | with_reducible assumption | omega | (rw [iI_t (by omega) (by omega)]; omega) | decide | assumption) (by first | with_reducible assumption | omega | (rw [iI_t (by omega) (by omega)]; omega) | decide | assumption) s.heap.size) (cwV 2 hts gwsMX10_place_0 rfl rfl rfl (by decide +kernel) ⟨by first | decide +kernel | (dsimp only [headSpec] <;> omega), by first | decide +kernel | (dsimp only [headSpec] <;> omega)⟩) (fz_preE (va_recv hK hP (ci := 10) (q0 := 0) rfl rfl) hP hK hD (fun a U g mk qE => qE.call) (fun U hU9 hW => by rw [hU9]; exact (((hE : CE A s s.heap).kept hS.2.1).narrow (fun q h => hFc q h)).warm hW)) rfl rfl hl.1 rfl (lv_room (Nat.le_of_ble_eq_true rfl)) dX10_place_3 ⟨by first | decide +kernel | (dsimp only [headSpec] <;> omega), by first | decide +kernel | (dsimp only [headSpec] <;> omega)⟩) hS (fun q _ h => hFc q h) hFc (fun q _ h => hFc q h) (fun E ce q9 u t9_ H locs ht hvm hw9 hB9 hz1 hk1 hS hc1 hc2 hc3 => ?_) (fun u t9_ H locs ht hvm hw9 hB9 hz1 hk1 hS => ?_)
  · revert u hw9 hB9
    refine fz_p6 ?_
    intro gL_over_1 gL_under_1 fL_bound_1 iL_steps_1 iT_fault_1 iT_place_1 hw9 hB9
    try dsimp only at hw9 hB9
    revert hB9
    refine fz_a2 ?_
    intro hEx hB9
    clear hw9
    have hP : va_P (dC, dI) vwCl (WL hL aL kL hT hM (.ref dF_tree) iL_names gL_key fL_kind fL_one fL_two fL_base iL_params fL_paramOver dL_paramOver nL_params fL_paramUnder dL_paramUnder nL_pu gL_over_1 gL_under_1 fL_bound_1 iL_nameAt iL_startAt iL_steps_1 jL_scaleOver jL_scaleUnder ++ (WF hF aF kF dF_tree nF_tree fF_tree ++ (WT hT aT kT fT_tape dT_tape nT_tape iT_length iT_fault_1 iT_place_1 iT_kind iT_at iT_number jT_name iT_next ++ (WM hM aM kM iM_stands iM_variables iM_rows iM_goals iM_differents iM_cases fM_from fM_to fM_whole fM_ways iM_plainRows fM_plainRow fM_kept fM_goalOver fM_goalUnder fM_goalMax fM_different)))) H := fz_P ht hB9.1
    have hD := fz_sd hP (hB9.2.weaken (fun _ q _ h => hFc q.1 h)) rfl
    exact vx_out (fun x hx9 => (htab x hx9).elim) hlocks hc1 hc2 hc3 (fun t9_ ht hvm => ⟨(gL_over_1, gL_under_1, fL_bound_1, iL_steps_1, iT_fault_1, iT_place_1), trivial, ⟨(by have h9 := hEx; exact h9), by rw [ht]; exact hP, hD⟩, hS.F ht⟩) hS.2.2 (by decide +kernel) (by decide +kernel)
  revert u hw9 hB9
  refine fz_p6 ?_
  intro gL_over_1 gL_under_1 fL_bound_1 iL_steps_1 iT_fault_1 iT_place_1 hw9 hB9
  try dsimp only at hw9 hB9
  clear hw9
  have hz8 := hB9.2.2
  rw [ht] at hz8
  have hz9 : H.size ≤ s.heap.size + 0 := by rw [hz8]; exact hz0
  refine W.tight (cells2 := 0) (slots2 := 0) hz9 (nS_0 hz9) ?_
  clear hz8 hz9
  have hP : va_P (dC, dI) vwCl (WL hL aL kL hT hM (.ref dF_tree) iL_names gL_key fL_kind fL_one fL_two fL_base iL_params fL_paramOver dL_paramOver nL_params fL_paramUnder dL_paramUnder nL_pu gL_over_1 gL_under_1 fL_bound_1 iL_nameAt iL_startAt iL_steps_1 jL_scaleOver jL_scaleUnder ++ (WF hF aF kF dF_tree nF_tree fF_tree ++ (WT hT aT kT fT_tape dT_tape nT_tape iT_length iT_fault_1 iT_place_1 iT_kind iT_at iT_number jT_name iT_next ++ (WM hM aM kM iM_stands iM_variables iM_rows iM_goals iM_differents iM_cases fM_from fM_to fM_whole fM_ways iM_plainRows fM_plainRow fM_kept fM_goalOver fM_goalUnder fM_goalMax fM_different)))) H := fz_P ht hB9.1
  have hD := fz_sd hP (hB9.2.1.weaken (fun _ q _ h => hFc q.1 h)) rfl
  refine lv_aload_n hx hb dX10_place_6 rfl (lv_at hl 0 rfl) ?_
  refine va_get (D := (dC, dI)) (ci := 10) (v := .ref (aL 7)) (C := RX10) (T := TX10) (N := 20) hx hb hts iwsMX10_place_in10 hown hK hP 0 rfl rfl 12 (by decide) (hts (.fieldLink RX10 36 "OptimaWorks$Worker" "over" "[J") (by decide +kernel)) (fun _ h9 => h9) rfl dX10_place_7 ?_
  refine lv_iload_n hx hb dX10_place_10 rfl (lv_at hl 3 rfl) ?_
  refine lv_bipush (v := 9) hx hb dX10_place_11 (by decide) ?_
  refine lv_imul hx hb dX10_place_13 ?_
  refine lv_topi (fun y2 hy2 => ?_)
  obtain rfl : (iI (p3.toInt * 9)) = y2 := (hy2.trans (iI_mul2 (iI_of _) (by decide : (9 : Int32) = iI 9))).symm
  refine va_lald (cA := kL 7) (n := 360) (f := gL_over_1) hx hb hK hP 8 7 rfl rfl (vp_iI (Int.le_trans (by decide) (Int.mul_le_mul_of_nonneg_right (b_p3.1) (by decide))) (Int.lt_of_le_of_lt (Int.mul_le_mul_of_nonneg_right (b_p3.2) (by decide)) (by decide)) (by decide)) dX10_place_14 ?_
  refine lv_topl (fun v3 hv3 => ?_)
  clear hv3
  refine lv_aload_n hx hb dX10_place_15 rfl (lv_at hl 0 rfl) ?_
  refine va_get (D := (dC, dI)) (ci := 10) (v := .ref (aL 2)) (C := RX10) (T := TX10) (N := 20) hx hb hts iwsMX10_place_in10 hown hK hP 0 rfl rfl 6 (by decide) (hts (.fieldLink RX10 21 "OptimaWorks$Worker" "one" "[I") (by decide +kernel)) (fun _ h9 => h9) rfl dX10_place_16 ?_
  refine lv_iload_n hx hb dX10_place_19 rfl (lv_at hl 2 rfl) ?_
  refine va_iald (cA := kL 2) (n := 40) (f := fL_one) hx hb hK hP 3 2 rfl rfl (vp_in_iff.mpr ⟨(by omega), (by omega)⟩) dX10_place_20 ?_
  refine lv_topi (fun v4 hv4 => ?_)
  have b_v4 : v4.toInt = twL fL_one p2.toInt := by rw [hv4]; exact tw_r
  clear hv4
  refine lv_i2l hx hb dX10_place_21 rfl ?_
  refine lv_topl (fun v5 hv5 => ?_)
  clear hv5
  refine lv_lsub hx hb dX10_place_22 ?_
  refine lv_topl (fun v6 hv6 => ?_)
  clear hv6
  refine lv_lstore hx hb dX10_place_23 hl (by decide) rfl (fun ls (hl : lv_has ls _ ([(4, .long v6), (0, .ref (hL 0)), (1, .int p1), (2, .int p2), (3, .int p3)])) => ?_)
  refine lv_aload_n hx hb dX10_place_25 rfl (lv_at hl 1 rfl) ?_
  refine va_get (D := (dC, dI)) (ci := 10) (v := .ref (aL 8)) (C := RX10) (T := TX10) (N := 20) hx hb hts iwsMX10_place_in10 hown hK hP 0 rfl rfl 13 (by decide) (hts (.fieldLink RX10 39 "OptimaWorks$Worker" "under" "[J") (by decide +kernel)) (fun _ h9 => h9) rfl dX10_place_26 ?_
  refine lv_iload_n hx hb dX10_place_29 rfl (lv_at hl 4 rfl) ?_
  refine lv_bipush (v := 9) hx hb dX10_place_30 (by decide) ?_
  refine lv_imul hx hb dX10_place_32 ?_
  refine lv_topi (fun y7 hy7 => ?_)
  obtain rfl : (iI (p3.toInt * 9)) = y7 := (hy7.trans (iI_mul2 (iI_of _) (by decide : (9 : Int32) = iI 9))).symm
  refine va_lald (cA := kL 8) (n := 360) (f := gL_under_1) hx hb hK hP 9 8 rfl rfl (vp_iI (Int.le_trans (by decide) (Int.mul_le_mul_of_nonneg_right (b_p3.1) (by decide))) (Int.lt_of_le_of_lt (Int.mul_le_mul_of_nonneg_right (b_p3.2) (by decide)) (by decide)) (by decide)) dX10_place_33 ?_
  refine lv_topl (fun v8 hv8 => ?_)
  clear hv8
  refine lv_lconst (v := 1) hx hb dX10_place_34 (by decide) ?_
  refine W.lcmp hx hb dX10_place_35 ?_
  refine lv_if_ne (tgt := 59) hx hb dX10_place_36 (by decide) (fun c_36 => ?_) (fun c_36 => ?_)
  · have t_36 : v8.toInt ≠ 1 := toL_ne c_36 rfl (by decide : (1 : Int64).toInt = 1)
    refine lv_aload_n hx hb dX10_place_59 rfl (lv_at hl 1 rfl) ?_
    refine va_get (D := (dC, dI)) (ci := 10) (v := .ref (hT 0)) (C := RX10) (T := TX10) (N := 20) hx hb hts iwsMX10_place_in10 hown hK hP 0 rfl rfl 0 (by decide) (hts _ hm_m_X10_place_0) (fun _ h9 => h9) rfl dX10_place_60 ?_
    refine lv_bipush (v := 8) hx hb dX10_place_63 (by decide) ?_
    refine lv_aload_n hx hb dX10_place_65 rfl (lv_at hl 1 rfl) ?_
    refine va_get (D := (dC, dI)) (ci := 10) (v := .ref dF_tree) (C := RX10) (T := TX10) (N := 20) hx hb hts iwsMX10_place_in10 hown hK hP 0 rfl rfl 2 (by decide) (hts _ hm_m_X10_place_1) (fun _ h9 => h9) rfl dX10_place_66 ?_
    refine lv_iload_n hx hb dX10_place_69 rfl (lv_at hl 2 rfl) ?_
    refine lv_iconst (v := 1) hx hb dX10_place_70 (by decide) ?_
    refine lv_iadd hx hb dX10_place_71 ?_
    refine lv_topi (fun y20 hy20 => ?_)
    obtain rfl : (iI (p1.toInt + 1)) = y20 := (hy20.trans (iI_add2 (iI_of _) (by decide : (1 : Int32) = iI 1))).symm
    refine va_iald (cA := kF 0) (n := nF_tree) (f := fF_tree) hx hb hK hP 11 10 rfl rfl (vp_iI (by omega) (by omega) (by omega)) dX10_place_72 ?_
    refine lv_topi (fun v21 hv21 => ?_)
    have b_v21 : v21.toInt = twL fF_tree (p1.toInt + 1) := by rw [hv21]; exact tw_i (by omega) (by omega)
    clear hv21
    have p9 := cj_4_2 (WL hL aL kL hT hM (.ref dF_tree) iL_names gL_key fL_kind fL_one fL_two fL_base iL_params fL_paramOver dL_paramOver nL_params fL_paramUnder dL_paramUnder nL_pu gL_over_1 gL_under_1 fL_bound_1 iL_nameAt iL_startAt iL_steps_1 jL_scaleOver jL_scaleUnder) (WF hF aF kF dF_tree nF_tree fF_tree) (WT hT aT kT fT_tape dT_tape nT_tape iT_length iT_fault_1 iT_place_1 iT_kind iT_at iT_number jT_name iT_next) (WM hM aM kM iM_stands iM_variables iM_rows iM_goals iM_differents iM_cases fM_from fM_to fM_whole fM_ways iM_plainRows fM_plainRow fM_kept fM_goalOver fM_goalUnder fM_goalMax fM_different)
    have hPc := hP.mem (fun q h => p9.mem_iff.mpr (List.mem_append_left _ h))
    have hDc := (hD.perm p9).left
    have hKc : va_K (dC, dI) vwCl (tT kT) _ := hK.sub [11] rfl
    have hFc := freeG p9 hD hS hA
    refine vx_callv (vx_runV (As := [.int 8, .int v21]) (rest := []) ⟨hx, hb, hml, hown, hts⟩ (m_X9_fail l hst dC dI hT aT kT fT_tape dT_tape nT_tape iT_length iT_fault_1 iT_place_1 iT_kind iT_at iT_number jT_name iT_next 8 v21 b_fT_tape (by first | exact b_nT_tape | with_reducible assumption | exact ⟨by omega, by omega⟩ | assumption) (b_iT_length) (b_iT_at) (b_iT_number) (b_iT_next) (by first | with_reducible assumption | omega | assumption) H.size) (cwV 2 hts gwsMX10_place_1 rfl rfl rfl (by decide +kernel) ⟨by first | decide +kernel | (dsimp only [headSpec] <;> omega), by first | decide +kernel | (dsimp only [headSpec] <;> omega)⟩) (fz_preE (va_recv hK hP (ci := 9) (q0 := 12) rfl rfl) hPc hKc hDc (fun a U g mk qE => qE.call) (fun U hU9 hW => by rw [hU9]; exact (((hE : CE A s s.heap).kept hS.2.1).narrow (fun q h => hFc q h)).warm hW)) rfl rfl hl.1 rfl (lv_room (Nat.le_of_ble_eq_true rfl)) dX10_place_73 ⟨by first | decide +kernel | (dsimp only [headSpec] <;> omega), by first | decide +kernel | (dsimp only [headSpec] <;> omega)⟩) hS (fun q _ h => hFc q h) hFc (fun q _ h => hFc q h) (fun E ce q9 u t9_ H locs ht hvm hw9 hB9 hz1 hk1 hS hc1 hc2 hc3 => ?_) (fun u t9_ H1 locs ht hvm hw9 hB9 hz1 hk1 hS => ?_)
    · revert u hw9 hB9
      refine fz_p2 ?_
      intro iT_fault_22 iT_place_22 hw9 hB9
      try dsimp only at hw9 hB9
      revert hB9
      refine fz_a2 ?_
      intro hEx hB9
      clear hw9
      have p8 := cj_4_2 (WL hL aL kL hT hM (.ref dF_tree) iL_names gL_key fL_kind fL_one fL_two fL_base iL_params fL_paramOver dL_paramOver nL_params fL_paramUnder dL_paramUnder nL_pu gL_over_1 gL_under_1 fL_bound_1 iL_nameAt iL_startAt iL_steps_1 jL_scaleOver jL_scaleUnder) (WF hF aF kF dF_tree nF_tree fF_tree) (WT hT aT kT fT_tape dT_tape nT_tape iT_length iT_fault_22 iT_place_22 iT_kind iT_at iT_number jT_name iT_next) (WM hM aM kM iM_stands iM_variables iM_rows iM_goals iM_differents iM_cases fM_from fM_to fM_whole fM_ways iM_plainRows fM_plainRow fM_kept fM_goalOver fM_goalUnder fM_goalMax fM_different)
      obtain ⟨hP, hD⟩ := frameG p9 p8 hP hD hk1 hFc (fz_P ht hB9.1) hB9.2
      exact vx_out (fun x hx9 => (htab x hx9).elim) hlocks hc1 hc2 hc3 (fun t9_ ht hvm => ⟨(gL_over_1, gL_under_1, fL_bound_1, iL_steps_1, iT_fault_22, iT_place_22), trivial, ⟨(by have h9 := hEx; exact h9), by rw [ht]; exact hP, hD⟩, hS.F ht⟩) hS.2.2 (by decide +kernel) (by decide +kernel)
    exact False.elim hw9
  · have t_36 : v8.toInt = 1 := toL_nne c_36 rfl (by decide : (1 : Int64).toInt = 1)
    refine lv_lload hx hb dX10_place_39 (lv_at hl 0 rfl) ?_
    refine lv_lconst (v := 0) hx hb dX10_place_41 (by decide) ?_
    refine W.lcmp hx hb dX10_place_42 ?_
    refine lv_if_lt (tgt := 59) hx hb dX10_place_43 (by decide) (fun c_43 => ?_) (fun c_43 => ?_)
    · have t_43 : v6.toInt < 0 := toL_lt c_43 rfl (by decide : (0 : Int64).toInt = 0)
      refine lv_aload_n hx hb dX10_place_59 rfl (lv_at hl 1 rfl) ?_
      refine va_get (D := (dC, dI)) (ci := 10) (v := .ref (hT 0)) (C := RX10) (T := TX10) (N := 20) hx hb hts iwsMX10_place_in10 hown hK hP 0 rfl rfl 0 (by decide) (hts _ hm_m_X10_place_0) (fun _ h9 => h9) rfl dX10_place_60 ?_
      refine lv_bipush (v := 8) hx hb dX10_place_63 (by decide) ?_
      refine lv_aload_n hx hb dX10_place_65 rfl (lv_at hl 1 rfl) ?_
      refine va_get (D := (dC, dI)) (ci := 10) (v := .ref dF_tree) (C := RX10) (T := TX10) (N := 20) hx hb hts iwsMX10_place_in10 hown hK hP 0 rfl rfl 2 (by decide) (hts _ hm_m_X10_place_1) (fun _ h9 => h9) rfl dX10_place_66 ?_
      refine lv_iload_n hx hb dX10_place_69 rfl (lv_at hl 2 rfl) ?_
      refine lv_iconst (v := 1) hx hb dX10_place_70 (by decide) ?_
      refine lv_iadd hx hb dX10_place_71 ?_
      refine lv_topi (fun y31 hy31 => ?_)
      obtain rfl : (iI (p1.toInt + 1)) = y31 := (hy31.trans (iI_add2 (iI_of _) (by decide : (1 : Int32) = iI 1))).symm
      refine va_iald (cA := kF 0) (n := nF_tree) (f := fF_tree) hx hb hK hP 11 10 rfl rfl (vp_iI (by omega) (by omega) (by omega)) dX10_place_72 ?_
      refine lv_topi (fun v32 hv32 => ?_)
      have b_v32 : v32.toInt = twL fF_tree (p1.toInt + 1) := by rw [hv32]; exact tw_i (by omega) (by omega)
      clear hv32
      have p9 := cj_4_2 (WL hL aL kL hT hM (.ref dF_tree) iL_names gL_key fL_kind fL_one fL_two fL_base iL_params fL_paramOver dL_paramOver nL_params fL_paramUnder dL_paramUnder nL_pu gL_over_1 gL_under_1 fL_bound_1 iL_nameAt iL_startAt iL_steps_1 jL_scaleOver jL_scaleUnder) (WF hF aF kF dF_tree nF_tree fF_tree) (WT hT aT kT fT_tape dT_tape nT_tape iT_length iT_fault_1 iT_place_1 iT_kind iT_at iT_number jT_name iT_next) (WM hM aM kM iM_stands iM_variables iM_rows iM_goals iM_differents iM_cases fM_from fM_to fM_whole fM_ways iM_plainRows fM_plainRow fM_kept fM_goalOver fM_goalUnder fM_goalMax fM_different)
      have hPc := hP.mem (fun q h => p9.mem_iff.mpr (List.mem_append_left _ h))
      have hDc := (hD.perm p9).left
      have hKc : va_K (dC, dI) vwCl (tT kT) _ := hK.sub [11] rfl
      have hFc := freeG p9 hD hS hA
      refine vx_callv (vx_runV (As := [.int 8, .int v32]) (rest := []) ⟨hx, hb, hml, hown, hts⟩ (m_X9_fail l hst dC dI hT aT kT fT_tape dT_tape nT_tape iT_length iT_fault_1 iT_place_1 iT_kind iT_at iT_number jT_name iT_next 8 v32 b_fT_tape (by first | exact b_nT_tape | with_reducible assumption | exact ⟨by omega, by omega⟩ | assumption) (b_iT_length) (b_iT_at) (b_iT_number) (b_iT_next) (by first | with_reducible assumption | omega | assumption) H.size) (cwV 2 hts gwsMX10_place_1 rfl rfl rfl (by decide +kernel) ⟨by first | decide +kernel | (dsimp only [headSpec] <;> omega), by first | decide +kernel | (dsimp only [headSpec] <;> omega)⟩) (fz_preE (va_recv hK hP (ci := 9) (q0 := 12) rfl rfl) hPc hKc hDc (fun a U g mk qE => qE.call) (fun U hU9 hW => by rw [hU9]; exact (((hE : CE A s s.heap).kept hS.2.1).narrow (fun q h => hFc q h)).warm hW)) rfl rfl hl.1 rfl (lv_room (Nat.le_of_ble_eq_true rfl)) dX10_place_73 ⟨by first | decide +kernel | (dsimp only [headSpec] <;> omega), by first | decide +kernel | (dsimp only [headSpec] <;> omega)⟩) hS (fun q _ h => hFc q h) hFc (fun q _ h => hFc q h) (fun E ce q9 u t9_ H locs ht hvm hw9 hB9 hz1 hk1 hS hc1 hc2 hc3 => ?_) (fun u t9_ H1 locs ht hvm hw9 hB9 hz1 hk1 hS => ?_)
      · revert u hw9 hB9
        refine fz_p2 ?_
        intro iT_fault_33 iT_place_33 hw9 hB9
        try dsimp only at hw9 hB9
        revert hB9
        refine fz_a2 ?_
        intro hEx hB9
        clear hw9
        have p8 := cj_4_2 (WL hL aL kL hT hM (.ref dF_tree) iL_names gL_key fL_kind fL_one fL_two fL_base iL_params fL_paramOver dL_paramOver nL_params fL_paramUnder dL_paramUnder nL_pu gL_over_1 gL_under_1 fL_bound_1 iL_nameAt iL_startAt iL_steps_1 jL_scaleOver jL_scaleUnder) (WF hF aF kF dF_tree nF_tree fF_tree) (WT hT aT kT fT_tape dT_tape nT_tape iT_length iT_fault_33 iT_place_33 iT_kind iT_at iT_number jT_name iT_next) (WM hM aM kM iM_stands iM_variables iM_rows iM_goals iM_differents iM_cases fM_from fM_to fM_whole fM_ways iM_plainRows fM_plainRow fM_kept fM_goalOver fM_goalUnder fM_goalMax fM_different)
        obtain ⟨hP, hD⟩ := frameG p9 p8 hP hD hk1 hFc (fz_P ht hB9.1) hB9.2
        exact vx_out (fun x hx9 => (htab x hx9).elim) hlocks hc1 hc2 hc3 (fun t9_ ht hvm => ⟨(gL_over_1, gL_under_1, fL_bound_1, iL_steps_1, iT_fault_33, iT_place_33), trivial, ⟨(by have h9 := hEx; exact h9), by rw [ht]; exact hP, hD⟩, hS.F ht⟩) hS.2.2 (by decide +kernel) (by decide +kernel)
      exact False.elim hw9
    · have t_43 : ¬ v6.toInt < 0 := toL_nlt c_43 rfl (by decide : (0 : Int64).toInt = 0)
      refine lv_lload hx hb dX10_place_46 (lv_at hl 0 rfl) ?_
      refine lv_aload_n hx hb dX10_place_48 rfl (lv_at hl 1 rfl) ?_
      refine va_get (D := (dC, dI)) (ci := 10) (v := .ref (aL 3)) (C := RX10) (T := TX10) (N := 20) hx hb hts iwsMX10_place_in10 hown hK hP 0 rfl rfl 7 (by decide) (hts (.fieldLink RX10 24 "OptimaWorks$Worker" "two" "[I") (by decide +kernel)) (fun _ h9 => h9) rfl dX10_place_49 ?_
      refine lv_iload_n hx hb dX10_place_52 rfl (lv_at hl 3 rfl) ?_
      refine va_iald (cA := kL 3) (n := 40) (f := fL_two) hx hb hK hP 4 3 rfl rfl (vp_in_iff.mpr ⟨(by omega), (by omega)⟩) dX10_place_53 ?_
      refine lv_topi (fun v34 hv34 => ?_)
      have b_v34 : (-1) ≤ v34.toInt ∧ v34.toInt ≤ 39 := by rw [hv34]; exact b_fL_two _
      have b1_v34 : v34.toInt = twL fL_two p2.toInt := by rw [hv34]; exact tw_r
      clear hv34
      refine lv_i2l hx hb dX10_place_54 rfl ?_
      refine lv_topl (fun v35 hv35 => ?_)
      have b_v35 : v35.toInt = v34.toInt := by rw [hv35]; exact (i2l_t _).trans rfl
      clear hv35
      refine W.lcmp hx hb dX10_place_55 ?_
      refine lv_if_lt (tgt := 76) hx hb dX10_place_56 (by decide) (fun c_56 => ?_) (fun c_56 => ?_)
      · have t_56 : v6.toInt < v35.toInt := toL_lt c_56 rfl rfl
        refine lv_lload hx hb dX10_place_76 (lv_at hl 0 rfl) ?_
        refine lv_l2i hx hb dX10_place_78 rfl ?_
        refine lv_topi (fun v39 hv39 => ?_)
        have b_v39 : v39.toInt = v6.toInt := by rw [hv39]; exact l2i_in (by omega) (by omega)
        clear hv39
        refine vx_ret ?_
        refine W.known (fun hz9 _ => ?_)
        refine W.widen (k := 1) (n := 6) (by decide +kernel) (by decide +kernel) ?_
        exact W.iret (v := v39) hx hb hr (fun t9_ ht hW => ⟨⟨v39, (gL_over_1, gL_under_1, fL_bound_1, iL_steps_1, iT_fault_1, iT_place_1), rfl, ⟨(by first | exact b_v39 | with_reducible assumption | exact ⟨by omega, by omega⟩ | assumption), (by (try dsimp only); omega)⟩, by rw [ht]; exact hP, hD, by rw [ht]; first | done | exact Nat.le_antisymm hz9 hS.1⟩, hS.F ht⟩) hS.2.2 dX10_place_79
      · have t_56 : ¬ v6.toInt < v35.toInt := toL_nlt c_56 rfl rfl
        refine lv_aload_n hx hb dX10_place_59 rfl (lv_at hl 1 rfl) ?_
        refine va_get (D := (dC, dI)) (ci := 10) (v := .ref (hT 0)) (C := RX10) (T := TX10) (N := 20) hx hb hts iwsMX10_place_in10 hown hK hP 0 rfl rfl 0 (by decide) (hts _ hm_m_X10_place_0) (fun _ h9 => h9) rfl dX10_place_60 ?_
        refine lv_bipush (v := 8) hx hb dX10_place_63 (by decide) ?_
        refine lv_aload_n hx hb dX10_place_65 rfl (lv_at hl 1 rfl) ?_
        refine va_get (D := (dC, dI)) (ci := 10) (v := .ref dF_tree) (C := RX10) (T := TX10) (N := 20) hx hb hts iwsMX10_place_in10 hown hK hP 0 rfl rfl 2 (by decide) (hts _ hm_m_X10_place_1) (fun _ h9 => h9) rfl dX10_place_66 ?_
        refine lv_iload_n hx hb dX10_place_69 rfl (lv_at hl 2 rfl) ?_
        refine lv_iconst (v := 1) hx hb dX10_place_70 (by decide) ?_
        refine lv_iadd hx hb dX10_place_71 ?_
        refine lv_topi (fun y40 hy40 => ?_)
        obtain rfl : (iI (p1.toInt + 1)) = y40 := (hy40.trans (iI_add2 (iI_of _) (by decide : (1 : Int32) = iI 1))).symm
        refine va_iald (cA := kF 0) (n := nF_tree) (f := fF_tree) hx hb hK hP 11 10 rfl rfl (vp_iI (by omega) (by omega) (by omega)) dX10_place_72 ?_
        refine lv_topi (fun v41 hv41 => ?_)
        have b_v41 : v41.toInt = twL fF_tree (p1.toInt + 1) := by rw [hv41]; exact tw_i (by omega) (by omega)
        clear hv41
        have p9 := cj_4_2 (WL hL aL kL hT hM (.ref dF_tree) iL_names gL_key fL_kind fL_one fL_two fL_base iL_params fL_paramOver dL_paramOver nL_params fL_paramUnder dL_paramUnder nL_pu gL_over_1 gL_under_1 fL_bound_1 iL_nameAt iL_startAt iL_steps_1 jL_scaleOver jL_scaleUnder) (WF hF aF kF dF_tree nF_tree fF_tree) (WT hT aT kT fT_tape dT_tape nT_tape iT_length iT_fault_1 iT_place_1 iT_kind iT_at iT_number jT_name iT_next) (WM hM aM kM iM_stands iM_variables iM_rows iM_goals iM_differents iM_cases fM_from fM_to fM_whole fM_ways iM_plainRows fM_plainRow fM_kept fM_goalOver fM_goalUnder fM_goalMax fM_different)
        have hPc := hP.mem (fun q h => p9.mem_iff.mpr (List.mem_append_left _ h))
        have hDc := (hD.perm p9).left
        have hKc : va_K (dC, dI) vwCl (tT kT) _ := hK.sub [11] rfl
        have hFc := freeG p9 hD hS hA
        refine vx_callv (vx_runV (As := [.int 8, .int v41]) (rest := []) ⟨hx, hb, hml, hown, hts⟩ (m_X9_fail l hst dC dI hT aT kT fT_tape dT_tape nT_tape iT_length iT_fault_1 iT_place_1 iT_kind iT_at iT_number jT_name iT_next 8 v41 b_fT_tape (by first | exact b_nT_tape | with_reducible assumption | exact ⟨by omega, by omega⟩ | assumption) (b_iT_length) (b_iT_at) (b_iT_number) (b_iT_next) (by first | with_reducible assumption | omega | assumption) H.size) (cwV 2 hts gwsMX10_place_1 rfl rfl rfl (by decide +kernel) ⟨by first | decide +kernel | (dsimp only [headSpec] <;> omega), by first | decide +kernel | (dsimp only [headSpec] <;> omega)⟩) (fz_preE (va_recv hK hP (ci := 9) (q0 := 12) rfl rfl) hPc hKc hDc (fun a U g mk qE => qE.call) (fun U hU9 hW => by rw [hU9]; exact (((hE : CE A s s.heap).kept hS.2.1).narrow (fun q h => hFc q h)).warm hW)) rfl rfl hl.1 rfl (lv_room (Nat.le_of_ble_eq_true rfl)) dX10_place_73 ⟨by first | decide +kernel | (dsimp only [headSpec] <;> omega), by first | decide +kernel | (dsimp only [headSpec] <;> omega)⟩) hS (fun q _ h => hFc q h) hFc (fun q _ h => hFc q h) (fun E ce q9 u t9_ H locs ht hvm hw9 hB9 hz1 hk1 hS hc1 hc2 hc3 => ?_) (fun u t9_ H1 locs ht hvm hw9 hB9 hz1 hk1 hS => ?_)
        · revert u hw9 hB9
          refine fz_p2 ?_
          intro iT_fault_42 iT_place_42 hw9 hB9
          try dsimp only at hw9 hB9
          revert hB9
          refine fz_a2 ?_
          intro hEx hB9
          clear hw9
          have p8 := cj_4_2 (WL hL aL kL hT hM (.ref dF_tree) iL_names gL_key fL_kind fL_one fL_two fL_base iL_params fL_paramOver dL_paramOver nL_params fL_paramUnder dL_paramUnder nL_pu gL_over_1 gL_under_1 fL_bound_1 iL_nameAt iL_startAt iL_steps_1 jL_scaleOver jL_scaleUnder) (WF hF aF kF dF_tree nF_tree fF_tree) (WT hT aT kT fT_tape dT_tape nT_tape iT_length iT_fault_42 iT_place_42 iT_kind iT_at iT_number jT_name iT_next) (WM hM aM kM iM_stands iM_variables iM_rows iM_goals iM_differents iM_cases fM_from fM_to fM_whole fM_ways iM_plainRows fM_plainRow fM_kept fM_goalOver fM_goalUnder fM_goalMax fM_different)
          obtain ⟨hP, hD⟩ := frameG p9 p8 hP hD hk1 hFc (fz_P ht hB9.1) hB9.2
          exact vx_out (fun x hx9 => (htab x hx9).elim) hlocks hc1 hc2 hc3 (fun t9_ ht hvm => ⟨(gL_over_1, gL_under_1, fL_bound_1, iL_steps_1, iT_fault_42, iT_place_42), trivial, ⟨(by have h9 := hEx; exact h9), by rw [ht]; exact hP, hD⟩, hS.F ht⟩) hS.2.2 (by decide +kernel) (by decide +kernel)
        exact False.elim hw9
theorem dX10_number_0 : decode cX10_number 0 = .ok (.aload_n 0, 1) := dk_42 (by decide +kernel)
theorem dX10_number_1 : decode cX10_number 1 = .ok (.iload_n 1, 1) := dk_27 (by decide +kernel)
theorem dX10_number_2 : decode cX10_number 2 = .ok (.iload_n 2, 1) := dk_28 (by decide +kernel)
theorem dX10_number_3 : decode cX10_number 3 = .ok (.invokevirtual 133, 3) := dk_182 (by decide +kernel)
theorem dX10_number_6 : decode cX10_number 6 = .ok (.aload_n 0, 1) := dk_42 (by decide +kernel)
theorem dX10_number_7 : decode cX10_number 7 = .ok (.iload_n 2, 1) := dk_28 (by decide +kernel)
theorem dX10_number_8 : decode cX10_number 8 = .ok (.invokevirtual 207, 3) := dk_182 (by decide +kernel)
theorem dX10_number_11 : decode cX10_number 11 = .ok (.ifCond .eq 20, 3) := dk_153 (by decide +kernel)
theorem dX10_number_14 : decode cX10_number 14 = .ok (.aload_n 0, 1) := dk_42 (by decide +kernel)
theorem dX10_number_15 : decode cX10_number 15 = .ok (.getfield 47, 3) := dk_180 (by decide +kernel)
theorem dX10_number_18 : decode cX10_number 18 = .ok (.bipush 7, 2) := dk_16 (by decide +kernel)
theorem dX10_number_20 : decode cX10_number 20 = .ok (.aload_n 0, 1) := dk_42 (by decide +kernel)
theorem dX10_number_21 : decode cX10_number 21 = .ok (.getfield 55, 3) := dk_180 (by decide +kernel)
theorem dX10_number_24 : decode cX10_number 24 = .ok (.iload_n 1, 1) := dk_27 (by decide +kernel)
theorem dX10_number_25 : decode cX10_number 25 = .ok (.iconst 1, 1) := dk_4 (by decide +kernel)
theorem dX10_number_26 : decode cX10_number 26 = .ok (.iadd, 1) := dk_96 (by decide +kernel)
theorem dX10_number_27 : decode cX10_number 27 = .ok (.iaload, 1) := dk_46 (by decide +kernel)
theorem dX10_number_28 : decode cX10_number 28 = .ok (.invokevirtual 90, 3) := dk_182 (by decide +kernel)
theorem dX10_number_31 : decode cX10_number 31 = .ok (.return_, 1) := dk_177 (by decide +kernel)
theorem iwsMX10_number_in10 : ∀ w ∈ wsX100, w ∈ wsMX10_number := fun w h => List.mem_cons_of_mem _ (iwsGW_in10 w h)
theorem gwsMX10_number_0 : GoodIn wsMX10_number (wsV RX10 133 RX10 yX10_linear wsMX10_linear) := goodIn_rec (hd := [.methodLink RX10 133 yX10_linear, .instanceMethod yX10_linear, .selects RX10 yX10_linear yX10_linear, .initialized RX10]) (by decide +kernel) (by decide +kernel) gdwsGW
theorem gwsMX10_number_1 : GoodIn wsMX10_number (wsV RX10 207 RX10 yX10_hasVariables wsMX10_hasVariables) := goodIn_sub (fun w h => List.mem_cons_of_mem _ (gwsGW_7 w h)) (gdV (by decide +kernel) gdwsMX10_hasVariables)
theorem gwsMX10_number_2 : GoodIn wsMX10_number (wsV RX10 90 RX9 yX9_fail wsMX9_fail) := goodIn_sub (fun w h => List.mem_cons_of_mem _ (gwsGW_6 w h)) (gdV (by decide +kernel) gdwsMX9_fail)
set_option maxHeartbeats 4000000 in
set_option maxRecDepth 100000 in
/-- a value without variables -/
theorem m_X10_number (l : Launch) (hst : l.stackTraces = false) (ev : Nat) (ih_X10_linear : Cm_X10_linear l (ev)) : Cm_X10_number l (ev) := by
  intro dC dI hL aL kL hT hM iL_names gL_key fL_kind fL_one fL_two fL_base iL_params fL_paramOver dL_paramOver nL_params fL_paramUnder dL_paramUnder nL_pu gL_over gL_under fL_bound iL_nameAt iL_startAt iL_steps jL_scaleOver jL_scaleUnder hF aF kF dF_tree nF_tree fF_tree aT kT fT_tape dT_tape nT_tape iT_length iT_fault iT_place iT_kind iT_at iT_number jT_name iT_next aM kM iM_stands iM_variables iM_rows iM_goals iM_differents iM_cases fM_from fM_to fM_whole fM_ways iM_plainRows fM_plainRow fM_kept fM_goalOver fM_goalUnder fM_goalMax fM_different V lo lv p1 p2 b_iL_names b_fL_kind b_fL_two b_fL_base b_iL_params b_nL_params b_nm b_pm b_pu b_nF_tree b_fT_tape b_nT_tape b_iT_length b_iT_at b_iT_number b_iT_next b_len b_iM_stands b_iM_variables b_iM_rows b_iM_goals b_iM_differents b_iM_cases b_fM_ways b_iM_plainRows b_fM_plainRow b_pr b_p2 hV hn hlv hsl sz
  refine vx_ofW (cc := cX10_number) (maxL := 3) (ret := none) (by decide) rfl ?_
  intro p e s m args below meth c s₁ B hml htab hv
  obtain ⟨rfl, hsz, hP, hK, hD0, hE⟩ := hv
  have hx := B.exec
  have hb := B.bytes
  have hr := B.returns
  have hts := atoms_spec (ws := wsMX10_number) B.pre
  have hown : s.vm.findClass RX10 = some m.cls := findClass_of_methodNamed B.named
  have hlocks := B.notSynchronized
  subst hsz
  have hD := hD0.self (sz := s.heap.size)
  generalize hAe : va_A (WL hL aL kL hT hM (.ref dF_tree) iL_names gL_key fL_kind fL_one fL_two fL_base iL_params fL_paramOver dL_paramOver nL_params fL_paramUnder dL_paramUnder nL_pu gL_over gL_under fL_bound iL_nameAt iL_startAt iL_steps jL_scaleOver jL_scaleUnder ++ (WF hF aF kF dF_tree nF_tree fF_tree ++ (WT hT aT kT fT_tape dT_tape nT_tape iT_length iT_fault iT_place iT_kind iT_at iT_number jT_name iT_next ++ (WM hM aM kM iM_stands iM_variables iM_rows iM_goals iM_differents iM_cases fM_from fM_to fM_whole fM_ways iM_plainRows fM_plainRow fM_kept fM_goalOver fM_goalUnder fM_goalMax fM_different)))) s.heap.size = A at hD hE ⊢
  have hA : ∀ q : Nat, s.heap.size ≤ q → A q := fun q h => by rw [← hAe]; exact Or.inr h
  have hS : va_S A s.heap s.heap [] := va_S.rf
  have hl := lv_entry ([.ref (hL 0), .int p1, .int p2]) (n := 3) (Nat.le_of_ble_eq_true rfl)
  rw [lg_entry_eq]
  generalize (lg_sl ([.ref (hL 0), .int p1, .int p2]) ++ List.replicate (3 - (lg_sl ([.ref (hL 0), .int p1, .int p2])).length) Slot.unset).toArray = ls at hl ⊢
  have hl : lv_has ls 3 [(0, .ref (hL 0)), (1, .int p1), (2, .int p2)] := hl
  have hr0 := TrL.rng hV hn
  refine lv_aload_n hx hb dX10_number_0 rfl (lv_at hl 0 rfl) ?_
  refine lv_iload_n hx hb dX10_number_1 rfl (lv_at hl 1 rfl) ?_
  refine lv_iload_n hx hb dX10_number_2 rfl (lv_at hl 2 rfl) ?_
  refine W.known (fun hz0 _ => ?_)
  have hFc := allFree hD hS hA
  refine vx_callv (vx_runV (As := [.int p1, .int p2]) (rest := []) ⟨hx, hb, hml, hown, hts⟩ (ih_X10_linear dC dI hL aL kL hT hM iL_names gL_key fL_kind fL_one fL_two fL_base iL_params fL_paramOver dL_paramOver nL_params fL_paramUnder dL_paramUnder nL_pu gL_over gL_under fL_bound iL_nameAt iL_startAt iL_steps jL_scaleOver jL_scaleUnder hF aF kF dF_tree nF_tree fF_tree aT kT fT_tape dT_tape nT_tape iT_length iT_fault iT_place iT_kind iT_at iT_number jT_name iT_next aM kM iM_stands iM_variables iM_rows iM_goals iM_differents iM_cases fM_from fM_to fM_whole fM_ways iM_plainRows fM_plainRow fM_kept fM_goalOver fM_goalUnder fM_goalMax fM_different V lo lv p1 p2 (b_iL_names) b_fL_kind b_fL_two b_fL_base (b_iL_params) (by first | exact b_nL_params | with_reducible assumption | exact ⟨by omega, by omega⟩ | assumption) (by first | with_reducible assumption | omega | (rw [iI_t (by omega) (by omega)]; omega) | assumption) (by first | with_reducible assumption | omega | (rw [iI_t (by omega) (by omega)]; omega) | assumption) (by first | with_reducible assumption | omega | (rw [iI_t (by omega) (by omega)]; omega) | assumption) (by first | exact b_nF_tree | with_reducible assumption | exact ⟨by omega, by omega⟩ | assumption) b_fT_tape (by first | exact b_nT_tape | with_reducible assumption | exact ⟨by omega, by omega⟩ | assumption) (b_iT_length) (b_iT_at) (b_iT_number) (b_iT_next) (by first | with_reducible assumption | omega | assumption) (b_iM_stands) (b_iM_variables) (b_iM_rows) (b_iM_goals) (b_iM_differents) (b_iM_cases) b_fM_ways (b_iM_plainRows) b_fM_plainRow (by first | with_reducible assumption | omega | assumption) (b_p2) (by first | with_reducible assumption | omega | (rw [iI_t (by omega) (by omega)]; omega) | decide | assumption) (by first | with_reducible assumption | omega | (rw [iI_t (by omega) (by omega)]; omega) | decide | assumption) (by first | with_reducible assumption | omega | (rw [iI_t (by omega) (by omega)]; omega) | decide | assumption) (by first | with_reducible assumption | omega | (rw [iI_t (by omega) (by omega)]; omega) | decide | assumption) s.heap.size) (cwV 2 hts gwsMX10_number_0 rfl rfl rfl (by decide +kernel) ⟨by first | decide +kernel | (dsimp only [headSpec] <;> omega), by first | decide +kernel | (dsimp only [headSpec] <;> omega)⟩) (fz_preE (va_recv hK hP (ci := 10) (q0 := 0) rfl rfl) hP hK hD (fun a U g mk qE => qE.call) (fun U hU9 hW => by rw [hU9]; exact (((hE : CE A s s.heap).kept hS.2.1).narrow (fun q h => hFc q h)).warm hW)) rfl rfl hl.1 rfl (lv_room (Nat.le_of_ble_eq_true rfl)) dX10_number_3 ⟨by first | decide +kernel | (dsimp only [headSpec] <;> omega), by first | decide +kernel | (dsimp only [headSpec] <;> omega)⟩) hS (fun q _ h => hFc q h) hFc (fun q _ h => hFc q h) (fun E ce q9 u t9_ H locs ht hvm hw9 hB9 hz1 hk1 hS hc1 hc2 hc3 => ?_) (fun u t9_ H locs ht hvm hw9 hB9 hz1 hk1 hS => ?_)
  · revert u hw9 hB9
    refine fz_p6 ?_
    intro gL_over_1 gL_under_1 fL_bound_1 iL_steps_1 iT_fault_1 iT_place_1 hw9 hB9
    try dsimp only at hw9 hB9
    revert hB9
    refine fz_a2 ?_
    intro hEx hB9
    clear hw9
    have hP : va_P (dC, dI) vwCl (WL hL aL kL hT hM (.ref dF_tree) iL_names gL_key fL_kind fL_one fL_two fL_base iL_params fL_paramOver dL_paramOver nL_params fL_paramUnder dL_paramUnder nL_pu gL_over_1 gL_under_1 fL_bound_1 iL_nameAt iL_startAt iL_steps_1 jL_scaleOver jL_scaleUnder ++ (WF hF aF kF dF_tree nF_tree fF_tree ++ (WT hT aT kT fT_tape dT_tape nT_tape iT_length iT_fault_1 iT_place_1 iT_kind iT_at iT_number jT_name iT_next ++ (WM hM aM kM iM_stands iM_variables iM_rows iM_goals iM_differents iM_cases fM_from fM_to fM_whole fM_ways iM_plainRows fM_plainRow fM_kept fM_goalOver fM_goalUnder fM_goalMax fM_different)))) H := fz_P ht hB9.1
    have hD := fz_sd hP (hB9.2.weaken (fun _ q _ h => hFc q.1 h)) rfl
    exact vx_out (fun x hx9 => (htab x hx9).elim) hlocks hc1 hc2 hc3 (fun t9_ ht hvm => ⟨(gL_over_1, gL_under_1, fL_bound_1, iL_steps_1, iT_fault_1, iT_place_1), trivial, ⟨(by have h9 := hEx; exact h9), by rw [ht]; exact hP, hD⟩, hS.F ht⟩) hS.2.2 (by decide +kernel) (by decide +kernel)
  revert u hw9 hB9
  refine fz_p6 ?_
  intro gL_over_1 gL_under_1 fL_bound_1 iL_steps_1 iT_fault_1 iT_place_1 hw9 hB9
  try dsimp only at hw9 hB9
  clear hw9
  have hz8 := hB9.2.2
  rw [ht] at hz8
  have hz9 : H.size ≤ s.heap.size + 0 := by rw [hz8]; exact hz0
  refine W.tight (cells2 := 0) (slots2 := 0) hz9 (nS_0 hz9) ?_
  clear hz8 hz9
  have hP : va_P (dC, dI) vwCl (WL hL aL kL hT hM (.ref dF_tree) iL_names gL_key fL_kind fL_one fL_two fL_base iL_params fL_paramOver dL_paramOver nL_params fL_paramUnder dL_paramUnder nL_pu gL_over_1 gL_under_1 fL_bound_1 iL_nameAt iL_startAt iL_steps_1 jL_scaleOver jL_scaleUnder ++ (WF hF aF kF dF_tree nF_tree fF_tree ++ (WT hT aT kT fT_tape dT_tape nT_tape iT_length iT_fault_1 iT_place_1 iT_kind iT_at iT_number jT_name iT_next ++ (WM hM aM kM iM_stands iM_variables iM_rows iM_goals iM_differents iM_cases fM_from fM_to fM_whole fM_ways iM_plainRows fM_plainRow fM_kept fM_goalOver fM_goalUnder fM_goalMax fM_different)))) H := fz_P ht hB9.1
  have hD := fz_sd hP (hB9.2.1.weaken (fun _ q _ h => hFc q.1 h)) rfl
  refine lv_aload_n hx hb dX10_number_6 rfl (lv_at hl 0 rfl) ?_
  refine lv_iload_n hx hb dX10_number_7 rfl (lv_at hl 2 rfl) ?_
  have p9 := cj_4_0_3 (WL hL aL kL hT hM (.ref dF_tree) iL_names gL_key fL_kind fL_one fL_two fL_base iL_params fL_paramOver dL_paramOver nL_params fL_paramUnder dL_paramUnder nL_pu gL_over_1 gL_under_1 fL_bound_1 iL_nameAt iL_startAt iL_steps_1 jL_scaleOver jL_scaleUnder) (WF hF aF kF dF_tree nF_tree fF_tree) (WT hT aT kT fT_tape dT_tape nT_tape iT_length iT_fault_1 iT_place_1 iT_kind iT_at iT_number jT_name iT_next) (WM hM aM kM iM_stands iM_variables iM_rows iM_goals iM_differents iM_cases fM_from fM_to fM_whole fM_ways iM_plainRows fM_plainRow fM_kept fM_goalOver fM_goalUnder fM_goalMax fM_different)
  have hPc := hP.mem (fun q h => p9.mem_iff.mpr (List.mem_append_left _ h))
  have hDc := (hD.perm p9).left
  have hKc : va_K (dC, dI) vwCl (tL kL ++ (tM kM)) _ := hK.sub [0, 1, 2, 3, 4, 5, 6, 7, 8, 9, 12, 13, 14, 15, 16, 17, 18, 19, 20, 21] rfl
  have hFc := freeG p9 hD hS hA
  refine va_calli (va_runV (As := [.int p2]) (rest := []) ⟨hx, hb, hml, hown, hts⟩ (m_X10_hasVariables l dC dI hL aL kL hT hM (.ref dF_tree) iL_names gL_key fL_kind fL_one fL_two fL_base iL_params fL_paramOver dL_paramOver nL_params fL_paramUnder dL_paramUnder nL_pu gL_over_1 gL_under_1 fL_bound_1 iL_nameAt iL_startAt iL_steps_1 jL_scaleOver jL_scaleUnder aM kM iM_stands iM_variables iM_rows iM_goals iM_differents iM_cases fM_from fM_to fM_whole fM_ways iM_plainRows fM_plainRow fM_kept fM_goalOver fM_goalUnder fM_goalMax fM_different p2 (b_iL_names) b_fL_kind b_fL_two b_fL_base (b_iL_params) (by first | exact b_nL_params | with_reducible assumption | exact ⟨by omega, by omega⟩ | assumption) (by first | with_reducible assumption | omega | (rw [iI_t (by omega) (by omega)]; omega) | assumption) (by first | with_reducible assumption | omega | (rw [iI_t (by omega) (by omega)]; omega) | assumption) (by first | with_reducible assumption | omega | (rw [iI_t (by omega) (by omega)]; omega) | assumption) (b_iM_stands) (b_iM_variables) (b_iM_rows) (b_iM_goals) (b_iM_differents) (b_iM_cases) b_fM_ways (b_iM_plainRows) b_fM_plainRow (by first | with_reducible assumption | omega | assumption) (⟨b_p2.1, Int.le_trans b_p2.2 (by decide)⟩) H.size) (cwV 1 hts gwsMX10_number_1 rfl rfl rfl (by decide +kernel) ⟨by first | decide +kernel | (dsimp only [headSpec] <;> omega), by first | decide +kernel | (dsimp only [headSpec] <;> omega)⟩) (fz_pre (va_recv hK hP (ci := 10) (q0 := 0) rfl rfl) hPc hKc hDc) rfl rfl hl.1 rfl (lv_room (Nat.le_of_ble_eq_true rfl)) dX10_number_8 ⟨by first | decide +kernel | (dsimp only [headSpec] <;> omega), by first | decide +kernel | (dsimp only [headSpec] <;> omega)⟩) hS (fun q _ h => hFc q h) hFc (fun r2 u t9_ H locs ht hvm hw9 hB9 hz1 hk1 hS => ?_)
  have b_r2 := hw9
  try dsimp only at b_r2
  have p8 := p9
  obtain ⟨hP, hD⟩ := frameG p9 p8 hP hD hk1 hFc (fz_P ht hB9.1) hB9.2
  refine lv_if_eq (tgt := 31) hx hb dX10_number_11 (by decide) (fun c_11 => ?_) (fun c_11 => ?_)
  · have t_11 : r2.toInt = 0 := toI_eq c_11 rfl (by decide : (0 : Int32).toInt = 0)
    refine vx_ret ?_
    refine W.known (fun hz9 _ => ?_)
    refine W.widen (k := 1) (n := 6) (by decide +kernel) (by decide +kernel) ?_
    exact W.vret hx hb hr (fun t9_ ht hW => ⟨⟨(gL_over_1, gL_under_1, fL_bound_1, iL_steps_1, iT_fault_1, iT_place_1), rfl, trivial, by rw [ht]; exact hP, hD, by rw [ht]; first | done | exact Nat.le_antisymm hz9 hS.1⟩, hS.F ht⟩) hS.2.2 dX10_number_31
  · have t_11 : ¬ r2.toInt = 0 := toI_neq c_11 rfl (by decide : (0 : Int32).toInt = 0)
    refine lv_aload_n hx hb dX10_number_14 rfl (lv_at hl 0 rfl) ?_
    refine va_get (D := (dC, dI)) (ci := 10) (v := .ref (hT 0)) (C := RX10) (T := TX10) (N := 20) hx hb hts iwsMX10_number_in10 hown hK hP 0 rfl rfl 0 (by decide) (hts (.fieldLink RX10 47 "OptimaWorks$Worker" "words" "LOptimaWorks$Words;") (by decide +kernel)) (fun _ h9 => h9) rfl dX10_number_15 ?_
    refine lv_bipush (v := 7) hx hb dX10_number_18 (by decide) ?_
    refine lv_aload_n hx hb dX10_number_20 rfl (lv_at hl 0 rfl) ?_
    refine va_get (D := (dC, dI)) (ci := 10) (v := .ref dF_tree) (C := RX10) (T := TX10) (N := 20) hx hb hts iwsMX10_number_in10 hown hK hP 0 rfl rfl 2 (by decide) (hts (.fieldLink RX10 55 "OptimaWorks$Worker" "tree" "[I") (by decide +kernel)) (fun _ h9 => h9) rfl dX10_number_21 ?_
    refine lv_iload_n hx hb dX10_number_24 rfl (lv_at hl 1 rfl) ?_
    refine lv_iconst (v := 1) hx hb dX10_number_25 (by decide) ?_
    refine lv_iadd hx hb dX10_number_26 ?_
    refine lv_topi (fun y6 hy6 => ?_)
    obtain rfl : (iI (p1.toInt + 1)) = y6 := (hy6.trans (iI_add2 (iI_of _) (by decide : (1 : Int32) = iI 1))).symm
    refine va_iald (cA := kF 0) (n := nF_tree) (f := fF_tree) hx hb hK hP 11 10 rfl rfl (vp_iI (by omega) (by omega) (by omega)) dX10_number_27 ?_
    refine lv_topi (fun v7 hv7 => ?_)
    have b_v7 : v7.toInt = twL fF_tree (p1.toInt + 1) := by rw [hv7]; exact tw_i (by omega) (by omega)
    clear hv7
    have p9 := cj_4_2 (WL hL aL kL hT hM (.ref dF_tree) iL_names gL_key fL_kind fL_one fL_two fL_base iL_params fL_paramOver dL_paramOver nL_params fL_paramUnder dL_paramUnder nL_pu gL_over_1 gL_under_1 fL_bound_1 iL_nameAt iL_startAt iL_steps_1 jL_scaleOver jL_scaleUnder) (WF hF aF kF dF_tree nF_tree fF_tree) (WT hT aT kT fT_tape dT_tape nT_tape iT_length iT_fault_1 iT_place_1 iT_kind iT_at iT_number jT_name iT_next) (WM hM aM kM iM_stands iM_variables iM_rows iM_goals iM_differents iM_cases fM_from fM_to fM_whole fM_ways iM_plainRows fM_plainRow fM_kept fM_goalOver fM_goalUnder fM_goalMax fM_different)
    have hPc := hP.mem (fun q h => p9.mem_iff.mpr (List.mem_append_left _ h))
    have hDc := (hD.perm p9).left
    have hKc : va_K (dC, dI) vwCl (tT kT) _ := hK.sub [11] rfl
    have hFc := freeG p9 hD hS hA
    refine vx_callv (vx_runV (As := [.int 7, .int v7]) (rest := []) ⟨hx, hb, hml, hown, hts⟩ (m_X9_fail l hst dC dI hT aT kT fT_tape dT_tape nT_tape iT_length iT_fault_1 iT_place_1 iT_kind iT_at iT_number jT_name iT_next 7 v7 b_fT_tape (by first | exact b_nT_tape | with_reducible assumption | exact ⟨by omega, by omega⟩ | assumption) (b_iT_length) (b_iT_at) (b_iT_number) (b_iT_next) (by first | with_reducible assumption | omega | assumption) H.size) (cwV 2 hts gwsMX10_number_2 rfl rfl rfl (by decide +kernel) ⟨by first | decide +kernel | (dsimp only [headSpec] <;> omega), by first | decide +kernel | (dsimp only [headSpec] <;> omega)⟩) (fz_preE (va_recv hK hP (ci := 9) (q0 := 12) rfl rfl) hPc hKc hDc (fun a U g mk qE => qE.call) (fun U hU9 hW => by rw [hU9]; exact (((hE : CE A s s.heap).kept hS.2.1).narrow (fun q h => hFc q h)).warm hW)) rfl rfl hl.1 rfl (lv_room (Nat.le_of_ble_eq_true rfl)) dX10_number_28 ⟨by first | decide +kernel | (dsimp only [headSpec] <;> omega), by first | decide +kernel | (dsimp only [headSpec] <;> omega)⟩) hS (fun q _ h => hFc q h) hFc (fun q _ h => hFc q h) (fun E ce q9 u t9_ H locs ht hvm hw9 hB9 hz1 hk1 hS hc1 hc2 hc3 => ?_) (fun u t9_ H1 locs ht hvm hw9 hB9 hz1 hk1 hS => ?_)
    · revert u hw9 hB9
      refine fz_p2 ?_
      intro iT_fault_8 iT_place_8 hw9 hB9
      try dsimp only at hw9 hB9
      revert hB9
      refine fz_a2 ?_
      intro hEx hB9
      clear hw9
      have p8 := cj_4_2 (WL hL aL kL hT hM (.ref dF_tree) iL_names gL_key fL_kind fL_one fL_two fL_base iL_params fL_paramOver dL_paramOver nL_params fL_paramUnder dL_paramUnder nL_pu gL_over_1 gL_under_1 fL_bound_1 iL_nameAt iL_startAt iL_steps_1 jL_scaleOver jL_scaleUnder) (WF hF aF kF dF_tree nF_tree fF_tree) (WT hT aT kT fT_tape dT_tape nT_tape iT_length iT_fault_8 iT_place_8 iT_kind iT_at iT_number jT_name iT_next) (WM hM aM kM iM_stands iM_variables iM_rows iM_goals iM_differents iM_cases fM_from fM_to fM_whole fM_ways iM_plainRows fM_plainRow fM_kept fM_goalOver fM_goalUnder fM_goalMax fM_different)
      obtain ⟨hP, hD⟩ := frameG p9 p8 hP hD hk1 hFc (fz_P ht hB9.1) hB9.2
      exact vx_out (fun x hx9 => (htab x hx9).elim) hlocks hc1 hc2 hc3 (fun t9_ ht hvm => ⟨(gL_over_1, gL_under_1, fL_bound_1, iL_steps_1, iT_fault_8, iT_place_8), trivial, ⟨(by have h9 := hEx; exact h9), by rw [ht]; exact hP, hD⟩, hS.F ht⟩) hS.2.2 (by decide +kernel) (by decide +kernel)
    exact False.elim hw9
theorem dX10_sum_0 : decode cX10_sum 0 = .ok (.aload_n 0, 1) := dk_42 (by decide +kernel)
theorem dX10_sum_1 : decode cX10_sum 1 = .ok (.getfield 55, 3) := dk_180 (by decide +kernel)
theorem dX10_sum_4 : decode cX10_sum 4 = .ok (.iload_n 1, 1) := dk_27 (by decide +kernel)
theorem dX10_sum_5 : decode cX10_sum 5 = .ok (.iconst 3, 1) := dk_6 (by decide +kernel)
theorem dX10_sum_6 : decode cX10_sum 6 = .ok (.iadd, 1) := dk_96 (by decide +kernel)
theorem dX10_sum_7 : decode cX10_sum 7 = .ok (.iaload, 1) := dk_46 (by decide +kernel)
theorem dX10_sum_8 : decode cX10_sum 8 = .ok (.istore_n 3, 1) := dk_62 (by decide +kernel)
theorem dX10_sum_9 : decode cX10_sum 9 = .ok (.aload_n 0, 1) := dk_42 (by decide +kernel)
theorem dX10_sum_10 : decode cX10_sum 10 = .ok (.getfield 55, 3) := dk_180 (by decide +kernel)
theorem dX10_sum_13 : decode cX10_sum 13 = .ok (.iload_n 1, 1) := dk_27 (by decide +kernel)
theorem dX10_sum_14 : decode cX10_sum 14 = .ok (.iconst 4, 1) := dk_7 (by decide +kernel)
theorem dX10_sum_15 : decode cX10_sum 15 = .ok (.iadd, 1) := dk_96 (by decide +kernel)
theorem dX10_sum_16 : decode cX10_sum 16 = .ok (.iaload, 1) := dk_46 (by decide +kernel)
theorem dX10_sum_17 : decode cX10_sum 17 = .ok (.istore 4, 2) := dk_54 (by decide +kernel)
theorem dX10_sum_19 : decode cX10_sum 19 = .ok (.aload_n 0, 1) := dk_42 (by decide +kernel)
theorem dX10_sum_20 : decode cX10_sum 20 = .ok (.iload_n 3, 1) := dk_29 (by decide +kernel)
theorem dX10_sum_21 : decode cX10_sum 21 = .ok (.invokevirtual 117, 3) := dk_182 (by decide +kernel)
theorem dX10_sum_24 : decode cX10_sum 24 = .ok (.istore 5, 2) := dk_54 (by decide +kernel)
theorem dX10_sum_26 : decode cX10_sum 26 = .ok (.aload_n 0, 1) := dk_42 (by decide +kernel)
theorem dX10_sum_27 : decode cX10_sum 27 = .ok (.iload_n 2, 1) := dk_28 (by decide +kernel)
theorem dX10_sum_28 : decode cX10_sum 28 = .ok (.lconst 0, 1) := dk_9 (by decide +kernel)
theorem dX10_sum_29 : decode cX10_sum 29 = .ok (.lconst 1, 1) := dk_10 (by decide +kernel)
theorem dX10_sum_30 : decode cX10_sum 30 = .ok (.invokevirtual 230, 3) := dk_182 (by decide +kernel)
theorem dX10_sum_33 : decode cX10_sum 33 = .ok (.iconst 0, 1) := dk_3 (by decide +kernel)
theorem dX10_sum_34 : decode cX10_sum 34 = .ok (.istore 6, 2) := dk_54 (by decide +kernel)
theorem dX10_sum_36 : decode cX10_sum 36 = .ok (.iload 6, 2) := dk_21 (by decide +kernel)
theorem dX10_sum_38 : decode cX10_sum 38 = .ok (.iload 5, 2) := dk_21 (by decide +kernel)
theorem dX10_sum_40 : decode cX10_sum 40 = .ok (.if_icmp .ge 62, 3) := dk_162 (by decide +kernel)
theorem dX10_sum_43 : decode cX10_sum 43 = .ok (.aload_n 0, 1) := dk_42 (by decide +kernel)
theorem dX10_sum_44 : decode cX10_sum 44 = .ok (.iload_n 3, 1) := dk_29 (by decide +kernel)
theorem dX10_sum_45 : decode cX10_sum 45 = .ok (.iload 6, 2) := dk_21 (by decide +kernel)
theorem dX10_sum_47 : decode cX10_sum 47 = .ok (.invokevirtual 120, 3) := dk_182 (by decide +kernel)
theorem dX10_sum_50 : decode cX10_sum 50 = .ok (.iload 4, 2) := dk_21 (by decide +kernel)
theorem dX10_sum_52 : decode cX10_sum 52 = .ok (.ifCond .eq 15, 3) := dk_153 (by decide +kernel)
theorem dX10_sum_55 : decode cX10_sum 55 = .ok (.aload_n 0, 1) := dk_42 (by decide +kernel)
theorem dX10_sum_56 : decode cX10_sum 56 = .ok (.iload 4, 2) := dk_21 (by decide +kernel)
theorem dX10_sum_58 : decode cX10_sum 58 = .ok (.iload_n 2, 1) := dk_28 (by decide +kernel)
theorem dX10_sum_59 : decode cX10_sum 59 = .ok (.iconst 1, 1) := dk_4 (by decide +kernel)
theorem dX10_sum_60 : decode cX10_sum 60 = .ok (.iadd, 1) := dk_96 (by decide +kernel)
theorem dX10_sum_61 : decode cX10_sum 61 = .ok (.invokevirtual 123, 3) := dk_182 (by decide +kernel)
theorem dX10_sum_64 : decode cX10_sum 64 = .ok (.ifCond .eq 32, 3) := dk_153 (by decide +kernel)
theorem dX10_sum_67 : decode cX10_sum 67 = .ok (.aload_n 0, 1) := dk_42 (by decide +kernel)
theorem dX10_sum_68 : decode cX10_sum 68 = .ok (.aload_n 0, 1) := dk_42 (by decide +kernel)
theorem dX10_sum_69 : decode cX10_sum 69 = .ok (.getfield 55, 3) := dk_180 (by decide +kernel)
theorem dX10_sum_72 : decode cX10_sum 72 = .ok (.iload_n 1, 1) := dk_27 (by decide +kernel)
theorem dX10_sum_73 : decode cX10_sum 73 = .ok (.iconst 5, 1) := dk_8 (by decide +kernel)
theorem dX10_sum_74 : decode cX10_sum 74 = .ok (.iadd, 1) := dk_96 (by decide +kernel)
theorem dX10_sum_75 : decode cX10_sum 75 = .ok (.iaload, 1) := dk_46 (by decide +kernel)
theorem dX10_sum_76 : decode cX10_sum 76 = .ok (.iload_n 2, 1) := dk_28 (by decide +kernel)
theorem dX10_sum_77 : decode cX10_sum 77 = .ok (.iconst 1, 1) := dk_4 (by decide +kernel)
theorem dX10_sum_78 : decode cX10_sum 78 = .ok (.iadd, 1) := dk_96 (by decide +kernel)
theorem dX10_sum_79 : decode cX10_sum 79 = .ok (.invokevirtual 221, 3) := dk_182 (by decide +kernel)
theorem dX10_sum_82 : decode cX10_sum 82 = .ok (.aload_n 0, 1) := dk_42 (by decide +kernel)
theorem dX10_sum_83 : decode cX10_sum 83 = .ok (.iload_n 2, 1) := dk_28 (by decide +kernel)
theorem dX10_sum_84 : decode cX10_sum 84 = .ok (.iconst 0, 1) := dk_3 (by decide +kernel)
theorem dX10_sum_85 : decode cX10_sum 85 = .ok (.aload_n 0, 1) := dk_42 (by decide +kernel)
theorem dX10_sum_86 : decode cX10_sum 86 = .ok (.getfield 55, 3) := dk_180 (by decide +kernel)
theorem dX10_sum_89 : decode cX10_sum 89 = .ok (.iload_n 3, 1) := dk_29 (by decide +kernel)
theorem dX10_sum_90 : decode cX10_sum 90 = .ok (.iconst 1, 1) := dk_4 (by decide +kernel)
theorem dX10_sum_91 : decode cX10_sum 91 = .ok (.iadd, 1) := dk_96 (by decide +kernel)
theorem dX10_sum_92 : decode cX10_sum 92 = .ok (.iaload, 1) := dk_46 (by decide +kernel)
theorem dX10_sum_93 : decode cX10_sum 93 = .ok (.invokevirtual 217, 3) := dk_182 (by decide +kernel)
theorem dX10_sum_96 : decode cX10_sum 96 = .ok (.iinc 6 1, 3) := dk_132 (by decide +kernel)
theorem dX10_sum_99 : decode cX10_sum 99 = .ok (.goto (-63), 3) := dk_167 (by decide +kernel)
theorem dX10_sum_102 : decode cX10_sum 102 = .ok (.return_, 1) := dk_177 (by decide +kernel)
theorem iwsMX10_sum_in10 : ∀ w ∈ wsX100, w ∈ wsMX10_sum := fun w h => List.mem_cons_of_mem _ (iwsGW_in10 w h)
theorem gwsMX10_sum_0 : GoodIn wsMX10_sum (wsV RX10 117 RX10 yX10_boundMembers wsMX10_boundMembers) := goodIn_sub (fun w h => List.mem_cons_of_mem _ (gwsGW_8 w h)) (gdV (by decide +kernel) gdwsMX10_boundMembers)
theorem gwsMX10_sum_1 : GoodIn wsMX10_sum (wsV RX10 230 RX10 yX10_setNumber wsMX10_setNumber) := goodIn_sub (fun w h => List.mem_cons_of_mem _ (gwsGW_4 w h)) (gdV (by decide +kernel) gdwsMX10_setNumber)
theorem gwsMX10_sum_2 : GoodIn wsMX10_sum (wsV RX10 120 RX10 yX10_bind wsMX10_bind) := goodIn_sub (fun w h => List.mem_cons_of_mem _ (gwsGW_9 w h)) (gdV (by decide +kernel) gdwsMX10_bind)
theorem gwsMX10_sum_3 : GoodIn wsMX10_sum (wsV RX10 221 RX10 yX10_factor wsMX10_factor) := goodIn_rec (hd := [.methodLink RX10 221 yX10_factor, .instanceMethod yX10_factor, .selects RX10 yX10_factor yX10_factor, .initialized RX10]) (by decide +kernel) (by decide +kernel) gdwsGW
theorem gwsMX10_sum_4 : GoodIn wsMX10_sum (wsV RX10 217 RX10 yX10_join wsMX10_join) := goodIn_sub (fun w h => List.mem_cons_of_mem _ (gwsGW_1 w h)) (gdV (by decide +kernel) gdwsMX10_join)
theorem gwsMX10_sum_5 : GoodIn wsMX10_sum (wsV RX10 123 RX10 yX10_anyHolds wsMX10_anyHolds) := goodIn_rec (hd := [.methodLink RX10 123 yX10_anyHolds, .instanceMethod yX10_anyHolds, .selects RX10 yX10_anyHolds yX10_anyHolds, .initialized RX10]) (by decide +kernel) (by decide +kernel) gdwsGW
theorem hm_m_X10_sum_0 : (.fieldLink RX10 55 "OptimaWorks$Worker" "tree" "[I" : Cond) ∈ wsMX10_sum := by decide +kernel
set_option maxHeartbeats 4000000 in
set_option maxRecDepth 100000 in
/-- a sum -/
theorem m_X10_sum (l : Launch) (hst : l.stackTraces = false) (ev : Nat) (ih_X10_factor : Cm_X10_factor l (ev)) (ih_X10_anyHolds : Cm_X10_anyHolds l (ev)) : Cm_X10_sum l (ev + 1) := by
  intro dC dI hL aL kL hT hM iL_names gL_key fL_kind fL_one fL_two fL_base iL_params fL_paramOver dL_paramOver nL_params fL_paramUnder dL_paramUnder nL_pu gL_over gL_under fL_bound iL_nameAt iL_startAt iL_steps jL_scaleOver jL_scaleUnder hF aF kF dF_tree nF_tree fF_tree aT kT fT_tape dT_tape nT_tape iT_length iT_fault iT_place iT_kind iT_at iT_number jT_name iT_next aM kM iM_stands iM_variables iM_rows iM_goals iM_differents iM_cases fM_from fM_to fM_whole fM_ways iM_plainRows fM_plainRow fM_kept fM_goalOver fM_goalUnder fM_goalMax fM_different V lo lv p1 p2 b_iL_names b_fL_kind b_fL_two b_fL_base b_iL_params b_nL_params b_nm b_pm b_pu b_nF_tree b_fT_tape b_nT_tape b_iT_length b_iT_at b_iT_number b_iT_next b_len b_iM_stands b_iM_variables b_iM_rows b_iM_goals b_iM_differents b_iM_cases b_fM_ways b_iM_plainRows b_fM_plainRow b_pr b_p2 hV hn hlv hsl hk8 sz
  refine vx_ofW (cc := cX10_sum) (maxL := 7) (ret := none) (by decide) rfl ?_
  intro p e s m args below meth c s₁ B hml htab hv
  obtain ⟨rfl, hsz, hP, hK, hD0, hE⟩ := hv
  have hx := B.exec
  have hb := B.bytes
  have hr := B.returns
  have hts := atoms_spec (ws := wsMX10_sum) B.pre
  have hown : s.vm.findClass RX10 = some m.cls := findClass_of_methodNamed B.named
  have hlocks := B.notSynchronized
  subst hsz
  have hD := hD0.self (sz := s.heap.size)
  generalize hAe : va_A (WL hL aL kL hT hM (.ref dF_tree) iL_names gL_key fL_kind fL_one fL_two fL_base iL_params fL_paramOver dL_paramOver nL_params fL_paramUnder dL_paramUnder nL_pu gL_over gL_under fL_bound iL_nameAt iL_startAt iL_steps jL_scaleOver jL_scaleUnder ++ (WF hF aF kF dF_tree nF_tree fF_tree ++ (WT hT aT kT fT_tape dT_tape nT_tape iT_length iT_fault iT_place iT_kind iT_at iT_number jT_name iT_next ++ (WM hM aM kM iM_stands iM_variables iM_rows iM_goals iM_differents iM_cases fM_from fM_to fM_whole fM_ways iM_plainRows fM_plainRow fM_kept fM_goalOver fM_goalUnder fM_goalMax fM_different)))) s.heap.size = A at hD hE ⊢
  have hA : ∀ q : Nat, s.heap.size ≤ q → A q := fun q h => by rw [← hAe]; exact Or.inr h
  have hS : va_S A s.heap s.heap [] := va_S.rf
  have hl := lv_entry ([.ref (hL 0), .int p1, .int p2]) (n := 7) (Nat.le_of_ble_eq_true rfl)
  rw [lg_entry_eq]
  generalize (lg_sl ([.ref (hL 0), .int p1, .int p2]) ++ List.replicate (7 - (lg_sl ([.ref (hL 0), .int p1, .int p2])).length) Slot.unset).toArray = ls at hl ⊢
  have hl : lv_has ls 7 [(0, .ref (hL 0)), (1, .int p1), (2, .int p2)] := hl
  have hr0 := TrL.rng hV hn
  have hc := TrL.c3s hV hn hk8
  refine lv_aload_n hx hb dX10_sum_0 rfl (lv_at hl 0 rfl) ?_
  refine va_get (D := (dC, dI)) (ci := 10) (v := .ref dF_tree) (C := RX10) (T := TX10) (N := 20) hx hb hts iwsMX10_sum_in10 hown hK hP 0 rfl rfl 2 (by decide) (hts _ hm_m_X10_sum_0) (fun _ h9 => h9) rfl dX10_sum_1 ?_
  refine lv_iload_n hx hb dX10_sum_4 rfl (lv_at hl 1 rfl) ?_
  refine lv_iconst (v := 3) hx hb dX10_sum_5 (by decide) ?_
  refine lv_iadd hx hb dX10_sum_6 ?_
  refine lv_topi (fun y1 hy1 => ?_)
  obtain rfl : (iI (p1.toInt + 3)) = y1 := (hy1.trans (iI_add2 (iI_of _) (by decide : (3 : Int32) = iI 3))).symm
  refine va_iald (cA := kF 0) (n := nF_tree) (f := fF_tree) hx hb hK hP 11 10 rfl rfl (vp_iI (by omega) (by omega) (by omega)) dX10_sum_7 ?_
  refine lv_topi (fun v2 hv2 => ?_)
  have b_v2 : v2.toInt = twL fF_tree (p1.toInt + 3) := by rw [hv2]; exact tw_i (by omega) (by omega)
  have b1_v2 : V v2.toInt 9 lv := by rw [hv2]; exact Vld (tw_i (by omega) (by omega)) hc.1
  clear hv2
  refine lv_istore_n hx hb dX10_sum_8 rfl hl (by decide) rfl (fun ls (hl : lv_has ls _ ([(3, .int v2), (0, .ref (hL 0)), (1, .int p1), (2, .int p2)])) => ?_)
  have hr1 := TrL.rng hV (by assumption : V v2.toInt _ _)
  refine lv_aload_n hx hb dX10_sum_9 rfl (lv_at hl 1 rfl) ?_
  refine va_get (D := (dC, dI)) (ci := 10) (v := .ref dF_tree) (C := RX10) (T := TX10) (N := 20) hx hb hts iwsMX10_sum_in10 hown hK hP 0 rfl rfl 2 (by decide) (hts _ hm_m_X10_sum_0) (fun _ h9 => h9) rfl dX10_sum_10 ?_
  refine lv_iload_n hx hb dX10_sum_13 rfl (lv_at hl 2 rfl) ?_
  refine lv_iconst (v := 4) hx hb dX10_sum_14 (by decide) ?_
  refine lv_iadd hx hb dX10_sum_15 ?_
  refine lv_topi (fun y3 hy3 => ?_)
  obtain rfl : (iI (p1.toInt + 4)) = y3 := (hy3.trans (iI_add2 (iI_of _) (by decide : (4 : Int32) = iI 4))).symm
  refine va_iald (cA := kF 0) (n := nF_tree) (f := fF_tree) hx hb hK hP 11 10 rfl rfl (vp_iI (by omega) (by omega) (by omega)) dX10_sum_16 ?_
  refine lv_topi (fun v4 hv4 => ?_)
  have b_v4 : v4.toInt = twL fF_tree (p1.toInt + 4) := by rw [hv4]; exact tw_i (by omega) (by omega)
  have b1_v4 : v4.toInt = 0 ∨ V v4.toInt 10 (lv + 1) := by rw [hv4]; exact tnx (tw_i (by omega) (by omega)) hc.2.1
  clear hv4
  refine lv_istore hx hb dX10_sum_17 hl (by decide) rfl (fun ls (hl : lv_has ls _ ([(4, .int v4), (3, .int v2), (0, .ref (hL 0)), (1, .int p1), (2, .int p2)])) => ?_)
  refine lv_aload_n hx hb dX10_sum_19 rfl (lv_at hl 2 rfl) ?_
  refine lv_iload_n hx hb dX10_sum_20 rfl (lv_at hl 1 rfl) ?_
  have p9 := cj_4_0_1 (WL hL aL kL hT hM (.ref dF_tree) iL_names gL_key fL_kind fL_one fL_two fL_base iL_params fL_paramOver dL_paramOver nL_params fL_paramUnder dL_paramUnder nL_pu gL_over gL_under fL_bound iL_nameAt iL_startAt iL_steps jL_scaleOver jL_scaleUnder) (WF hF aF kF dF_tree nF_tree fF_tree) (WT hT aT kT fT_tape dT_tape nT_tape iT_length iT_fault iT_place iT_kind iT_at iT_number jT_name iT_next) (WM hM aM kM iM_stands iM_variables iM_rows iM_goals iM_differents iM_cases fM_from fM_to fM_whole fM_ways iM_plainRows fM_plainRow fM_kept fM_goalOver fM_goalUnder fM_goalMax fM_different)
  have hPc := hP.mem (fun q h => p9.mem_iff.mpr (List.mem_append_left _ h))
  have hDc := (hD.perm p9).left
  have hKc : va_K (dC, dI) vwCl (tL kL ++ (tF kF)) _ := hK.sub [0, 1, 2, 3, 4, 5, 6, 7, 8, 9, 10] rfl
  have hFc := freeG p9 hD hS hA
  refine va_calli (va_runV (As := [.int v2]) (rest := []) ⟨hx, hb, hml, hown, hts⟩ (m_X10_boundMembers l dC dI hL aL kL hT hM iL_names gL_key fL_kind fL_one fL_two fL_base iL_params fL_paramOver dL_paramOver nL_params fL_paramUnder dL_paramUnder nL_pu gL_over gL_under fL_bound iL_nameAt iL_startAt iL_steps jL_scaleOver jL_scaleUnder hF aF kF dF_tree nF_tree fF_tree V lo lv v2 (b_iL_names) b_fL_kind b_fL_two b_fL_base (b_iL_params) (by first | exact b_nL_params | with_reducible assumption | exact ⟨by omega, by omega⟩ | assumption) (by first | with_reducible assumption | omega | (rw [iI_t (by omega) (by omega)]; omega) | assumption) (by first | with_reducible assumption | omega | (rw [iI_t (by omega) (by omega)]; omega) | assumption) (by first | with_reducible assumption | omega | (rw [iI_t (by omega) (by omega)]; omega) | assumption) (by first | exact b_nF_tree | with_reducible assumption | exact ⟨by omega, by omega⟩ | assumption) (by first | with_reducible assumption | omega | (rw [iI_t (by omega) (by omega)]; omega) | decide | assumption) (by first | with_reducible assumption | omega | (rw [iI_t (by omega) (by omega)]; omega) | decide | assumption) s.heap.size) (cwV 1 hts gwsMX10_sum_0 rfl rfl rfl (by decide +kernel) ⟨by first | decide +kernel | (dsimp only [headSpec] <;> omega), by first | decide +kernel | (dsimp only [headSpec] <;> omega)⟩) (fz_pre (va_recv hK hP (ci := 10) (q0 := 0) rfl rfl) hPc hKc hDc) rfl rfl hl.1 rfl (lv_room (Nat.le_of_ble_eq_true rfl)) dX10_sum_21 ⟨by first | decide +kernel | (dsimp only [headSpec] <;> omega), by first | decide +kernel | (dsimp only [headSpec] <;> omega)⟩) hS (fun q _ h => hFc q h) hFc (fun r5 u t9_ H locs ht hvm hw9 hB9 hz1 hk1 hS => ?_)
  have b_r5 := hw9
  try dsimp only at b_r5
  have p8 := p9
  obtain ⟨hP, hD⟩ := frameG p9 p8 hP hD hk1 hFc (fz_P ht hB9.1) hB9.2
  refine lv_istore hx hb dX10_sum_24 hl (by decide) rfl (fun ls (hl : lv_has ls _ ([(5, .int r5), (4, .int v4), (3, .int v2), (0, .ref (hL 0)), (1, .int p1), (2, .int p2)])) => ?_)
  refine lv_aload_n hx hb dX10_sum_26 rfl (lv_at hl 3 rfl) ?_
  refine lv_iload_n hx hb dX10_sum_27 rfl (lv_at hl 5 rfl) ?_
  refine lv_lconst (v := 0) hx hb dX10_sum_28 (by decide) ?_
  refine lv_lconst (v := 1) hx hb dX10_sum_29 (by decide) ?_
  have p9 := cj_4_0_3 (WL hL aL kL hT hM (.ref dF_tree) iL_names gL_key fL_kind fL_one fL_two fL_base iL_params fL_paramOver dL_paramOver nL_params fL_paramUnder dL_paramUnder nL_pu gL_over gL_under fL_bound iL_nameAt iL_startAt iL_steps jL_scaleOver jL_scaleUnder) (WF hF aF kF dF_tree nF_tree fF_tree) (WT hT aT kT fT_tape dT_tape nT_tape iT_length iT_fault iT_place iT_kind iT_at iT_number jT_name iT_next) (WM hM aM kM iM_stands iM_variables iM_rows iM_goals iM_differents iM_cases fM_from fM_to fM_whole fM_ways iM_plainRows fM_plainRow fM_kept fM_goalOver fM_goalUnder fM_goalMax fM_different)
  have hPc := hP.mem (fun q h => p9.mem_iff.mpr (List.mem_append_left _ h))
  have hDc := (hD.perm p9).left
  have hKc : va_K (dC, dI) vwCl (tL kL ++ (tM kM)) _ := hK.sub [0, 1, 2, 3, 4, 5, 6, 7, 8, 9, 12, 13, 14, 15, 16, 17, 18, 19, 20, 21] rfl
  have hFc := freeG p9 hD hS hA
  refine va_callv (va_runV (As := [.int p2, .long 0, .long 1]) (rest := []) ⟨hx, hb, hml, hown, hts⟩ (m_X10_setNumber l dC dI hL aL kL hT hM (.ref dF_tree) iL_names gL_key fL_kind fL_one fL_two fL_base iL_params fL_paramOver dL_paramOver nL_params fL_paramUnder dL_paramUnder nL_pu gL_over gL_under fL_bound iL_nameAt iL_startAt iL_steps jL_scaleOver jL_scaleUnder aM kM iM_stands iM_variables iM_rows iM_goals iM_differents iM_cases fM_from fM_to fM_whole fM_ways iM_plainRows fM_plainRow fM_kept fM_goalOver fM_goalUnder fM_goalMax fM_different p2 0 1 (b_iL_names) b_fL_kind b_fL_two b_fL_base (b_iL_params) (by first | exact b_nL_params | with_reducible assumption | exact ⟨by omega, by omega⟩ | assumption) (by first | with_reducible assumption | omega | (rw [iI_t (by omega) (by omega)]; omega) | assumption) (by first | with_reducible assumption | omega | (rw [iI_t (by omega) (by omega)]; omega) | assumption) (by first | with_reducible assumption | omega | (rw [iI_t (by omega) (by omega)]; omega) | assumption) (b_iM_stands) (b_iM_variables) (b_iM_rows) (b_iM_goals) (b_iM_differents) (b_iM_cases) b_fM_ways (b_iM_plainRows) b_fM_plainRow (by first | with_reducible assumption | omega | assumption) (b_p2) H.size) (cwV 3 hts gwsMX10_sum_1 rfl rfl rfl (by decide +kernel) ⟨by first | decide +kernel | (dsimp only [headSpec] <;> omega), by first | decide +kernel | (dsimp only [headSpec] <;> omega)⟩) (fz_pre (va_recv hK hP (ci := 10) (q0 := 0) rfl rfl) hPc hKc hDc) rfl rfl hl.1 rfl (lv_room (Nat.le_of_ble_eq_true rfl)) dX10_sum_30 ⟨by first | decide +kernel | (dsimp only [headSpec] <;> omega), by first | decide +kernel | (dsimp only [headSpec] <;> omega)⟩) hS (fun q _ h => hFc q h) hFc (fun u t9_ H locs ht hvm hw9 hB9 hz1 hk1 hS => ?_)
  revert u hw9 hB9
  refine fz_p2 ?_
  intro gL_over_6 gL_under_6 hw9 hB9
  try dsimp only at hw9 hB9
  clear hw9
  have p8 := cj_4_0_3 (WL hL aL kL hT hM (.ref dF_tree) iL_names gL_key fL_kind fL_one fL_two fL_base iL_params fL_paramOver dL_paramOver nL_params fL_paramUnder dL_paramUnder nL_pu gL_over_6 gL_under_6 fL_bound iL_nameAt iL_startAt iL_steps jL_scaleOver jL_scaleUnder) (WF hF aF kF dF_tree nF_tree fF_tree) (WT hT aT kT fT_tape dT_tape nT_tape iT_length iT_fault iT_place iT_kind iT_at iT_number jT_name iT_next) (WM hM aM kM iM_stands iM_variables iM_rows iM_goals iM_differents iM_cases fM_from fM_to fM_whole fM_ways iM_plainRows fM_plainRow fM_kept fM_goalOver fM_goalUnder fM_goalMax fM_different)
  obtain ⟨hP, hD⟩ := frameG p9 p8 hP hD hk1 hFc (fz_P ht hB9.1) hB9.2
  refine lv_iconst (v := 0) hx hb dX10_sum_33 (by decide) ?_
  refine lv_istore hx hb dX10_sum_34 hl (by decide) rfl (fun ls (hl : lv_has ls _ ([(6, .int 0), (5, .int r5), (4, .int v4), (3, .int v2), (0, .ref (hL 0)), (1, .int p1), (2, .int p2)])) => ?_)
  have hl : lv_has _ _ ([(6, .int 0), (5, .int r5), (4, .int v4), (3, .int v2), (0, .ref (hL 0)), (1, .int p1), (2, .int p2)]) := lv_sub hl [0, 1, 2, 3, 4, 5, 6] rfl
  refine (fun (loop : ∀ (n9 : Nat) (gL_over_x36 : Nat → Int64) (gL_under_x36 : Nat → Int64) (fL_bound_x36 : Nat → Int32) (iL_steps_x36 : Int32) (iT_fault_x36 : Int32) (iT_place_x36 : Int32) (l6_x36 : Int32) (H : Heap) (locs : List Loc) (ls : Array Slot), (0 ≤ l6_x36.toInt ∧ l6_x36.toInt ≤ 144) → (144 - l6_x36.toInt < ((n9 : Nat) : Int)) → va_P (dC, dI) vwCl (WL hL aL kL hT hM (.ref dF_tree) iL_names gL_key fL_kind fL_one fL_two fL_base iL_params fL_paramOver dL_paramOver nL_params fL_paramUnder dL_paramUnder nL_pu gL_over_x36 gL_under_x36 fL_bound_x36 iL_nameAt iL_startAt iL_steps_x36 jL_scaleOver jL_scaleUnder ++ (WF hF aF kF dF_tree nF_tree fF_tree ++ (WT hT aT kT fT_tape dT_tape nT_tape iT_length iT_fault_x36 iT_place_x36 iT_kind iT_at iT_number jT_name iT_next ++ (WM hM aM kM iM_stands iM_variables iM_rows iM_goals iM_differents iM_cases fM_from fM_to fM_whole fM_ways iM_plainRows fM_plainRow fM_kept fM_goalOver fM_goalUnder fM_goalMax fM_different)))) H → va_D A (WL hL aL kL hT hM (.ref dF_tree) iL_names gL_key fL_kind fL_one fL_two fL_base iL_params fL_paramOver dL_paramOver nL_params fL_paramUnder dL_paramUnder nL_pu gL_over_x36 gL_under_x36 fL_bound_x36 iL_nameAt iL_startAt iL_steps_x36 jL_scaleOver jL_scaleUnder ++ (WF hF aF kF dF_tree nF_tree fF_tree ++ (WT hT aT kT fT_tape dT_tape nT_tape iT_length iT_fault_x36 iT_place_x36 iT_kind iT_at iT_number jT_name iT_next ++ (WM hM aM kM iM_stands iM_variables iM_rows iM_goals iM_differents iM_cases fM_from fM_to fM_whole fM_ways iM_plainRows fM_plainRow fM_kept fM_goalOver fM_goalUnder fM_goalMax fM_different)))) → va_S A s.heap H locs → lv_has ls 7 [(6, .int l6_x36), (5, .int r5), (4, .int v4), (3, .int v2), (0, .ref (hL 0)), (1, .int p1), (2, .int p2)] → W p l e _ s m _ below meth c H locs 0 0 _ (F0 m 36 ls [])) => loop (145) gL_over_6 gL_under_6 fL_bound iL_steps iT_fault iT_place 0 _ _ _ (show 0 ≤ (0 : Int32).toInt ∧ (0 : Int32).toInt ≤ 144 from by decide) ((by have e9 : (0 : Int32).toInt = 0 := (by decide : (0 : Int32).toInt = 0); omega)) hP hD hS hl) ?_
  intro n9
  induction n9 with
  | zero => intro gL_over_x36 gL_under_x36 fL_bound_x36 iL_steps_x36 iT_fault_x36 iT_place_x36 l6_x36 H locs ls b_l6_x36 hf9; exact False.elim (by omega)
  | succ n9 ihx36 =>
    intro gL_over_x36 gL_under_x36 fL_bound_x36 iL_steps_x36 iT_fault_x36 iT_place_x36 l6_x36 H locs ls b_l6_x36 hfx36 hP hD hS hl
    refine lv_iload hx hb dX10_sum_36 (lv_at hl 0 rfl) ?_
    refine lv_iload hx hb dX10_sum_38 (lv_at hl 1 rfl) ?_
    refine lv_icmp_ge (tgt := 102) hx hb dX10_sum_40 (by decide) (fun c_40 => ?_) (fun c_40 => ?_)
    · have t_40 : l6_x36.toInt ≥ r5.toInt := toI_ge c_40 rfl rfl
      refine vx_ret ?_
      refine W.known (fun hz9 _ => ?_)
      refine W.widen (k := 1) (n := 6) (by decide +kernel) (by decide +kernel) ?_
      exact W.vret hx hb hr (fun t9_ ht hW => ⟨⟨(gL_over_x36, gL_under_x36, fL_bound_x36, iL_steps_x36, iT_fault_x36, iT_place_x36), rfl, trivial, by rw [ht]; exact hP, hD, by rw [ht]; first | done | exact Nat.le_antisymm hz9 hS.1⟩, hS.F ht⟩) hS.2.2 dX10_sum_102
    · have t_40 : ¬ l6_x36.toInt ≥ r5.toInt := toI_nge c_40 rfl rfl
      refine lv_aload_n hx hb dX10_sum_43 rfl (lv_at hl 4 rfl) ?_
      refine lv_iload_n hx hb dX10_sum_44 rfl (lv_at hl 3 rfl) ?_
      refine lv_iload hx hb dX10_sum_45 (lv_at hl 0 rfl) ?_
      have p9 := cj_4_0_1 (WL hL aL kL hT hM (.ref dF_tree) iL_names gL_key fL_kind fL_one fL_two fL_base iL_params fL_paramOver dL_paramOver nL_params fL_paramUnder dL_paramUnder nL_pu gL_over_x36 gL_under_x36 fL_bound_x36 iL_nameAt iL_startAt iL_steps_x36 jL_scaleOver jL_scaleUnder) (WF hF aF kF dF_tree nF_tree fF_tree) (WT hT aT kT fT_tape dT_tape nT_tape iT_length iT_fault_x36 iT_place_x36 iT_kind iT_at iT_number jT_name iT_next) (WM hM aM kM iM_stands iM_variables iM_rows iM_goals iM_differents iM_cases fM_from fM_to fM_whole fM_ways iM_plainRows fM_plainRow fM_kept fM_goalOver fM_goalUnder fM_goalMax fM_different)
      have hPc := hP.mem (fun q h => p9.mem_iff.mpr (List.mem_append_left _ h))
      have hDc := (hD.perm p9).left
      have hKc : va_K (dC, dI) vwCl (tL kL ++ (tF kF)) _ := hK.sub [0, 1, 2, 3, 4, 5, 6, 7, 8, 9, 10] rfl
      have hFc := freeG p9 hD hS hA
      refine va_callv (va_runV (As := [.int v2, .int l6_x36]) (rest := []) ⟨hx, hb, hml, hown, hts⟩ (m_X10_bind l dC dI hL aL kL hT hM iL_names gL_key fL_kind fL_one fL_two fL_base iL_params fL_paramOver dL_paramOver nL_params fL_paramUnder dL_paramUnder nL_pu gL_over_x36 gL_under_x36 fL_bound_x36 iL_nameAt iL_startAt iL_steps_x36 jL_scaleOver jL_scaleUnder hF aF kF dF_tree nF_tree fF_tree V lo lv v2 l6_x36 (b_iL_names) b_fL_kind b_fL_two b_fL_base (b_iL_params) (by first | exact b_nL_params | with_reducible assumption | exact ⟨by omega, by omega⟩ | assumption) (by first | with_reducible assumption | omega | (rw [iI_t (by omega) (by omega)]; omega) | assumption) (by first | with_reducible assumption | omega | (rw [iI_t (by omega) (by omega)]; omega) | assumption) (by first | with_reducible assumption | omega | (rw [iI_t (by omega) (by omega)]; omega) | assumption) (by first | exact b_nF_tree | with_reducible assumption | exact ⟨by omega, by omega⟩ | assumption) (b_l6_x36) (by first | with_reducible assumption | omega | (rw [iI_t (by omega) (by omega)]; omega) | decide | assumption) (by first | with_reducible assumption | omega | (rw [iI_t (by omega) (by omega)]; omega) | decide | assumption) H.size) (cwV 2 hts gwsMX10_sum_2 rfl rfl rfl (by decide +kernel) ⟨by first | decide +kernel | (dsimp only [headSpec] <;> omega), by first | decide +kernel | (dsimp only [headSpec] <;> omega)⟩) (fz_pre (va_recv hK hP (ci := 10) (q0 := 0) rfl rfl) hPc hKc hDc) rfl rfl hl.1 rfl (lv_room (Nat.le_of_ble_eq_true rfl)) dX10_sum_47 ⟨by first | decide +kernel | (dsimp only [headSpec] <;> omega), by first | decide +kernel | (dsimp only [headSpec] <;> omega)⟩) hS (fun q _ h => hFc q h) hFc (fun fL_bound_172 t9_ H locs ht hvm hw9 hB9 hz1 hk1 hS => ?_)
      clear hw9
      have p8 := cj_4_0_1 (WL hL aL kL hT hM (.ref dF_tree) iL_names gL_key fL_kind fL_one fL_two fL_base iL_params fL_paramOver dL_paramOver nL_params fL_paramUnder dL_paramUnder nL_pu gL_over_x36 gL_under_x36 fL_bound_172 iL_nameAt iL_startAt iL_steps_x36 jL_scaleOver jL_scaleUnder) (WF hF aF kF dF_tree nF_tree fF_tree) (WT hT aT kT fT_tape dT_tape nT_tape iT_length iT_fault_x36 iT_place_x36 iT_kind iT_at iT_number jT_name iT_next) (WM hM aM kM iM_stands iM_variables iM_rows iM_goals iM_differents iM_cases fM_from fM_to fM_whole fM_ways iM_plainRows fM_plainRow fM_kept fM_goalOver fM_goalUnder fM_goalMax fM_different)
      obtain ⟨hP, hD⟩ := frameG p9 p8 hP hD hk1 hFc (fz_P ht hB9.1) hB9.2
      refine lv_iload hx hb dX10_sum_50 (lv_at hl 2 rfl) ?_
      refine W.cut (pc := 96) (fun H locs ls stk => ∃ (gL_over_j12 : Nat → Int64) (gL_under_j12 : Nat → Int64) (fL_bound_j12 : Nat → Int32) (iL_steps_j12 : Int32) (iT_fault_j12 : Int32) (iT_place_j12 : Int32),  stk = [] ∧ va_P (dC, dI) vwCl (WL hL aL kL hT hM (.ref dF_tree) iL_names gL_key fL_kind fL_one fL_two fL_base iL_params fL_paramOver dL_paramOver nL_params fL_paramUnder dL_paramUnder nL_pu gL_over_j12 gL_under_j12 fL_bound_j12 iL_nameAt iL_startAt iL_steps_j12 jL_scaleOver jL_scaleUnder ++ (WF hF aF kF dF_tree nF_tree fF_tree ++ (WT hT aT kT fT_tape dT_tape nT_tape iT_length iT_fault_j12 iT_place_j12 iT_kind iT_at iT_number jT_name iT_next ++ (WM hM aM kM iM_stands iM_variables iM_rows iM_goals iM_differents iM_cases fM_from fM_to fM_whole fM_ways iM_plainRows fM_plainRow fM_kept fM_goalOver fM_goalUnder fM_goalMax fM_different)))) H ∧ va_D A (WL hL aL kL hT hM (.ref dF_tree) iL_names gL_key fL_kind fL_one fL_two fL_base iL_params fL_paramOver dL_paramOver nL_params fL_paramUnder dL_paramUnder nL_pu gL_over_j12 gL_under_j12 fL_bound_j12 iL_nameAt iL_startAt iL_steps_j12 jL_scaleOver jL_scaleUnder ++ (WF hF aF kF dF_tree nF_tree fF_tree ++ (WT hT aT kT fT_tape dT_tape nT_tape iT_length iT_fault_j12 iT_place_j12 iT_kind iT_at iT_number jT_name iT_next ++ (WM hM aM kM iM_stands iM_variables iM_rows iM_goals iM_differents iM_cases fM_from fM_to fM_whole fM_ways iM_plainRows fM_plainRow fM_kept fM_goalOver fM_goalUnder fM_goalMax fM_different)))) ∧ va_S A s.heap H locs ∧ lv_has ls 7 [(6, .int l6_x36), (5, .int r5), (4, .int v4), (3, .int v2), (0, .ref (hL 0)), (1, .int p1), (2, .int p2)]) (fun join12 => ?_) ?_
      · refine lv_if_eq (tgt := 67) hx hb dX10_sum_52 (by decide) (fun c_52 => ?_) (fun c_52 => ?_)
        · have t_52 : v4.toInt = 0 := toI_eq c_52 rfl (by decide : (0 : Int32).toInt = 0)
          refine lv_aload_n hx hb dX10_sum_67 rfl (lv_at hl 4 rfl) ?_
          refine lv_aload_n hx hb dX10_sum_68 rfl (lv_at hl 4 rfl) ?_
          refine va_get (D := (dC, dI)) (ci := 10) (v := .ref dF_tree) (C := RX10) (T := TX10) (N := 20) hx hb hts iwsMX10_sum_in10 hown hK hP 0 rfl rfl 2 (by decide) (hts _ hm_m_X10_sum_0) (fun _ h9 => h9) rfl dX10_sum_69 ?_
          refine lv_iload_n hx hb dX10_sum_72 rfl (lv_at hl 5 rfl) ?_
          refine lv_iconst (v := 5) hx hb dX10_sum_73 (by decide) ?_
          refine lv_iadd hx hb dX10_sum_74 ?_
          refine lv_topi (fun y189 hy189 => ?_)
          obtain rfl : (iI (p1.toInt + 5)) = y189 := (hy189.trans (iI_add2 (iI_of _) (by decide : (5 : Int32) = iI 5))).symm
          refine va_iald (cA := kF 0) (n := nF_tree) (f := fF_tree) hx hb hK hP 11 10 rfl rfl (vp_iI (by omega) (by omega) (by omega)) dX10_sum_75 ?_
          refine lv_topi (fun v190 hv190 => ?_)
          have b_v190 : v190.toInt = twL fF_tree (p1.toInt + 5) := by rw [hv190]; exact tw_i (by omega) (by omega)
          have b1_v190 : V v190.toInt 3 (lv + 1) := by rw [hv190]; exact Vld (tw_i (by omega) (by omega)) (hc.2.2)
          clear hv190
          refine lv_iload_n hx hb dX10_sum_76 rfl (lv_at hl 6 rfl) ?_
          refine lv_iconst (v := 1) hx hb dX10_sum_77 (by decide) ?_
          refine lv_iadd hx hb dX10_sum_78 ?_
          refine lv_topi (fun y191 hy191 => ?_)
          obtain rfl : (iI (p2.toInt + 1)) = y191 := (hy191.trans (iI_add2 (iI_of _) (by decide : (1 : Int32) = iI 1))).symm
          refine W.known (fun hz0 _ => ?_)
          have hFc := allFree hD hS hA
          refine vx_callv (vx_runV (As := [.int v190, .int (iI (p2.toInt + 1))]) (rest := []) ⟨hx, hb, hml, hown, hts⟩ (ih_X10_factor dC dI hL aL kL hT hM iL_names gL_key fL_kind fL_one fL_two fL_base iL_params fL_paramOver dL_paramOver nL_params fL_paramUnder dL_paramUnder nL_pu gL_over_x36 gL_under_x36 fL_bound_172 iL_nameAt iL_startAt iL_steps_x36 jL_scaleOver jL_scaleUnder hF aF kF dF_tree nF_tree fF_tree aT kT fT_tape dT_tape nT_tape iT_length iT_fault_x36 iT_place_x36 iT_kind iT_at iT_number jT_name iT_next aM kM iM_stands iM_variables iM_rows iM_goals iM_differents iM_cases fM_from fM_to fM_whole fM_ways iM_plainRows fM_plainRow fM_kept fM_goalOver fM_goalUnder fM_goalMax fM_different V lo (lv + 1) v190 (iI (p2.toInt + 1)) (b_iL_names) b_fL_kind b_fL_two b_fL_base (b_iL_params) (by first | exact b_nL_params | with_reducible assumption | exact ⟨by omega, by omega⟩ | assumption) (by first | with_reducible assumption | omega | (rw [iI_t (by omega) (by omega)]; omega) | assumption) (by first | with_reducible assumption | omega | (rw [iI_t (by omega) (by omega)]; omega) | assumption) (by first | with_reducible assumption | omega | (rw [iI_t (by omega) (by omega)]; omega) | assumption) (by first | exact b_nF_tree | with_reducible assumption | exact ⟨by omega, by omega⟩ | assumption) b_fT_tape (by first | exact b_nT_tape | with_reducible assumption | exact ⟨by omega, by omega⟩ | assumption) (b_iT_length) (b_iT_at) (b_iT_number) (b_iT_next) (by first | with_reducible assumption | omega | assumption) (b_iM_stands) (b_iM_variables) (b_iM_rows) (b_iM_goals) (b_iM_differents) (b_iM_cases) b_fM_ways (b_iM_plainRows) b_fM_plainRow (by first | with_reducible assumption | omega | assumption) (iI_rng (Int.le_trans (by decide) (Int.add_le_add (b_p2.1) (Int.le_refl _))) (by omega) (by decide) (by decide)) (by first | with_reducible assumption | omega | (rw [iI_t (by omega) (by omega)]; omega) | decide | assumption) (by first | with_reducible assumption | omega | (rw [iI_t (by omega) (by omega)]; omega) | decide | assumption) (by first | with_reducible assumption | omega | (rw [iI_t (by omega) (by omega)]; omega) | decide | assumption) (by first | with_reducible assumption | omega | (rw [iI_t (by omega) (by omega)]; omega) | decide | assumption) H.size) (cwV 2 hts gwsMX10_sum_3 rfl rfl rfl (by decide +kernel) ⟨by first | decide +kernel | (dsimp only [headSpec] <;> omega), by first | decide +kernel | (dsimp only [headSpec] <;> omega)⟩) (fz_preE (va_recv hK hP (ci := 10) (q0 := 0) rfl rfl) hP hK hD (fun a U g mk qE => qE.call) (fun U hU9 hW => by rw [hU9]; exact (((hE : CE A s s.heap).kept hS.2.1).narrow (fun q h => hFc q h)).warm hW)) rfl rfl hl.1 rfl (lv_room (Nat.le_of_ble_eq_true rfl)) dX10_sum_79 ⟨by first | decide +kernel | (dsimp only [headSpec] <;> omega), by first | decide +kernel | (dsimp only [headSpec] <;> omega)⟩) hS (fun q _ h => hFc q h) hFc (fun q _ h => hFc q h) (fun E ce q9 u t9_ H locs ht hvm hw9 hB9 hz1 hk1 hS hc1 hc2 hc3 => ?_) (fun u t9_ H locs ht hvm hw9 hB9 hz1 hk1 hS => ?_)
          · revert u hw9 hB9
            refine fz_p6 ?_
            intro gL_over_192 gL_under_192 fL_bound_192 iL_steps_192 iT_fault_192 iT_place_192 hw9 hB9
            try dsimp only at hw9 hB9
            revert hB9
            refine fz_a2 ?_
            intro hEx hB9
            clear hw9
            have hP : va_P (dC, dI) vwCl (WL hL aL kL hT hM (.ref dF_tree) iL_names gL_key fL_kind fL_one fL_two fL_base iL_params fL_paramOver dL_paramOver nL_params fL_paramUnder dL_paramUnder nL_pu gL_over_192 gL_under_192 fL_bound_192 iL_nameAt iL_startAt iL_steps_192 jL_scaleOver jL_scaleUnder ++ (WF hF aF kF dF_tree nF_tree fF_tree ++ (WT hT aT kT fT_tape dT_tape nT_tape iT_length iT_fault_192 iT_place_192 iT_kind iT_at iT_number jT_name iT_next ++ (WM hM aM kM iM_stands iM_variables iM_rows iM_goals iM_differents iM_cases fM_from fM_to fM_whole fM_ways iM_plainRows fM_plainRow fM_kept fM_goalOver fM_goalUnder fM_goalMax fM_different)))) H := fz_P ht hB9.1
            have hD := fz_sd hP (hB9.2.weaken (fun _ q _ h => hFc q.1 h)) rfl
            exact vx_out (fun x hx9 => (htab x hx9).elim) hlocks hc1 hc2 hc3 (fun t9_ ht hvm => ⟨(gL_over_192, gL_under_192, fL_bound_192, iL_steps_192, iT_fault_192, iT_place_192), trivial, ⟨(by have h9 := hEx; exact h9), by rw [ht]; exact hP, hD⟩, hS.F ht⟩) hS.2.2 (by decide +kernel) (by decide +kernel)
          revert u hw9 hB9
          refine fz_p6 ?_
          intro gL_over_192 gL_under_192 fL_bound_192 iL_steps_192 iT_fault_192 iT_place_192 hw9 hB9
          try dsimp only at hw9 hB9
          clear hw9
          have hz8 := hB9.2.2
          rw [ht] at hz8
          have hz9 : H.size ≤ s.heap.size + 0 := by rw [hz8]; exact hz0
          refine W.tight (cells2 := 0) (slots2 := 0) hz9 (nS_0 hz9) ?_
          clear hz8 hz9
          have hP : va_P (dC, dI) vwCl (WL hL aL kL hT hM (.ref dF_tree) iL_names gL_key fL_kind fL_one fL_two fL_base iL_params fL_paramOver dL_paramOver nL_params fL_paramUnder dL_paramUnder nL_pu gL_over_192 gL_under_192 fL_bound_192 iL_nameAt iL_startAt iL_steps_192 jL_scaleOver jL_scaleUnder ++ (WF hF aF kF dF_tree nF_tree fF_tree ++ (WT hT aT kT fT_tape dT_tape nT_tape iT_length iT_fault_192 iT_place_192 iT_kind iT_at iT_number jT_name iT_next ++ (WM hM aM kM iM_stands iM_variables iM_rows iM_goals iM_differents iM_cases fM_from fM_to fM_whole fM_ways iM_plainRows fM_plainRow fM_kept fM_goalOver fM_goalUnder fM_goalMax fM_different)))) H := fz_P ht hB9.1
          have hD := fz_sd hP (hB9.2.1.weaken (fun _ q _ h => hFc q.1 h)) rfl
          refine lv_aload_n hx hb dX10_sum_82 rfl (lv_at hl 4 rfl) ?_
          refine lv_iload_n hx hb dX10_sum_83 rfl (lv_at hl 6 rfl) ?_
          refine lv_iconst (v := 0) hx hb dX10_sum_84 (by decide) ?_
          refine lv_aload_n hx hb dX10_sum_85 rfl (lv_at hl 4 rfl) ?_
          refine va_get (D := (dC, dI)) (ci := 10) (v := .ref dF_tree) (C := RX10) (T := TX10) (N := 20) hx hb hts iwsMX10_sum_in10 hown hK hP 0 rfl rfl 2 (by decide) (hts _ hm_m_X10_sum_0) (fun _ h9 => h9) rfl dX10_sum_86 ?_
          refine lv_iload_n hx hb dX10_sum_89 rfl (lv_at hl 3 rfl) ?_
          refine lv_iconst (v := 1) hx hb dX10_sum_90 (by decide) ?_
          refine lv_iadd hx hb dX10_sum_91 ?_
          refine lv_topi (fun y193 hy193 => ?_)
          obtain rfl : (iI (v2.toInt + 1)) = y193 := (hy193.trans (iI_add2 (iI_of _) (by decide : (1 : Int32) = iI 1))).symm
          refine va_iald (cA := kF 0) (n := nF_tree) (f := fF_tree) hx hb hK hP 11 10 rfl rfl (vp_iI (by omega) (by omega) (by omega)) dX10_sum_92 ?_
          refine lv_topi (fun v194 hv194 => ?_)
          have b_v194 : v194.toInt = twL fF_tree (v2.toInt + 1) := by rw [hv194]; exact tw_i (by omega) (by omega)
          clear hv194
          refine W.known (fun hz0 _ => ?_)
          have p9 := cj_4_0_2_3 (WL hL aL kL hT hM (.ref dF_tree) iL_names gL_key fL_kind fL_one fL_two fL_base iL_params fL_paramOver dL_paramOver nL_params fL_paramUnder dL_paramUnder nL_pu gL_over_192 gL_under_192 fL_bound_192 iL_nameAt iL_startAt iL_steps_192 jL_scaleOver jL_scaleUnder) (WF hF aF kF dF_tree nF_tree fF_tree) (WT hT aT kT fT_tape dT_tape nT_tape iT_length iT_fault_192 iT_place_192 iT_kind iT_at iT_number jT_name iT_next) (WM hM aM kM iM_stands iM_variables iM_rows iM_goals iM_differents iM_cases fM_from fM_to fM_whole fM_ways iM_plainRows fM_plainRow fM_kept fM_goalOver fM_goalUnder fM_goalMax fM_different)
          have hPc := hP.mem (fun q h => p9.mem_iff.mpr (List.mem_append_left _ h))
          have hDc := (hD.perm p9).left
          have hKc : va_K (dC, dI) vwCl (tL kL ++ (tT kT ++ (tM kM))) _ := hK.sub [0, 1, 2, 3, 4, 5, 6, 7, 8, 9, 11, 12, 13, 14, 15, 16, 17, 18, 19, 20, 21] rfl
          have hFc := freeG p9 hD hS hA
          refine vx_callv (vx_runV (As := [.int p2, .int 0, .int v194]) (rest := []) ⟨hx, hb, hml, hown, hts⟩ (m_X10_join l hst dC dI hL aL kL hT hM (.ref dF_tree) iL_names gL_key fL_kind fL_one fL_two fL_base iL_params fL_paramOver dL_paramOver nL_params fL_paramUnder dL_paramUnder nL_pu gL_over_192 gL_under_192 fL_bound_192 iL_nameAt iL_startAt iL_steps_192 jL_scaleOver jL_scaleUnder aT kT fT_tape dT_tape nT_tape iT_length iT_fault_192 iT_place_192 iT_kind iT_at iT_number jT_name iT_next aM kM iM_stands iM_variables iM_rows iM_goals iM_differents iM_cases fM_from fM_to fM_whole fM_ways iM_plainRows fM_plainRow fM_kept fM_goalOver fM_goalUnder fM_goalMax fM_different p2 0 v194 (b_iL_names) b_fL_kind b_fL_two b_fL_base (b_iL_params) (by first | exact b_nL_params | with_reducible assumption | exact ⟨by omega, by omega⟩ | assumption) (by first | with_reducible assumption | omega | (rw [iI_t (by omega) (by omega)]; omega) | assumption) (by first | with_reducible assumption | omega | (rw [iI_t (by omega) (by omega)]; omega) | assumption) (by first | with_reducible assumption | omega | (rw [iI_t (by omega) (by omega)]; omega) | assumption) b_fT_tape (by first | exact b_nT_tape | with_reducible assumption | exact ⟨by omega, by omega⟩ | assumption) (b_iT_length) (b_iT_at) (b_iT_number) (b_iT_next) (by first | with_reducible assumption | omega | assumption) (b_iM_stands) (b_iM_variables) (b_iM_rows) (b_iM_goals) (b_iM_differents) (b_iM_cases) b_fM_ways (b_iM_plainRows) b_fM_plainRow (by first | with_reducible assumption | omega | assumption) (b_p2) H.size) (cwV 3 hts gwsMX10_sum_4 rfl rfl rfl (by decide +kernel) ⟨by first | decide +kernel | (dsimp only [headSpec] <;> omega), by first | decide +kernel | (dsimp only [headSpec] <;> omega)⟩) (fz_preE (va_recv hK hP (ci := 10) (q0 := 0) rfl rfl) hPc hKc hDc (fun a U g mk qE => qE.call) (fun U hU9 hW => by rw [hU9]; exact (((hE : CE A s s.heap).kept hS.2.1).narrow (fun q h => hFc q h)).warm hW)) rfl rfl hl.1 rfl (lv_room (Nat.le_of_ble_eq_true rfl)) dX10_sum_93 ⟨by first | decide +kernel | (dsimp only [headSpec] <;> omega), by first | decide +kernel | (dsimp only [headSpec] <;> omega)⟩) hS (fun q _ h => hFc q h) hFc (fun q _ h => hFc q h) (fun E ce q9 u t9_ H locs ht hvm hw9 hB9 hz1 hk1 hS hc1 hc2 hc3 => ?_) (fun u t9_ H locs ht hvm hw9 hB9 hz1 hk1 hS => ?_)
          · revert u hw9 hB9
            refine fz_p4 ?_
            intro gL_over_195 gL_under_195 iT_fault_195 iT_place_195 hw9 hB9
            try dsimp only at hw9 hB9
            revert hB9
            refine fz_a2 ?_
            intro hEx hB9
            clear hw9
            have p8 := cj_4_0_2_3 (WL hL aL kL hT hM (.ref dF_tree) iL_names gL_key fL_kind fL_one fL_two fL_base iL_params fL_paramOver dL_paramOver nL_params fL_paramUnder dL_paramUnder nL_pu gL_over_195 gL_under_195 fL_bound_192 iL_nameAt iL_startAt iL_steps_192 jL_scaleOver jL_scaleUnder) (WF hF aF kF dF_tree nF_tree fF_tree) (WT hT aT kT fT_tape dT_tape nT_tape iT_length iT_fault_195 iT_place_195 iT_kind iT_at iT_number jT_name iT_next) (WM hM aM kM iM_stands iM_variables iM_rows iM_goals iM_differents iM_cases fM_from fM_to fM_whole fM_ways iM_plainRows fM_plainRow fM_kept fM_goalOver fM_goalUnder fM_goalMax fM_different)
            obtain ⟨hP, hD⟩ := frameG p9 p8 hP hD hk1 hFc (fz_P ht hB9.1) hB9.2
            exact vx_out (fun x hx9 => (htab x hx9).elim) hlocks hc1 hc2 hc3 (fun t9_ ht hvm => ⟨(gL_over_195, gL_under_195, fL_bound_192, iL_steps_192, iT_fault_195, iT_place_195), trivial, ⟨(by have h9 := hEx; exact h9), by rw [ht]; exact hP, hD⟩, hS.F ht⟩) hS.2.2 (by decide +kernel) (by decide +kernel)
          revert u hw9 hB9
          refine fz_p4 ?_
          intro gL_over_195 gL_under_195 iT_fault_195 iT_place_195 hw9 hB9
          try dsimp only at hw9 hB9
          clear hw9
          have hz8 := hB9.2.2
          rw [ht] at hz8
          have hz9 : H.size ≤ s.heap.size + 0 := by rw [hz8]; exact hz0
          refine W.tight (cells2 := 0) (slots2 := 0) hz9 (nS_0 hz9) ?_
          clear hz8 hz9
          have p8 := cj_4_0_2_3 (WL hL aL kL hT hM (.ref dF_tree) iL_names gL_key fL_kind fL_one fL_two fL_base iL_params fL_paramOver dL_paramOver nL_params fL_paramUnder dL_paramUnder nL_pu gL_over_195 gL_under_195 fL_bound_192 iL_nameAt iL_startAt iL_steps_192 jL_scaleOver jL_scaleUnder) (WF hF aF kF dF_tree nF_tree fF_tree) (WT hT aT kT fT_tape dT_tape nT_tape iT_length iT_fault_195 iT_place_195 iT_kind iT_at iT_number jT_name iT_next) (WM hM aM kM iM_stands iM_variables iM_rows iM_goals iM_differents iM_cases fM_from fM_to fM_whole fM_ways iM_plainRows fM_plainRow fM_kept fM_goalOver fM_goalUnder fM_goalMax fM_different)
          obtain ⟨hP, hD⟩ := frameG p9 p8 hP hD hk1 hFc (fz_P ht hB9.1) hB9.2.1
          have hl : lv_has _ _ ([(6, .int l6_x36), (5, .int r5), (4, .int v4), (3, .int v2), (0, .ref (hL 0)), (1, .int p1), (2, .int p2)]) := lv_sub hl [0, 1, 2, 3, 4, 5, 6] rfl
          exact join12 _ _ _ _ ⟨gL_over_195, gL_under_195, fL_bound_192, iL_steps_192, iT_fault_195, iT_place_195, rfl, hP, hD, hS, hl⟩
        · have t_52 : ¬ v4.toInt = 0 := toI_neq c_52 rfl (by decide : (0 : Int32).toInt = 0)
          have htr := (by assumption : v4.toInt = 0 ∨ V v4.toInt 10 (lv + 1)).resolve_left t_52
          refine lv_aload_n hx hb dX10_sum_55 rfl (lv_at hl 4 rfl) ?_
          refine lv_iload hx hb dX10_sum_56 (lv_at hl 2 rfl) ?_
          refine lv_iload_n hx hb dX10_sum_58 rfl (lv_at hl 6 rfl) ?_
          refine lv_iconst (v := 1) hx hb dX10_sum_59 (by decide) ?_
          refine lv_iadd hx hb dX10_sum_60 ?_
          refine lv_topi (fun y196 hy196 => ?_)
          obtain rfl : (iI (p2.toInt + 1)) = y196 := (hy196.trans (iI_add2 (iI_of _) (by decide : (1 : Int32) = iI 1))).symm
          refine W.known (fun hz0 _ => ?_)
          have hFc := allFree hD hS hA
          refine vx_calli (vx_runV (As := [.int v4, .int (iI (p2.toInt + 1))]) (rest := []) ⟨hx, hb, hml, hown, hts⟩ (ih_X10_anyHolds dC dI hL aL kL hT hM iL_names gL_key fL_kind fL_one fL_two fL_base iL_params fL_paramOver dL_paramOver nL_params fL_paramUnder dL_paramUnder nL_pu gL_over_x36 gL_under_x36 fL_bound_172 iL_nameAt iL_startAt iL_steps_x36 jL_scaleOver jL_scaleUnder hF aF kF dF_tree nF_tree fF_tree aT kT fT_tape dT_tape nT_tape iT_length iT_fault_x36 iT_place_x36 iT_kind iT_at iT_number jT_name iT_next aM kM iM_stands iM_variables iM_rows iM_goals iM_differents iM_cases fM_from fM_to fM_whole fM_ways iM_plainRows fM_plainRow fM_kept fM_goalOver fM_goalUnder fM_goalMax fM_different V lo (lv + 1) v4 (iI (p2.toInt + 1)) (b_iL_names) b_fL_kind b_fL_two b_fL_base (b_iL_params) (by first | exact b_nL_params | with_reducible assumption | exact ⟨by omega, by omega⟩ | assumption) (by first | with_reducible assumption | omega | (rw [iI_t (by omega) (by omega)]; omega) | assumption) (by first | with_reducible assumption | omega | (rw [iI_t (by omega) (by omega)]; omega) | assumption) (by first | with_reducible assumption | omega | (rw [iI_t (by omega) (by omega)]; omega) | assumption) (by first | exact b_nF_tree | with_reducible assumption | exact ⟨by omega, by omega⟩ | assumption) b_fT_tape (by first | exact b_nT_tape | with_reducible assumption | exact ⟨by omega, by omega⟩ | assumption) (b_iT_length) (b_iT_at) (b_iT_number) (b_iT_next) (by first | with_reducible assumption | omega | assumption) (b_iM_stands) (b_iM_variables) (b_iM_rows) (b_iM_goals) (b_iM_differents) (b_iM_cases) b_fM_ways (b_iM_plainRows) b_fM_plainRow (by first | with_reducible assumption | omega | assumption) (iI_rng (Int.le_trans (by decide) (Int.add_le_add (b_p2.1) (Int.le_refl _))) (by omega) (by decide) (by decide)) (by first | with_reducible assumption | omega | (rw [iI_t (by omega) (by omega)]; omega) | decide | assumption) (by first | with_reducible assumption | omega | (rw [iI_t (by omega) (by omega)]; omega) | decide | assumption) (by first | with_reducible assumption | omega | (rw [iI_t (by omega) (by omega)]; omega) | decide | assumption) (by first | with_reducible assumption | omega | (rw [iI_t (by omega) (by omega)]; omega) | decide | assumption) H.size) (cwV 2 hts gwsMX10_sum_5 rfl rfl rfl (by decide +kernel) ⟨by first | decide +kernel | (dsimp only [headSpec] <;> omega), by first | decide +kernel | (dsimp only [headSpec] <;> omega)⟩) (fz_preE (va_recv hK hP (ci := 10) (q0 := 0) rfl rfl) hP hK hD (fun a U g mk qE => qE.call) (fun U hU9 hW => by rw [hU9]; exact (((hE : CE A s s.heap).kept hS.2.1).narrow (fun q h => hFc q h)).warm hW)) rfl rfl hl.1 rfl (lv_room (Nat.le_of_ble_eq_true rfl)) dX10_sum_61 ⟨by first | decide +kernel | (dsimp only [headSpec] <;> omega), by first | decide +kernel | (dsimp only [headSpec] <;> omega)⟩) hS (fun q _ h => hFc q h) hFc (fun q _ h => hFc q h) (fun E ce q9 u t9_ H locs ht hvm hw9 hB9 hz1 hk1 hS hc1 hc2 hc3 => ?_) (fun r197 u t9_ H locs ht hvm hw9 hB9 hz1 hk1 hS => ?_)
          · revert u hw9 hB9
            refine fz_p6 ?_
            intro gL_over_197 gL_under_197 fL_bound_197 iL_steps_197 iT_fault_197 iT_place_197 hw9 hB9
            try dsimp only at hw9 hB9
            revert hB9
            refine fz_a2 ?_
            intro hEx hB9
            clear hw9
            have hP : va_P (dC, dI) vwCl (WL hL aL kL hT hM (.ref dF_tree) iL_names gL_key fL_kind fL_one fL_two fL_base iL_params fL_paramOver dL_paramOver nL_params fL_paramUnder dL_paramUnder nL_pu gL_over_197 gL_under_197 fL_bound_197 iL_nameAt iL_startAt iL_steps_197 jL_scaleOver jL_scaleUnder ++ (WF hF aF kF dF_tree nF_tree fF_tree ++ (WT hT aT kT fT_tape dT_tape nT_tape iT_length iT_fault_197 iT_place_197 iT_kind iT_at iT_number jT_name iT_next ++ (WM hM aM kM iM_stands iM_variables iM_rows iM_goals iM_differents iM_cases fM_from fM_to fM_whole fM_ways iM_plainRows fM_plainRow fM_kept fM_goalOver fM_goalUnder fM_goalMax fM_different)))) H := fz_P ht hB9.1
            have hD := fz_sd hP (hB9.2.weaken (fun _ q _ h => hFc q.1 h)) rfl
            exact vx_out (fun x hx9 => (htab x hx9).elim) hlocks hc1 hc2 hc3 (fun t9_ ht hvm => ⟨(gL_over_197, gL_under_197, fL_bound_197, iL_steps_197, iT_fault_197, iT_place_197), trivial, ⟨(by have h9 := hEx; exact h9), by rw [ht]; exact hP, hD⟩, hS.F ht⟩) hS.2.2 (by decide +kernel) (by decide +kernel)
          revert u hw9 hB9
          refine fz_p6 ?_
          intro gL_over_197 gL_under_197 fL_bound_197 iL_steps_197 iT_fault_197 iT_place_197 hw9 hB9
          try dsimp only at hw9 hB9
          have b_r197 := hw9
          try dsimp only at b_r197
          have hz8 := hB9.2.2
          rw [ht] at hz8
          have hz9 : H.size ≤ s.heap.size + 0 := by rw [hz8]; exact hz0
          refine W.tight (cells2 := 0) (slots2 := 0) hz9 (nS_0 hz9) ?_
          clear hz8 hz9
          have hP : va_P (dC, dI) vwCl (WL hL aL kL hT hM (.ref dF_tree) iL_names gL_key fL_kind fL_one fL_two fL_base iL_params fL_paramOver dL_paramOver nL_params fL_paramUnder dL_paramUnder nL_pu gL_over_197 gL_under_197 fL_bound_197 iL_nameAt iL_startAt iL_steps_197 jL_scaleOver jL_scaleUnder ++ (WF hF aF kF dF_tree nF_tree fF_tree ++ (WT hT aT kT fT_tape dT_tape nT_tape iT_length iT_fault_197 iT_place_197 iT_kind iT_at iT_number jT_name iT_next ++ (WM hM aM kM iM_stands iM_variables iM_rows iM_goals iM_differents iM_cases fM_from fM_to fM_whole fM_ways iM_plainRows fM_plainRow fM_kept fM_goalOver fM_goalUnder fM_goalMax fM_different)))) H := fz_P ht hB9.1
          have hD := fz_sd hP (hB9.2.1.weaken (fun _ q _ h => hFc q.1 h)) rfl
          refine lv_if_eq (tgt := 96) hx hb dX10_sum_64 (by decide) (fun c_64 => ?_) (fun c_64 => ?_)
          · have t_64 : r197.toInt = 0 := toI_eq c_64 rfl (by decide : (0 : Int32).toInt = 0)
            have hl : lv_has _ _ ([(6, .int l6_x36), (5, .int r5), (4, .int v4), (3, .int v2), (0, .ref (hL 0)), (1, .int p1), (2, .int p2)]) := lv_sub hl [0, 1, 2, 3, 4, 5, 6] rfl
            exact join12 _ _ _ _ ⟨gL_over_197, gL_under_197, fL_bound_197, iL_steps_197, iT_fault_197, iT_place_197, rfl, hP, hD, hS, hl⟩
          · have t_64 : ¬ r197.toInt = 0 := toI_neq c_64 rfl (by decide : (0 : Int32).toInt = 0)
            refine lv_aload_n hx hb dX10_sum_67 rfl (lv_at hl 4 rfl) ?_
            refine lv_aload_n hx hb dX10_sum_68 rfl (lv_at hl 4 rfl) ?_
            refine va_get (D := (dC, dI)) (ci := 10) (v := .ref dF_tree) (C := RX10) (T := TX10) (N := 20) hx hb hts iwsMX10_sum_in10 hown hK hP 0 rfl rfl 2 (by decide) (hts _ hm_m_X10_sum_0) (fun _ h9 => h9) rfl dX10_sum_69 ?_
            refine lv_iload_n hx hb dX10_sum_72 rfl (lv_at hl 5 rfl) ?_
            refine lv_iconst (v := 5) hx hb dX10_sum_73 (by decide) ?_
            refine lv_iadd hx hb dX10_sum_74 ?_
            refine lv_topi (fun y198 hy198 => ?_)
            obtain rfl : (iI (p1.toInt + 5)) = y198 := (hy198.trans (iI_add2 (iI_of _) (by decide : (5 : Int32) = iI 5))).symm
            refine va_iald (cA := kF 0) (n := nF_tree) (f := fF_tree) hx hb hK hP 11 10 rfl rfl (vp_iI (by omega) (by omega) (by omega)) dX10_sum_75 ?_
            refine lv_topi (fun v199 hv199 => ?_)
            have b_v199 : v199.toInt = twL fF_tree (p1.toInt + 5) := by rw [hv199]; exact tw_i (by omega) (by omega)
            have b1_v199 : V v199.toInt 3 (lv + 1) := by rw [hv199]; exact Vld (tw_i (by omega) (by omega)) (hc.2.2)
            clear hv199
            refine lv_iload_n hx hb dX10_sum_76 rfl (lv_at hl 6 rfl) ?_
            refine lv_iconst (v := 1) hx hb dX10_sum_77 (by decide) ?_
            refine lv_iadd hx hb dX10_sum_78 ?_
            refine lv_topi (fun y200 hy200 => ?_)
            obtain rfl : (iI (p2.toInt + 1)) = y200 := (hy200.trans (iI_add2 (iI_of _) (by decide : (1 : Int32) = iI 1))).symm
            refine W.known (fun hz0 _ => ?_)
            have hFc := allFree hD hS hA
            refine vx_callv (vx_runV (As := [.int v199, .int (iI (p2.toInt + 1))]) (rest := []) ⟨hx, hb, hml, hown, hts⟩ (ih_X10_factor dC dI hL aL kL hT hM iL_names gL_key fL_kind fL_one fL_two fL_base iL_params fL_paramOver dL_paramOver nL_params fL_paramUnder dL_paramUnder nL_pu gL_over_197 gL_under_197 fL_bound_197 iL_nameAt iL_startAt iL_steps_197 jL_scaleOver jL_scaleUnder hF aF kF dF_tree nF_tree fF_tree aT kT fT_tape dT_tape nT_tape iT_length iT_fault_197 iT_place_197 iT_kind iT_at iT_number jT_name iT_next aM kM iM_stands iM_variables iM_rows iM_goals iM_differents iM_cases fM_from fM_to fM_whole fM_ways iM_plainRows fM_plainRow fM_kept fM_goalOver fM_goalUnder fM_goalMax fM_different V lo (lv + 1) v199 (iI (p2.toInt + 1)) (b_iL_names) b_fL_kind b_fL_two b_fL_base (b_iL_params) (by first | exact b_nL_params | with_reducible assumption | exact ⟨by omega, by omega⟩ | assumption) (by first | with_reducible assumption | omega | (rw [iI_t (by omega) (by omega)]; omega) | assumption) (by first | with_reducible assumption | omega | (rw [iI_t (by omega) (by omega)]; omega) | assumption) (by first | with_reducible assumption | omega | (rw [iI_t (by omega) (by omega)]; omega) | assumption) (by first | exact b_nF_tree | with_reducible assumption | exact ⟨by omega, by omega⟩ | assumption) b_fT_tape (by first | exact b_nT_tape | with_reducible assumption | exact ⟨by omega, by omega⟩ | assumption) (b_iT_length) (b_iT_at) (b_iT_number) (b_iT_next) (by first | with_reducible assumption | omega | assumption) (b_iM_stands) (b_iM_variables) (b_iM_rows) (b_iM_goals) (b_iM_differents) (b_iM_cases) b_fM_ways (b_iM_plainRows) b_fM_plainRow (by first | with_reducible assumption | omega | assumption) (iI_rng (Int.le_trans (by decide) (Int.add_le_add (b_p2.1) (Int.le_refl _))) (by omega) (by decide) (by decide)) (by first | with_reducible assumption | omega | (rw [iI_t (by omega) (by omega)]; omega) | decide | assumption) (by first | with_reducible assumption | omega | (rw [iI_t (by omega) (by omega)]; omega) | decide | assumption) (by first | with_reducible assumption | omega | (rw [iI_t (by omega) (by omega)]; omega) | decide | assumption) (by first | with_reducible assumption | omega | (rw [iI_t (by omega) (by omega)]; omega) | decide | assumption) H.size) (cwV 2 hts gwsMX10_sum_3 rfl rfl rfl (by decide +kernel) ⟨by first | decide +kernel | (dsimp only [headSpec] <;> omega), by first | decide +kernel | (dsimp only [headSpec] <;> omega)⟩) (fz_preE (va_recv hK hP (ci := 10) (q0 := 0) rfl rfl) hP hK hD (fun a U g mk qE => qE.call) (fun U hU9 hW => by rw [hU9]; exact (((hE : CE A s s.heap).kept hS.2.1).narrow (fun q h => hFc q h)).warm hW)) rfl rfl hl.1 rfl (lv_room (Nat.le_of_ble_eq_true rfl)) dX10_sum_79 ⟨by first | decide +kernel | (dsimp only [headSpec] <;> omega), by first | decide +kernel | (dsimp only [headSpec] <;> omega)⟩) hS (fun q _ h => hFc q h) hFc (fun q _ h => hFc q h) (fun E ce q9 u t9_ H locs ht hvm hw9 hB9 hz1 hk1 hS hc1 hc2 hc3 => ?_) (fun u t9_ H locs ht hvm hw9 hB9 hz1 hk1 hS => ?_)
            · revert u hw9 hB9
              refine fz_p6 ?_
              intro gL_over_201 gL_under_201 fL_bound_201 iL_steps_201 iT_fault_201 iT_place_201 hw9 hB9
              try dsimp only at hw9 hB9
              revert hB9
              refine fz_a2 ?_
              intro hEx hB9
              clear hw9
              have hP : va_P (dC, dI) vwCl (WL hL aL kL hT hM (.ref dF_tree) iL_names gL_key fL_kind fL_one fL_two fL_base iL_params fL_paramOver dL_paramOver nL_params fL_paramUnder dL_paramUnder nL_pu gL_over_201 gL_under_201 fL_bound_201 iL_nameAt iL_startAt iL_steps_201 jL_scaleOver jL_scaleUnder ++ (WF hF aF kF dF_tree nF_tree fF_tree ++ (WT hT aT kT fT_tape dT_tape nT_tape iT_length iT_fault_201 iT_place_201 iT_kind iT_at iT_number jT_name iT_next ++ (WM hM aM kM iM_stands iM_variables iM_rows iM_goals iM_differents iM_cases fM_from fM_to fM_whole fM_ways iM_plainRows fM_plainRow fM_kept fM_goalOver fM_goalUnder fM_goalMax fM_different)))) H := fz_P ht hB9.1
              have hD := fz_sd hP (hB9.2.weaken (fun _ q _ h => hFc q.1 h)) rfl
              exact vx_out (fun x hx9 => (htab x hx9).elim) hlocks hc1 hc2 hc3 (fun t9_ ht hvm => ⟨(gL_over_201, gL_under_201, fL_bound_201, iL_steps_201, iT_fault_201, iT_place_201), trivial, ⟨(by have h9 := hEx; exact h9), by rw [ht]; exact hP, hD⟩, hS.F ht⟩) hS.2.2 (by decide +kernel) (by decide +kernel)
            revert u hw9 hB9
            refine fz_p6 ?_
            intro gL_over_201 gL_under_201 fL_bound_201 iL_steps_201 iT_fault_201 iT_place_201 hw9 hB9
            try dsimp only at hw9 hB9
            clear hw9
            have hz8 := hB9.2.2
            rw [ht] at hz8
            have hz9 : H.size ≤ s.heap.size + 0 := by rw [hz8]; exact hz0
            refine W.tight (cells2 := 0) (slots2 := 0) hz9 (nS_0 hz9) ?_
            clear hz8 hz9
            have hP : va_P (dC, dI) vwCl (WL hL aL kL hT hM (.ref dF_tree) iL_names gL_key fL_kind fL_one fL_two fL_base iL_params fL_paramOver dL_paramOver nL_params fL_paramUnder dL_paramUnder nL_pu gL_over_201 gL_under_201 fL_bound_201 iL_nameAt iL_startAt iL_steps_201 jL_scaleOver jL_scaleUnder ++ (WF hF aF kF dF_tree nF_tree fF_tree ++ (WT hT aT kT fT_tape dT_tape nT_tape iT_length iT_fault_201 iT_place_201 iT_kind iT_at iT_number jT_name iT_next ++ (WM hM aM kM iM_stands iM_variables iM_rows iM_goals iM_differents iM_cases fM_from fM_to fM_whole fM_ways iM_plainRows fM_plainRow fM_kept fM_goalOver fM_goalUnder fM_goalMax fM_different)))) H := fz_P ht hB9.1
            have hD := fz_sd hP (hB9.2.1.weaken (fun _ q _ h => hFc q.1 h)) rfl
            refine lv_aload_n hx hb dX10_sum_82 rfl (lv_at hl 4 rfl) ?_
            refine lv_iload_n hx hb dX10_sum_83 rfl (lv_at hl 6 rfl) ?_
            refine lv_iconst (v := 0) hx hb dX10_sum_84 (by decide) ?_
            refine lv_aload_n hx hb dX10_sum_85 rfl (lv_at hl 4 rfl) ?_
            refine va_get (D := (dC, dI)) (ci := 10) (v := .ref dF_tree) (C := RX10) (T := TX10) (N := 20) hx hb hts iwsMX10_sum_in10 hown hK hP 0 rfl rfl 2 (by decide) (hts _ hm_m_X10_sum_0) (fun _ h9 => h9) rfl dX10_sum_86 ?_
            refine lv_iload_n hx hb dX10_sum_89 rfl (lv_at hl 3 rfl) ?_
            refine lv_iconst (v := 1) hx hb dX10_sum_90 (by decide) ?_
            refine lv_iadd hx hb dX10_sum_91 ?_
            refine lv_topi (fun y202 hy202 => ?_)
            obtain rfl : (iI (v2.toInt + 1)) = y202 := (hy202.trans (iI_add2 (iI_of _) (by decide : (1 : Int32) = iI 1))).symm
            refine va_iald (cA := kF 0) (n := nF_tree) (f := fF_tree) hx hb hK hP 11 10 rfl rfl (vp_iI (by omega) (by omega) (by omega)) dX10_sum_92 ?_
            refine lv_topi (fun v203 hv203 => ?_)
            have b_v203 : v203.toInt = twL fF_tree (v2.toInt + 1) := by rw [hv203]; exact tw_i (by omega) (by omega)
            clear hv203
            refine W.known (fun hz0 _ => ?_)
            have p9 := cj_4_0_2_3 (WL hL aL kL hT hM (.ref dF_tree) iL_names gL_key fL_kind fL_one fL_two fL_base iL_params fL_paramOver dL_paramOver nL_params fL_paramUnder dL_paramUnder nL_pu gL_over_201 gL_under_201 fL_bound_201 iL_nameAt iL_startAt iL_steps_201 jL_scaleOver jL_scaleUnder) (WF hF aF kF dF_tree nF_tree fF_tree) (WT hT aT kT fT_tape dT_tape nT_tape iT_length iT_fault_201 iT_place_201 iT_kind iT_at iT_number jT_name iT_next) (WM hM aM kM iM_stands iM_variables iM_rows iM_goals iM_differents iM_cases fM_from fM_to fM_whole fM_ways iM_plainRows fM_plainRow fM_kept fM_goalOver fM_goalUnder fM_goalMax fM_different)
            have hPc := hP.mem (fun q h => p9.mem_iff.mpr (List.mem_append_left _ h))
            have hDc := (hD.perm p9).left
            have hKc : va_K (dC, dI) vwCl (tL kL ++ (tT kT ++ (tM kM))) _ := hK.sub [0, 1, 2, 3, 4, 5, 6, 7, 8, 9, 11, 12, 13, 14, 15, 16, 17, 18, 19, 20, 21] rfl
            have hFc := freeG p9 hD hS hA
            refine vx_callv (vx_runV (As := [.int p2, .int 0, .int v203]) (rest := []) ⟨hx, hb, hml, hown, hts⟩ (m_X10_join l hst dC dI hL aL kL hT hM (.ref dF_tree) iL_names gL_key fL_kind fL_one fL_two fL_base iL_params fL_paramOver dL_paramOver nL_params fL_paramUnder dL_paramUnder nL_pu gL_over_201 gL_under_201 fL_bound_201 iL_nameAt iL_startAt iL_steps_201 jL_scaleOver jL_scaleUnder aT kT fT_tape dT_tape nT_tape iT_length iT_fault_201 iT_place_201 iT_kind iT_at iT_number jT_name iT_next aM kM iM_stands iM_variables iM_rows iM_goals iM_differents iM_cases fM_from fM_to fM_whole fM_ways iM_plainRows fM_plainRow fM_kept fM_goalOver fM_goalUnder fM_goalMax fM_different p2 0 v203 (b_iL_names) b_fL_kind b_fL_two b_fL_base (b_iL_params) (by first | exact b_nL_params | with_reducible assumption | exact ⟨by omega, by omega⟩ | assumption) (by first | with_reducible assumption | omega | (rw [iI_t (by omega) (by omega)]; omega) | assumption) (by first | with_reducible assumption | omega | (rw [iI_t (by omega) (by omega)]; omega) | assumption) (by first | with_reducible assumption | omega | (rw [iI_t (by omega) (by omega)]; omega) | assumption) b_fT_tape (by first | exact b_nT_tape | with_reducible assumption | exact ⟨by omega, by omega⟩ | assumption) (b_iT_length) (b_iT_at) (b_iT_number) (b_iT_next) (by first | with_reducible assumption | omega | assumption) (b_iM_stands) (b_iM_variables) (b_iM_rows) (b_iM_goals) (b_iM_differents) (b_iM_cases) b_fM_ways (b_iM_plainRows) b_fM_plainRow (by first | with_reducible assumption | omega | assumption) (b_p2) H.size) (cwV 3 hts gwsMX10_sum_4 rfl rfl rfl (by decide +kernel) ⟨by first | decide +kernel | (dsimp only [headSpec] <;> omega), by first | decide +kernel | (dsimp only [headSpec] <;> omega)⟩) (fz_preE (va_recv hK hP (ci := 10) (q0 := 0) rfl rfl) hPc hKc hDc (fun a U g mk qE => qE.call) (fun U hU9 hW => by rw [hU9]; exact (((hE : CE A s s.heap).kept hS.2.1).narrow (fun q h => hFc q h)).warm hW)) rfl rfl hl.1 rfl (lv_room (Nat.le_of_ble_eq_true rfl)) dX10_sum_93 ⟨by first | decide +kernel | (dsimp only [headSpec] <;> omega), by first | decide +kernel | (dsimp only [headSpec] <;> omega)⟩) hS (fun q _ h => hFc q h) hFc (fun q _ h => hFc q h) (fun E ce q9 u t9_ H locs ht hvm hw9 hB9 hz1 hk1 hS hc1 hc2 hc3 => ?_) (fun u t9_ H locs ht hvm hw9 hB9 hz1 hk1 hS => ?_)
            · revert u hw9 hB9
              refine fz_p4 ?_
              intro gL_over_204 gL_under_204 iT_fault_204 iT_place_204 hw9 hB9
              try dsimp only at hw9 hB9
              revert hB9
              refine fz_a2 ?_
              intro hEx hB9
              clear hw9
              have p8 := cj_4_0_2_3 (WL hL aL kL hT hM (.ref dF_tree) iL_names gL_key fL_kind fL_one fL_two fL_base iL_params fL_paramOver dL_paramOver nL_params fL_paramUnder dL_paramUnder nL_pu gL_over_204 gL_under_204 fL_bound_201 iL_nameAt iL_startAt iL_steps_201 jL_scaleOver jL_scaleUnder) (WF hF aF kF dF_tree nF_tree fF_tree) (WT hT aT kT fT_tape dT_tape nT_tape iT_length iT_fault_204 iT_place_204 iT_kind iT_at iT_number jT_name iT_next) (WM hM aM kM iM_stands iM_variables iM_rows iM_goals iM_differents iM_cases fM_from fM_to fM_whole fM_ways iM_plainRows fM_plainRow fM_kept fM_goalOver fM_goalUnder fM_goalMax fM_different)
              obtain ⟨hP, hD⟩ := frameG p9 p8 hP hD hk1 hFc (fz_P ht hB9.1) hB9.2
              exact vx_out (fun x hx9 => (htab x hx9).elim) hlocks hc1 hc2 hc3 (fun t9_ ht hvm => ⟨(gL_over_204, gL_under_204, fL_bound_201, iL_steps_201, iT_fault_204, iT_place_204), trivial, ⟨(by have h9 := hEx; exact h9), by rw [ht]; exact hP, hD⟩, hS.F ht⟩) hS.2.2 (by decide +kernel) (by decide +kernel)
            revert u hw9 hB9
            refine fz_p4 ?_
            intro gL_over_204 gL_under_204 iT_fault_204 iT_place_204 hw9 hB9
            try dsimp only at hw9 hB9
            clear hw9
            have hz8 := hB9.2.2
            rw [ht] at hz8
            have hz9 : H.size ≤ s.heap.size + 0 := by rw [hz8]; exact hz0
            refine W.tight (cells2 := 0) (slots2 := 0) hz9 (nS_0 hz9) ?_
            clear hz8 hz9
            have p8 := cj_4_0_2_3 (WL hL aL kL hT hM (.ref dF_tree) iL_names gL_key fL_kind fL_one fL_two fL_base iL_params fL_paramOver dL_paramOver nL_params fL_paramUnder dL_paramUnder nL_pu gL_over_204 gL_under_204 fL_bound_201 iL_nameAt iL_startAt iL_steps_201 jL_scaleOver jL_scaleUnder) (WF hF aF kF dF_tree nF_tree fF_tree) (WT hT aT kT fT_tape dT_tape nT_tape iT_length iT_fault_204 iT_place_204 iT_kind iT_at iT_number jT_name iT_next) (WM hM aM kM iM_stands iM_variables iM_rows iM_goals iM_differents iM_cases fM_from fM_to fM_whole fM_ways iM_plainRows fM_plainRow fM_kept fM_goalOver fM_goalUnder fM_goalMax fM_different)
            obtain ⟨hP, hD⟩ := frameG p9 p8 hP hD hk1 hFc (fz_P ht hB9.1) hB9.2.1
            have hl : lv_has _ _ ([(6, .int l6_x36), (5, .int r5), (4, .int v4), (3, .int v2), (0, .ref (hL 0)), (1, .int p1), (2, .int p2)]) := lv_sub hl [0, 1, 2, 3, 4, 5, 6] rfl
            exact join12 _ _ _ _ ⟨gL_over_204, gL_under_204, fL_bound_201, iL_steps_201, iT_fault_204, iT_place_204, rfl, hP, hD, hS, hl⟩
      · intro H locs ls stk
        refine fz_e6 ?_
        intro gL_over_j12 gL_under_j12 fL_bound_j12 iL_steps_j12 iT_fault_j12 iT_place_j12
        refine fz_a5 ?_
        intro hst9_0 hP hD hS hl
        subst hst9_0
        refine lv_iinc (v := (iI (l6_x36.toInt + 1))) hx hb dX10_sum_96 hl (k := 0) rfl (iI_add2 (iI_of _) (by decide : (1 : Int32) = iI 1)) (by decide) rfl (fun ls (hl : lv_has ls _ ([(6, .int (iI (l6_x36.toInt + 1))), (5, .int r5), (4, .int v4), (3, .int v2), (0, .ref (hL 0)), (1, .int p1), (2, .int p2)])) => ?_)
        refine lv_goto (tgt := 36) hx hb dX10_sum_99 (by decide) ?_
        have hl : lv_has _ _ ([(6, .int (iI (l6_x36.toInt + 1))), (5, .int r5), (4, .int v4), (3, .int v2), (0, .ref (hL 0)), (1, .int p1), (2, .int p2)]) := lv_sub hl [0, 1, 2, 3, 4, 5, 6] rfl
        exact ihx36 gL_over_j12 gL_under_j12 fL_bound_j12 iL_steps_j12 iT_fault_j12 iT_place_j12 (iI (l6_x36.toInt + 1)) _ _ _ (iI_rng (Int.le_trans (by decide) (Int.add_le_add (b_l6_x36.1) (Int.le_refl _))) (by omega) (by decide) (by decide)) (by have e9 : ((iI (l6_x36.toInt + 1))).toInt = (l6_x36.toInt + 1) := (iI_t (Int.le_trans (by decide) (Int.add_le_add (b_l6_x36.1) (Int.le_refl _))) (Int.le_trans (Int.add_le_add (b_l6_x36.2) (Int.le_refl _)) (by decide))); omega) hP hD hS hl
end
section
theorem dX10_anyHolds_0 : decode cX10_anyHolds 0 = .ok (.aload_n 0, 1) := dk_42 (by decide +kernel)
theorem dX10_anyHolds_1 : decode cX10_anyHolds 1 = .ok (.getfield 55, 3) := dk_180 (by decide +kernel)
theorem dX10_anyHolds_4 : decode cX10_anyHolds 4 = .ok (.iload_n 1, 1) := dk_27 (by decide +kernel)
theorem dX10_anyHolds_5 : decode cX10_anyHolds 5 = .ok (.iconst 3, 1) := dk_6 (by decide +kernel)
theorem dX10_anyHolds_6 : decode cX10_anyHolds 6 = .ok (.iadd, 1) := dk_96 (by decide +kernel)
theorem dX10_anyHolds_7 : decode cX10_anyHolds 7 = .ok (.iaload, 1) := dk_46 (by decide +kernel)
theorem dX10_anyHolds_8 : decode cX10_anyHolds 8 = .ok (.istore_n 3, 1) := dk_62 (by decide +kernel)
theorem dX10_anyHolds_9 : decode cX10_anyHolds 9 = .ok (.iconst 0, 1) := dk_3 (by decide +kernel)
theorem dX10_anyHolds_10 : decode cX10_anyHolds 10 = .ok (.istore 4, 2) := dk_54 (by decide +kernel)
theorem dX10_anyHolds_12 : decode cX10_anyHolds 12 = .ok (.iload 4, 2) := dk_21 (by decide +kernel)
theorem dX10_anyHolds_14 : decode cX10_anyHolds 14 = .ok (.sipush 4000, 3) := dk_17 (by decide +kernel)
theorem dX10_anyHolds_17 : decode cX10_anyHolds 17 = .ok (.if_icmp .ge 34, 3) := dk_162 (by decide +kernel)
theorem dX10_anyHolds_20 : decode cX10_anyHolds 20 = .ok (.iload_n 3, 1) := dk_29 (by decide +kernel)
theorem dX10_anyHolds_21 : decode cX10_anyHolds 21 = .ok (.ifCond .eq 30, 3) := dk_153 (by decide +kernel)
theorem dX10_anyHolds_24 : decode cX10_anyHolds 24 = .ok (.aload_n 0, 1) := dk_42 (by decide +kernel)
theorem dX10_anyHolds_25 : decode cX10_anyHolds 25 = .ok (.iload_n 3, 1) := dk_29 (by decide +kernel)
theorem dX10_anyHolds_26 : decode cX10_anyHolds 26 = .ok (.iload_n 2, 1) := dk_28 (by decide +kernel)
theorem dX10_anyHolds_27 : decode cX10_anyHolds 27 = .ok (.invokevirtual 249, 3) := dk_182 (by decide +kernel)
theorem dX10_anyHolds_30 : decode cX10_anyHolds 30 = .ok (.ifCond .eq 5, 3) := dk_153 (by decide +kernel)
theorem dX10_anyHolds_33 : decode cX10_anyHolds 33 = .ok (.iconst 1, 1) := dk_4 (by decide +kernel)
theorem dX10_anyHolds_34 : decode cX10_anyHolds 34 = .ok (.ireturn, 1) := dk_172 (by decide +kernel)
theorem dX10_anyHolds_35 : decode cX10_anyHolds 35 = .ok (.aload_n 0, 1) := dk_42 (by decide +kernel)
theorem dX10_anyHolds_36 : decode cX10_anyHolds 36 = .ok (.getfield 55, 3) := dk_180 (by decide +kernel)
theorem dX10_anyHolds_39 : decode cX10_anyHolds 39 = .ok (.iload_n 3, 1) := dk_29 (by decide +kernel)
theorem dX10_anyHolds_40 : decode cX10_anyHolds 40 = .ok (.bipush 6, 2) := dk_16 (by decide +kernel)
theorem dX10_anyHolds_42 : decode cX10_anyHolds 42 = .ok (.iadd, 1) := dk_96 (by decide +kernel)
theorem dX10_anyHolds_43 : decode cX10_anyHolds 43 = .ok (.iaload, 1) := dk_46 (by decide +kernel)
theorem dX10_anyHolds_44 : decode cX10_anyHolds 44 = .ok (.istore_n 3, 1) := dk_62 (by decide +kernel)
theorem dX10_anyHolds_45 : decode cX10_anyHolds 45 = .ok (.iinc 4 1, 3) := dk_132 (by decide +kernel)
theorem dX10_anyHolds_48 : decode cX10_anyHolds 48 = .ok (.goto (-36), 3) := dk_167 (by decide +kernel)
theorem dX10_anyHolds_51 : decode cX10_anyHolds 51 = .ok (.iconst 0, 1) := dk_3 (by decide +kernel)
theorem dX10_anyHolds_52 : decode cX10_anyHolds 52 = .ok (.ireturn, 1) := dk_172 (by decide +kernel)
theorem iwsMX10_anyHolds_in10 : ∀ w ∈ wsX100, w ∈ wsMX10_anyHolds := fun w h => List.mem_cons_of_mem _ (iwsGW_in10 w h)
theorem gwsMX10_anyHolds_0 : GoodIn wsMX10_anyHolds (wsV RX10 249 RX10 yX10_allHold wsMX10_allHold) := goodIn_rec (hd := [.methodLink RX10 249 yX10_allHold, .instanceMethod yX10_allHold, .selects RX10 yX10_allHold yX10_allHold, .initialized RX10]) (by decide +kernel) (by decide +kernel) gdwsGW
theorem hm_m_X10_anyHolds_0 : (.fieldLink RX10 55 "OptimaWorks$Worker" "tree" "[I" : Cond) ∈ wsMX10_anyHolds := by decide +kernel
set_option maxHeartbeats 4000000 in
set_option maxRecDepth 100000 in
/-- whether any holds -/
theorem m_X10_anyHolds (l : Launch) (hst : l.stackTraces = false) (ev : Nat) (ih_X10_allHold : Cm_X10_allHold l (ev + 1)) : Cm_X10_anyHolds l (ev + 1) := by
  intro dC dI hL aL kL hT hM iL_names gL_key fL_kind fL_one fL_two fL_base iL_params fL_paramOver dL_paramOver nL_params fL_paramUnder dL_paramUnder nL_pu gL_over gL_under fL_bound iL_nameAt iL_startAt iL_steps jL_scaleOver jL_scaleUnder hF aF kF dF_tree nF_tree fF_tree aT kT fT_tape dT_tape nT_tape iT_length iT_fault iT_place iT_kind iT_at iT_number jT_name iT_next aM kM iM_stands iM_variables iM_rows iM_goals iM_differents iM_cases fM_from fM_to fM_whole fM_ways iM_plainRows fM_plainRow fM_kept fM_goalOver fM_goalUnder fM_goalMax fM_different V lo lv p1 p2 b_iL_names b_fL_kind b_fL_two b_fL_base b_iL_params b_nL_params b_nm b_pm b_pu b_nF_tree b_fT_tape b_nT_tape b_iT_length b_iT_at b_iT_number b_iT_next b_len b_iM_stands b_iM_variables b_iM_rows b_iM_goals b_iM_differents b_iM_cases b_fM_ways b_iM_plainRows b_fM_plainRow b_pr b_p2 hV hn hlv hsl sz
  refine vx_ofW (cc := cX10_anyHolds) (maxL := 5) (ret := (some .boolean)) (by decide) rfl ?_
  intro p e s m args below meth c s₁ B hml htab hv
  obtain ⟨rfl, hsz, hP, hK, hD0, hE⟩ := hv
  have hx := B.exec
  have hb := B.bytes
  have hr := B.returns
  have hts := atoms_spec (ws := wsMX10_anyHolds) B.pre
  have hown : s.vm.findClass RX10 = some m.cls := findClass_of_methodNamed B.named
  have hlocks := B.notSynchronized
  subst hsz
  have hD := hD0.self (sz := s.heap.size)
  generalize hAe : va_A (WL hL aL kL hT hM (.ref dF_tree) iL_names gL_key fL_kind fL_one fL_two fL_base iL_params fL_paramOver dL_paramOver nL_params fL_paramUnder dL_paramUnder nL_pu gL_over gL_under fL_bound iL_nameAt iL_startAt iL_steps jL_scaleOver jL_scaleUnder ++ (WF hF aF kF dF_tree nF_tree fF_tree ++ (WT hT aT kT fT_tape dT_tape nT_tape iT_length iT_fault iT_place iT_kind iT_at iT_number jT_name iT_next ++ (WM hM aM kM iM_stands iM_variables iM_rows iM_goals iM_differents iM_cases fM_from fM_to fM_whole fM_ways iM_plainRows fM_plainRow fM_kept fM_goalOver fM_goalUnder fM_goalMax fM_different)))) s.heap.size = A at hD hE ⊢
  have hA : ∀ q : Nat, s.heap.size ≤ q → A q := fun q h => by rw [← hAe]; exact Or.inr h
  have hS : va_S A s.heap s.heap [] := va_S.rf
  have hl := lv_entry ([.ref (hL 0), .int p1, .int p2]) (n := 5) (Nat.le_of_ble_eq_true rfl)
  rw [lg_entry_eq]
  generalize (lg_sl ([.ref (hL 0), .int p1, .int p2]) ++ List.replicate (5 - (lg_sl ([.ref (hL 0), .int p1, .int p2])).length) Slot.unset).toArray = ls at hl ⊢
  have hl : lv_has ls 5 [(0, .ref (hL 0)), (1, .int p1), (2, .int p2)] := hl
  have hr0 := TrL.rng hV hn
  refine lv_aload_n hx hb dX10_anyHolds_0 rfl (lv_at hl 0 rfl) ?_
  refine va_get (D := (dC, dI)) (ci := 10) (v := .ref dF_tree) (C := RX10) (T := TX10) (N := 20) hx hb hts iwsMX10_anyHolds_in10 hown hK hP 0 rfl rfl 2 (by decide) (hts _ hm_m_X10_anyHolds_0) (fun _ h9 => h9) rfl dX10_anyHolds_1 ?_
  refine lv_iload_n hx hb dX10_anyHolds_4 rfl (lv_at hl 1 rfl) ?_
  refine lv_iconst (v := 3) hx hb dX10_anyHolds_5 (by decide) ?_
  refine lv_iadd hx hb dX10_anyHolds_6 ?_
  refine lv_topi (fun y1 hy1 => ?_)
  obtain rfl : (iI (p1.toInt + 3)) = y1 := (hy1.trans (iI_add2 (iI_of _) (by decide : (3 : Int32) = iI 3))).symm
  refine va_iald (cA := kF 0) (n := nF_tree) (f := fF_tree) hx hb hK hP 11 10 rfl rfl (vp_iI (by omega) (by omega) (by omega)) dX10_anyHolds_7 ?_
  refine lv_topi (fun v2 hv2 => ?_)
  have b_v2 : v2.toInt = twL fF_tree (p1.toInt + 3) := by rw [hv2]; exact tw_i (by omega) (by omega)
  have b1_v2 : v2.toInt = 0 ∨ V v2.toInt 11 lv := by rw [hv2]; exact Or.inr (Vld (tw_i (by omega) (by omega)) (TrL.c10 hV hn))
  clear hv2
  refine lv_istore_n hx hb dX10_anyHolds_8 rfl hl (by decide) rfl (fun ls (hl : lv_has ls _ ([(3, .int v2), (0, .ref (hL 0)), (1, .int p1), (2, .int p2)])) => ?_)
  refine lv_iconst (v := 0) hx hb dX10_anyHolds_9 (by decide) ?_
  refine lv_istore hx hb dX10_anyHolds_10 hl (by decide) rfl (fun ls (hl : lv_has ls _ ([(4, .int 0), (3, .int v2), (0, .ref (hL 0)), (1, .int p1), (2, .int p2)])) => ?_)
  have hl : lv_has _ _ ([(4, .int 0), (3, .int v2), (0, .ref (hL 0)), (1, .int p1), (2, .int p2)]) := lv_sub hl [0, 1, 2, 3, 4] rfl
  refine (fun (loop : ∀ (n9 : Nat) (gL_over_x12 : Nat → Int64) (gL_under_x12 : Nat → Int64) (fL_bound_x12 : Nat → Int32) (iL_steps_x12 : Int32) (iT_fault_x12 : Int32) (iT_place_x12 : Int32) (l4_x12 : Int32) (l3_x12 : Int32) (H : Heap) (locs : List Loc) (ls : Array Slot), (0 ≤ l4_x12.toInt ∧ l4_x12.toInt ≤ 4000) → (l3_x12.toInt = 0 ∨ V l3_x12.toInt 11 lv) → (4000 - l4_x12.toInt < ((n9 : Nat) : Int)) → va_P (dC, dI) vwCl (WL hL aL kL hT hM (.ref dF_tree) iL_names gL_key fL_kind fL_one fL_two fL_base iL_params fL_paramOver dL_paramOver nL_params fL_paramUnder dL_paramUnder nL_pu gL_over_x12 gL_under_x12 fL_bound_x12 iL_nameAt iL_startAt iL_steps_x12 jL_scaleOver jL_scaleUnder ++ (WF hF aF kF dF_tree nF_tree fF_tree ++ (WT hT aT kT fT_tape dT_tape nT_tape iT_length iT_fault_x12 iT_place_x12 iT_kind iT_at iT_number jT_name iT_next ++ (WM hM aM kM iM_stands iM_variables iM_rows iM_goals iM_differents iM_cases fM_from fM_to fM_whole fM_ways iM_plainRows fM_plainRow fM_kept fM_goalOver fM_goalUnder fM_goalMax fM_different)))) H → va_D A (WL hL aL kL hT hM (.ref dF_tree) iL_names gL_key fL_kind fL_one fL_two fL_base iL_params fL_paramOver dL_paramOver nL_params fL_paramUnder dL_paramUnder nL_pu gL_over_x12 gL_under_x12 fL_bound_x12 iL_nameAt iL_startAt iL_steps_x12 jL_scaleOver jL_scaleUnder ++ (WF hF aF kF dF_tree nF_tree fF_tree ++ (WT hT aT kT fT_tape dT_tape nT_tape iT_length iT_fault_x12 iT_place_x12 iT_kind iT_at iT_number jT_name iT_next ++ (WM hM aM kM iM_stands iM_variables iM_rows iM_goals iM_differents iM_cases fM_from fM_to fM_whole fM_ways iM_plainRows fM_plainRow fM_kept fM_goalOver fM_goalUnder fM_goalMax fM_different)))) → va_S A s.heap H locs → lv_has ls 5 [(4, .int l4_x12), (3, .int l3_x12), (0, .ref (hL 0)), (1, .int p1), (2, .int p2)] → W p l e _ s m _ below meth c H locs 0 0 _ (F0 m 12 ls [])) => loop (4001) gL_over gL_under fL_bound iL_steps iT_fault iT_place 0 v2 _ _ _ (show 0 ≤ (0 : Int32).toInt ∧ (0 : Int32).toInt ≤ 4000 from by decide) (show v2.toInt = 0 ∨ V v2.toInt 11 lv from by assumption) ((by have e9 : (0 : Int32).toInt = 0 := (by decide : (0 : Int32).toInt = 0); omega)) hP hD hS hl) ?_
  intro n9
  induction n9 with
  | zero => intro gL_over_x12 gL_under_x12 fL_bound_x12 iL_steps_x12 iT_fault_x12 iT_place_x12 l4_x12 l3_x12 H locs ls b_l4_x12 hpt hf9; exact False.elim (by omega)
  | succ n9 ihx12 =>
    intro gL_over_x12 gL_under_x12 fL_bound_x12 iL_steps_x12 iT_fault_x12 iT_place_x12 l4_x12 l3_x12 H locs ls b_l4_x12 hpt hfx12 hP hD hS hl
    refine lv_iload hx hb dX10_anyHolds_12 (lv_at hl 0 rfl) ?_
    refine lv_sipush (v := 4000) hx hb dX10_anyHolds_14 (by decide) ?_
    refine lv_icmp_ge (tgt := 51) hx hb dX10_anyHolds_17 (by decide) (fun c_17 => ?_) (fun c_17 => ?_)
    · have t_17 : l4_x12.toInt ≥ 4000 := toI_ge c_17 rfl (by decide : (4000 : Int32).toInt = 4000)
      refine lv_iconst (v := 0) hx hb dX10_anyHolds_51 (by decide) ?_
      refine vx_ret ?_
      refine W.known (fun hz9 _ => ?_)
      refine W.widen (k := 1) (n := 6) (by decide +kernel) (by decide +kernel) ?_
      exact W.zret (v := 0) hx hb hr rfl (fun t9_ ht hW => ⟨⟨(0 : Int32), (gL_over_x12, gL_under_x12, fL_bound_x12, iL_steps_x12, iT_fault_x12, iT_place_x12), rfl, (show 0 ≤ (0 : Int32).toInt ∧ (0 : Int32).toInt ≤ 1 from by decide), by rw [ht]; exact hP, hD, by rw [ht]; first | done | exact Nat.le_antisymm hz9 hS.1⟩, hS.F ht⟩) hS.2.2 dX10_anyHolds_52
    · have t_17 : ¬ l4_x12.toInt ≥ 4000 := toI_nge c_17 rfl (by decide : (4000 : Int32).toInt = 4000)
      refine lv_iload_n hx hb dX10_anyHolds_20 rfl (lv_at hl 1 rfl) ?_
      refine lv_if_eq (tgt := 51) hx hb dX10_anyHolds_21 (by decide) (fun c_21 => ?_) (fun c_21 => ?_)
      · have t_21 : l3_x12.toInt = 0 := toI_eq c_21 rfl (by decide : (0 : Int32).toInt = 0)
        refine lv_iconst (v := 0) hx hb dX10_anyHolds_51 (by decide) ?_
        refine vx_ret ?_
        refine W.known (fun hz9 _ => ?_)
        refine W.widen (k := 1) (n := 6) (by decide +kernel) (by decide +kernel) ?_
        exact W.zret (v := 0) hx hb hr rfl (fun t9_ ht hW => ⟨⟨(0 : Int32), (gL_over_x12, gL_under_x12, fL_bound_x12, iL_steps_x12, iT_fault_x12, iT_place_x12), rfl, (show 0 ≤ (0 : Int32).toInt ∧ (0 : Int32).toInt ≤ 1 from by decide), by rw [ht]; exact hP, hD, by rw [ht]; first | done | exact Nat.le_antisymm hz9 hS.1⟩, hS.F ht⟩) hS.2.2 dX10_anyHolds_52
      · have t_21 : ¬ l3_x12.toInt = 0 := toI_neq c_21 rfl (by decide : (0 : Int32).toInt = 0)
        have hpv := hpt.resolve_left t_21
        have hr1 := TrL.rng hV hpv
        refine lv_aload_n hx hb dX10_anyHolds_24 rfl (lv_at hl 2 rfl) ?_
        refine lv_iload_n hx hb dX10_anyHolds_25 rfl (lv_at hl 1 rfl) ?_
        refine lv_iload_n hx hb dX10_anyHolds_26 rfl (lv_at hl 4 rfl) ?_
        refine W.known (fun hz0 _ => ?_)
        have hFc := allFree hD hS hA
        refine vx_calli (vx_runV (As := [.int l3_x12, .int p2]) (rest := []) ⟨hx, hb, hml, hown, hts⟩ (ih_X10_allHold dC dI hL aL kL hT hM iL_names gL_key fL_kind fL_one fL_two fL_base iL_params fL_paramOver dL_paramOver nL_params fL_paramUnder dL_paramUnder nL_pu gL_over_x12 gL_under_x12 fL_bound_x12 iL_nameAt iL_startAt iL_steps_x12 jL_scaleOver jL_scaleUnder hF aF kF dF_tree nF_tree fF_tree aT kT fT_tape dT_tape nT_tape iT_length iT_fault_x12 iT_place_x12 iT_kind iT_at iT_number jT_name iT_next aM kM iM_stands iM_variables iM_rows iM_goals iM_differents iM_cases fM_from fM_to fM_whole fM_ways iM_plainRows fM_plainRow fM_kept fM_goalOver fM_goalUnder fM_goalMax fM_different V lo lv l3_x12 p2 (b_iL_names) b_fL_kind b_fL_two b_fL_base (b_iL_params) (by first | exact b_nL_params | with_reducible assumption | exact ⟨by omega, by omega⟩ | assumption) (by first | with_reducible assumption | omega | (rw [iI_t (by omega) (by omega)]; omega) | assumption) (by first | with_reducible assumption | omega | (rw [iI_t (by omega) (by omega)]; omega) | assumption) (by first | with_reducible assumption | omega | (rw [iI_t (by omega) (by omega)]; omega) | assumption) (by first | exact b_nF_tree | with_reducible assumption | exact ⟨by omega, by omega⟩ | assumption) b_fT_tape (by first | exact b_nT_tape | with_reducible assumption | exact ⟨by omega, by omega⟩ | assumption) (b_iT_length) (b_iT_at) (b_iT_number) (b_iT_next) (by first | with_reducible assumption | omega | assumption) (b_iM_stands) (b_iM_variables) (b_iM_rows) (b_iM_goals) (b_iM_differents) (b_iM_cases) b_fM_ways (b_iM_plainRows) b_fM_plainRow (by first | with_reducible assumption | omega | assumption) (b_p2) (by first | with_reducible assumption | omega | (rw [iI_t (by omega) (by omega)]; omega) | decide | assumption) (by first | with_reducible assumption | omega | (rw [iI_t (by omega) (by omega)]; omega) | decide | assumption) (by first | with_reducible assumption | omega | (rw [iI_t (by omega) (by omega)]; omega) | decide | assumption) (by first | with_reducible assumption | omega | (rw [iI_t (by omega) (by omega)]; omega) | decide | assumption) H.size) (cwV 2 hts gwsMX10_anyHolds_0 rfl rfl rfl (by decide +kernel) ⟨by first | decide +kernel | (dsimp only [headSpec] <;> omega), by first | decide +kernel | (dsimp only [headSpec] <;> omega)⟩) (fz_preE (va_recv hK hP (ci := 10) (q0 := 0) rfl rfl) hP hK hD (fun a U g mk qE => qE.call) (fun U hU9 hW => by rw [hU9]; exact (((hE : CE A s s.heap).kept hS.2.1).narrow (fun q h => hFc q h)).warm hW)) rfl rfl hl.1 rfl (lv_room (Nat.le_of_ble_eq_true rfl)) dX10_anyHolds_27 ⟨by first | decide +kernel | (dsimp only [headSpec] <;> omega), by first | decide +kernel | (dsimp only [headSpec] <;> omega)⟩) hS (fun q _ h => hFc q h) hFc (fun q _ h => hFc q h) (fun E ce q9 u t9_ H locs ht hvm hw9 hB9 hz1 hk1 hS hc1 hc2 hc3 => ?_) (fun r9 u t9_ H locs ht hvm hw9 hB9 hz1 hk1 hS => ?_)
        · revert u hw9 hB9
          refine fz_p6 ?_
          intro gL_over_9 gL_under_9 fL_bound_9 iL_steps_9 iT_fault_9 iT_place_9 hw9 hB9
          try dsimp only at hw9 hB9
          revert hB9
          refine fz_a2 ?_
          intro hEx hB9
          clear hw9
          have hP : va_P (dC, dI) vwCl (WL hL aL kL hT hM (.ref dF_tree) iL_names gL_key fL_kind fL_one fL_two fL_base iL_params fL_paramOver dL_paramOver nL_params fL_paramUnder dL_paramUnder nL_pu gL_over_9 gL_under_9 fL_bound_9 iL_nameAt iL_startAt iL_steps_9 jL_scaleOver jL_scaleUnder ++ (WF hF aF kF dF_tree nF_tree fF_tree ++ (WT hT aT kT fT_tape dT_tape nT_tape iT_length iT_fault_9 iT_place_9 iT_kind iT_at iT_number jT_name iT_next ++ (WM hM aM kM iM_stands iM_variables iM_rows iM_goals iM_differents iM_cases fM_from fM_to fM_whole fM_ways iM_plainRows fM_plainRow fM_kept fM_goalOver fM_goalUnder fM_goalMax fM_different)))) H := fz_P ht hB9.1
          have hD := fz_sd hP (hB9.2.weaken (fun _ q _ h => hFc q.1 h)) rfl
          exact vx_out (fun x hx9 => (htab x hx9).elim) hlocks hc1 hc2 hc3 (fun t9_ ht hvm => ⟨(gL_over_9, gL_under_9, fL_bound_9, iL_steps_9, iT_fault_9, iT_place_9), trivial, ⟨(by have h9 := hEx; exact h9), by rw [ht]; exact hP, hD⟩, hS.F ht⟩) hS.2.2 (by decide +kernel) (by decide +kernel)
        revert u hw9 hB9
        refine fz_p6 ?_
        intro gL_over_9 gL_under_9 fL_bound_9 iL_steps_9 iT_fault_9 iT_place_9 hw9 hB9
        try dsimp only at hw9 hB9
        have b_r9 := hw9
        try dsimp only at b_r9
        have hz8 := hB9.2.2
        rw [ht] at hz8
        have hz9 : H.size ≤ s.heap.size + 0 := by rw [hz8]; exact hz0
        refine W.tight (cells2 := 0) (slots2 := 0) hz9 (nS_0 hz9) ?_
        clear hz8 hz9
        have hP : va_P (dC, dI) vwCl (WL hL aL kL hT hM (.ref dF_tree) iL_names gL_key fL_kind fL_one fL_two fL_base iL_params fL_paramOver dL_paramOver nL_params fL_paramUnder dL_paramUnder nL_pu gL_over_9 gL_under_9 fL_bound_9 iL_nameAt iL_startAt iL_steps_9 jL_scaleOver jL_scaleUnder ++ (WF hF aF kF dF_tree nF_tree fF_tree ++ (WT hT aT kT fT_tape dT_tape nT_tape iT_length iT_fault_9 iT_place_9 iT_kind iT_at iT_number jT_name iT_next ++ (WM hM aM kM iM_stands iM_variables iM_rows iM_goals iM_differents iM_cases fM_from fM_to fM_whole fM_ways iM_plainRows fM_plainRow fM_kept fM_goalOver fM_goalUnder fM_goalMax fM_different)))) H := fz_P ht hB9.1
        have hD := fz_sd hP (hB9.2.1.weaken (fun _ q _ h => hFc q.1 h)) rfl
        refine lv_if_eq (tgt := 35) hx hb dX10_anyHolds_30 (by decide) (fun c_30 => ?_) (fun c_30 => ?_)
        · have t_30 : r9.toInt = 0 := toI_eq c_30 rfl (by decide : (0 : Int32).toInt = 0)
          refine lv_aload_n hx hb dX10_anyHolds_35 rfl (lv_at hl 2 rfl) ?_
          refine va_get (D := (dC, dI)) (ci := 10) (v := .ref dF_tree) (C := RX10) (T := TX10) (N := 20) hx hb hts iwsMX10_anyHolds_in10 hown hK hP 0 rfl rfl 2 (by decide) (hts _ hm_m_X10_anyHolds_0) (fun _ h9 => h9) rfl dX10_anyHolds_36 ?_
          refine lv_iload_n hx hb dX10_anyHolds_39 rfl (lv_at hl 1 rfl) ?_
          refine lv_bipush (v := 6) hx hb dX10_anyHolds_40 (by decide) ?_
          refine lv_iadd hx hb dX10_anyHolds_42 ?_
          refine lv_topi (fun y10 hy10 => ?_)
          obtain rfl : (iI (l3_x12.toInt + 6)) = y10 := (hy10.trans (iI_add2 (iI_of _) (by decide : (6 : Int32) = iI 6))).symm
          refine va_iald (cA := kF 0) (n := nF_tree) (f := fF_tree) hx hb hK hP 11 10 rfl rfl (vp_iI (by omega) (by omega) (by omega)) dX10_anyHolds_43 ?_
          refine lv_topi (fun v11 hv11 => ?_)
          have b_v11 : v11.toInt = twL fF_tree (l3_x12.toInt + 6) := by rw [hv11]; exact tw_i (by omega) (by omega)
          have b1_v11 : v11.toInt = 0 ∨ V v11.toInt 11 lv := by rw [hv11]; exact tnx (tw_i (by omega) (by omega)) (TrL.nx hV (k := 11) (L := lv) (hpv))
          clear hv11
          refine lv_istore_n hx hb dX10_anyHolds_44 rfl hl (by decide) rfl (fun ls (hl : lv_has ls _ ([(3, .int v11), (4, .int l4_x12), (0, .ref (hL 0)), (1, .int p1), (2, .int p2)])) => ?_)
          refine lv_iinc (v := (iI (l4_x12.toInt + 1))) hx hb dX10_anyHolds_45 hl (k := 1) rfl (iI_add2 (iI_of _) (by decide : (1 : Int32) = iI 1)) (by decide) rfl (fun ls (hl : lv_has ls _ ([(4, .int (iI (l4_x12.toInt + 1))), (3, .int v11), (0, .ref (hL 0)), (1, .int p1), (2, .int p2)])) => ?_)
          refine lv_goto (tgt := 12) hx hb dX10_anyHolds_48 (by decide) ?_
          have hl : lv_has _ _ ([(4, .int (iI (l4_x12.toInt + 1))), (3, .int v11), (0, .ref (hL 0)), (1, .int p1), (2, .int p2)]) := lv_sub hl [0, 1, 2, 3, 4] rfl
          exact ihx12 gL_over_9 gL_under_9 fL_bound_9 iL_steps_9 iT_fault_9 iT_place_9 (iI (l4_x12.toInt + 1)) v11 _ _ _ (iI_rng (Int.le_trans (by decide) (Int.add_le_add (b_l4_x12.1) (Int.le_refl _))) (by omega) (by decide) (by decide)) (show v11.toInt = 0 ∨ V v11.toInt 11 lv from by assumption) (by have e9 : ((iI (l4_x12.toInt + 1))).toInt = (l4_x12.toInt + 1) := (iI_t (Int.le_trans (by decide) (Int.add_le_add (b_l4_x12.1) (Int.le_refl _))) (Int.le_trans (Int.add_le_add (b_l4_x12.2) (Int.le_refl _)) (by decide))); omega) hP hD hS hl
        · have t_30 : ¬ r9.toInt = 0 := toI_neq c_30 rfl (by decide : (0 : Int32).toInt = 0)
          refine lv_iconst (v := 1) hx hb dX10_anyHolds_33 (by decide) ?_
          refine vx_ret ?_
          refine W.known (fun hz9 _ => ?_)
          refine W.widen (k := 1) (n := 6) (by decide +kernel) (by decide +kernel) ?_
          exact W.zret (v := 1) hx hb hr rfl (fun t9_ ht hW => ⟨⟨(1 : Int32), (gL_over_9, gL_under_9, fL_bound_9, iL_steps_9, iT_fault_9, iT_place_9), rfl, (show 0 ≤ (1 : Int32).toInt ∧ (1 : Int32).toInt ≤ 1 from by decide), by rw [ht]; exact hP, hD, by rw [ht]; first | done | exact Nat.le_antisymm hz9 hS.1⟩, hS.F ht⟩) hS.2.2 dX10_anyHolds_34
theorem dX10_allHold_0 : decode cX10_allHold 0 = .ok (.aload_n 0, 1) := dk_42 (by decide +kernel)
theorem dX10_allHold_1 : decode cX10_allHold 1 = .ok (.getfield 55, 3) := dk_180 (by decide +kernel)
theorem dX10_allHold_4 : decode cX10_allHold 4 = .ok (.iload_n 1, 1) := dk_27 (by decide +kernel)
theorem dX10_allHold_5 : decode cX10_allHold 5 = .ok (.iconst 3, 1) := dk_6 (by decide +kernel)
theorem dX10_allHold_6 : decode cX10_allHold 6 = .ok (.iadd, 1) := dk_96 (by decide +kernel)
theorem dX10_allHold_7 : decode cX10_allHold 7 = .ok (.iaload, 1) := dk_46 (by decide +kernel)
theorem dX10_allHold_8 : decode cX10_allHold 8 = .ok (.istore_n 3, 1) := dk_62 (by decide +kernel)
theorem dX10_allHold_9 : decode cX10_allHold 9 = .ok (.iconst 0, 1) := dk_3 (by decide +kernel)
theorem dX10_allHold_10 : decode cX10_allHold 10 = .ok (.istore 4, 2) := dk_54 (by decide +kernel)
theorem dX10_allHold_12 : decode cX10_allHold 12 = .ok (.iload 4, 2) := dk_21 (by decide +kernel)
theorem dX10_allHold_14 : decode cX10_allHold 14 = .ok (.sipush 4000, 3) := dk_17 (by decide +kernel)
theorem dX10_allHold_17 : decode cX10_allHold 17 = .ok (.if_icmp .ge 34, 3) := dk_162 (by decide +kernel)
theorem dX10_allHold_20 : decode cX10_allHold 20 = .ok (.iload_n 3, 1) := dk_29 (by decide +kernel)
theorem dX10_allHold_21 : decode cX10_allHold 21 = .ok (.ifCond .eq 30, 3) := dk_153 (by decide +kernel)
theorem dX10_allHold_24 : decode cX10_allHold 24 = .ok (.aload_n 0, 1) := dk_42 (by decide +kernel)
theorem dX10_allHold_25 : decode cX10_allHold 25 = .ok (.iload_n 3, 1) := dk_29 (by decide +kernel)
theorem dX10_allHold_26 : decode cX10_allHold 26 = .ok (.iload_n 2, 1) := dk_28 (by decide +kernel)
theorem dX10_allHold_27 : decode cX10_allHold 27 = .ok (.invokevirtual 252, 3) := dk_182 (by decide +kernel)
theorem dX10_allHold_30 : decode cX10_allHold 30 = .ok (.ifCond .ne 5, 3) := dk_154 (by decide +kernel)
theorem dX10_allHold_33 : decode cX10_allHold 33 = .ok (.iconst 0, 1) := dk_3 (by decide +kernel)
theorem dX10_allHold_34 : decode cX10_allHold 34 = .ok (.ireturn, 1) := dk_172 (by decide +kernel)
theorem dX10_allHold_35 : decode cX10_allHold 35 = .ok (.aload_n 0, 1) := dk_42 (by decide +kernel)
theorem dX10_allHold_36 : decode cX10_allHold 36 = .ok (.getfield 55, 3) := dk_180 (by decide +kernel)
theorem dX10_allHold_39 : decode cX10_allHold 39 = .ok (.iload_n 3, 1) := dk_29 (by decide +kernel)
theorem dX10_allHold_40 : decode cX10_allHold 40 = .ok (.bipush 6, 2) := dk_16 (by decide +kernel)
theorem dX10_allHold_42 : decode cX10_allHold 42 = .ok (.iadd, 1) := dk_96 (by decide +kernel)
theorem dX10_allHold_43 : decode cX10_allHold 43 = .ok (.iaload, 1) := dk_46 (by decide +kernel)
theorem dX10_allHold_44 : decode cX10_allHold 44 = .ok (.istore_n 3, 1) := dk_62 (by decide +kernel)
theorem dX10_allHold_45 : decode cX10_allHold 45 = .ok (.iinc 4 1, 3) := dk_132 (by decide +kernel)
theorem dX10_allHold_48 : decode cX10_allHold 48 = .ok (.goto (-36), 3) := dk_167 (by decide +kernel)
theorem dX10_allHold_51 : decode cX10_allHold 51 = .ok (.iconst 1, 1) := dk_4 (by decide +kernel)
theorem dX10_allHold_52 : decode cX10_allHold 52 = .ok (.ireturn, 1) := dk_172 (by decide +kernel)
theorem iwsMX10_allHold_in10 : ∀ w ∈ wsX100, w ∈ wsMX10_allHold := fun w h => List.mem_cons_of_mem _ (iwsGW_in10 w h)
theorem gwsMX10_allHold_0 : GoodIn wsMX10_allHold (wsV RX10 252 RX10 yX10_oneHolds wsMX10_oneHolds) := goodIn_rec (hd := [.methodLink RX10 252 yX10_oneHolds, .instanceMethod yX10_oneHolds, .selects RX10 yX10_oneHolds yX10_oneHolds, .initialized RX10]) (by decide +kernel) (by decide +kernel) gdwsGW
theorem hm_m_X10_allHold_0 : (.fieldLink RX10 55 "OptimaWorks$Worker" "tree" "[I" : Cond) ∈ wsMX10_allHold := by decide +kernel
set_option maxHeartbeats 4000000 in
set_option maxRecDepth 100000 in
/-- whether all hold -/
theorem m_X10_allHold (l : Launch) (hst : l.stackTraces = false) (ev : Nat) (ih_X10_oneHolds : Cm_X10_oneHolds l (ev + 1)) : Cm_X10_allHold l (ev + 1) := by
  intro dC dI hL aL kL hT hM iL_names gL_key fL_kind fL_one fL_two fL_base iL_params fL_paramOver dL_paramOver nL_params fL_paramUnder dL_paramUnder nL_pu gL_over gL_under fL_bound iL_nameAt iL_startAt iL_steps jL_scaleOver jL_scaleUnder hF aF kF dF_tree nF_tree fF_tree aT kT fT_tape dT_tape nT_tape iT_length iT_fault iT_place iT_kind iT_at iT_number jT_name iT_next aM kM iM_stands iM_variables iM_rows iM_goals iM_differents iM_cases fM_from fM_to fM_whole fM_ways iM_plainRows fM_plainRow fM_kept fM_goalOver fM_goalUnder fM_goalMax fM_different V lo lv p1 p2 b_iL_names b_fL_kind b_fL_two b_fL_base b_iL_params b_nL_params b_nm b_pm b_pu b_nF_tree b_fT_tape b_nT_tape b_iT_length b_iT_at b_iT_number b_iT_next b_len b_iM_stands b_iM_variables b_iM_rows b_iM_goals b_iM_differents b_iM_cases b_fM_ways b_iM_plainRows b_fM_plainRow b_pr b_p2 hV hn hlv hsl sz
  refine vx_ofW (cc := cX10_allHold) (maxL := 5) (ret := (some .boolean)) (by decide) rfl ?_
  intro p e s m args below meth c s₁ B hml htab hv
  obtain ⟨rfl, hsz, hP, hK, hD0, hE⟩ := hv
  have hx := B.exec
  have hb := B.bytes
  have hr := B.returns
  have hts := atoms_spec (ws := wsMX10_allHold) B.pre
  have hown : s.vm.findClass RX10 = some m.cls := findClass_of_methodNamed B.named
  have hlocks := B.notSynchronized
  subst hsz
  have hD := hD0.self (sz := s.heap.size)
  generalize hAe : va_A (WL hL aL kL hT hM (.ref dF_tree) iL_names gL_key fL_kind fL_one fL_two fL_base iL_params fL_paramOver dL_paramOver nL_params fL_paramUnder dL_paramUnder nL_pu gL_over gL_under fL_bound iL_nameAt iL_startAt iL_steps jL_scaleOver jL_scaleUnder ++ (WF hF aF kF dF_tree nF_tree fF_tree ++ (WT hT aT kT fT_tape dT_tape nT_tape iT_length iT_fault iT_place iT_kind iT_at iT_number jT_name iT_next ++ (WM hM aM kM iM_stands iM_variables iM_rows iM_goals iM_differents iM_cases fM_from fM_to fM_whole fM_ways iM_plainRows fM_plainRow fM_kept fM_goalOver fM_goalUnder fM_goalMax fM_different)))) s.heap.size = A at hD hE ⊢
  have hA : ∀ q : Nat, s.heap.size ≤ q → A q := fun q h => by rw [← hAe]; exact Or.inr h
  have hS : va_S A s.heap s.heap [] := va_S.rf
  have hl := lv_entry ([.ref (hL 0), .int p1, .int p2]) (n := 5) (Nat.le_of_ble_eq_true rfl)
  rw [lg_entry_eq]
  generalize (lg_sl ([.ref (hL 0), .int p1, .int p2]) ++ List.replicate (5 - (lg_sl ([.ref (hL 0), .int p1, .int p2])).length) Slot.unset).toArray = ls at hl ⊢
  have hl : lv_has ls 5 [(0, .ref (hL 0)), (1, .int p1), (2, .int p2)] := hl
  have hr0 := TrL.rng hV hn
  refine lv_aload_n hx hb dX10_allHold_0 rfl (lv_at hl 0 rfl) ?_
  refine va_get (D := (dC, dI)) (ci := 10) (v := .ref dF_tree) (C := RX10) (T := TX10) (N := 20) hx hb hts iwsMX10_allHold_in10 hown hK hP 0 rfl rfl 2 (by decide) (hts _ hm_m_X10_allHold_0) (fun _ h9 => h9) rfl dX10_allHold_1 ?_
  refine lv_iload_n hx hb dX10_allHold_4 rfl (lv_at hl 1 rfl) ?_
  refine lv_iconst (v := 3) hx hb dX10_allHold_5 (by decide) ?_
  refine lv_iadd hx hb dX10_allHold_6 ?_
  refine lv_topi (fun y1 hy1 => ?_)
  obtain rfl : (iI (p1.toInt + 3)) = y1 := (hy1.trans (iI_add2 (iI_of _) (by decide : (3 : Int32) = iI 3))).symm
  refine va_iald (cA := kF 0) (n := nF_tree) (f := fF_tree) hx hb hK hP 11 10 rfl rfl (vp_iI (by omega) (by omega) (by omega)) dX10_allHold_7 ?_
  refine lv_topi (fun v2 hv2 => ?_)
  have b_v2 : v2.toInt = twL fF_tree (p1.toInt + 3) := by rw [hv2]; exact tw_i (by omega) (by omega)
  have b1_v2 : v2.toInt = 0 ∨ V v2.toInt 12 lv := by rw [hv2]; exact Or.inr (Vld (tw_i (by omega) (by omega)) (TrL.c11 hV hn))
  clear hv2
  refine lv_istore_n hx hb dX10_allHold_8 rfl hl (by decide) rfl (fun ls (hl : lv_has ls _ ([(3, .int v2), (0, .ref (hL 0)), (1, .int p1), (2, .int p2)])) => ?_)
  refine lv_iconst (v := 0) hx hb dX10_allHold_9 (by decide) ?_
  refine lv_istore hx hb dX10_allHold_10 hl (by decide) rfl (fun ls (hl : lv_has ls _ ([(4, .int 0), (3, .int v2), (0, .ref (hL 0)), (1, .int p1), (2, .int p2)])) => ?_)
  have hl : lv_has _ _ ([(4, .int 0), (3, .int v2), (0, .ref (hL 0)), (1, .int p1), (2, .int p2)]) := lv_sub hl [0, 1, 2, 3, 4] rfl
  refine (fun (loop : ∀ (n9 : Nat) (gL_over_x12 : Nat → Int64) (gL_under_x12 : Nat → Int64) (fL_bound_x12 : Nat → Int32) (iL_steps_x12 : Int32) (iT_fault_x12 : Int32) (iT_place_x12 : Int32) (l4_x12 : Int32) (l3_x12 : Int32) (H : Heap) (locs : List Loc) (ls : Array Slot), (0 ≤ l4_x12.toInt ∧ l4_x12.toInt ≤ 4000) → (l3_x12.toInt = 0 ∨ V l3_x12.toInt 12 lv) → (4000 - l4_x12.toInt < ((n9 : Nat) : Int)) → va_P (dC, dI) vwCl (WL hL aL kL hT hM (.ref dF_tree) iL_names gL_key fL_kind fL_one fL_two fL_base iL_params fL_paramOver dL_paramOver nL_params fL_paramUnder dL_paramUnder nL_pu gL_over_x12 gL_under_x12 fL_bound_x12 iL_nameAt iL_startAt iL_steps_x12 jL_scaleOver jL_scaleUnder ++ (WF hF aF kF dF_tree nF_tree fF_tree ++ (WT hT aT kT fT_tape dT_tape nT_tape iT_length iT_fault_x12 iT_place_x12 iT_kind iT_at iT_number jT_name iT_next ++ (WM hM aM kM iM_stands iM_variables iM_rows iM_goals iM_differents iM_cases fM_from fM_to fM_whole fM_ways iM_plainRows fM_plainRow fM_kept fM_goalOver fM_goalUnder fM_goalMax fM_different)))) H → va_D A (WL hL aL kL hT hM (.ref dF_tree) iL_names gL_key fL_kind fL_one fL_two fL_base iL_params fL_paramOver dL_paramOver nL_params fL_paramUnder dL_paramUnder nL_pu gL_over_x12 gL_under_x12 fL_bound_x12 iL_nameAt iL_startAt iL_steps_x12 jL_scaleOver jL_scaleUnder ++ (WF hF aF kF dF_tree nF_tree fF_tree ++ (WT hT aT kT fT_tape dT_tape nT_tape iT_length iT_fault_x12 iT_place_x12 iT_kind iT_at iT_number jT_name iT_next ++ (WM hM aM kM iM_stands iM_variables iM_rows iM_goals iM_differents iM_cases fM_from fM_to fM_whole fM_ways iM_plainRows fM_plainRow fM_kept fM_goalOver fM_goalUnder fM_goalMax fM_different)))) → va_S A s.heap H locs → lv_has ls 5 [(4, .int l4_x12), (3, .int l3_x12), (0, .ref (hL 0)), (1, .int p1), (2, .int p2)] → W p l e _ s m _ below meth c H locs 0 0 _ (F0 m 12 ls [])) => loop (4001) gL_over gL_under fL_bound iL_steps iT_fault iT_place 0 v2 _ _ _ (show 0 ≤ (0 : Int32).toInt ∧ (0 : Int32).toInt ≤ 4000 from by decide) (show v2.toInt = 0 ∨ V v2.toInt 12 lv from by assumption) ((by have e9 : (0 : Int32).toInt = 0 := (by decide : (0 : Int32).toInt = 0); omega)) hP hD hS hl) ?_
  intro n9
  induction n9 with
  | zero => intro gL_over_x12 gL_under_x12 fL_bound_x12 iL_steps_x12 iT_fault_x12 iT_place_x12 l4_x12 l3_x12 H locs ls b_l4_x12 hpt hf9; exact False.elim (by omega)
  | succ n9 ihx12 =>
    intro gL_over_x12 gL_under_x12 fL_bound_x12 iL_steps_x12 iT_fault_x12 iT_place_x12 l4_x12 l3_x12 H locs ls b_l4_x12 hpt hfx12 hP hD hS hl
    refine lv_iload hx hb dX10_allHold_12 (lv_at hl 0 rfl) ?_
    refine lv_sipush (v := 4000) hx hb dX10_allHold_14 (by decide) ?_
    refine lv_icmp_ge (tgt := 51) hx hb dX10_allHold_17 (by decide) (fun c_17 => ?_) (fun c_17 => ?_)
    · have t_17 : l4_x12.toInt ≥ 4000 := toI_ge c_17 rfl (by decide : (4000 : Int32).toInt = 4000)
      refine lv_iconst (v := 1) hx hb dX10_allHold_51 (by decide) ?_
      refine vx_ret ?_
      refine W.known (fun hz9 _ => ?_)
      refine W.widen (k := 1) (n := 6) (by decide +kernel) (by decide +kernel) ?_
      exact W.zret (v := 1) hx hb hr rfl (fun t9_ ht hW => ⟨⟨(1 : Int32), (gL_over_x12, gL_under_x12, fL_bound_x12, iL_steps_x12, iT_fault_x12, iT_place_x12), rfl, (show 0 ≤ (1 : Int32).toInt ∧ (1 : Int32).toInt ≤ 1 from by decide), by rw [ht]; exact hP, hD, by rw [ht]; first | done | exact Nat.le_antisymm hz9 hS.1⟩, hS.F ht⟩) hS.2.2 dX10_allHold_52
    · have t_17 : ¬ l4_x12.toInt ≥ 4000 := toI_nge c_17 rfl (by decide : (4000 : Int32).toInt = 4000)
      refine lv_iload_n hx hb dX10_allHold_20 rfl (lv_at hl 1 rfl) ?_
      refine lv_if_eq (tgt := 51) hx hb dX10_allHold_21 (by decide) (fun c_21 => ?_) (fun c_21 => ?_)
      · have t_21 : l3_x12.toInt = 0 := toI_eq c_21 rfl (by decide : (0 : Int32).toInt = 0)
        refine lv_iconst (v := 1) hx hb dX10_allHold_51 (by decide) ?_
        refine vx_ret ?_
        refine W.known (fun hz9 _ => ?_)
        refine W.widen (k := 1) (n := 6) (by decide +kernel) (by decide +kernel) ?_
        exact W.zret (v := 1) hx hb hr rfl (fun t9_ ht hW => ⟨⟨(1 : Int32), (gL_over_x12, gL_under_x12, fL_bound_x12, iL_steps_x12, iT_fault_x12, iT_place_x12), rfl, (show 0 ≤ (1 : Int32).toInt ∧ (1 : Int32).toInt ≤ 1 from by decide), by rw [ht]; exact hP, hD, by rw [ht]; first | done | exact Nat.le_antisymm hz9 hS.1⟩, hS.F ht⟩) hS.2.2 dX10_allHold_52
      · have t_21 : ¬ l3_x12.toInt = 0 := toI_neq c_21 rfl (by decide : (0 : Int32).toInt = 0)
        have hpv := hpt.resolve_left t_21
        have hr1 := TrL.rng hV hpv
        refine lv_aload_n hx hb dX10_allHold_24 rfl (lv_at hl 2 rfl) ?_
        refine lv_iload_n hx hb dX10_allHold_25 rfl (lv_at hl 1 rfl) ?_
        refine lv_iload_n hx hb dX10_allHold_26 rfl (lv_at hl 4 rfl) ?_
        refine W.known (fun hz0 _ => ?_)
        have hFc := allFree hD hS hA
        refine vx_calli (vx_runV (As := [.int l3_x12, .int p2]) (rest := []) ⟨hx, hb, hml, hown, hts⟩ (ih_X10_oneHolds dC dI hL aL kL hT hM iL_names gL_key fL_kind fL_one fL_two fL_base iL_params fL_paramOver dL_paramOver nL_params fL_paramUnder dL_paramUnder nL_pu gL_over_x12 gL_under_x12 fL_bound_x12 iL_nameAt iL_startAt iL_steps_x12 jL_scaleOver jL_scaleUnder hF aF kF dF_tree nF_tree fF_tree aT kT fT_tape dT_tape nT_tape iT_length iT_fault_x12 iT_place_x12 iT_kind iT_at iT_number jT_name iT_next aM kM iM_stands iM_variables iM_rows iM_goals iM_differents iM_cases fM_from fM_to fM_whole fM_ways iM_plainRows fM_plainRow fM_kept fM_goalOver fM_goalUnder fM_goalMax fM_different V lo lv l3_x12 p2 (b_iL_names) b_fL_kind b_fL_two b_fL_base (b_iL_params) (by first | exact b_nL_params | with_reducible assumption | exact ⟨by omega, by omega⟩ | assumption) (by first | with_reducible assumption | omega | (rw [iI_t (by omega) (by omega)]; omega) | assumption) (by first | with_reducible assumption | omega | (rw [iI_t (by omega) (by omega)]; omega) | assumption) (by first | with_reducible assumption | omega | (rw [iI_t (by omega) (by omega)]; omega) | assumption) (by first | exact b_nF_tree | with_reducible assumption | exact ⟨by omega, by omega⟩ | assumption) b_fT_tape (by first | exact b_nT_tape | with_reducible assumption | exact ⟨by omega, by omega⟩ | assumption) (b_iT_length) (b_iT_at) (b_iT_number) (b_iT_next) (by first | with_reducible assumption | omega | assumption) (b_iM_stands) (b_iM_variables) (b_iM_rows) (b_iM_goals) (b_iM_differents) (b_iM_cases) b_fM_ways (b_iM_plainRows) b_fM_plainRow (by first | with_reducible assumption | omega | assumption) (b_p2) (by first | with_reducible assumption | omega | (rw [iI_t (by omega) (by omega)]; omega) | decide | assumption) (by first | with_reducible assumption | omega | (rw [iI_t (by omega) (by omega)]; omega) | decide | assumption) (by first | with_reducible assumption | omega | (rw [iI_t (by omega) (by omega)]; omega) | decide | assumption) (by first | with_reducible assumption | omega | (rw [iI_t (by omega) (by omega)]; omega) | decide | assumption) H.size) (cwV 2 hts gwsMX10_allHold_0 rfl rfl rfl (by decide +kernel) ⟨by first | decide +kernel | (dsimp only [headSpec] <;> omega), by first | decide +kernel | (dsimp only [headSpec] <;> omega)⟩) (fz_preE (va_recv hK hP (ci := 10) (q0 := 0) rfl rfl) hP hK hD (fun a U g mk qE => qE.call) (fun U hU9 hW => by rw [hU9]; exact (((hE : CE A s s.heap).kept hS.2.1).narrow (fun q h => hFc q h)).warm hW)) rfl rfl hl.1 rfl (lv_room (Nat.le_of_ble_eq_true rfl)) dX10_allHold_27 ⟨by first | decide +kernel | (dsimp only [headSpec] <;> omega), by first | decide +kernel | (dsimp only [headSpec] <;> omega)⟩) hS (fun q _ h => hFc q h) hFc (fun q _ h => hFc q h) (fun E ce q9 u t9_ H locs ht hvm hw9 hB9 hz1 hk1 hS hc1 hc2 hc3 => ?_) (fun r9 u t9_ H locs ht hvm hw9 hB9 hz1 hk1 hS => ?_)
        · revert u hw9 hB9
          refine fz_p6 ?_
          intro gL_over_9 gL_under_9 fL_bound_9 iL_steps_9 iT_fault_9 iT_place_9 hw9 hB9
          try dsimp only at hw9 hB9
          revert hB9
          refine fz_a2 ?_
          intro hEx hB9
          clear hw9
          have hP : va_P (dC, dI) vwCl (WL hL aL kL hT hM (.ref dF_tree) iL_names gL_key fL_kind fL_one fL_two fL_base iL_params fL_paramOver dL_paramOver nL_params fL_paramUnder dL_paramUnder nL_pu gL_over_9 gL_under_9 fL_bound_9 iL_nameAt iL_startAt iL_steps_9 jL_scaleOver jL_scaleUnder ++ (WF hF aF kF dF_tree nF_tree fF_tree ++ (WT hT aT kT fT_tape dT_tape nT_tape iT_length iT_fault_9 iT_place_9 iT_kind iT_at iT_number jT_name iT_next ++ (WM hM aM kM iM_stands iM_variables iM_rows iM_goals iM_differents iM_cases fM_from fM_to fM_whole fM_ways iM_plainRows fM_plainRow fM_kept fM_goalOver fM_goalUnder fM_goalMax fM_different)))) H := fz_P ht hB9.1
          have hD := fz_sd hP (hB9.2.weaken (fun _ q _ h => hFc q.1 h)) rfl
          exact vx_out (fun x hx9 => (htab x hx9).elim) hlocks hc1 hc2 hc3 (fun t9_ ht hvm => ⟨(gL_over_9, gL_under_9, fL_bound_9, iL_steps_9, iT_fault_9, iT_place_9), trivial, ⟨(by have h9 := hEx; exact h9), by rw [ht]; exact hP, hD⟩, hS.F ht⟩) hS.2.2 (by decide +kernel) (by decide +kernel)
        revert u hw9 hB9
        refine fz_p6 ?_
        intro gL_over_9 gL_under_9 fL_bound_9 iL_steps_9 iT_fault_9 iT_place_9 hw9 hB9
        try dsimp only at hw9 hB9
        have b_r9 := hw9
        try dsimp only at b_r9
        have hz8 := hB9.2.2
        rw [ht] at hz8
        have hz9 : H.size ≤ s.heap.size + 0 := by rw [hz8]; exact hz0
        refine W.tight (cells2 := 0) (slots2 := 0) hz9 (nS_0 hz9) ?_
        clear hz8 hz9
        have hP : va_P (dC, dI) vwCl (WL hL aL kL hT hM (.ref dF_tree) iL_names gL_key fL_kind fL_one fL_two fL_base iL_params fL_paramOver dL_paramOver nL_params fL_paramUnder dL_paramUnder nL_pu gL_over_9 gL_under_9 fL_bound_9 iL_nameAt iL_startAt iL_steps_9 jL_scaleOver jL_scaleUnder ++ (WF hF aF kF dF_tree nF_tree fF_tree ++ (WT hT aT kT fT_tape dT_tape nT_tape iT_length iT_fault_9 iT_place_9 iT_kind iT_at iT_number jT_name iT_next ++ (WM hM aM kM iM_stands iM_variables iM_rows iM_goals iM_differents iM_cases fM_from fM_to fM_whole fM_ways iM_plainRows fM_plainRow fM_kept fM_goalOver fM_goalUnder fM_goalMax fM_different)))) H := fz_P ht hB9.1
        have hD := fz_sd hP (hB9.2.1.weaken (fun _ q _ h => hFc q.1 h)) rfl
        refine lv_if_ne (tgt := 35) hx hb dX10_allHold_30 (by decide) (fun c_30 => ?_) (fun c_30 => ?_)
        · have t_30 : r9.toInt ≠ 0 := toI_ne c_30 rfl (by decide : (0 : Int32).toInt = 0)
          refine lv_aload_n hx hb dX10_allHold_35 rfl (lv_at hl 2 rfl) ?_
          refine va_get (D := (dC, dI)) (ci := 10) (v := .ref dF_tree) (C := RX10) (T := TX10) (N := 20) hx hb hts iwsMX10_allHold_in10 hown hK hP 0 rfl rfl 2 (by decide) (hts _ hm_m_X10_allHold_0) (fun _ h9 => h9) rfl dX10_allHold_36 ?_
          refine lv_iload_n hx hb dX10_allHold_39 rfl (lv_at hl 1 rfl) ?_
          refine lv_bipush (v := 6) hx hb dX10_allHold_40 (by decide) ?_
          refine lv_iadd hx hb dX10_allHold_42 ?_
          refine lv_topi (fun y10 hy10 => ?_)
          obtain rfl : (iI (l3_x12.toInt + 6)) = y10 := (hy10.trans (iI_add2 (iI_of _) (by decide : (6 : Int32) = iI 6))).symm
          refine va_iald (cA := kF 0) (n := nF_tree) (f := fF_tree) hx hb hK hP 11 10 rfl rfl (vp_iI (by omega) (by omega) (by omega)) dX10_allHold_43 ?_
          refine lv_topi (fun v11 hv11 => ?_)
          have b_v11 : v11.toInt = twL fF_tree (l3_x12.toInt + 6) := by rw [hv11]; exact tw_i (by omega) (by omega)
          have b1_v11 : v11.toInt = 0 ∨ V v11.toInt 12 lv := by rw [hv11]; exact tnx (tw_i (by omega) (by omega)) (TrL.nx hV (k := 12) (L := lv) (hpv))
          clear hv11
          refine lv_istore_n hx hb dX10_allHold_44 rfl hl (by decide) rfl (fun ls (hl : lv_has ls _ ([(3, .int v11), (4, .int l4_x12), (0, .ref (hL 0)), (1, .int p1), (2, .int p2)])) => ?_)
          refine lv_iinc (v := (iI (l4_x12.toInt + 1))) hx hb dX10_allHold_45 hl (k := 1) rfl (iI_add2 (iI_of _) (by decide : (1 : Int32) = iI 1)) (by decide) rfl (fun ls (hl : lv_has ls _ ([(4, .int (iI (l4_x12.toInt + 1))), (3, .int v11), (0, .ref (hL 0)), (1, .int p1), (2, .int p2)])) => ?_)
          refine lv_goto (tgt := 12) hx hb dX10_allHold_48 (by decide) ?_
          have hl : lv_has _ _ ([(4, .int (iI (l4_x12.toInt + 1))), (3, .int v11), (0, .ref (hL 0)), (1, .int p1), (2, .int p2)]) := lv_sub hl [0, 1, 2, 3, 4] rfl
          exact ihx12 gL_over_9 gL_under_9 fL_bound_9 iL_steps_9 iT_fault_9 iT_place_9 (iI (l4_x12.toInt + 1)) v11 _ _ _ (iI_rng (Int.le_trans (by decide) (Int.add_le_add (b_l4_x12.1) (Int.le_refl _))) (by omega) (by decide) (by decide)) (show v11.toInt = 0 ∨ V v11.toInt 12 lv from by assumption) (by have e9 : ((iI (l4_x12.toInt + 1))).toInt = (l4_x12.toInt + 1) := (iI_t (Int.le_trans (by decide) (Int.add_le_add (b_l4_x12.1) (Int.le_refl _))) (Int.le_trans (Int.add_le_add (b_l4_x12.2) (Int.le_refl _)) (by decide))); omega) hP hD hS hl
        · have t_30 : r9.toInt = 0 := toI_nne c_30 rfl (by decide : (0 : Int32).toInt = 0)
          refine lv_iconst (v := 0) hx hb dX10_allHold_33 (by decide) ?_
          refine vx_ret ?_
          refine W.known (fun hz9 _ => ?_)
          refine W.widen (k := 1) (n := 6) (by decide +kernel) (by decide +kernel) ?_
          exact W.zret (v := 0) hx hb hr rfl (fun t9_ ht hW => ⟨⟨(0 : Int32), (gL_over_9, gL_under_9, fL_bound_9, iL_steps_9, iT_fault_9, iT_place_9), rfl, (show 0 ≤ (0 : Int32).toInt ∧ (0 : Int32).toInt ≤ 1 from by decide), by rw [ht]; exact hP, hD, by rw [ht]; first | done | exact Nat.le_antisymm hz9 hS.1⟩, hS.F ht⟩) hS.2.2 dX10_allHold_34
theorem dX10_oneHolds_0 : decode cX10_oneHolds 0 = .ok (.aload_n 0, 1) := dk_42 (by decide +kernel)
theorem dX10_oneHolds_1 : decode cX10_oneHolds 1 = .ok (.getfield 55, 3) := dk_180 (by decide +kernel)
theorem dX10_oneHolds_4 : decode cX10_oneHolds 4 = .ok (.iload_n 1, 1) := dk_27 (by decide +kernel)
theorem dX10_oneHolds_5 : decode cX10_oneHolds 5 = .ok (.iconst 3, 1) := dk_6 (by decide +kernel)
theorem dX10_oneHolds_6 : decode cX10_oneHolds 6 = .ok (.iadd, 1) := dk_96 (by decide +kernel)
theorem dX10_oneHolds_7 : decode cX10_oneHolds 7 = .ok (.iaload, 1) := dk_46 (by decide +kernel)
theorem dX10_oneHolds_8 : decode cX10_oneHolds 8 = .ok (.istore_n 3, 1) := dk_62 (by decide +kernel)
theorem dX10_oneHolds_9 : decode cX10_oneHolds 9 = .ok (.aload_n 0, 1) := dk_42 (by decide +kernel)
theorem dX10_oneHolds_10 : decode cX10_oneHolds 10 = .ok (.getfield 55, 3) := dk_180 (by decide +kernel)
theorem dX10_oneHolds_13 : decode cX10_oneHolds 13 = .ok (.iload_n 1, 1) := dk_27 (by decide +kernel)
theorem dX10_oneHolds_14 : decode cX10_oneHolds 14 = .ok (.iconst 0, 1) := dk_3 (by decide +kernel)
theorem dX10_oneHolds_15 : decode cX10_oneHolds 15 = .ok (.iadd, 1) := dk_96 (by decide +kernel)
theorem dX10_oneHolds_16 : decode cX10_oneHolds 16 = .ok (.iaload, 1) := dk_46 (by decide +kernel)
theorem dX10_oneHolds_17 : decode cX10_oneHolds 17 = .ok (.lookupswitch 49 #[(12, 27), (13, 42)], 27) := by decide +kernel
theorem dX10_oneHolds_44 : decode cX10_oneHolds 44 = .ok (.aload_n 0, 1) := dk_42 (by decide +kernel)
theorem dX10_oneHolds_45 : decode cX10_oneHolds 45 = .ok (.iload_n 3, 1) := dk_29 (by decide +kernel)
theorem dX10_oneHolds_46 : decode cX10_oneHolds 46 = .ok (.iload_n 2, 1) := dk_28 (by decide +kernel)
theorem dX10_oneHolds_47 : decode cX10_oneHolds 47 = .ok (.invokevirtual 252, 3) := dk_182 (by decide +kernel)
theorem dX10_oneHolds_50 : decode cX10_oneHolds 50 = .ok (.ifCond .ne 7, 3) := dk_154 (by decide +kernel)
theorem dX10_oneHolds_53 : decode cX10_oneHolds 53 = .ok (.iconst 1, 1) := dk_4 (by decide +kernel)
theorem dX10_oneHolds_54 : decode cX10_oneHolds 54 = .ok (.goto 4, 3) := dk_167 (by decide +kernel)
theorem dX10_oneHolds_57 : decode cX10_oneHolds 57 = .ok (.iconst 0, 1) := dk_3 (by decide +kernel)
theorem dX10_oneHolds_58 : decode cX10_oneHolds 58 = .ok (.ireturn, 1) := dk_172 (by decide +kernel)
theorem dX10_oneHolds_59 : decode cX10_oneHolds 59 = .ok (.aload_n 0, 1) := dk_42 (by decide +kernel)
theorem dX10_oneHolds_60 : decode cX10_oneHolds 60 = .ok (.iload_n 3, 1) := dk_29 (by decide +kernel)
theorem dX10_oneHolds_61 : decode cX10_oneHolds 61 = .ok (.iload_n 2, 1) := dk_28 (by decide +kernel)
theorem dX10_oneHolds_62 : decode cX10_oneHolds 62 = .ok (.invokevirtual 123, 3) := dk_182 (by decide +kernel)
theorem dX10_oneHolds_65 : decode cX10_oneHolds 65 = .ok (.ireturn, 1) := dk_172 (by decide +kernel)
theorem dX10_oneHolds_66 : decode cX10_oneHolds 66 = .ok (.aload_n 0, 1) := dk_42 (by decide +kernel)
theorem dX10_oneHolds_67 : decode cX10_oneHolds 67 = .ok (.iload_n 1, 1) := dk_27 (by decide +kernel)
theorem dX10_oneHolds_68 : decode cX10_oneHolds 68 = .ok (.iload_n 2, 1) := dk_28 (by decide +kernel)
theorem dX10_oneHolds_69 : decode cX10_oneHolds 69 = .ok (.invokevirtual 255, 3) := dk_182 (by decide +kernel)
theorem dX10_oneHolds_72 : decode cX10_oneHolds 72 = .ok (.ireturn, 1) := dk_172 (by decide +kernel)
theorem iwsMX10_oneHolds_in10 : ∀ w ∈ wsX100, w ∈ wsMX10_oneHolds := fun w h => List.mem_cons_of_mem _ (iwsGW_in10 w h)
theorem gwsMX10_oneHolds_0 : GoodIn wsMX10_oneHolds (wsV RX10 252 RX10 yX10_oneHolds wsMX10_oneHolds) := goodIn_rec (hd := [.methodLink RX10 252 yX10_oneHolds, .instanceMethod yX10_oneHolds, .selects RX10 yX10_oneHolds yX10_oneHolds, .initialized RX10]) (by decide +kernel) (by decide +kernel) gdwsGW
theorem gwsMX10_oneHolds_1 : GoodIn wsMX10_oneHolds (wsV RX10 123 RX10 yX10_anyHolds wsMX10_anyHolds) := goodIn_rec (hd := [.methodLink RX10 123 yX10_anyHolds, .instanceMethod yX10_anyHolds, .selects RX10 yX10_anyHolds yX10_anyHolds, .initialized RX10]) (by decide +kernel) (by decide +kernel) gdwsGW
theorem gwsMX10_oneHolds_2 : GoodIn wsMX10_oneHolds (wsV RX10 255 RX10 yX10_compares wsMX10_compares) := goodIn_rec (hd := [.methodLink RX10 255 yX10_compares, .instanceMethod yX10_compares, .selects RX10 yX10_compares yX10_compares, .initialized RX10]) (by decide +kernel) (by decide +kernel) gdwsGW
theorem hm_m_X10_oneHolds_0 : (.fieldLink RX10 55 "OptimaWorks$Worker" "tree" "[I" : Cond) ∈ wsMX10_oneHolds := by decide +kernel
set_option maxHeartbeats 4000000 in
set_option maxRecDepth 100000 in
/-- whether one holds -/
theorem m_X10_oneHolds (l : Launch) (hst : l.stackTraces = false) (ev : Nat) (ih_X10_oneHolds : Cm_X10_oneHolds l (ev)) (ih_X10_anyHolds : Cm_X10_anyHolds l (ev)) (ih_X10_compares : Cm_X10_compares l (ev + 1)) : Cm_X10_oneHolds l (ev + 1) := by
  intro dC dI hL aL kL hT hM iL_names gL_key fL_kind fL_one fL_two fL_base iL_params fL_paramOver dL_paramOver nL_params fL_paramUnder dL_paramUnder nL_pu gL_over gL_under fL_bound iL_nameAt iL_startAt iL_steps jL_scaleOver jL_scaleUnder hF aF kF dF_tree nF_tree fF_tree aT kT fT_tape dT_tape nT_tape iT_length iT_fault iT_place iT_kind iT_at iT_number jT_name iT_next aM kM iM_stands iM_variables iM_rows iM_goals iM_differents iM_cases fM_from fM_to fM_whole fM_ways iM_plainRows fM_plainRow fM_kept fM_goalOver fM_goalUnder fM_goalMax fM_different V lo lv p1 p2 b_iL_names b_fL_kind b_fL_two b_fL_base b_iL_params b_nL_params b_nm b_pm b_pu b_nF_tree b_fT_tape b_nT_tape b_iT_length b_iT_at b_iT_number b_iT_next b_len b_iM_stands b_iM_variables b_iM_rows b_iM_goals b_iM_differents b_iM_cases b_fM_ways b_iM_plainRows b_fM_plainRow b_pr b_p2 hV hn hlv hsl sz
  refine vx_ofW (cc := cX10_oneHolds) (maxL := 4) (ret := (some .boolean)) (by decide) rfl ?_
  intro p e s m args below meth c s₁ B hml htab hv
  obtain ⟨rfl, hsz, hP, hK, hD0, hE⟩ := hv
  have hx := B.exec
  have hb := B.bytes
  have hr := B.returns
  have hts := atoms_spec (ws := wsMX10_oneHolds) B.pre
  have hown : s.vm.findClass RX10 = some m.cls := findClass_of_methodNamed B.named
  have hlocks := B.notSynchronized
  subst hsz
  have hD := hD0.self (sz := s.heap.size)
  generalize hAe : va_A (WL hL aL kL hT hM (.ref dF_tree) iL_names gL_key fL_kind fL_one fL_two fL_base iL_params fL_paramOver dL_paramOver nL_params fL_paramUnder dL_paramUnder nL_pu gL_over gL_under fL_bound iL_nameAt iL_startAt iL_steps jL_scaleOver jL_scaleUnder ++ (WF hF aF kF dF_tree nF_tree fF_tree ++ (WT hT aT kT fT_tape dT_tape nT_tape iT_length iT_fault iT_place iT_kind iT_at iT_number jT_name iT_next ++ (WM hM aM kM iM_stands iM_variables iM_rows iM_goals iM_differents iM_cases fM_from fM_to fM_whole fM_ways iM_plainRows fM_plainRow fM_kept fM_goalOver fM_goalUnder fM_goalMax fM_different)))) s.heap.size = A at hD hE ⊢
  have hA : ∀ q : Nat, s.heap.size ≤ q → A q := fun q h => by rw [← hAe]; exact Or.inr h
  have hS : va_S A s.heap s.heap [] := va_S.rf
  have hl := lv_entry ([.ref (hL 0), .int p1, .int p2]) (n := 4) (Nat.le_of_ble_eq_true rfl)
  rw [lg_entry_eq]
  generalize (lg_sl ([.ref (hL 0), .int p1, .int p2]) ++ List.replicate (4 - (lg_sl ([.ref (hL 0), .int p1, .int p2])).length) Slot.unset).toArray = ls at hl ⊢
  have hl : lv_has ls 4 [(0, .ref (hL 0)), (1, .int p1), (2, .int p2)] := hl
  have hr0 := TrL.rng hV hn
  refine lv_aload_n hx hb dX10_oneHolds_0 rfl (lv_at hl 0 rfl) ?_
  refine va_get (D := (dC, dI)) (ci := 10) (v := .ref dF_tree) (C := RX10) (T := TX10) (N := 20) hx hb hts iwsMX10_oneHolds_in10 hown hK hP 0 rfl rfl 2 (by decide) (hts _ hm_m_X10_oneHolds_0) (fun _ h9 => h9) rfl dX10_oneHolds_1 ?_
  refine lv_iload_n hx hb dX10_oneHolds_4 rfl (lv_at hl 1 rfl) ?_
  refine lv_iconst (v := 3) hx hb dX10_oneHolds_5 (by decide) ?_
  refine lv_iadd hx hb dX10_oneHolds_6 ?_
  refine lv_topi (fun y1 hy1 => ?_)
  obtain rfl : (iI (p1.toInt + 3)) = y1 := (hy1.trans (iI_add2 (iI_of _) (by decide : (3 : Int32) = iI 3))).symm
  refine va_iald (cA := kF 0) (n := nF_tree) (f := fF_tree) hx hb hK hP 11 10 rfl rfl (vp_iI (by omega) (by omega) (by omega)) dX10_oneHolds_7 ?_
  refine lv_topi (fun v2 hv2 => ?_)
  have b_v2 : v2.toInt = twL fF_tree (p1.toInt + 3) := by rw [hv2]; exact tw_i (by omega) (by omega)
  clear hv2
  refine lv_istore_n hx hb dX10_oneHolds_8 rfl hl (by decide) rfl (fun ls (hl : lv_has ls _ ([(3, .int v2), (0, .ref (hL 0)), (1, .int p1), (2, .int p2)])) => ?_)
  refine lv_aload_n hx hb dX10_oneHolds_9 rfl (lv_at hl 1 rfl) ?_
  refine va_get (D := (dC, dI)) (ci := 10) (v := .ref dF_tree) (C := RX10) (T := TX10) (N := 20) hx hb hts iwsMX10_oneHolds_in10 hown hK hP 0 rfl rfl 2 (by decide) (hts _ hm_m_X10_oneHolds_0) (fun _ h9 => h9) rfl dX10_oneHolds_10 ?_
  refine lv_iload_n hx hb dX10_oneHolds_13 rfl (lv_at hl 2 rfl) ?_
  refine lv_iconst (v := 0) hx hb dX10_oneHolds_14 (by decide) ?_
  refine lv_iadd hx hb dX10_oneHolds_15 ?_
  refine lv_topi (fun y3 hy3 => ?_)
  obtain rfl : (iI (p1.toInt + 0)) = y3 := (hy3.trans (iI_add2 (iI_of _) (by decide : (0 : Int32) = iI 0))).symm
  refine va_iald (cA := kF 0) (n := nF_tree) (f := fF_tree) hx hb hK hP 11 10 rfl rfl (vp_iI (by omega) (by omega) (by omega)) dX10_oneHolds_16 ?_
  refine lv_topi (fun v4 hv4 => ?_)
  have b_v4 : v4.toInt = twL fF_tree p1.toInt := by rw [hv4]; exact tw_i0 (by omega) (by omega)
  clear hv4
  by_cases s_17_12 : v4 = 12
  · have ts_17_12 : v4.toInt = 12 := toI_eq s_17_12 rfl (by decide)
    refine lv_lookup (off := 27) (tgt := 44) hx hb dX10_oneHolds_17 (by decide) (by rw [s_17_12]; decide) (by decide) ?_
    refine lv_aload_n hx hb dX10_oneHolds_44 rfl (lv_at hl 1 rfl) ?_
    refine lv_iload_n hx hb dX10_oneHolds_45 rfl (lv_at hl 0 rfl) ?_
    refine lv_iload_n hx hb dX10_oneHolds_46 rfl (lv_at hl 3 rfl) ?_
    refine W.known (fun hz0 _ => ?_)
    have hFc := allFree hD hS hA
    refine vx_calli (vx_runV (As := [.int v2, .int p2]) (rest := []) ⟨hx, hb, hml, hown, hts⟩ (ih_X10_oneHolds dC dI hL aL kL hT hM iL_names gL_key fL_kind fL_one fL_two fL_base iL_params fL_paramOver dL_paramOver nL_params fL_paramUnder dL_paramUnder nL_pu gL_over gL_under fL_bound iL_nameAt iL_startAt iL_steps jL_scaleOver jL_scaleUnder hF aF kF dF_tree nF_tree fF_tree aT kT fT_tape dT_tape nT_tape iT_length iT_fault iT_place iT_kind iT_at iT_number jT_name iT_next aM kM iM_stands iM_variables iM_rows iM_goals iM_differents iM_cases fM_from fM_to fM_whole fM_ways iM_plainRows fM_plainRow fM_kept fM_goalOver fM_goalUnder fM_goalMax fM_different V lo (lv + 1) v2 p2 (b_iL_names) b_fL_kind b_fL_two b_fL_base (b_iL_params) (by first | exact b_nL_params | with_reducible assumption | exact ⟨by omega, by omega⟩ | assumption) (by first | with_reducible assumption | omega | (rw [iI_t (by omega) (by omega)]; omega) | assumption) (by first | with_reducible assumption | omega | (rw [iI_t (by omega) (by omega)]; omega) | assumption) (by first | with_reducible assumption | omega | (rw [iI_t (by omega) (by omega)]; omega) | assumption) (by first | exact b_nF_tree | with_reducible assumption | exact ⟨by omega, by omega⟩ | assumption) b_fT_tape (by first | exact b_nT_tape | with_reducible assumption | exact ⟨by omega, by omega⟩ | assumption) (b_iT_length) (b_iT_at) (b_iT_number) (b_iT_next) (by first | with_reducible assumption | omega | assumption) (b_iM_stands) (b_iM_variables) (b_iM_rows) (b_iM_goals) (b_iM_differents) (b_iM_cases) b_fM_ways (b_iM_plainRows) b_fM_plainRow (by first | with_reducible assumption | omega | assumption) (b_p2) (by first | with_reducible assumption | omega | (rw [iI_t (by omega) (by omega)]; omega) | decide | assumption) (Vld b_v2 (TrL.c12n hV hn (by omega))) (by first | with_reducible assumption | omega | (rw [iI_t (by omega) (by omega)]; omega) | decide | assumption) (by first | with_reducible assumption | omega | (rw [iI_t (by omega) (by omega)]; omega) | decide | assumption) s.heap.size) (cwV 2 hts gwsMX10_oneHolds_0 rfl rfl rfl (by decide +kernel) ⟨by first | decide +kernel | (dsimp only [headSpec] <;> omega), by first | decide +kernel | (dsimp only [headSpec] <;> omega)⟩) (fz_preE (va_recv hK hP (ci := 10) (q0 := 0) rfl rfl) hP hK hD (fun a U g mk qE => qE.call) (fun U hU9 hW => by rw [hU9]; exact (((hE : CE A s s.heap).kept hS.2.1).narrow (fun q h => hFc q h)).warm hW)) rfl rfl hl.1 rfl (lv_room (Nat.le_of_ble_eq_true rfl)) dX10_oneHolds_47 ⟨by first | decide +kernel | (dsimp only [headSpec] <;> omega), by first | decide +kernel | (dsimp only [headSpec] <;> omega)⟩) hS (fun q _ h => hFc q h) hFc (fun q _ h => hFc q h) (fun E ce q9 u t9_ H locs ht hvm hw9 hB9 hz1 hk1 hS hc1 hc2 hc3 => ?_) (fun r5 u t9_ H locs ht hvm hw9 hB9 hz1 hk1 hS => ?_)
    · revert u hw9 hB9
      refine fz_p6 ?_
      intro gL_over_5 gL_under_5 fL_bound_5 iL_steps_5 iT_fault_5 iT_place_5 hw9 hB9
      try dsimp only at hw9 hB9
      revert hB9
      refine fz_a2 ?_
      intro hEx hB9
      clear hw9
      have hP : va_P (dC, dI) vwCl (WL hL aL kL hT hM (.ref dF_tree) iL_names gL_key fL_kind fL_one fL_two fL_base iL_params fL_paramOver dL_paramOver nL_params fL_paramUnder dL_paramUnder nL_pu gL_over_5 gL_under_5 fL_bound_5 iL_nameAt iL_startAt iL_steps_5 jL_scaleOver jL_scaleUnder ++ (WF hF aF kF dF_tree nF_tree fF_tree ++ (WT hT aT kT fT_tape dT_tape nT_tape iT_length iT_fault_5 iT_place_5 iT_kind iT_at iT_number jT_name iT_next ++ (WM hM aM kM iM_stands iM_variables iM_rows iM_goals iM_differents iM_cases fM_from fM_to fM_whole fM_ways iM_plainRows fM_plainRow fM_kept fM_goalOver fM_goalUnder fM_goalMax fM_different)))) H := fz_P ht hB9.1
      have hD := fz_sd hP (hB9.2.weaken (fun _ q _ h => hFc q.1 h)) rfl
      exact vx_out (fun x hx9 => (htab x hx9).elim) hlocks hc1 hc2 hc3 (fun t9_ ht hvm => ⟨(gL_over_5, gL_under_5, fL_bound_5, iL_steps_5, iT_fault_5, iT_place_5), trivial, ⟨(by have h9 := hEx; exact h9), by rw [ht]; exact hP, hD⟩, hS.F ht⟩) hS.2.2 (by decide +kernel) (by decide +kernel)
    revert u hw9 hB9
    refine fz_p6 ?_
    intro gL_over_5 gL_under_5 fL_bound_5 iL_steps_5 iT_fault_5 iT_place_5 hw9 hB9
    try dsimp only at hw9 hB9
    have b_r5 := hw9
    try dsimp only at b_r5
    have hz8 := hB9.2.2
    rw [ht] at hz8
    have hz9 : H.size ≤ s.heap.size + 0 := by rw [hz8]; exact hz0
    refine W.tight (cells2 := 0) (slots2 := 0) hz9 (nS_0 hz9) ?_
    clear hz8 hz9
    have hP : va_P (dC, dI) vwCl (WL hL aL kL hT hM (.ref dF_tree) iL_names gL_key fL_kind fL_one fL_two fL_base iL_params fL_paramOver dL_paramOver nL_params fL_paramUnder dL_paramUnder nL_pu gL_over_5 gL_under_5 fL_bound_5 iL_nameAt iL_startAt iL_steps_5 jL_scaleOver jL_scaleUnder ++ (WF hF aF kF dF_tree nF_tree fF_tree ++ (WT hT aT kT fT_tape dT_tape nT_tape iT_length iT_fault_5 iT_place_5 iT_kind iT_at iT_number jT_name iT_next ++ (WM hM aM kM iM_stands iM_variables iM_rows iM_goals iM_differents iM_cases fM_from fM_to fM_whole fM_ways iM_plainRows fM_plainRow fM_kept fM_goalOver fM_goalUnder fM_goalMax fM_different)))) H := fz_P ht hB9.1
    have hD := fz_sd hP (hB9.2.1.weaken (fun _ q _ h => hFc q.1 h)) rfl
    refine W.cut (pc := 58) (fun H locs ls stk => ∃ (k0_j2 : Int32), (0 ≤ k0_j2.toInt ∧ k0_j2.toInt ≤ 1) ∧  stk = [.int k0_j2] ∧ va_P (dC, dI) vwCl (WL hL aL kL hT hM (.ref dF_tree) iL_names gL_key fL_kind fL_one fL_two fL_base iL_params fL_paramOver dL_paramOver nL_params fL_paramUnder dL_paramUnder nL_pu gL_over_5 gL_under_5 fL_bound_5 iL_nameAt iL_startAt iL_steps_5 jL_scaleOver jL_scaleUnder ++ (WF hF aF kF dF_tree nF_tree fF_tree ++ (WT hT aT kT fT_tape dT_tape nT_tape iT_length iT_fault_5 iT_place_5 iT_kind iT_at iT_number jT_name iT_next ++ (WM hM aM kM iM_stands iM_variables iM_rows iM_goals iM_differents iM_cases fM_from fM_to fM_whole fM_ways iM_plainRows fM_plainRow fM_kept fM_goalOver fM_goalUnder fM_goalMax fM_different)))) H ∧ va_D A (WL hL aL kL hT hM (.ref dF_tree) iL_names gL_key fL_kind fL_one fL_two fL_base iL_params fL_paramOver dL_paramOver nL_params fL_paramUnder dL_paramUnder nL_pu gL_over_5 gL_under_5 fL_bound_5 iL_nameAt iL_startAt iL_steps_5 jL_scaleOver jL_scaleUnder ++ (WF hF aF kF dF_tree nF_tree fF_tree ++ (WT hT aT kT fT_tape dT_tape nT_tape iT_length iT_fault_5 iT_place_5 iT_kind iT_at iT_number jT_name iT_next ++ (WM hM aM kM iM_stands iM_variables iM_rows iM_goals iM_differents iM_cases fM_from fM_to fM_whole fM_ways iM_plainRows fM_plainRow fM_kept fM_goalOver fM_goalUnder fM_goalMax fM_different)))) ∧ va_S A s.heap H locs ∧ lv_has ls 4 [(3, .int v2), (0, .ref (hL 0)), (1, .int p1), (2, .int p2)]) (fun join2 => ?_) ?_
    · refine lv_if_ne (tgt := 57) hx hb dX10_oneHolds_50 (by decide) (fun c_50 => ?_) (fun c_50 => ?_)
      · have t_50 : r5.toInt ≠ 0 := toI_ne c_50 rfl (by decide : (0 : Int32).toInt = 0)
        refine lv_iconst (v := 0) hx hb dX10_oneHolds_57 (by decide) ?_
        have hl : lv_has _ _ ([(3, .int v2), (0, .ref (hL 0)), (1, .int p1), (2, .int p2)]) := lv_sub hl [0, 1, 2, 3] rfl
        exact join2 _ _ _ _ ⟨0, (show 0 ≤ (0 : Int32).toInt ∧ (0 : Int32).toInt ≤ 1 from by decide), rfl, hP, hD, hS, hl⟩
      · have t_50 : r5.toInt = 0 := toI_nne c_50 rfl (by decide : (0 : Int32).toInt = 0)
        refine lv_iconst (v := 1) hx hb dX10_oneHolds_53 (by decide) ?_
        refine lv_goto (tgt := 58) hx hb dX10_oneHolds_54 (by decide) ?_
        have hl : lv_has _ _ ([(3, .int v2), (0, .ref (hL 0)), (1, .int p1), (2, .int p2)]) := lv_sub hl [0, 1, 2, 3] rfl
        exact join2 _ _ _ _ ⟨1, (show 0 ≤ (1 : Int32).toInt ∧ (1 : Int32).toInt ≤ 1 from by decide), rfl, hP, hD, hS, hl⟩
    · rintro H locs ls stk ⟨k0_j2, b_k0_j2, rfl, hP, hD, hS, hl⟩
      refine vx_ret ?_
      refine W.known (fun hz9 _ => ?_)
      refine W.widen (k := 1) (n := 6) (by decide +kernel) (by decide +kernel) ?_
      exact W.zret (v := k0_j2) hx hb hr (by rcases z01 (x := k0_j2) (b_k0_j2) with h9 | h9 <;> rw [h9] <;> rfl) (fun t9_ ht hW => ⟨⟨k0_j2, (gL_over_5, gL_under_5, fL_bound_5, iL_steps_5, iT_fault_5, iT_place_5), rfl, (b_k0_j2), by rw [ht]; exact hP, hD, by rw [ht]; first | done | exact Nat.le_antisymm hz9 hS.1⟩, hS.F ht⟩) hS.2.2 dX10_oneHolds_58
  · have ts_17_12 : ¬ v4.toInt = 12 := toI_neq s_17_12 rfl (by decide)
    by_cases s_17_13 : v4 = 13
    · have ts_17_13 : v4.toInt = 13 := toI_eq s_17_13 rfl (by decide)
      refine lv_lookup (off := 42) (tgt := 59) hx hb dX10_oneHolds_17 (by decide) (by rw [s_17_13]; decide) (by decide) ?_
      refine lv_aload_n hx hb dX10_oneHolds_59 rfl (lv_at hl 1 rfl) ?_
      refine lv_iload_n hx hb dX10_oneHolds_60 rfl (lv_at hl 0 rfl) ?_
      refine lv_iload_n hx hb dX10_oneHolds_61 rfl (lv_at hl 3 rfl) ?_
      refine W.known (fun hz0 _ => ?_)
      have hFc := allFree hD hS hA
      refine vx_calli (vx_runV (As := [.int v2, .int p2]) (rest := []) ⟨hx, hb, hml, hown, hts⟩ (ih_X10_anyHolds dC dI hL aL kL hT hM iL_names gL_key fL_kind fL_one fL_two fL_base iL_params fL_paramOver dL_paramOver nL_params fL_paramUnder dL_paramUnder nL_pu gL_over gL_under fL_bound iL_nameAt iL_startAt iL_steps jL_scaleOver jL_scaleUnder hF aF kF dF_tree nF_tree fF_tree aT kT fT_tape dT_tape nT_tape iT_length iT_fault iT_place iT_kind iT_at iT_number jT_name iT_next aM kM iM_stands iM_variables iM_rows iM_goals iM_differents iM_cases fM_from fM_to fM_whole fM_ways iM_plainRows fM_plainRow fM_kept fM_goalOver fM_goalUnder fM_goalMax fM_different V lo (lv + 1) v2 p2 (b_iL_names) b_fL_kind b_fL_two b_fL_base (b_iL_params) (by first | exact b_nL_params | with_reducible assumption | exact ⟨by omega, by omega⟩ | assumption) (by first | with_reducible assumption | omega | (rw [iI_t (by omega) (by omega)]; omega) | assumption) (by first | with_reducible assumption | omega | (rw [iI_t (by omega) (by omega)]; omega) | assumption) (by first | with_reducible assumption | omega | (rw [iI_t (by omega) (by omega)]; omega) | assumption) (by first | exact b_nF_tree | with_reducible assumption | exact ⟨by omega, by omega⟩ | assumption) b_fT_tape (by first | exact b_nT_tape | with_reducible assumption | exact ⟨by omega, by omega⟩ | assumption) (b_iT_length) (b_iT_at) (b_iT_number) (b_iT_next) (by first | with_reducible assumption | omega | assumption) (b_iM_stands) (b_iM_variables) (b_iM_rows) (b_iM_goals) (b_iM_differents) (b_iM_cases) b_fM_ways (b_iM_plainRows) b_fM_plainRow (by first | with_reducible assumption | omega | assumption) (b_p2) (by first | with_reducible assumption | omega | (rw [iI_t (by omega) (by omega)]; omega) | decide | assumption) (Vld b_v2 (TrL.c12a hV hn (by omega))) (by first | with_reducible assumption | omega | (rw [iI_t (by omega) (by omega)]; omega) | decide | assumption) (by first | with_reducible assumption | omega | (rw [iI_t (by omega) (by omega)]; omega) | decide | assumption) s.heap.size) (cwV 2 hts gwsMX10_oneHolds_1 rfl rfl rfl (by decide +kernel) ⟨by first | decide +kernel | (dsimp only [headSpec] <;> omega), by first | decide +kernel | (dsimp only [headSpec] <;> omega)⟩) (fz_preE (va_recv hK hP (ci := 10) (q0 := 0) rfl rfl) hP hK hD (fun a U g mk qE => qE.call) (fun U hU9 hW => by rw [hU9]; exact (((hE : CE A s s.heap).kept hS.2.1).narrow (fun q h => hFc q h)).warm hW)) rfl rfl hl.1 rfl (lv_room (Nat.le_of_ble_eq_true rfl)) dX10_oneHolds_62 ⟨by first | decide +kernel | (dsimp only [headSpec] <;> omega), by first | decide +kernel | (dsimp only [headSpec] <;> omega)⟩) hS (fun q _ h => hFc q h) hFc (fun q _ h => hFc q h) (fun E ce q9 u t9_ H locs ht hvm hw9 hB9 hz1 hk1 hS hc1 hc2 hc3 => ?_) (fun r6 u t9_ H locs ht hvm hw9 hB9 hz1 hk1 hS => ?_)
      · revert u hw9 hB9
        refine fz_p6 ?_
        intro gL_over_6 gL_under_6 fL_bound_6 iL_steps_6 iT_fault_6 iT_place_6 hw9 hB9
        try dsimp only at hw9 hB9
        revert hB9
        refine fz_a2 ?_
        intro hEx hB9
        clear hw9
        have hP : va_P (dC, dI) vwCl (WL hL aL kL hT hM (.ref dF_tree) iL_names gL_key fL_kind fL_one fL_two fL_base iL_params fL_paramOver dL_paramOver nL_params fL_paramUnder dL_paramUnder nL_pu gL_over_6 gL_under_6 fL_bound_6 iL_nameAt iL_startAt iL_steps_6 jL_scaleOver jL_scaleUnder ++ (WF hF aF kF dF_tree nF_tree fF_tree ++ (WT hT aT kT fT_tape dT_tape nT_tape iT_length iT_fault_6 iT_place_6 iT_kind iT_at iT_number jT_name iT_next ++ (WM hM aM kM iM_stands iM_variables iM_rows iM_goals iM_differents iM_cases fM_from fM_to fM_whole fM_ways iM_plainRows fM_plainRow fM_kept fM_goalOver fM_goalUnder fM_goalMax fM_different)))) H := fz_P ht hB9.1
        have hD := fz_sd hP (hB9.2.weaken (fun _ q _ h => hFc q.1 h)) rfl
        exact vx_out (fun x hx9 => (htab x hx9).elim) hlocks hc1 hc2 hc3 (fun t9_ ht hvm => ⟨(gL_over_6, gL_under_6, fL_bound_6, iL_steps_6, iT_fault_6, iT_place_6), trivial, ⟨(by have h9 := hEx; exact h9), by rw [ht]; exact hP, hD⟩, hS.F ht⟩) hS.2.2 (by decide +kernel) (by decide +kernel)
      revert u hw9 hB9
      refine fz_p6 ?_
      intro gL_over_6 gL_under_6 fL_bound_6 iL_steps_6 iT_fault_6 iT_place_6 hw9 hB9
      try dsimp only at hw9 hB9
      have b_r6 := hw9
      try dsimp only at b_r6
      have hz8 := hB9.2.2
      rw [ht] at hz8
      have hz9 : H.size ≤ s.heap.size + 0 := by rw [hz8]; exact hz0
      refine W.tight (cells2 := 0) (slots2 := 0) hz9 (nS_0 hz9) ?_
      clear hz8 hz9
      have hP : va_P (dC, dI) vwCl (WL hL aL kL hT hM (.ref dF_tree) iL_names gL_key fL_kind fL_one fL_two fL_base iL_params fL_paramOver dL_paramOver nL_params fL_paramUnder dL_paramUnder nL_pu gL_over_6 gL_under_6 fL_bound_6 iL_nameAt iL_startAt iL_steps_6 jL_scaleOver jL_scaleUnder ++ (WF hF aF kF dF_tree nF_tree fF_tree ++ (WT hT aT kT fT_tape dT_tape nT_tape iT_length iT_fault_6 iT_place_6 iT_kind iT_at iT_number jT_name iT_next ++ (WM hM aM kM iM_stands iM_variables iM_rows iM_goals iM_differents iM_cases fM_from fM_to fM_whole fM_ways iM_plainRows fM_plainRow fM_kept fM_goalOver fM_goalUnder fM_goalMax fM_different)))) H := fz_P ht hB9.1
      have hD := fz_sd hP (hB9.2.1.weaken (fun _ q _ h => hFc q.1 h)) rfl
      refine vx_ret ?_
      refine W.known (fun hz9 _ => ?_)
      refine W.widen (k := 1) (n := 6) (by decide +kernel) (by decide +kernel) ?_
      exact W.zret (v := r6) hx hb hr (by rcases z01 (x := r6) (by first | exact b_r6 | with_reducible assumption | exact ⟨by omega, by omega⟩ | assumption) with h9 | h9 <;> rw [h9] <;> rfl) (fun t9_ ht hW => ⟨⟨r6, (gL_over_6, gL_under_6, fL_bound_6, iL_steps_6, iT_fault_6, iT_place_6), rfl, (by first | exact b_r6 | with_reducible assumption | exact ⟨by omega, by omega⟩ | assumption), by rw [ht]; exact hP, hD, by rw [ht]; first | done | exact Nat.le_antisymm hz9 hS.1⟩, hS.F ht⟩) hS.2.2 dX10_oneHolds_65
    · have ts_17_13 : ¬ v4.toInt = 13 := toI_neq s_17_13 rfl (by decide)
      refine lv_lookup (off := 49) (tgt := 66) hx hb dX10_oneHolds_17 (by decide) (by show Op.lookupswitch.offset [(12, 27), (13, 42)] 49 _ = 49; rw [Op.lookupswitch.offset_cons, if_neg (lk_ne s_17_12 (show Int32.toInt 12 = 12 by decide)), Op.lookupswitch.offset_cons, if_neg (lk_ne s_17_13 (show Int32.toInt 13 = 13 by decide))]; rfl) (by decide) ?_
      refine lv_aload_n hx hb dX10_oneHolds_66 rfl (lv_at hl 1 rfl) ?_
      refine lv_iload_n hx hb dX10_oneHolds_67 rfl (lv_at hl 2 rfl) ?_
      refine lv_iload_n hx hb dX10_oneHolds_68 rfl (lv_at hl 3 rfl) ?_
      refine W.known (fun hz0 _ => ?_)
      have hFc := allFree hD hS hA
      refine vx_calli (vx_runV (As := [.int p1, .int p2]) (rest := []) ⟨hx, hb, hml, hown, hts⟩ (ih_X10_compares dC dI hL aL kL hT hM iL_names gL_key fL_kind fL_one fL_two fL_base iL_params fL_paramOver dL_paramOver nL_params fL_paramUnder dL_paramUnder nL_pu gL_over gL_under fL_bound iL_nameAt iL_startAt iL_steps jL_scaleOver jL_scaleUnder hF aF kF dF_tree nF_tree fF_tree aT kT fT_tape dT_tape nT_tape iT_length iT_fault iT_place iT_kind iT_at iT_number jT_name iT_next aM kM iM_stands iM_variables iM_rows iM_goals iM_differents iM_cases fM_from fM_to fM_whole fM_ways iM_plainRows fM_plainRow fM_kept fM_goalOver fM_goalUnder fM_goalMax fM_different V lo lv p1 p2 (b_iL_names) b_fL_kind b_fL_two b_fL_base (b_iL_params) (by first | exact b_nL_params | with_reducible assumption | exact ⟨by omega, by omega⟩ | assumption) (by first | with_reducible assumption | omega | (rw [iI_t (by omega) (by omega)]; omega) | assumption) (by first | with_reducible assumption | omega | (rw [iI_t (by omega) (by omega)]; omega) | assumption) (by first | with_reducible assumption | omega | (rw [iI_t (by omega) (by omega)]; omega) | assumption) (by first | exact b_nF_tree | with_reducible assumption | exact ⟨by omega, by omega⟩ | assumption) b_fT_tape (by first | exact b_nT_tape | with_reducible assumption | exact ⟨by omega, by omega⟩ | assumption) (b_iT_length) (b_iT_at) (b_iT_number) (b_iT_next) (by first | with_reducible assumption | omega | assumption) (b_iM_stands) (b_iM_variables) (b_iM_rows) (b_iM_goals) (b_iM_differents) (b_iM_cases) b_fM_ways (b_iM_plainRows) b_fM_plainRow (by first | with_reducible assumption | omega | assumption) (b_p2) (by first | with_reducible assumption | omega | (rw [iI_t (by omega) (by omega)]; omega) | decide | assumption) (by first | with_reducible assumption | omega | (rw [iI_t (by omega) (by omega)]; omega) | decide | assumption) (by first | with_reducible assumption | omega | (rw [iI_t (by omega) (by omega)]; omega) | decide | assumption) (by first | with_reducible assumption | omega | (rw [iI_t (by omega) (by omega)]; omega) | decide | assumption) (TrL.c12c hV hn (by omega) (by omega)) s.heap.size) (cwV 2 hts gwsMX10_oneHolds_2 rfl rfl rfl (by decide +kernel) ⟨by first | decide +kernel | (dsimp only [headSpec] <;> omega), by first | decide +kernel | (dsimp only [headSpec] <;> omega)⟩) (fz_preE (va_recv hK hP (ci := 10) (q0 := 0) rfl rfl) hP hK hD (fun a U g mk qE => qE.call) (fun U hU9 hW => by rw [hU9]; exact (((hE : CE A s s.heap).kept hS.2.1).narrow (fun q h => hFc q h)).warm hW)) rfl rfl hl.1 rfl (lv_room (Nat.le_of_ble_eq_true rfl)) dX10_oneHolds_69 ⟨by first | decide +kernel | (dsimp only [headSpec] <;> omega), by first | decide +kernel | (dsimp only [headSpec] <;> omega)⟩) hS (fun q _ h => hFc q h) hFc (fun q _ h => hFc q h) (fun E ce q9 u t9_ H locs ht hvm hw9 hB9 hz1 hk1 hS hc1 hc2 hc3 => ?_) (fun r7 u t9_ H locs ht hvm hw9 hB9 hz1 hk1 hS => ?_)
      · revert u hw9 hB9
        refine fz_p6 ?_
        intro gL_over_7 gL_under_7 fL_bound_7 iL_steps_7 iT_fault_7 iT_place_7 hw9 hB9
        try dsimp only at hw9 hB9
        revert hB9
        refine fz_a2 ?_
        intro hEx hB9
        clear hw9
        have hP : va_P (dC, dI) vwCl (WL hL aL kL hT hM (.ref dF_tree) iL_names gL_key fL_kind fL_one fL_two fL_base iL_params fL_paramOver dL_paramOver nL_params fL_paramUnder dL_paramUnder nL_pu gL_over_7 gL_under_7 fL_bound_7 iL_nameAt iL_startAt iL_steps_7 jL_scaleOver jL_scaleUnder ++ (WF hF aF kF dF_tree nF_tree fF_tree ++ (WT hT aT kT fT_tape dT_tape nT_tape iT_length iT_fault_7 iT_place_7 iT_kind iT_at iT_number jT_name iT_next ++ (WM hM aM kM iM_stands iM_variables iM_rows iM_goals iM_differents iM_cases fM_from fM_to fM_whole fM_ways iM_plainRows fM_plainRow fM_kept fM_goalOver fM_goalUnder fM_goalMax fM_different)))) H := fz_P ht hB9.1
        have hD := fz_sd hP (hB9.2.weaken (fun _ q _ h => hFc q.1 h)) rfl
        exact vx_out (fun x hx9 => (htab x hx9).elim) hlocks hc1 hc2 hc3 (fun t9_ ht hvm => ⟨(gL_over_7, gL_under_7, fL_bound_7, iL_steps_7, iT_fault_7, iT_place_7), trivial, ⟨(by have h9 := hEx; exact h9), by rw [ht]; exact hP, hD⟩, hS.F ht⟩) hS.2.2 (by decide +kernel) (by decide +kernel)
      revert u hw9 hB9
      refine fz_p6 ?_
      intro gL_over_7 gL_under_7 fL_bound_7 iL_steps_7 iT_fault_7 iT_place_7 hw9 hB9
      try dsimp only at hw9 hB9
      have b_r7 := hw9
      try dsimp only at b_r7
      have hz8 := hB9.2.2
      rw [ht] at hz8
      have hz9 : H.size ≤ s.heap.size + 0 := by rw [hz8]; exact hz0
      refine W.tight (cells2 := 0) (slots2 := 0) hz9 (nS_0 hz9) ?_
      clear hz8 hz9
      have hP : va_P (dC, dI) vwCl (WL hL aL kL hT hM (.ref dF_tree) iL_names gL_key fL_kind fL_one fL_two fL_base iL_params fL_paramOver dL_paramOver nL_params fL_paramUnder dL_paramUnder nL_pu gL_over_7 gL_under_7 fL_bound_7 iL_nameAt iL_startAt iL_steps_7 jL_scaleOver jL_scaleUnder ++ (WF hF aF kF dF_tree nF_tree fF_tree ++ (WT hT aT kT fT_tape dT_tape nT_tape iT_length iT_fault_7 iT_place_7 iT_kind iT_at iT_number jT_name iT_next ++ (WM hM aM kM iM_stands iM_variables iM_rows iM_goals iM_differents iM_cases fM_from fM_to fM_whole fM_ways iM_plainRows fM_plainRow fM_kept fM_goalOver fM_goalUnder fM_goalMax fM_different)))) H := fz_P ht hB9.1
      have hD := fz_sd hP (hB9.2.1.weaken (fun _ q _ h => hFc q.1 h)) rfl
      refine vx_ret ?_
      refine W.known (fun hz9 _ => ?_)
      refine W.widen (k := 1) (n := 6) (by decide +kernel) (by decide +kernel) ?_
      exact W.zret (v := r7) hx hb hr (by rcases z01 (x := r7) (by first | exact b_r7 | with_reducible assumption | exact ⟨by omega, by omega⟩ | assumption) with h9 | h9 <;> rw [h9] <;> rfl) (fun t9_ ht hW => ⟨⟨r7, (gL_over_7, gL_under_7, fL_bound_7, iL_steps_7, iT_fault_7, iT_place_7), rfl, (by first | exact b_r7 | with_reducible assumption | exact ⟨by omega, by omega⟩ | assumption), by rw [ht]; exact hP, hD, by rw [ht]; first | done | exact Nat.le_antisymm hz9 hS.1⟩, hS.F ht⟩) hS.2.2 dX10_oneHolds_72
theorem dX10_compares_0 : decode cX10_compares 0 = .ok (.aload_n 0, 1) := dk_42 (by decide +kernel)
theorem dX10_compares_1 : decode cX10_compares 1 = .ok (.aload_n 0, 1) := dk_42 (by decide +kernel)
theorem dX10_compares_2 : decode cX10_compares 2 = .ok (.getfield 55, 3) := dk_180 (by decide +kernel)
theorem dX10_compares_5 : decode cX10_compares 5 = .ok (.iload_n 1, 1) := dk_27 (by decide +kernel)
theorem dX10_compares_6 : decode cX10_compares 6 = .ok (.iconst 3, 1) := dk_6 (by decide +kernel)
theorem dX10_compares_7 : decode cX10_compares 7 = .ok (.iadd, 1) := dk_96 (by decide +kernel)
theorem dX10_compares_8 : decode cX10_compares 8 = .ok (.iaload, 1) := dk_46 (by decide +kernel)
theorem dX10_compares_9 : decode cX10_compares 9 = .ok (.iload_n 2, 1) := dk_28 (by decide +kernel)
theorem dX10_compares_10 : decode cX10_compares 10 = .ok (.invokevirtual 80, 3) := dk_182 (by decide +kernel)
theorem dX10_compares_13 : decode cX10_compares 13 = .ok (.aload_n 0, 1) := dk_42 (by decide +kernel)
theorem dX10_compares_14 : decode cX10_compares 14 = .ok (.getfield 36, 3) := dk_180 (by decide +kernel)
theorem dX10_compares_17 : decode cX10_compares 17 = .ok (.iload_n 2, 1) := dk_28 (by decide +kernel)
theorem dX10_compares_18 : decode cX10_compares 18 = .ok (.bipush 9, 2) := dk_16 (by decide +kernel)
theorem dX10_compares_20 : decode cX10_compares 20 = .ok (.imul, 1) := dk_104 (by decide +kernel)
theorem dX10_compares_21 : decode cX10_compares 21 = .ok (.laload, 1) := dk_47 (by decide +kernel)
theorem dX10_compares_22 : decode cX10_compares 22 = .ok (.lstore_n 3, 1) := dk_66 (by decide +kernel)
theorem dX10_compares_23 : decode cX10_compares 23 = .ok (.aload_n 0, 1) := dk_42 (by decide +kernel)
theorem dX10_compares_24 : decode cX10_compares 24 = .ok (.getfield 39, 3) := dk_180 (by decide +kernel)
theorem dX10_compares_27 : decode cX10_compares 27 = .ok (.iload_n 2, 1) := dk_28 (by decide +kernel)
theorem dX10_compares_28 : decode cX10_compares 28 = .ok (.bipush 9, 2) := dk_16 (by decide +kernel)
theorem dX10_compares_30 : decode cX10_compares 30 = .ok (.imul, 1) := dk_104 (by decide +kernel)
theorem dX10_compares_31 : decode cX10_compares 31 = .ok (.laload, 1) := dk_47 (by decide +kernel)
theorem dX10_compares_32 : decode cX10_compares 32 = .ok (.lstore 5, 2) := dk_55 (by decide +kernel)
theorem dX10_compares_34 : decode cX10_compares 34 = .ok (.aload_n 0, 1) := dk_42 (by decide +kernel)
theorem dX10_compares_35 : decode cX10_compares 35 = .ok (.aload_n 0, 1) := dk_42 (by decide +kernel)
theorem dX10_compares_36 : decode cX10_compares 36 = .ok (.getfield 55, 3) := dk_180 (by decide +kernel)
theorem dX10_compares_39 : decode cX10_compares 39 = .ok (.iload_n 1, 1) := dk_27 (by decide +kernel)
theorem dX10_compares_40 : decode cX10_compares 40 = .ok (.iconst 4, 1) := dk_7 (by decide +kernel)
theorem dX10_compares_41 : decode cX10_compares 41 = .ok (.iadd, 1) := dk_96 (by decide +kernel)
theorem dX10_compares_42 : decode cX10_compares 42 = .ok (.iaload, 1) := dk_46 (by decide +kernel)
theorem dX10_compares_43 : decode cX10_compares 43 = .ok (.iload_n 2, 1) := dk_28 (by decide +kernel)
theorem dX10_compares_44 : decode cX10_compares 44 = .ok (.invokevirtual 80, 3) := dk_182 (by decide +kernel)
theorem dX10_compares_47 : decode cX10_compares 47 = .ok (.lload_n 3, 1) := dk_33 (by decide +kernel)
theorem dX10_compares_48 : decode cX10_compares 48 = .ok (.aload_n 0, 1) := dk_42 (by decide +kernel)
theorem dX10_compares_49 : decode cX10_compares 49 = .ok (.getfield 39, 3) := dk_180 (by decide +kernel)
theorem dX10_compares_52 : decode cX10_compares 52 = .ok (.iload_n 2, 1) := dk_28 (by decide +kernel)
theorem dX10_compares_53 : decode cX10_compares 53 = .ok (.bipush 9, 2) := dk_16 (by decide +kernel)
theorem dX10_compares_55 : decode cX10_compares 55 = .ok (.imul, 1) := dk_104 (by decide +kernel)
theorem dX10_compares_56 : decode cX10_compares 56 = .ok (.laload, 1) := dk_47 (by decide +kernel)
theorem dX10_compares_57 : decode cX10_compares 57 = .ok (.lmul, 1) := dk_105 (by decide +kernel)
theorem dX10_compares_58 : decode cX10_compares 58 = .ok (.aload_n 0, 1) := dk_42 (by decide +kernel)
theorem dX10_compares_59 : decode cX10_compares 59 = .ok (.getfield 36, 3) := dk_180 (by decide +kernel)
theorem dX10_compares_62 : decode cX10_compares 62 = .ok (.iload_n 2, 1) := dk_28 (by decide +kernel)
theorem dX10_compares_63 : decode cX10_compares 63 = .ok (.bipush 9, 2) := dk_16 (by decide +kernel)
theorem dX10_compares_65 : decode cX10_compares 65 = .ok (.imul, 1) := dk_104 (by decide +kernel)
theorem dX10_compares_66 : decode cX10_compares 66 = .ok (.laload, 1) := dk_47 (by decide +kernel)
theorem dX10_compares_67 : decode cX10_compares 67 = .ok (.lload 5, 2) := dk_22 (by decide +kernel)
theorem dX10_compares_69 : decode cX10_compares 69 = .ok (.lmul, 1) := dk_105 (by decide +kernel)
theorem dX10_compares_70 : decode cX10_compares 70 = .ok (.invokestatic 258, 3) := dk_184 (by decide +kernel)
theorem dX10_compares_73 : decode cX10_compares 73 = .ok (.istore 7, 2) := dk_54 (by decide +kernel)
theorem dX10_compares_75 : decode cX10_compares 75 = .ok (.aload_n 0, 1) := dk_42 (by decide +kernel)
theorem dX10_compares_76 : decode cX10_compares 76 = .ok (.getfield 55, 3) := dk_180 (by decide +kernel)
theorem dX10_compares_79 : decode cX10_compares 79 = .ok (.iload_n 1, 1) := dk_27 (by decide +kernel)
theorem dX10_compares_80 : decode cX10_compares 80 = .ok (.iconst 2, 1) := dk_5 (by decide +kernel)
theorem dX10_compares_81 : decode cX10_compares 81 = .ok (.iadd, 1) := dk_96 (by decide +kernel)
theorem dX10_compares_82 : decode cX10_compares 82 = .ok (.iaload, 1) := dk_46 (by decide +kernel)
theorem dX10_compares_83 : decode cX10_compares 83 = .ok (.lookupswitch 104 #[(60, 82), (62, 93), (301, 49), (302, 60), (303, 71)], 49) := by decide +kernel
theorem dX10_compares_132 : decode cX10_compares 132 = .ok (.iload 7, 2) := dk_21 (by decide +kernel)
theorem dX10_compares_134 : decode cX10_compares 134 = .ok (.ifCond .gt 7, 3) := dk_157 (by decide +kernel)
theorem dX10_compares_137 : decode cX10_compares 137 = .ok (.iconst 1, 1) := dk_4 (by decide +kernel)
theorem dX10_compares_138 : decode cX10_compares 138 = .ok (.goto 4, 3) := dk_167 (by decide +kernel)
theorem dX10_compares_141 : decode cX10_compares 141 = .ok (.iconst 0, 1) := dk_3 (by decide +kernel)
theorem dX10_compares_142 : decode cX10_compares 142 = .ok (.ireturn, 1) := dk_172 (by decide +kernel)
theorem dX10_compares_143 : decode cX10_compares 143 = .ok (.iload 7, 2) := dk_21 (by decide +kernel)
theorem dX10_compares_145 : decode cX10_compares 145 = .ok (.ifCond .lt 7, 3) := dk_155 (by decide +kernel)
theorem dX10_compares_148 : decode cX10_compares 148 = .ok (.iconst 1, 1) := dk_4 (by decide +kernel)
theorem dX10_compares_149 : decode cX10_compares 149 = .ok (.goto 4, 3) := dk_167 (by decide +kernel)
theorem dX10_compares_152 : decode cX10_compares 152 = .ok (.iconst 0, 1) := dk_3 (by decide +kernel)
theorem dX10_compares_153 : decode cX10_compares 153 = .ok (.ireturn, 1) := dk_172 (by decide +kernel)
theorem dX10_compares_154 : decode cX10_compares 154 = .ok (.iload 7, 2) := dk_21 (by decide +kernel)
theorem dX10_compares_156 : decode cX10_compares 156 = .ok (.ifCond .eq 7, 3) := dk_153 (by decide +kernel)
theorem dX10_compares_159 : decode cX10_compares 159 = .ok (.iconst 1, 1) := dk_4 (by decide +kernel)
theorem dX10_compares_160 : decode cX10_compares 160 = .ok (.goto 4, 3) := dk_167 (by decide +kernel)
theorem dX10_compares_163 : decode cX10_compares 163 = .ok (.iconst 0, 1) := dk_3 (by decide +kernel)
theorem dX10_compares_164 : decode cX10_compares 164 = .ok (.ireturn, 1) := dk_172 (by decide +kernel)
theorem dX10_compares_165 : decode cX10_compares 165 = .ok (.iload 7, 2) := dk_21 (by decide +kernel)
theorem dX10_compares_167 : decode cX10_compares 167 = .ok (.ifCond .ge 7, 3) := dk_156 (by decide +kernel)
theorem dX10_compares_170 : decode cX10_compares 170 = .ok (.iconst 1, 1) := dk_4 (by decide +kernel)
theorem dX10_compares_171 : decode cX10_compares 171 = .ok (.goto 4, 3) := dk_167 (by decide +kernel)
theorem dX10_compares_174 : decode cX10_compares 174 = .ok (.iconst 0, 1) := dk_3 (by decide +kernel)
theorem dX10_compares_175 : decode cX10_compares 175 = .ok (.ireturn, 1) := dk_172 (by decide +kernel)
theorem dX10_compares_176 : decode cX10_compares 176 = .ok (.iload 7, 2) := dk_21 (by decide +kernel)
theorem dX10_compares_178 : decode cX10_compares 178 = .ok (.ifCond .le 7, 3) := dk_158 (by decide +kernel)
theorem dX10_compares_181 : decode cX10_compares 181 = .ok (.iconst 1, 1) := dk_4 (by decide +kernel)
theorem dX10_compares_182 : decode cX10_compares 182 = .ok (.goto 4, 3) := dk_167 (by decide +kernel)
theorem dX10_compares_185 : decode cX10_compares 185 = .ok (.iconst 0, 1) := dk_3 (by decide +kernel)
theorem dX10_compares_186 : decode cX10_compares 186 = .ok (.ireturn, 1) := dk_172 (by decide +kernel)
theorem dX10_compares_187 : decode cX10_compares 187 = .ok (.iload 7, 2) := dk_21 (by decide +kernel)
theorem dX10_compares_189 : decode cX10_compares 189 = .ok (.ifCond .ne 7, 3) := dk_154 (by decide +kernel)
theorem dX10_compares_192 : decode cX10_compares 192 = .ok (.iconst 1, 1) := dk_4 (by decide +kernel)
theorem dX10_compares_193 : decode cX10_compares 193 = .ok (.goto 4, 3) := dk_167 (by decide +kernel)
theorem dX10_compares_196 : decode cX10_compares 196 = .ok (.iconst 0, 1) := dk_3 (by decide +kernel)
theorem dX10_compares_197 : decode cX10_compares 197 = .ok (.ireturn, 1) := dk_172 (by decide +kernel)
theorem iwsMX10_compares_in10 : ∀ w ∈ wsX100, w ∈ wsMX10_compares := fun w h => List.mem_cons_of_mem _ (iwsGW_in10 w h)
theorem gwsMX10_compares_0 : GoodIn wsMX10_compares (wsV RX10 80 RX10 yX10_number wsMX10_number) := goodIn_rec (hd := [.methodLink RX10 80 yX10_number, .instanceMethod yX10_number, .selects RX10 yX10_number yX10_number, .initialized RX10]) (by decide +kernel) (by decide +kernel) gdwsGW
theorem gwsMX10_compares_1 : GoodIn wsMX10_compares (va_wsS RX10 258 yJ13_compare_74951 wsMJ13_compare_74951) := goodIn_sub (fun w h => List.mem_cons_of_mem _ (gwsGW_10 w h)) (gdS (by decide +kernel) gdwsMJ13_compare_74951)
theorem hm_m_X10_compares_0 : (.fieldLink RX10 55 "OptimaWorks$Worker" "tree" "[I" : Cond) ∈ wsMX10_compares := by decide +kernel
theorem hm_m_X10_compares_1 : (.fieldLink RX10 36 "OptimaWorks$Worker" "over" "[J" : Cond) ∈ wsMX10_compares := by decide +kernel
theorem hm_m_X10_compares_2 : (.fieldLink RX10 39 "OptimaWorks$Worker" "under" "[J" : Cond) ∈ wsMX10_compares := by decide +kernel
set_option maxHeartbeats 4000000 in
set_option maxRecDepth 100000 in
/-- whether a comparison holds -/
theorem m_X10_compares (l : Launch) (hst : l.stackTraces = false) (ev : Nat) (ih_X10_number : Cm_X10_number l (ev)) : Cm_X10_compares l (ev + 1) := by
  intro dC dI hL aL kL hT hM iL_names gL_key fL_kind fL_one fL_two fL_base iL_params fL_paramOver dL_paramOver nL_params fL_paramUnder dL_paramUnder nL_pu gL_over gL_under fL_bound iL_nameAt iL_startAt iL_steps jL_scaleOver jL_scaleUnder hF aF kF dF_tree nF_tree fF_tree aT kT fT_tape dT_tape nT_tape iT_length iT_fault iT_place iT_kind iT_at iT_number jT_name iT_next aM kM iM_stands iM_variables iM_rows iM_goals iM_differents iM_cases fM_from fM_to fM_whole fM_ways iM_plainRows fM_plainRow fM_kept fM_goalOver fM_goalUnder fM_goalMax fM_different V lo lv p1 p2 b_iL_names b_fL_kind b_fL_two b_fL_base b_iL_params b_nL_params b_nm b_pm b_pu b_nF_tree b_fT_tape b_nT_tape b_iT_length b_iT_at b_iT_number b_iT_next b_len b_iM_stands b_iM_variables b_iM_rows b_iM_goals b_iM_differents b_iM_cases b_fM_ways b_iM_plainRows b_fM_plainRow b_pr b_p2 hV hn hlv hsl hcc sz
  refine vx_ofW (cc := cX10_compares) (maxL := 8) (ret := (some .boolean)) (by decide) rfl ?_
  intro p e s m args below meth c s₁ B hml htab hv
  obtain ⟨rfl, hsz, hP, hK, hD0, hE⟩ := hv
  have hx := B.exec
  have hb := B.bytes
  have hr := B.returns
  have hts := atoms_spec (ws := wsMX10_compares) B.pre
  have hown : s.vm.findClass RX10 = some m.cls := findClass_of_methodNamed B.named
  have hlocks := B.notSynchronized
  subst hsz
  have hD := hD0.self (sz := s.heap.size)
  generalize hAe : va_A (WL hL aL kL hT hM (.ref dF_tree) iL_names gL_key fL_kind fL_one fL_two fL_base iL_params fL_paramOver dL_paramOver nL_params fL_paramUnder dL_paramUnder nL_pu gL_over gL_under fL_bound iL_nameAt iL_startAt iL_steps jL_scaleOver jL_scaleUnder ++ (WF hF aF kF dF_tree nF_tree fF_tree ++ (WT hT aT kT fT_tape dT_tape nT_tape iT_length iT_fault iT_place iT_kind iT_at iT_number jT_name iT_next ++ (WM hM aM kM iM_stands iM_variables iM_rows iM_goals iM_differents iM_cases fM_from fM_to fM_whole fM_ways iM_plainRows fM_plainRow fM_kept fM_goalOver fM_goalUnder fM_goalMax fM_different)))) s.heap.size = A at hD hE ⊢
  have hA : ∀ q : Nat, s.heap.size ≤ q → A q := fun q h => by rw [← hAe]; exact Or.inr h
  have hS : va_S A s.heap s.heap [] := va_S.rf
  have hl := lv_entry ([.ref (hL 0), .int p1, .int p2]) (n := 8) (Nat.le_of_ble_eq_true rfl)
  rw [lg_entry_eq]
  generalize (lg_sl ([.ref (hL 0), .int p1, .int p2]) ++ List.replicate (8 - (lg_sl ([.ref (hL 0), .int p1, .int p2])).length) Slot.unset).toArray = ls at hl ⊢
  have hl : lv_has ls 8 [(0, .ref (hL 0)), (1, .int p1), (2, .int p2)] := hl
  have hr0 := TrL.rng hV hn
  refine lv_aload_n hx hb dX10_compares_0 rfl (lv_at hl 0 rfl) ?_
  refine lv_aload_n hx hb dX10_compares_1 rfl (lv_at hl 0 rfl) ?_
  refine va_get (D := (dC, dI)) (ci := 10) (v := .ref dF_tree) (C := RX10) (T := TX10) (N := 20) hx hb hts iwsMX10_compares_in10 hown hK hP 0 rfl rfl 2 (by decide) (hts _ hm_m_X10_compares_0) (fun _ h9 => h9) rfl dX10_compares_2 ?_
  refine lv_iload_n hx hb dX10_compares_5 rfl (lv_at hl 1 rfl) ?_
  refine lv_iconst (v := 3) hx hb dX10_compares_6 (by decide) ?_
  refine lv_iadd hx hb dX10_compares_7 ?_
  refine lv_topi (fun y1 hy1 => ?_)
  obtain rfl : (iI (p1.toInt + 3)) = y1 := (hy1.trans (iI_add2 (iI_of _) (by decide : (3 : Int32) = iI 3))).symm
  refine va_iald (cA := kF 0) (n := nF_tree) (f := fF_tree) hx hb hK hP 11 10 rfl rfl (vp_iI (by omega) (by omega) (by omega)) dX10_compares_8 ?_
  refine lv_topi (fun v2 hv2 => ?_)
  have b_v2 : v2.toInt = twL fF_tree (p1.toInt + 3) := by rw [hv2]; exact tw_i (by omega) (by omega)
  clear hv2
  refine lv_iload_n hx hb dX10_compares_9 rfl (lv_at hl 2 rfl) ?_
  refine W.known (fun hz0 _ => ?_)
  have hFc := allFree hD hS hA
  refine vx_callv (vx_runV (As := [.int v2, .int p2]) (rest := []) ⟨hx, hb, hml, hown, hts⟩ (ih_X10_number dC dI hL aL kL hT hM iL_names gL_key fL_kind fL_one fL_two fL_base iL_params fL_paramOver dL_paramOver nL_params fL_paramUnder dL_paramUnder nL_pu gL_over gL_under fL_bound iL_nameAt iL_startAt iL_steps jL_scaleOver jL_scaleUnder hF aF kF dF_tree nF_tree fF_tree aT kT fT_tape dT_tape nT_tape iT_length iT_fault iT_place iT_kind iT_at iT_number jT_name iT_next aM kM iM_stands iM_variables iM_rows iM_goals iM_differents iM_cases fM_from fM_to fM_whole fM_ways iM_plainRows fM_plainRow fM_kept fM_goalOver fM_goalUnder fM_goalMax fM_different V lo (lv + 1) v2 p2 (b_iL_names) b_fL_kind b_fL_two b_fL_base (b_iL_params) (by first | exact b_nL_params | with_reducible assumption | exact ⟨by omega, by omega⟩ | assumption) (by first | with_reducible assumption | omega | (rw [iI_t (by omega) (by omega)]; omega) | assumption) (by first | with_reducible assumption | omega | (rw [iI_t (by omega) (by omega)]; omega) | assumption) (by first | with_reducible assumption | omega | (rw [iI_t (by omega) (by omega)]; omega) | assumption) (by first | exact b_nF_tree | with_reducible assumption | exact ⟨by omega, by omega⟩ | assumption) b_fT_tape (by first | exact b_nT_tape | with_reducible assumption | exact ⟨by omega, by omega⟩ | assumption) (b_iT_length) (b_iT_at) (b_iT_number) (b_iT_next) (by first | with_reducible assumption | omega | assumption) (b_iM_stands) (b_iM_variables) (b_iM_rows) (b_iM_goals) (b_iM_differents) (b_iM_cases) b_fM_ways (b_iM_plainRows) b_fM_plainRow (by first | with_reducible assumption | omega | assumption) (b_p2) (by first | with_reducible assumption | omega | (rw [iI_t (by omega) (by omega)]; omega) | decide | assumption) (Vld b_v2 hcc.1) (by first | with_reducible assumption | omega | (rw [iI_t (by omega) (by omega)]; omega) | decide | assumption) (by first | with_reducible assumption | omega | (rw [iI_t (by omega) (by omega)]; omega) | decide | assumption) s.heap.size) (cwV 2 hts gwsMX10_compares_0 rfl rfl rfl (by decide +kernel) ⟨by first | decide +kernel | (dsimp only [headSpec] <;> omega), by first | decide +kernel | (dsimp only [headSpec] <;> omega)⟩) (fz_preE (va_recv hK hP (ci := 10) (q0 := 0) rfl rfl) hP hK hD (fun a U g mk qE => qE.call) (fun U hU9 hW => by rw [hU9]; exact (((hE : CE A s s.heap).kept hS.2.1).narrow (fun q h => hFc q h)).warm hW)) rfl rfl hl.1 rfl (lv_room (Nat.le_of_ble_eq_true rfl)) dX10_compares_10 ⟨by first | decide +kernel | (dsimp only [headSpec] <;> omega), by first | decide +kernel | (dsimp only [headSpec] <;> omega)⟩) hS (fun q _ h => hFc q h) hFc (fun q _ h => hFc q h) (fun E ce q9 u t9_ H locs ht hvm hw9 hB9 hz1 hk1 hS hc1 hc2 hc3 => ?_) (fun u t9_ H locs ht hvm hw9 hB9 hz1 hk1 hS => ?_)
  · revert u hw9 hB9
    refine fz_p6 ?_
    intro gL_over_3 gL_under_3 fL_bound_3 iL_steps_3 iT_fault_3 iT_place_3 hw9 hB9
    try dsimp only at hw9 hB9
    revert hB9
    refine fz_a2 ?_
    intro hEx hB9
    clear hw9
    have hP : va_P (dC, dI) vwCl (WL hL aL kL hT hM (.ref dF_tree) iL_names gL_key fL_kind fL_one fL_two fL_base iL_params fL_paramOver dL_paramOver nL_params fL_paramUnder dL_paramUnder nL_pu gL_over_3 gL_under_3 fL_bound_3 iL_nameAt iL_startAt iL_steps_3 jL_scaleOver jL_scaleUnder ++ (WF hF aF kF dF_tree nF_tree fF_tree ++ (WT hT aT kT fT_tape dT_tape nT_tape iT_length iT_fault_3 iT_place_3 iT_kind iT_at iT_number jT_name iT_next ++ (WM hM aM kM iM_stands iM_variables iM_rows iM_goals iM_differents iM_cases fM_from fM_to fM_whole fM_ways iM_plainRows fM_plainRow fM_kept fM_goalOver fM_goalUnder fM_goalMax fM_different)))) H := fz_P ht hB9.1
    have hD := fz_sd hP (hB9.2.weaken (fun _ q _ h => hFc q.1 h)) rfl
    exact vx_out (fun x hx9 => (htab x hx9).elim) hlocks hc1 hc2 hc3 (fun t9_ ht hvm => ⟨(gL_over_3, gL_under_3, fL_bound_3, iL_steps_3, iT_fault_3, iT_place_3), trivial, ⟨(by have h9 := hEx; exact h9), by rw [ht]; exact hP, hD⟩, hS.F ht⟩) hS.2.2 (by decide +kernel) (by decide +kernel)
  revert u hw9 hB9
  refine fz_p6 ?_
  intro gL_over_3 gL_under_3 fL_bound_3 iL_steps_3 iT_fault_3 iT_place_3 hw9 hB9
  try dsimp only at hw9 hB9
  clear hw9
  have hz8 := hB9.2.2
  rw [ht] at hz8
  have hz9 : H.size ≤ s.heap.size + 0 := by rw [hz8]; exact hz0
  refine W.tight (cells2 := 0) (slots2 := 0) hz9 (nS_0 hz9) ?_
  clear hz8 hz9
  have hP : va_P (dC, dI) vwCl (WL hL aL kL hT hM (.ref dF_tree) iL_names gL_key fL_kind fL_one fL_two fL_base iL_params fL_paramOver dL_paramOver nL_params fL_paramUnder dL_paramUnder nL_pu gL_over_3 gL_under_3 fL_bound_3 iL_nameAt iL_startAt iL_steps_3 jL_scaleOver jL_scaleUnder ++ (WF hF aF kF dF_tree nF_tree fF_tree ++ (WT hT aT kT fT_tape dT_tape nT_tape iT_length iT_fault_3 iT_place_3 iT_kind iT_at iT_number jT_name iT_next ++ (WM hM aM kM iM_stands iM_variables iM_rows iM_goals iM_differents iM_cases fM_from fM_to fM_whole fM_ways iM_plainRows fM_plainRow fM_kept fM_goalOver fM_goalUnder fM_goalMax fM_different)))) H := fz_P ht hB9.1
  have hD := fz_sd hP (hB9.2.1.weaken (fun _ q _ h => hFc q.1 h)) rfl
  refine lv_aload_n hx hb dX10_compares_13 rfl (lv_at hl 0 rfl) ?_
  refine va_get (D := (dC, dI)) (ci := 10) (v := .ref (aL 7)) (C := RX10) (T := TX10) (N := 20) hx hb hts iwsMX10_compares_in10 hown hK hP 0 rfl rfl 12 (by decide) (hts _ hm_m_X10_compares_1) (fun _ h9 => h9) rfl dX10_compares_14 ?_
  refine lv_iload_n hx hb dX10_compares_17 rfl (lv_at hl 2 rfl) ?_
  refine lv_bipush (v := 9) hx hb dX10_compares_18 (by decide) ?_
  refine lv_imul hx hb dX10_compares_20 ?_
  refine lv_topi (fun y4 hy4 => ?_)
  obtain rfl : (iI (p2.toInt * 9)) = y4 := (hy4.trans (iI_mul2 (iI_of _) (by decide : (9 : Int32) = iI 9))).symm
  refine va_lald (cA := kL 7) (n := 360) (f := gL_over_3) hx hb hK hP 8 7 rfl rfl (vp_iI (Int.le_trans (by decide) (Int.mul_le_mul_of_nonneg_right (b_p2.1) (by decide))) (Int.lt_of_le_of_lt (Int.mul_le_mul_of_nonneg_right (b_p2.2) (by decide)) (by decide)) (by decide)) dX10_compares_21 ?_
  refine lv_topl (fun v5 hv5 => ?_)
  clear hv5
  refine lv_lstore_n hx hb dX10_compares_22 rfl hl (by decide) rfl (fun ls (hl : lv_has ls _ ([(3, .long v5), (0, .ref (hL 0)), (1, .int p1), (2, .int p2)])) => ?_)
  refine lv_aload_n hx hb dX10_compares_23 rfl (lv_at hl 1 rfl) ?_
  refine va_get (D := (dC, dI)) (ci := 10) (v := .ref (aL 8)) (C := RX10) (T := TX10) (N := 20) hx hb hts iwsMX10_compares_in10 hown hK hP 0 rfl rfl 13 (by decide) (hts _ hm_m_X10_compares_2) (fun _ h9 => h9) rfl dX10_compares_24 ?_
  refine lv_iload_n hx hb dX10_compares_27 rfl (lv_at hl 3 rfl) ?_
  refine lv_bipush (v := 9) hx hb dX10_compares_28 (by decide) ?_
  refine lv_imul hx hb dX10_compares_30 ?_
  refine lv_topi (fun y6 hy6 => ?_)
  obtain rfl : (iI (p2.toInt * 9)) = y6 := (hy6.trans (iI_mul2 (iI_of _) (by decide : (9 : Int32) = iI 9))).symm
  refine va_lald (cA := kL 8) (n := 360) (f := gL_under_3) hx hb hK hP 9 8 rfl rfl (vp_iI (Int.le_trans (by decide) (Int.mul_le_mul_of_nonneg_right (b_p2.1) (by decide))) (Int.lt_of_le_of_lt (Int.mul_le_mul_of_nonneg_right (b_p2.2) (by decide)) (by decide)) (by decide)) dX10_compares_31 ?_
  refine lv_topl (fun v7 hv7 => ?_)
  clear hv7
  refine lv_lstore hx hb dX10_compares_32 hl (by decide) rfl (fun ls (hl : lv_has ls _ ([(5, .long v7), (3, .long v5), (0, .ref (hL 0)), (1, .int p1), (2, .int p2)])) => ?_)
  refine lv_aload_n hx hb dX10_compares_34 rfl (lv_at hl 2 rfl) ?_
  refine lv_aload_n hx hb dX10_compares_35 rfl (lv_at hl 2 rfl) ?_
  refine va_get (D := (dC, dI)) (ci := 10) (v := .ref dF_tree) (C := RX10) (T := TX10) (N := 20) hx hb hts iwsMX10_compares_in10 hown hK hP 0 rfl rfl 2 (by decide) (hts _ hm_m_X10_compares_0) (fun _ h9 => h9) rfl dX10_compares_36 ?_
  refine lv_iload_n hx hb dX10_compares_39 rfl (lv_at hl 3 rfl) ?_
  refine lv_iconst (v := 4) hx hb dX10_compares_40 (by decide) ?_
  refine lv_iadd hx hb dX10_compares_41 ?_
  refine lv_topi (fun y8 hy8 => ?_)
  obtain rfl : (iI (p1.toInt + 4)) = y8 := (hy8.trans (iI_add2 (iI_of _) (by decide : (4 : Int32) = iI 4))).symm
  refine va_iald (cA := kF 0) (n := nF_tree) (f := fF_tree) hx hb hK hP 11 10 rfl rfl (vp_iI (by omega) (by omega) (by omega)) dX10_compares_42 ?_
  refine lv_topi (fun v9 hv9 => ?_)
  have b_v9 : v9.toInt = twL fF_tree (p1.toInt + 4) := by rw [hv9]; exact tw_i (by omega) (by omega)
  clear hv9
  refine lv_iload_n hx hb dX10_compares_43 rfl (lv_at hl 4 rfl) ?_
  refine W.known (fun hz0 _ => ?_)
  have hFc := allFree hD hS hA
  refine vx_callv (vx_runV (As := [.int v9, .int p2]) (rest := []) ⟨hx, hb, hml, hown, hts⟩ (ih_X10_number dC dI hL aL kL hT hM iL_names gL_key fL_kind fL_one fL_two fL_base iL_params fL_paramOver dL_paramOver nL_params fL_paramUnder dL_paramUnder nL_pu gL_over_3 gL_under_3 fL_bound_3 iL_nameAt iL_startAt iL_steps_3 jL_scaleOver jL_scaleUnder hF aF kF dF_tree nF_tree fF_tree aT kT fT_tape dT_tape nT_tape iT_length iT_fault_3 iT_place_3 iT_kind iT_at iT_number jT_name iT_next aM kM iM_stands iM_variables iM_rows iM_goals iM_differents iM_cases fM_from fM_to fM_whole fM_ways iM_plainRows fM_plainRow fM_kept fM_goalOver fM_goalUnder fM_goalMax fM_different V lo (lv + 1) v9 p2 (b_iL_names) b_fL_kind b_fL_two b_fL_base (b_iL_params) (by first | exact b_nL_params | with_reducible assumption | exact ⟨by omega, by omega⟩ | assumption) (by first | with_reducible assumption | omega | (rw [iI_t (by omega) (by omega)]; omega) | assumption) (by first | with_reducible assumption | omega | (rw [iI_t (by omega) (by omega)]; omega) | assumption) (by first | with_reducible assumption | omega | (rw [iI_t (by omega) (by omega)]; omega) | assumption) (by first | exact b_nF_tree | with_reducible assumption | exact ⟨by omega, by omega⟩ | assumption) b_fT_tape (by first | exact b_nT_tape | with_reducible assumption | exact ⟨by omega, by omega⟩ | assumption) (b_iT_length) (b_iT_at) (b_iT_number) (b_iT_next) (by first | with_reducible assumption | omega | assumption) (b_iM_stands) (b_iM_variables) (b_iM_rows) (b_iM_goals) (b_iM_differents) (b_iM_cases) b_fM_ways (b_iM_plainRows) b_fM_plainRow (by first | with_reducible assumption | omega | assumption) (b_p2) (by first | with_reducible assumption | omega | (rw [iI_t (by omega) (by omega)]; omega) | decide | assumption) (Vld b_v9 hcc.2) (by first | with_reducible assumption | omega | (rw [iI_t (by omega) (by omega)]; omega) | decide | assumption) (by first | with_reducible assumption | omega | (rw [iI_t (by omega) (by omega)]; omega) | decide | assumption) H.size) (cwV 2 hts gwsMX10_compares_0 rfl rfl rfl (by decide +kernel) ⟨by first | decide +kernel | (dsimp only [headSpec] <;> omega), by first | decide +kernel | (dsimp only [headSpec] <;> omega)⟩) (fz_preE (va_recv hK hP (ci := 10) (q0 := 0) rfl rfl) hP hK hD (fun a U g mk qE => qE.call) (fun U hU9 hW => by rw [hU9]; exact (((hE : CE A s s.heap).kept hS.2.1).narrow (fun q h => hFc q h)).warm hW)) rfl rfl hl.1 rfl (lv_room (Nat.le_of_ble_eq_true rfl)) dX10_compares_44 ⟨by first | decide +kernel | (dsimp only [headSpec] <;> omega), by first | decide +kernel | (dsimp only [headSpec] <;> omega)⟩) hS (fun q _ h => hFc q h) hFc (fun q _ h => hFc q h) (fun E ce q9 u t9_ H locs ht hvm hw9 hB9 hz1 hk1 hS hc1 hc2 hc3 => ?_) (fun u t9_ H locs ht hvm hw9 hB9 hz1 hk1 hS => ?_)
  · revert u hw9 hB9
    refine fz_p6 ?_
    intro gL_over_10 gL_under_10 fL_bound_10 iL_steps_10 iT_fault_10 iT_place_10 hw9 hB9
    try dsimp only at hw9 hB9
    revert hB9
    refine fz_a2 ?_
    intro hEx hB9
    clear hw9
    have hP : va_P (dC, dI) vwCl (WL hL aL kL hT hM (.ref dF_tree) iL_names gL_key fL_kind fL_one fL_two fL_base iL_params fL_paramOver dL_paramOver nL_params fL_paramUnder dL_paramUnder nL_pu gL_over_10 gL_under_10 fL_bound_10 iL_nameAt iL_startAt iL_steps_10 jL_scaleOver jL_scaleUnder ++ (WF hF aF kF dF_tree nF_tree fF_tree ++ (WT hT aT kT fT_tape dT_tape nT_tape iT_length iT_fault_10 iT_place_10 iT_kind iT_at iT_number jT_name iT_next ++ (WM hM aM kM iM_stands iM_variables iM_rows iM_goals iM_differents iM_cases fM_from fM_to fM_whole fM_ways iM_plainRows fM_plainRow fM_kept fM_goalOver fM_goalUnder fM_goalMax fM_different)))) H := fz_P ht hB9.1
    have hD := fz_sd hP (hB9.2.weaken (fun _ q _ h => hFc q.1 h)) rfl
    exact vx_out (fun x hx9 => (htab x hx9).elim) hlocks hc1 hc2 hc3 (fun t9_ ht hvm => ⟨(gL_over_10, gL_under_10, fL_bound_10, iL_steps_10, iT_fault_10, iT_place_10), trivial, ⟨(by have h9 := hEx; exact h9), by rw [ht]; exact hP, hD⟩, hS.F ht⟩) hS.2.2 (by decide +kernel) (by decide +kernel)
  revert u hw9 hB9
  refine fz_p6 ?_
  intro gL_over_10 gL_under_10 fL_bound_10 iL_steps_10 iT_fault_10 iT_place_10 hw9 hB9
  try dsimp only at hw9 hB9
  clear hw9
  have hz8 := hB9.2.2
  rw [ht] at hz8
  have hz9 : H.size ≤ s.heap.size + 0 := by rw [hz8]; exact hz0
  refine W.tight (cells2 := 0) (slots2 := 0) hz9 (nS_0 hz9) ?_
  clear hz8 hz9
  have hP : va_P (dC, dI) vwCl (WL hL aL kL hT hM (.ref dF_tree) iL_names gL_key fL_kind fL_one fL_two fL_base iL_params fL_paramOver dL_paramOver nL_params fL_paramUnder dL_paramUnder nL_pu gL_over_10 gL_under_10 fL_bound_10 iL_nameAt iL_startAt iL_steps_10 jL_scaleOver jL_scaleUnder ++ (WF hF aF kF dF_tree nF_tree fF_tree ++ (WT hT aT kT fT_tape dT_tape nT_tape iT_length iT_fault_10 iT_place_10 iT_kind iT_at iT_number jT_name iT_next ++ (WM hM aM kM iM_stands iM_variables iM_rows iM_goals iM_differents iM_cases fM_from fM_to fM_whole fM_ways iM_plainRows fM_plainRow fM_kept fM_goalOver fM_goalUnder fM_goalMax fM_different)))) H := fz_P ht hB9.1
  have hD := fz_sd hP (hB9.2.1.weaken (fun _ q _ h => hFc q.1 h)) rfl
  refine lv_lload_n hx hb dX10_compares_47 rfl (lv_at hl 1 rfl) ?_
  refine lv_aload_n hx hb dX10_compares_48 rfl (lv_at hl 2 rfl) ?_
  refine va_get (D := (dC, dI)) (ci := 10) (v := .ref (aL 8)) (C := RX10) (T := TX10) (N := 20) hx hb hts iwsMX10_compares_in10 hown hK hP 0 rfl rfl 13 (by decide) (hts _ hm_m_X10_compares_2) (fun _ h9 => h9) rfl dX10_compares_49 ?_
  refine lv_iload_n hx hb dX10_compares_52 rfl (lv_at hl 4 rfl) ?_
  refine lv_bipush (v := 9) hx hb dX10_compares_53 (by decide) ?_
  refine lv_imul hx hb dX10_compares_55 ?_
  refine lv_topi (fun y11 hy11 => ?_)
  obtain rfl : (iI (p2.toInt * 9)) = y11 := (hy11.trans (iI_mul2 (iI_of _) (by decide : (9 : Int32) = iI 9))).symm
  refine va_lald (cA := kL 8) (n := 360) (f := gL_under_10) hx hb hK hP 9 8 rfl rfl (vp_iI (Int.le_trans (by decide) (Int.mul_le_mul_of_nonneg_right (b_p2.1) (by decide))) (Int.lt_of_le_of_lt (Int.mul_le_mul_of_nonneg_right (b_p2.2) (by decide)) (by decide)) (by decide)) dX10_compares_56 ?_
  refine lv_topl (fun v12 hv12 => ?_)
  clear hv12
  refine lv_lmul hx hb dX10_compares_57 ?_
  refine lv_topl (fun v13 hv13 => ?_)
  clear hv13
  refine lv_aload_n hx hb dX10_compares_58 rfl (lv_at hl 2 rfl) ?_
  refine va_get (D := (dC, dI)) (ci := 10) (v := .ref (aL 7)) (C := RX10) (T := TX10) (N := 20) hx hb hts iwsMX10_compares_in10 hown hK hP 0 rfl rfl 12 (by decide) (hts _ hm_m_X10_compares_1) (fun _ h9 => h9) rfl dX10_compares_59 ?_
  refine lv_iload_n hx hb dX10_compares_62 rfl (lv_at hl 4 rfl) ?_
  refine lv_bipush (v := 9) hx hb dX10_compares_63 (by decide) ?_
  refine lv_imul hx hb dX10_compares_65 ?_
  refine lv_topi (fun y14 hy14 => ?_)
  obtain rfl : (iI (p2.toInt * 9)) = y14 := (hy14.trans (iI_mul2 (iI_of _) (by decide : (9 : Int32) = iI 9))).symm
  refine va_lald (cA := kL 7) (n := 360) (f := gL_over_10) hx hb hK hP 8 7 rfl rfl (vp_iI (Int.le_trans (by decide) (Int.mul_le_mul_of_nonneg_right (b_p2.1) (by decide))) (Int.lt_of_le_of_lt (Int.mul_le_mul_of_nonneg_right (b_p2.2) (by decide)) (by decide)) (by decide)) dX10_compares_66 ?_
  refine lv_topl (fun v15 hv15 => ?_)
  clear hv15
  refine lv_lload hx hb dX10_compares_67 (lv_at hl 0 rfl) ?_
  refine lv_lmul hx hb dX10_compares_69 ?_
  refine lv_topl (fun v16 hv16 => ?_)
  clear hv16
  have hFc := noneFree hS hA
  refine va_calli (va_runS (As := [.long v13, .long v16]) (rest := []) ⟨hx, hb, hml, hown, hts⟩ (m_J13_compare_74951 l dC dI v13 v16 H.size) (va_cwS 2 hts gwsMX10_compares_1 rfl rfl rfl (by decide +kernel) ⟨by first | decide +kernel | (dsimp only [headSpec] <;> omega), by first | decide +kernel | (dsimp only [headSpec] <;> omega)⟩) ⟨fun a U g mk q => by obtain ⟨q0, q1, qP, qK, qD⟩ := q; exact ⟨q0, q1, qP, va_K.moved (u := U) (U := U.calling g mk a) (Vm.Alike.refl U.vm) qK, qD⟩, fun U hU9 hW => ⟨rfl, by rw [hU9], by rw [hU9]; exact nilP, va_K.moved hW.alike (hK.sub (tys' := []) [] rfl), nilD⟩⟩ rfl rfl hl.1 rfl (lv_room (Nat.le_of_ble_eq_true rfl)) dX10_compares_70 ⟨by first | decide +kernel | (dsimp only [headSpec] <;> omega), by first | decide +kernel | (dsimp only [headSpec] <;> omega)⟩) hS (fun q _ h => hFc q h) hFc (fun r17 u t9_ H1 locs ht hvm hw9 hB9 hz1 hk1 hS => ?_)
  clear hw9
  clear hB9
  have hP := keepAll hP hk1
  generalize H1 = H at hP hS ⊢
  have hP : va_P (dC, dI) vwCl (WL hL aL kL hT hM (.ref dF_tree) iL_names gL_key fL_kind fL_one fL_two fL_base iL_params fL_paramOver dL_paramOver nL_params fL_paramUnder dL_paramUnder nL_pu gL_over_10 gL_under_10 fL_bound_10 iL_nameAt iL_startAt iL_steps_10 jL_scaleOver jL_scaleUnder ++ (WF hF aF kF dF_tree nF_tree fF_tree ++ (WT hT aT kT fT_tape dT_tape nT_tape iT_length iT_fault_10 iT_place_10 iT_kind iT_at iT_number jT_name iT_next ++ (WM hM aM kM iM_stands iM_variables iM_rows iM_goals iM_differents iM_cases fM_from fM_to fM_whole fM_ways iM_plainRows fM_plainRow fM_kept fM_goalOver fM_goalUnder fM_goalMax fM_different)))) H := hP
  have hD := fz_sd hP (hD) rfl
  refine lv_istore hx hb dX10_compares_73 hl (by decide) rfl (fun ls (hl : lv_has ls _ ([(7, .int r17), (5, .long v7), (3, .long v5), (0, .ref (hL 0)), (1, .int p1), (2, .int p2)])) => ?_)
  refine lv_aload_n hx hb dX10_compares_75 rfl (lv_at hl 3 rfl) ?_
  refine va_get (D := (dC, dI)) (ci := 10) (v := .ref dF_tree) (C := RX10) (T := TX10) (N := 20) hx hb hts iwsMX10_compares_in10 hown hK hP 0 rfl rfl 2 (by decide) (hts _ hm_m_X10_compares_0) (fun _ h9 => h9) rfl dX10_compares_76 ?_
  refine lv_iload_n hx hb dX10_compares_79 rfl (lv_at hl 4 rfl) ?_
  refine lv_iconst (v := 2) hx hb dX10_compares_80 (by decide) ?_
  refine lv_iadd hx hb dX10_compares_81 ?_
  refine lv_topi (fun y18 hy18 => ?_)
  obtain rfl : (iI (p1.toInt + 2)) = y18 := (hy18.trans (iI_add2 (iI_of _) (by decide : (2 : Int32) = iI 2))).symm
  refine va_iald (cA := kF 0) (n := nF_tree) (f := fF_tree) hx hb hK hP 11 10 rfl rfl (vp_iI (by omega) (by omega) (by omega)) dX10_compares_82 ?_
  refine lv_topi (fun v19 hv19 => ?_)
  have b_v19 : v19.toInt = twL fF_tree (p1.toInt + 2) := by rw [hv19]; exact tw_i (by omega) (by omega)
  clear hv19
  by_cases s_83_60 : v19 = 60
  · have ts_83_60 : v19.toInt = 60 := toI_eq s_83_60 rfl (by decide)
    refine lv_lookup (off := 82) (tgt := 165) hx hb dX10_compares_83 (by decide) (by rw [s_83_60]; decide) (by decide) ?_
    refine lv_iload hx hb dX10_compares_165 (lv_at hl 0 rfl) ?_
    refine lv_if_ge (tgt := 174) hx hb dX10_compares_167 (by decide) (fun c_167 => ?_) (fun c_167 => ?_)
    · have t_167 : r17.toInt ≥ 0 := toI_ge c_167 rfl (by decide : (0 : Int32).toInt = 0)
      refine lv_iconst (v := 0) hx hb dX10_compares_174 (by decide) ?_
      refine vx_ret ?_
      refine W.known (fun hz9 _ => ?_)
      refine W.widen (k := 1) (n := 6) (by decide +kernel) (by decide +kernel) ?_
      exact W.zret (v := 0) hx hb hr rfl (fun t9_ ht hW => ⟨⟨(0 : Int32), (gL_over_10, gL_under_10, fL_bound_10, iL_steps_10, iT_fault_10, iT_place_10), rfl, (show 0 ≤ (0 : Int32).toInt ∧ (0 : Int32).toInt ≤ 1 from by decide), by rw [ht]; exact hP, hD, by rw [ht]; first | done | exact Nat.le_antisymm hz9 hS.1⟩, hS.F ht⟩) hS.2.2 dX10_compares_175
    · have t_167 : ¬ r17.toInt ≥ 0 := toI_nge c_167 rfl (by decide : (0 : Int32).toInt = 0)
      refine lv_iconst (v := 1) hx hb dX10_compares_170 (by decide) ?_
      refine lv_goto (tgt := 175) hx hb dX10_compares_171 (by decide) ?_
      refine vx_ret ?_
      refine W.known (fun hz9 _ => ?_)
      refine W.widen (k := 1) (n := 6) (by decide +kernel) (by decide +kernel) ?_
      exact W.zret (v := 1) hx hb hr rfl (fun t9_ ht hW => ⟨⟨(1 : Int32), (gL_over_10, gL_under_10, fL_bound_10, iL_steps_10, iT_fault_10, iT_place_10), rfl, (show 0 ≤ (1 : Int32).toInt ∧ (1 : Int32).toInt ≤ 1 from by decide), by rw [ht]; exact hP, hD, by rw [ht]; first | done | exact Nat.le_antisymm hz9 hS.1⟩, hS.F ht⟩) hS.2.2 dX10_compares_175
  · have ts_83_60 : ¬ v19.toInt = 60 := toI_neq s_83_60 rfl (by decide)
    by_cases s_83_62 : v19 = 62
    · have ts_83_62 : v19.toInt = 62 := toI_eq s_83_62 rfl (by decide)
      refine lv_lookup (off := 93) (tgt := 176) hx hb dX10_compares_83 (by decide) (by rw [s_83_62]; decide) (by decide) ?_
      refine lv_iload hx hb dX10_compares_176 (lv_at hl 0 rfl) ?_
      refine lv_if_le (tgt := 185) hx hb dX10_compares_178 (by decide) (fun c_178 => ?_) (fun c_178 => ?_)
      · have t_178 : r17.toInt ≤ 0 := toI_le c_178 rfl (by decide : (0 : Int32).toInt = 0)
        refine lv_iconst (v := 0) hx hb dX10_compares_185 (by decide) ?_
        refine vx_ret ?_
        refine W.known (fun hz9 _ => ?_)
        refine W.widen (k := 1) (n := 6) (by decide +kernel) (by decide +kernel) ?_
        exact W.zret (v := 0) hx hb hr rfl (fun t9_ ht hW => ⟨⟨(0 : Int32), (gL_over_10, gL_under_10, fL_bound_10, iL_steps_10, iT_fault_10, iT_place_10), rfl, (show 0 ≤ (0 : Int32).toInt ∧ (0 : Int32).toInt ≤ 1 from by decide), by rw [ht]; exact hP, hD, by rw [ht]; first | done | exact Nat.le_antisymm hz9 hS.1⟩, hS.F ht⟩) hS.2.2 dX10_compares_186
      · have t_178 : ¬ r17.toInt ≤ 0 := toI_nle c_178 rfl (by decide : (0 : Int32).toInt = 0)
        refine lv_iconst (v := 1) hx hb dX10_compares_181 (by decide) ?_
        refine lv_goto (tgt := 186) hx hb dX10_compares_182 (by decide) ?_
        refine vx_ret ?_
        refine W.known (fun hz9 _ => ?_)
        refine W.widen (k := 1) (n := 6) (by decide +kernel) (by decide +kernel) ?_
        exact W.zret (v := 1) hx hb hr rfl (fun t9_ ht hW => ⟨⟨(1 : Int32), (gL_over_10, gL_under_10, fL_bound_10, iL_steps_10, iT_fault_10, iT_place_10), rfl, (show 0 ≤ (1 : Int32).toInt ∧ (1 : Int32).toInt ≤ 1 from by decide), by rw [ht]; exact hP, hD, by rw [ht]; first | done | exact Nat.le_antisymm hz9 hS.1⟩, hS.F ht⟩) hS.2.2 dX10_compares_186
    · have ts_83_62 : ¬ v19.toInt = 62 := toI_neq s_83_62 rfl (by decide)
      by_cases s_83_301 : v19 = 301
      · have ts_83_301 : v19.toInt = 301 := toI_eq s_83_301 rfl (by decide)
        refine lv_lookup (off := 49) (tgt := 132) hx hb dX10_compares_83 (by decide) (by rw [s_83_301]; decide) (by decide) ?_
        refine lv_iload hx hb dX10_compares_132 (lv_at hl 0 rfl) ?_
        refine lv_if_gt (tgt := 141) hx hb dX10_compares_134 (by decide) (fun c_134 => ?_) (fun c_134 => ?_)
        · have t_134 : r17.toInt > 0 := toI_gt c_134 rfl (by decide : (0 : Int32).toInt = 0)
          refine lv_iconst (v := 0) hx hb dX10_compares_141 (by decide) ?_
          refine vx_ret ?_
          refine W.known (fun hz9 _ => ?_)
          refine W.widen (k := 1) (n := 6) (by decide +kernel) (by decide +kernel) ?_
          exact W.zret (v := 0) hx hb hr rfl (fun t9_ ht hW => ⟨⟨(0 : Int32), (gL_over_10, gL_under_10, fL_bound_10, iL_steps_10, iT_fault_10, iT_place_10), rfl, (show 0 ≤ (0 : Int32).toInt ∧ (0 : Int32).toInt ≤ 1 from by decide), by rw [ht]; exact hP, hD, by rw [ht]; first | done | exact Nat.le_antisymm hz9 hS.1⟩, hS.F ht⟩) hS.2.2 dX10_compares_142
        · have t_134 : ¬ r17.toInt > 0 := toI_ngt c_134 rfl (by decide : (0 : Int32).toInt = 0)
          refine lv_iconst (v := 1) hx hb dX10_compares_137 (by decide) ?_
          refine lv_goto (tgt := 142) hx hb dX10_compares_138 (by decide) ?_
          refine vx_ret ?_
          refine W.known (fun hz9 _ => ?_)
          refine W.widen (k := 1) (n := 6) (by decide +kernel) (by decide +kernel) ?_
          exact W.zret (v := 1) hx hb hr rfl (fun t9_ ht hW => ⟨⟨(1 : Int32), (gL_over_10, gL_under_10, fL_bound_10, iL_steps_10, iT_fault_10, iT_place_10), rfl, (show 0 ≤ (1 : Int32).toInt ∧ (1 : Int32).toInt ≤ 1 from by decide), by rw [ht]; exact hP, hD, by rw [ht]; first | done | exact Nat.le_antisymm hz9 hS.1⟩, hS.F ht⟩) hS.2.2 dX10_compares_142
      · have ts_83_301 : ¬ v19.toInt = 301 := toI_neq s_83_301 rfl (by decide)
        by_cases s_83_302 : v19 = 302
        · have ts_83_302 : v19.toInt = 302 := toI_eq s_83_302 rfl (by decide)
          refine lv_lookup (off := 60) (tgt := 143) hx hb dX10_compares_83 (by decide) (by rw [s_83_302]; decide) (by decide) ?_
          refine lv_iload hx hb dX10_compares_143 (lv_at hl 0 rfl) ?_
          refine lv_if_lt (tgt := 152) hx hb dX10_compares_145 (by decide) (fun c_145 => ?_) (fun c_145 => ?_)
          · have t_145 : r17.toInt < 0 := toI_lt c_145 rfl (by decide : (0 : Int32).toInt = 0)
            refine lv_iconst (v := 0) hx hb dX10_compares_152 (by decide) ?_
            refine vx_ret ?_
            refine W.known (fun hz9 _ => ?_)
            refine W.widen (k := 1) (n := 6) (by decide +kernel) (by decide +kernel) ?_
            exact W.zret (v := 0) hx hb hr rfl (fun t9_ ht hW => ⟨⟨(0 : Int32), (gL_over_10, gL_under_10, fL_bound_10, iL_steps_10, iT_fault_10, iT_place_10), rfl, (show 0 ≤ (0 : Int32).toInt ∧ (0 : Int32).toInt ≤ 1 from by decide), by rw [ht]; exact hP, hD, by rw [ht]; first | done | exact Nat.le_antisymm hz9 hS.1⟩, hS.F ht⟩) hS.2.2 dX10_compares_153
          · have t_145 : ¬ r17.toInt < 0 := toI_nlt c_145 rfl (by decide : (0 : Int32).toInt = 0)
            refine lv_iconst (v := 1) hx hb dX10_compares_148 (by decide) ?_
            refine lv_goto (tgt := 153) hx hb dX10_compares_149 (by decide) ?_
            refine vx_ret ?_
            refine W.known (fun hz9 _ => ?_)
            refine W.widen (k := 1) (n := 6) (by decide +kernel) (by decide +kernel) ?_
            exact W.zret (v := 1) hx hb hr rfl (fun t9_ ht hW => ⟨⟨(1 : Int32), (gL_over_10, gL_under_10, fL_bound_10, iL_steps_10, iT_fault_10, iT_place_10), rfl, (show 0 ≤ (1 : Int32).toInt ∧ (1 : Int32).toInt ≤ 1 from by decide), by rw [ht]; exact hP, hD, by rw [ht]; first | done | exact Nat.le_antisymm hz9 hS.1⟩, hS.F ht⟩) hS.2.2 dX10_compares_153
        · have ts_83_302 : ¬ v19.toInt = 302 := toI_neq s_83_302 rfl (by decide)
          by_cases s_83_303 : v19 = 303
          · have ts_83_303 : v19.toInt = 303 := toI_eq s_83_303 rfl (by decide)
            refine lv_lookup (off := 71) (tgt := 154) hx hb dX10_compares_83 (by decide) (by rw [s_83_303]; decide) (by decide) ?_
            refine lv_iload hx hb dX10_compares_154 (lv_at hl 0 rfl) ?_
            refine lv_if_eq (tgt := 163) hx hb dX10_compares_156 (by decide) (fun c_156 => ?_) (fun c_156 => ?_)
            · have t_156 : r17.toInt = 0 := toI_eq c_156 rfl (by decide : (0 : Int32).toInt = 0)
              refine lv_iconst (v := 0) hx hb dX10_compares_163 (by decide) ?_
              refine vx_ret ?_
              refine W.known (fun hz9 _ => ?_)
              refine W.widen (k := 1) (n := 6) (by decide +kernel) (by decide +kernel) ?_
              exact W.zret (v := 0) hx hb hr rfl (fun t9_ ht hW => ⟨⟨(0 : Int32), (gL_over_10, gL_under_10, fL_bound_10, iL_steps_10, iT_fault_10, iT_place_10), rfl, (show 0 ≤ (0 : Int32).toInt ∧ (0 : Int32).toInt ≤ 1 from by decide), by rw [ht]; exact hP, hD, by rw [ht]; first | done | exact Nat.le_antisymm hz9 hS.1⟩, hS.F ht⟩) hS.2.2 dX10_compares_164
            · have t_156 : ¬ r17.toInt = 0 := toI_neq c_156 rfl (by decide : (0 : Int32).toInt = 0)
              refine lv_iconst (v := 1) hx hb dX10_compares_159 (by decide) ?_
              refine lv_goto (tgt := 164) hx hb dX10_compares_160 (by decide) ?_
              refine vx_ret ?_
              refine W.known (fun hz9 _ => ?_)
              refine W.widen (k := 1) (n := 6) (by decide +kernel) (by decide +kernel) ?_
              exact W.zret (v := 1) hx hb hr rfl (fun t9_ ht hW => ⟨⟨(1 : Int32), (gL_over_10, gL_under_10, fL_bound_10, iL_steps_10, iT_fault_10, iT_place_10), rfl, (show 0 ≤ (1 : Int32).toInt ∧ (1 : Int32).toInt ≤ 1 from by decide), by rw [ht]; exact hP, hD, by rw [ht]; first | done | exact Nat.le_antisymm hz9 hS.1⟩, hS.F ht⟩) hS.2.2 dX10_compares_164
          · have ts_83_303 : ¬ v19.toInt = 303 := toI_neq s_83_303 rfl (by decide)
            refine lv_lookup (off := 104) (tgt := 187) hx hb dX10_compares_83 (by decide) (by show Op.lookupswitch.offset [(60, 82), (62, 93), (301, 49), (302, 60), (303, 71)] 104 _ = 104; rw [Op.lookupswitch.offset_cons, if_neg (lk_ne s_83_60 (show Int32.toInt 60 = 60 by decide)), Op.lookupswitch.offset_cons, if_neg (lk_ne s_83_62 (show Int32.toInt 62 = 62 by decide)), Op.lookupswitch.offset_cons, if_neg (lk_ne s_83_301 (show Int32.toInt 301 = 301 by decide)), Op.lookupswitch.offset_cons, if_neg (lk_ne s_83_302 (show Int32.toInt 302 = 302 by decide)), Op.lookupswitch.offset_cons, if_neg (lk_ne s_83_303 (show Int32.toInt 303 = 303 by decide))]; rfl) (by decide) ?_
            refine lv_iload hx hb dX10_compares_187 (lv_at hl 0 rfl) ?_
            refine lv_if_ne (tgt := 196) hx hb dX10_compares_189 (by decide) (fun c_189 => ?_) (fun c_189 => ?_)
            · have t_189 : r17.toInt ≠ 0 := toI_ne c_189 rfl (by decide : (0 : Int32).toInt = 0)
              refine lv_iconst (v := 0) hx hb dX10_compares_196 (by decide) ?_
              refine vx_ret ?_
              refine W.known (fun hz9 _ => ?_)
              refine W.widen (k := 1) (n := 6) (by decide +kernel) (by decide +kernel) ?_
              exact W.zret (v := 0) hx hb hr rfl (fun t9_ ht hW => ⟨⟨(0 : Int32), (gL_over_10, gL_under_10, fL_bound_10, iL_steps_10, iT_fault_10, iT_place_10), rfl, (show 0 ≤ (0 : Int32).toInt ∧ (0 : Int32).toInt ≤ 1 from by decide), by rw [ht]; exact hP, hD, by rw [ht]; first | done | exact Nat.le_antisymm hz9 hS.1⟩, hS.F ht⟩) hS.2.2 dX10_compares_197
            · have t_189 : r17.toInt = 0 := toI_nne c_189 rfl (by decide : (0 : Int32).toInt = 0)
              refine lv_iconst (v := 1) hx hb dX10_compares_192 (by decide) ?_
              refine lv_goto (tgt := 197) hx hb dX10_compares_193 (by decide) ?_
              refine vx_ret ?_
              refine W.known (fun hz9 _ => ?_)
              refine W.widen (k := 1) (n := 6) (by decide +kernel) (by decide +kernel) ?_
              exact W.zret (v := 1) hx hb hr rfl (fun t9_ ht hW => ⟨⟨(1 : Int32), (gL_over_10, gL_under_10, fL_bound_10, iL_steps_10, iT_fault_10, iT_place_10), rfl, (show 0 ≤ (1 : Int32).toInt ∧ (1 : Int32).toInt ≤ 1 from by decide), by rw [ht]; exact hP, hD, by rw [ht]; first | done | exact Nat.le_antisymm hz9 hS.1⟩, hS.F ht⟩) hS.2.2 dX10_compares_197
end
section
/-- the nodes behind a node -/
def NxL (T : Nat → Int32) (n : Int) : Nat → Int
  | 0 => n
  | k + 1 => twL T (NxL T n k + 6)
/-- a run of just m nodes -/
def ChL (V : Int → Nat → Nat → Prop) (T : Nat → Int32) (n : Int) (m : Nat) : Prop := (∀ j : Nat, j < m → V (NxL T n j) 1 1) ∧ NxL T n m = 0
theorem ChL.lt {V : Int → Nat → Nat → Prop} {T : Nat → Int32} {n x i : Int} {m : Nat} (h : ChL V T n m) (hx : x = NxL T n i.toNat) (h0 : 0 ≤ i) (hi : i ≤ (m : Int)) (hz : ¬ x = 0) : i < (m : Int) := by
  by_cases h9 : i = (m : Int)
  · exfalso
    apply hz
    rw [hx, show i.toNat = m by omega]
    exact h.2
  · omega
theorem ChL.v {V : Int → Nat → Nat → Prop} {T : Nat → Int32} {n x i : Int} {m : Nat} (h : ChL V T n m) (hx : x = NxL T n i.toNat) (h0 : 0 ≤ i) (hi : i < (m : Int)) : V x 1 1 := by
  rw [hx]; exact h.1 _ (by omega)
theorem ChL.end {V : Int → Nat → Nat → Prop} {T : Nat → Int32} {n x i lo u : Int} {m : Nat} {fk fo fw : Nat → Int32} {nm : Int} (hV : TrL V T fk fo fw nm lo u) (h : ChL V T n m) (hx : x = NxL T n i.toNat) (h0 : 0 ≤ i) (hi : i ≤ (m : Int)) (hz : x = 0) : i = (m : Int) := by
  by_cases h9 : i < (m : Int)
  · have := (hV.rng (h.v hx h0 h9)).2.1
    omega
  · omega
theorem NxL.s {T : Nat → Int32} {n x i v : Int} (hx : x = NxL T n i.toNat) (h0 : 0 ≤ i) (hv : v = twL T (x + 6)) : v = NxL T n (i + 1).toNat := by
  rw [show (i + 1).toNat = i.toNat + 1 by omega, hv, hx]; rfl
end
section
theorem wk_all (l : Launch) (hst : l.stackTraces = false) : ∀ ev : Nat, Cm_X10_linear l ev ∧ Cm_X10_factor l ev ∧ Cm_X10_anyHolds l ev ∧ Cm_X10_oneHolds l ev := by
  intro ev
  induction ev with
  | zero =>
    refine ⟨?_, ?_, ?_, ?_⟩
    · unfold Cm_X10_linear; intros; exfalso; have h9 := TrL.rng (by assumption) (by assumption); omega
    · unfold Cm_X10_factor; intros; exfalso; have h9 := TrL.rng (by assumption) (by assumption); omega
    · unfold Cm_X10_anyHolds; intros; exfalso; have h9 := TrL.rng (by assumption) (by assumption); omega
    · unfold Cm_X10_oneHolds; intros; exfalso; have h9 := TrL.rng (by assumption) (by assumption); omega
  | succ n ih =>
    obtain ⟨i1, i2, i3, i4⟩ := ih
    have t1 := m_X10_term l hst n (ih_X10_factor := i2)
    have t2 := m_X10_linear l hst n (ih_X10_term := t1)
    have t3 := m_X10_number l hst n (ih_X10_linear := i1)
    have t4 := m_X10_place l hst n (ih_X10_number := t3)
    have t5 := m_X10_lookUp l hst n (ih_X10_place := t4)
    have t6 := m_X10_sum l hst n (ih_X10_anyHolds := i3) (ih_X10_factor := i2)
    have t7 := m_X10_factor l hst n (ih_X10_lookUp := t5) (ih_X10_sum := t6) (ih_X10_factor := i2) (ih_X10_linear := i1)
    have t8 := m_X10_compares l hst n (ih_X10_number := t3)
    have t9 := m_X10_oneHolds l hst n (ih_X10_oneHolds := i4) (ih_X10_anyHolds := i3) (ih_X10_compares := t8)
    have ta := m_X10_allHold l hst n (ih_X10_oneHolds := t9)
    exact ⟨t2, t7, m_X10_anyHolds l hst n (ih_X10_allHold := ta), t9⟩
theorem wk_linear (l : Launch) (hst : l.stackTraces = false) : Cm_X10_linear l 25 := (wk_all l hst 25).1
theorem wk_any (l : Launch) (hst : l.stackTraces = false) : Cm_X10_anyHolds l 25 := (wk_all l hst 25).2.2.1
theorem wk_number (l : Launch) (hst : l.stackTraces = false) : Cm_X10_number l 25 := m_X10_number l hst 25 (ih_X10_linear := wk_linear l hst)
theorem mt_X10_linear (l : Launch) (hst : l.stackTraces = false) (dC : Nat → ClassId) (dI : Nat → Nat → Nat) (hL : Nat → Nat) (aL : Nat → Nat) (kL : Nat → ClassId) (hT : Nat → Nat) (hM : Nat → Nat) (iL_names : Int32) (gL_key : Nat → Int64) (fL_kind : Nat → Int32) (fL_one : Nat → Int32) (fL_two : Nat → Int32) (fL_base : Nat → Int32) (iL_params : Int32) (fL_paramOver : Nat → Int32) (dL_paramOver : Nat) (nL_params : Nat) (fL_paramUnder : Nat → Int32) (dL_paramUnder : Nat) (nL_pu : Nat) (gL_over : Nat → Int64) (gL_under : Nat → Int64) (fL_bound : Nat → Int32) (iL_nameAt : Int32) (iL_startAt : Int32) (iL_steps : Int32) (jL_scaleOver : Int64) (jL_scaleUnder : Int64) (hF : Nat → Nat) (aF : Nat → Nat) (kF : Nat → ClassId) (dF_tree : Nat) (nF_tree : Nat) (fF_tree : Nat → Int32) (aT : Nat → Nat) (kT : Nat → ClassId) (fT_tape : Nat → Int32) (dT_tape : Nat) (nT_tape : Nat) (iT_length : Int32) (iT_fault : Int32) (iT_place : Int32) (iT_kind : Int32) (iT_at : Int32) (iT_number : Int32) (jT_name : Int64) (iT_next : Int32) (aM : Nat → Nat) (kM : Nat → ClassId) (iM_stands : Int32) (iM_variables : Int32) (iM_rows : Int32) (iM_goals : Int32) (iM_differents : Int32) (iM_cases : Int32) (fM_from : Nat → Int32) (fM_to : Nat → Int32) (fM_whole : Nat → Int32) (fM_ways : Nat → Int32) (iM_plainRows : Int32) (fM_plainRow : Nat → Int32) (fM_kept : Nat → Int32) (fM_goalOver : Nat → Int32) (fM_goalUnder : Nat → Int32) (fM_goalMax : Nat → Int32) (fM_different : Nat → Int32) (V : Int → Nat → Nat → Prop) (lo : Int) (lv : Nat) (p1 : Int32) (p2 : Int32) (b_iL_names : 0 ≤ iL_names.toInt ∧ iL_names.toInt ≤ 40) (b_fL_kind : ∀ q : Nat, 0 ≤ (fL_kind q).toInt ∧ (fL_kind q).toInt ≤ 5) (b_fL_two : ∀ q : Nat, (-1) ≤ (fL_two q).toInt ∧ (fL_two q).toInt ≤ 39) (b_fL_base : ∀ q : Nat, 0 ≤ (fL_base q).toInt ∧ (fL_base q).toInt ≤ 2560) (b_iL_params : 0 ≤ iL_params.toInt ∧ iL_params.toInt ≤ 2560) (b_nL_params : 0 ≤ nL_params ∧ nL_params ≤ 2560) (b_nm : NmL iL_names fL_kind fL_one fL_two fL_base nL_params) (b_pm : iL_params.toInt ≤ ((nL_params : Nat) : Int)) (b_pu : nL_pu = nL_params) (b_nF_tree : 7 ≤ nF_tree ∧ nF_tree ≤ 72200) (b_fT_tape : ∀ q : Nat, (-128) ≤ (fT_tape q).toInt ∧ (fT_tape q).toInt ≤ 127) (b_nT_tape : 64 ≤ nT_tape ∧ nT_tape ≤ 2560) (b_iT_length : 0 ≤ iT_length.toInt ∧ iT_length.toInt ≤ 1280) (b_iT_at : 0 ≤ iT_at.toInt ∧ iT_at.toInt ≤ 1282) (b_iT_number : 0 ≤ iT_number.toInt ∧ iT_number.toInt ≤ 999999) (b_iT_next : 0 ≤ iT_next.toInt ∧ iT_next.toInt ≤ 1282) (b_len : iT_length.toInt ≤ ((nT_tape : Nat) : Int)) (b_iM_stands : 0 ≤ iM_stands.toInt ∧ iM_stands.toInt ≤ 1) (b_iM_variables : 0 ≤ iM_variables.toInt ∧ iM_variables.toInt ≤ 8) (b_iM_rows : 0 ≤ iM_rows.toInt ∧ iM_rows.toInt ≤ 12) (b_iM_goals : 0 ≤ iM_goals.toInt ∧ iM_goals.toInt ≤ 3) (b_iM_differents : 0 ≤ iM_differents.toInt ∧ iM_differents.toInt ≤ 8) (b_iM_cases : 0 ≤ iM_cases.toInt ∧ iM_cases.toInt ≤ 200000) (b_fM_ways : ∀ q : Nat, 0 ≤ (fM_ways q).toInt ∧ (fM_ways q).toInt ≤ 3) (b_iM_plainRows : 0 ≤ iM_plainRows.toInt ∧ iM_plainRows.toInt ≤ 12) (b_fM_plainRow : ∀ q : Nat, 0 ≤ (fM_plainRow q).toInt ∧ (fM_plainRow q).toInt ≤ 11) (b_pr : iM_plainRows.toInt ≤ iM_rows.toInt) (b_p2 : 0 ≤ p2.toInt ∧ p2.toInt ≤ 38) (hV : TrL V fF_tree fL_kind fL_one fL_two iL_names.toInt lo ((nF_tree : Nat) : Int)) (hn : V p1.toInt 1 lv) (hlv : lv + 25 = 26) (hsl : p2.toInt ≤ (lv : Int)) (sz : Nat) : vx_Met l yX10_linear wsMX10_linear ({ frames := 312, cells := 1, slots := 6, locals := 18287 }) (va_Pc [.ref (hL 0), .int p1, .int p2] (fun U => U.heap.size = sz ∧ va_P (dC, dI) vwCl (WL hL aL kL hT hM (.ref dF_tree) iL_names gL_key fL_kind fL_one fL_two fL_base iL_params fL_paramOver dL_paramOver nL_params fL_paramUnder dL_paramUnder nL_pu gL_over gL_under fL_bound iL_nameAt iL_startAt iL_steps jL_scaleOver jL_scaleUnder ++ (WF hF aF kF dF_tree nF_tree fF_tree ++ (WT hT aT kT fT_tape dT_tape nT_tape iT_length iT_fault iT_place iT_kind iT_at iT_number jT_name iT_next ++ (WM hM aM kM iM_stands iM_variables iM_rows iM_goals iM_differents iM_cases fM_from fM_to fM_whole fM_ways iM_plainRows fM_plainRow fM_kept fM_goalOver fM_goalUnder fM_goalMax fM_different)))) U.heap ∧ va_K (dC, dI) vwCl (tL kL ++ (tF kF ++ (tT kT ++ (tM kM)))) U ∧ va_D (fun _ => True) (WL hL aL kL hT hM (.ref dF_tree) iL_names gL_key fL_kind fL_one fL_two fL_base iL_params fL_paramOver dL_paramOver nL_params fL_paramUnder dL_paramUnder nL_pu gL_over gL_under fL_bound iL_nameAt iL_startAt iL_steps jL_scaleOver jL_scaleUnder ++ (WF hF aF kF dF_tree nF_tree fF_tree ++ (WT hT aT kT fT_tape dT_tape nT_tape iT_length iT_fault iT_place iT_kind iT_at iT_number jT_name iT_next ++ (WM hM aM kM iM_stands iM_variables iM_rows iM_goals iM_differents iM_cases fM_from fM_to fM_whole fM_ways iM_plainRows fM_plainRow fM_kept fM_goalOver fM_goalUnder fM_goalMax fM_different)))) ∧ CE (va_A (WL hL aL kL hT hM (.ref dF_tree) iL_names gL_key fL_kind fL_one fL_two fL_base iL_params fL_paramOver dL_paramOver nL_params fL_paramUnder dL_paramUnder nL_pu gL_over gL_under fL_bound iL_nameAt iL_startAt iL_steps jL_scaleOver jL_scaleUnder ++ (WF hF aF kF dF_tree nF_tree fF_tree ++ (WT hT aT kT fT_tape dT_tape nT_tape iT_length iT_fault iT_place iT_kind iT_at iT_number jT_name iT_next ++ (WM hM aM kM iM_stands iM_variables iM_rows iM_goals iM_differents iM_cases fM_from fM_to fM_whole fM_ways iM_plainRows fM_plainRow fM_kept fM_goalOver fM_goalUnder fM_goalMax fM_different)))) sz) U U.heap)) (va_Qv (fun (u : (Nat → Int64) × (Nat → Int64) × (Nat → Int32) × (Int32) × (Int32) × (Int32)) => True) (fun (u : (Nat → Int64) × (Nat → Int64) × (Nat → Int32) × (Int32) × (Int32) × (Int32)) t => va_P (dC, dI) vwCl (WL hL aL kL hT hM (.ref dF_tree) iL_names gL_key fL_kind fL_one fL_two fL_base iL_params fL_paramOver dL_paramOver nL_params fL_paramUnder dL_paramUnder nL_pu (u.1) (u.2.1) (u.2.2.1) iL_nameAt iL_startAt (u.2.2.2.1) jL_scaleOver jL_scaleUnder ++ (WF hF aF kF dF_tree nF_tree fF_tree ++ (WT hT aT kT fT_tape dT_tape nT_tape iT_length (u.2.2.2.2.1) (u.2.2.2.2.2) iT_kind iT_at iT_number jT_name iT_next ++ (WM hM aM kM iM_stands iM_variables iM_rows iM_goals iM_differents iM_cases fM_from fM_to fM_whole fM_ways iM_plainRows fM_plainRow fM_kept fM_goalOver fM_goalUnder fM_goalMax fM_different)))) t.heap ∧ va_D (va_A (WL hL aL kL hT hM (.ref dF_tree) iL_names gL_key fL_kind fL_one fL_two fL_base iL_params fL_paramOver dL_paramOver nL_params fL_paramUnder dL_paramUnder nL_pu gL_over gL_under fL_bound iL_nameAt iL_startAt iL_steps jL_scaleOver jL_scaleUnder ++ (WF hF aF kF dF_tree nF_tree fF_tree ++ (WT hT aT kT fT_tape dT_tape nT_tape iT_length iT_fault iT_place iT_kind iT_at iT_number jT_name iT_next ++ (WM hM aM kM iM_stands iM_variables iM_rows iM_goals iM_differents iM_cases fM_from fM_to fM_whole fM_ways iM_plainRows fM_plainRow fM_kept fM_goalOver fM_goalUnder fM_goalMax fM_different)))) sz) (WL hL aL kL hT hM (.ref dF_tree) iL_names gL_key fL_kind fL_one fL_two fL_base iL_params fL_paramOver dL_paramOver nL_params fL_paramUnder dL_paramUnder nL_pu (u.1) (u.2.1) (u.2.2.1) iL_nameAt iL_startAt (u.2.2.2.1) jL_scaleOver jL_scaleUnder ++ (WF hF aF kF dF_tree nF_tree fF_tree ++ (WT hT aT kT fT_tape dT_tape nT_tape iT_length (u.2.2.2.2.1) (u.2.2.2.2.2) iT_kind iT_at iT_number jT_name iT_next ++ (WM hM aM kM iM_stands iM_variables iM_rows iM_goals iM_differents iM_cases fM_from fM_to fM_whole fM_ways iM_plainRows fM_plainRow fM_kept fM_goalOver fM_goalUnder fM_goalMax fM_different)))) ∧ t.heap.size = sz) (va_A (WL hL aL kL hT hM (.ref dF_tree) iL_names gL_key fL_kind fL_one fL_two fL_base iL_params fL_paramOver dL_paramOver nL_params fL_paramUnder dL_paramUnder nL_pu gL_over gL_under fL_bound iL_nameAt iL_startAt iL_steps jL_scaleOver jL_scaleUnder ++ (WF hF aF kF dF_tree nF_tree fF_tree ++ (WT hT aT kT fT_tape dT_tape nT_tape iT_length iT_fault iT_place iT_kind iT_at iT_number jT_name iT_next ++ (WM hM aM kM iM_stands iM_variables iM_rows iM_goals iM_differents iM_cases fM_from fM_to fM_whole fM_ways iM_plainRows fM_plainRow fM_kept fM_goalOver fM_goalUnder fM_goalMax fM_different)))) sz)) (vx_X (fun (u : (Nat → Int64) × (Nat → Int64) × (Nat → Int32) × (Int32) × (Int32) × (Int32)) => True) (fun E (u : (Nat → Int64) × (Nat → Int64) × (Nat → Int32) × (Int32) × (Int32) × (Int32)) t => (E = "java/lang/IllegalArgumentException") ∧ va_P (dC, dI) vwCl (WL hL aL kL hT hM (.ref dF_tree) iL_names gL_key fL_kind fL_one fL_two fL_base iL_params fL_paramOver dL_paramOver nL_params fL_paramUnder dL_paramUnder nL_pu (u.1) (u.2.1) (u.2.2.1) iL_nameAt iL_startAt (u.2.2.2.1) jL_scaleOver jL_scaleUnder ++ (WF hF aF kF dF_tree nF_tree fF_tree ++ (WT hT aT kT fT_tape dT_tape nT_tape iT_length (u.2.2.2.2.1) (u.2.2.2.2.2) iT_kind iT_at iT_number jT_name iT_next ++ (WM hM aM kM iM_stands iM_variables iM_rows iM_goals iM_differents iM_cases fM_from fM_to fM_whole fM_ways iM_plainRows fM_plainRow fM_kept fM_goalOver fM_goalUnder fM_goalMax fM_different)))) t.heap ∧ va_D (va_A (WL hL aL kL hT hM (.ref dF_tree) iL_names gL_key fL_kind fL_one fL_two fL_base iL_params fL_paramOver dL_paramOver nL_params fL_paramUnder dL_paramUnder nL_pu gL_over gL_under fL_bound iL_nameAt iL_startAt iL_steps jL_scaleOver jL_scaleUnder ++ (WF hF aF kF dF_tree nF_tree fF_tree ++ (WT hT aT kT fT_tape dT_tape nT_tape iT_length iT_fault iT_place iT_kind iT_at iT_number jT_name iT_next ++ (WM hM aM kM iM_stands iM_variables iM_rows iM_goals iM_differents iM_cases fM_from fM_to fM_whole fM_ways iM_plainRows fM_plainRow fM_kept fM_goalOver fM_goalUnder fM_goalMax fM_different)))) sz) (WL hL aL kL hT hM (.ref dF_tree) iL_names gL_key fL_kind fL_one fL_two fL_base iL_params fL_paramOver dL_paramOver nL_params fL_paramUnder dL_paramUnder nL_pu (u.1) (u.2.1) (u.2.2.1) iL_nameAt iL_startAt (u.2.2.2.1) jL_scaleOver jL_scaleUnder ++ (WF hF aF kF dF_tree nF_tree fF_tree ++ (WT hT aT kT fT_tape dT_tape nT_tape iT_length (u.2.2.2.2.1) (u.2.2.2.2.2) iT_kind iT_at iT_number jT_name iT_next ++ (WM hM aM kM iM_stands iM_variables iM_rows iM_goals iM_differents iM_cases fM_from fM_to fM_whole fM_ways iM_plainRows fM_plainRow fM_kept fM_goalOver fM_goalUnder fM_goalMax fM_different))))) (va_A (WL hL aL kL hT hM (.ref dF_tree) iL_names gL_key fL_kind fL_one fL_two fL_base iL_params fL_paramOver dL_paramOver nL_params fL_paramUnder dL_paramUnder nL_pu gL_over gL_under fL_bound iL_nameAt iL_startAt iL_steps jL_scaleOver jL_scaleUnder ++ (WF hF aF kF dF_tree nF_tree fF_tree ++ (WT hT aT kT fT_tape dT_tape nT_tape iT_length iT_fault iT_place iT_kind iT_at iT_number jT_name iT_next ++ (WM hM aM kM iM_stands iM_variables iM_rows iM_goals iM_differents iM_cases fM_from fM_to fM_whole fM_ways iM_plainRows fM_plainRow fM_kept fM_goalOver fM_goalUnder fM_goalMax fM_different)))) sz)) 1 6 (va_A (WL hL aL kL hT hM (.ref dF_tree) iL_names gL_key fL_kind fL_one fL_two fL_base iL_params fL_paramOver dL_paramOver nL_params fL_paramUnder dL_paramUnder nL_pu gL_over gL_under fL_bound iL_nameAt iL_startAt iL_steps jL_scaleOver jL_scaleUnder ++ (WF hF aF kF dF_tree nF_tree fF_tree ++ (WT hT aT kT fT_tape dT_tape nT_tape iT_length iT_fault iT_place iT_kind iT_at iT_number jT_name iT_next ++ (WM hM aM kM iM_stands iM_variables iM_rows iM_goals iM_differents iM_cases fM_from fM_to fM_whole fM_ways iM_plainRows fM_plainRow fM_kept fM_goalOver fM_goalUnder fM_goalMax fM_different)))) sz) :=
  wk_linear l hst dC dI hL aL kL hT hM iL_names gL_key fL_kind fL_one fL_two fL_base iL_params fL_paramOver dL_paramOver nL_params fL_paramUnder dL_paramUnder nL_pu gL_over gL_under fL_bound iL_nameAt iL_startAt iL_steps jL_scaleOver jL_scaleUnder hF aF kF dF_tree nF_tree fF_tree aT kT fT_tape dT_tape nT_tape iT_length iT_fault iT_place iT_kind iT_at iT_number jT_name iT_next aM kM iM_stands iM_variables iM_rows iM_goals iM_differents iM_cases fM_from fM_to fM_whole fM_ways iM_plainRows fM_plainRow fM_kept fM_goalOver fM_goalUnder fM_goalMax fM_different V lo lv p1 p2 b_iL_names b_fL_kind b_fL_two b_fL_base b_iL_params b_nL_params b_nm b_pm b_pu b_nF_tree b_fT_tape b_nT_tape b_iT_length b_iT_at b_iT_number b_iT_next b_len b_iM_stands b_iM_variables b_iM_rows b_iM_goals b_iM_differents b_iM_cases b_fM_ways b_iM_plainRows b_fM_plainRow b_pr b_p2 hV hn hlv hsl sz
theorem mt_X10_anyHolds (l : Launch) (hst : l.stackTraces = false) (dC : Nat → ClassId) (dI : Nat → Nat → Nat) (hL : Nat → Nat) (aL : Nat → Nat) (kL : Nat → ClassId) (hT : Nat → Nat) (hM : Nat → Nat) (iL_names : Int32) (gL_key : Nat → Int64) (fL_kind : Nat → Int32) (fL_one : Nat → Int32) (fL_two : Nat → Int32) (fL_base : Nat → Int32) (iL_params : Int32) (fL_paramOver : Nat → Int32) (dL_paramOver : Nat) (nL_params : Nat) (fL_paramUnder : Nat → Int32) (dL_paramUnder : Nat) (nL_pu : Nat) (gL_over : Nat → Int64) (gL_under : Nat → Int64) (fL_bound : Nat → Int32) (iL_nameAt : Int32) (iL_startAt : Int32) (iL_steps : Int32) (jL_scaleOver : Int64) (jL_scaleUnder : Int64) (hF : Nat → Nat) (aF : Nat → Nat) (kF : Nat → ClassId) (dF_tree : Nat) (nF_tree : Nat) (fF_tree : Nat → Int32) (aT : Nat → Nat) (kT : Nat → ClassId) (fT_tape : Nat → Int32) (dT_tape : Nat) (nT_tape : Nat) (iT_length : Int32) (iT_fault : Int32) (iT_place : Int32) (iT_kind : Int32) (iT_at : Int32) (iT_number : Int32) (jT_name : Int64) (iT_next : Int32) (aM : Nat → Nat) (kM : Nat → ClassId) (iM_stands : Int32) (iM_variables : Int32) (iM_rows : Int32) (iM_goals : Int32) (iM_differents : Int32) (iM_cases : Int32) (fM_from : Nat → Int32) (fM_to : Nat → Int32) (fM_whole : Nat → Int32) (fM_ways : Nat → Int32) (iM_plainRows : Int32) (fM_plainRow : Nat → Int32) (fM_kept : Nat → Int32) (fM_goalOver : Nat → Int32) (fM_goalUnder : Nat → Int32) (fM_goalMax : Nat → Int32) (fM_different : Nat → Int32) (V : Int → Nat → Nat → Prop) (lo : Int) (lv : Nat) (p1 : Int32) (p2 : Int32) (b_iL_names : 0 ≤ iL_names.toInt ∧ iL_names.toInt ≤ 40) (b_fL_kind : ∀ q : Nat, 0 ≤ (fL_kind q).toInt ∧ (fL_kind q).toInt ≤ 5) (b_fL_two : ∀ q : Nat, (-1) ≤ (fL_two q).toInt ∧ (fL_two q).toInt ≤ 39) (b_fL_base : ∀ q : Nat, 0 ≤ (fL_base q).toInt ∧ (fL_base q).toInt ≤ 2560) (b_iL_params : 0 ≤ iL_params.toInt ∧ iL_params.toInt ≤ 2560) (b_nL_params : 0 ≤ nL_params ∧ nL_params ≤ 2560) (b_nm : NmL iL_names fL_kind fL_one fL_two fL_base nL_params) (b_pm : iL_params.toInt ≤ ((nL_params : Nat) : Int)) (b_pu : nL_pu = nL_params) (b_nF_tree : 7 ≤ nF_tree ∧ nF_tree ≤ 72200) (b_fT_tape : ∀ q : Nat, (-128) ≤ (fT_tape q).toInt ∧ (fT_tape q).toInt ≤ 127) (b_nT_tape : 64 ≤ nT_tape ∧ nT_tape ≤ 2560) (b_iT_length : 0 ≤ iT_length.toInt ∧ iT_length.toInt ≤ 1280) (b_iT_at : 0 ≤ iT_at.toInt ∧ iT_at.toInt ≤ 1282) (b_iT_number : 0 ≤ iT_number.toInt ∧ iT_number.toInt ≤ 999999) (b_iT_next : 0 ≤ iT_next.toInt ∧ iT_next.toInt ≤ 1282) (b_len : iT_length.toInt ≤ ((nT_tape : Nat) : Int)) (b_iM_stands : 0 ≤ iM_stands.toInt ∧ iM_stands.toInt ≤ 1) (b_iM_variables : 0 ≤ iM_variables.toInt ∧ iM_variables.toInt ≤ 8) (b_iM_rows : 0 ≤ iM_rows.toInt ∧ iM_rows.toInt ≤ 12) (b_iM_goals : 0 ≤ iM_goals.toInt ∧ iM_goals.toInt ≤ 3) (b_iM_differents : 0 ≤ iM_differents.toInt ∧ iM_differents.toInt ≤ 8) (b_iM_cases : 0 ≤ iM_cases.toInt ∧ iM_cases.toInt ≤ 200000) (b_fM_ways : ∀ q : Nat, 0 ≤ (fM_ways q).toInt ∧ (fM_ways q).toInt ≤ 3) (b_iM_plainRows : 0 ≤ iM_plainRows.toInt ∧ iM_plainRows.toInt ≤ 12) (b_fM_plainRow : ∀ q : Nat, 0 ≤ (fM_plainRow q).toInt ∧ (fM_plainRow q).toInt ≤ 11) (b_pr : iM_plainRows.toInt ≤ iM_rows.toInt) (b_p2 : 0 ≤ p2.toInt ∧ p2.toInt ≤ 38) (hV : TrL V fF_tree fL_kind fL_one fL_two iL_names.toInt lo ((nF_tree : Nat) : Int)) (hn : V p1.toInt 10 lv) (hlv : lv + 25 = 26) (hsl : p2.toInt ≤ (lv : Int) + 1) (sz : Nat) : vx_Met l yX10_anyHolds wsMX10_anyHolds ({ frames := 314, cells := 1, slots := 6, locals := 18407 }) (va_Pc [.ref (hL 0), .int p1, .int p2] (fun U => U.heap.size = sz ∧ va_P (dC, dI) vwCl (WL hL aL kL hT hM (.ref dF_tree) iL_names gL_key fL_kind fL_one fL_two fL_base iL_params fL_paramOver dL_paramOver nL_params fL_paramUnder dL_paramUnder nL_pu gL_over gL_under fL_bound iL_nameAt iL_startAt iL_steps jL_scaleOver jL_scaleUnder ++ (WF hF aF kF dF_tree nF_tree fF_tree ++ (WT hT aT kT fT_tape dT_tape nT_tape iT_length iT_fault iT_place iT_kind iT_at iT_number jT_name iT_next ++ (WM hM aM kM iM_stands iM_variables iM_rows iM_goals iM_differents iM_cases fM_from fM_to fM_whole fM_ways iM_plainRows fM_plainRow fM_kept fM_goalOver fM_goalUnder fM_goalMax fM_different)))) U.heap ∧ va_K (dC, dI) vwCl (tL kL ++ (tF kF ++ (tT kT ++ (tM kM)))) U ∧ va_D (fun _ => True) (WL hL aL kL hT hM (.ref dF_tree) iL_names gL_key fL_kind fL_one fL_two fL_base iL_params fL_paramOver dL_paramOver nL_params fL_paramUnder dL_paramUnder nL_pu gL_over gL_under fL_bound iL_nameAt iL_startAt iL_steps jL_scaleOver jL_scaleUnder ++ (WF hF aF kF dF_tree nF_tree fF_tree ++ (WT hT aT kT fT_tape dT_tape nT_tape iT_length iT_fault iT_place iT_kind iT_at iT_number jT_name iT_next ++ (WM hM aM kM iM_stands iM_variables iM_rows iM_goals iM_differents iM_cases fM_from fM_to fM_whole fM_ways iM_plainRows fM_plainRow fM_kept fM_goalOver fM_goalUnder fM_goalMax fM_different)))) ∧ CE (va_A (WL hL aL kL hT hM (.ref dF_tree) iL_names gL_key fL_kind fL_one fL_two fL_base iL_params fL_paramOver dL_paramOver nL_params fL_paramUnder dL_paramUnder nL_pu gL_over gL_under fL_bound iL_nameAt iL_startAt iL_steps jL_scaleOver jL_scaleUnder ++ (WF hF aF kF dF_tree nF_tree fF_tree ++ (WT hT aT kT fT_tape dT_tape nT_tape iT_length iT_fault iT_place iT_kind iT_at iT_number jT_name iT_next ++ (WM hM aM kM iM_stands iM_variables iM_rows iM_goals iM_differents iM_cases fM_from fM_to fM_whole fM_ways iM_plainRows fM_plainRow fM_kept fM_goalOver fM_goalUnder fM_goalMax fM_different)))) sz) U U.heap)) (va_Qi (fun (r : Int32) (u : (Nat → Int64) × (Nat → Int64) × (Nat → Int32) × (Int32) × (Int32) × (Int32)) => (0 ≤ r.toInt ∧ r.toInt ≤ 1)) (fun (u : (Nat → Int64) × (Nat → Int64) × (Nat → Int32) × (Int32) × (Int32) × (Int32)) t => va_P (dC, dI) vwCl (WL hL aL kL hT hM (.ref dF_tree) iL_names gL_key fL_kind fL_one fL_two fL_base iL_params fL_paramOver dL_paramOver nL_params fL_paramUnder dL_paramUnder nL_pu (u.1) (u.2.1) (u.2.2.1) iL_nameAt iL_startAt (u.2.2.2.1) jL_scaleOver jL_scaleUnder ++ (WF hF aF kF dF_tree nF_tree fF_tree ++ (WT hT aT kT fT_tape dT_tape nT_tape iT_length (u.2.2.2.2.1) (u.2.2.2.2.2) iT_kind iT_at iT_number jT_name iT_next ++ (WM hM aM kM iM_stands iM_variables iM_rows iM_goals iM_differents iM_cases fM_from fM_to fM_whole fM_ways iM_plainRows fM_plainRow fM_kept fM_goalOver fM_goalUnder fM_goalMax fM_different)))) t.heap ∧ va_D (va_A (WL hL aL kL hT hM (.ref dF_tree) iL_names gL_key fL_kind fL_one fL_two fL_base iL_params fL_paramOver dL_paramOver nL_params fL_paramUnder dL_paramUnder nL_pu gL_over gL_under fL_bound iL_nameAt iL_startAt iL_steps jL_scaleOver jL_scaleUnder ++ (WF hF aF kF dF_tree nF_tree fF_tree ++ (WT hT aT kT fT_tape dT_tape nT_tape iT_length iT_fault iT_place iT_kind iT_at iT_number jT_name iT_next ++ (WM hM aM kM iM_stands iM_variables iM_rows iM_goals iM_differents iM_cases fM_from fM_to fM_whole fM_ways iM_plainRows fM_plainRow fM_kept fM_goalOver fM_goalUnder fM_goalMax fM_different)))) sz) (WL hL aL kL hT hM (.ref dF_tree) iL_names gL_key fL_kind fL_one fL_two fL_base iL_params fL_paramOver dL_paramOver nL_params fL_paramUnder dL_paramUnder nL_pu (u.1) (u.2.1) (u.2.2.1) iL_nameAt iL_startAt (u.2.2.2.1) jL_scaleOver jL_scaleUnder ++ (WF hF aF kF dF_tree nF_tree fF_tree ++ (WT hT aT kT fT_tape dT_tape nT_tape iT_length (u.2.2.2.2.1) (u.2.2.2.2.2) iT_kind iT_at iT_number jT_name iT_next ++ (WM hM aM kM iM_stands iM_variables iM_rows iM_goals iM_differents iM_cases fM_from fM_to fM_whole fM_ways iM_plainRows fM_plainRow fM_kept fM_goalOver fM_goalUnder fM_goalMax fM_different)))) ∧ t.heap.size = sz) (va_A (WL hL aL kL hT hM (.ref dF_tree) iL_names gL_key fL_kind fL_one fL_two fL_base iL_params fL_paramOver dL_paramOver nL_params fL_paramUnder dL_paramUnder nL_pu gL_over gL_under fL_bound iL_nameAt iL_startAt iL_steps jL_scaleOver jL_scaleUnder ++ (WF hF aF kF dF_tree nF_tree fF_tree ++ (WT hT aT kT fT_tape dT_tape nT_tape iT_length iT_fault iT_place iT_kind iT_at iT_number jT_name iT_next ++ (WM hM aM kM iM_stands iM_variables iM_rows iM_goals iM_differents iM_cases fM_from fM_to fM_whole fM_ways iM_plainRows fM_plainRow fM_kept fM_goalOver fM_goalUnder fM_goalMax fM_different)))) sz)) (vx_X (fun (u : (Nat → Int64) × (Nat → Int64) × (Nat → Int32) × (Int32) × (Int32) × (Int32)) => True) (fun E (u : (Nat → Int64) × (Nat → Int64) × (Nat → Int32) × (Int32) × (Int32) × (Int32)) t => (E = "java/lang/IllegalArgumentException") ∧ va_P (dC, dI) vwCl (WL hL aL kL hT hM (.ref dF_tree) iL_names gL_key fL_kind fL_one fL_two fL_base iL_params fL_paramOver dL_paramOver nL_params fL_paramUnder dL_paramUnder nL_pu (u.1) (u.2.1) (u.2.2.1) iL_nameAt iL_startAt (u.2.2.2.1) jL_scaleOver jL_scaleUnder ++ (WF hF aF kF dF_tree nF_tree fF_tree ++ (WT hT aT kT fT_tape dT_tape nT_tape iT_length (u.2.2.2.2.1) (u.2.2.2.2.2) iT_kind iT_at iT_number jT_name iT_next ++ (WM hM aM kM iM_stands iM_variables iM_rows iM_goals iM_differents iM_cases fM_from fM_to fM_whole fM_ways iM_plainRows fM_plainRow fM_kept fM_goalOver fM_goalUnder fM_goalMax fM_different)))) t.heap ∧ va_D (va_A (WL hL aL kL hT hM (.ref dF_tree) iL_names gL_key fL_kind fL_one fL_two fL_base iL_params fL_paramOver dL_paramOver nL_params fL_paramUnder dL_paramUnder nL_pu gL_over gL_under fL_bound iL_nameAt iL_startAt iL_steps jL_scaleOver jL_scaleUnder ++ (WF hF aF kF dF_tree nF_tree fF_tree ++ (WT hT aT kT fT_tape dT_tape nT_tape iT_length iT_fault iT_place iT_kind iT_at iT_number jT_name iT_next ++ (WM hM aM kM iM_stands iM_variables iM_rows iM_goals iM_differents iM_cases fM_from fM_to fM_whole fM_ways iM_plainRows fM_plainRow fM_kept fM_goalOver fM_goalUnder fM_goalMax fM_different)))) sz) (WL hL aL kL hT hM (.ref dF_tree) iL_names gL_key fL_kind fL_one fL_two fL_base iL_params fL_paramOver dL_paramOver nL_params fL_paramUnder dL_paramUnder nL_pu (u.1) (u.2.1) (u.2.2.1) iL_nameAt iL_startAt (u.2.2.2.1) jL_scaleOver jL_scaleUnder ++ (WF hF aF kF dF_tree nF_tree fF_tree ++ (WT hT aT kT fT_tape dT_tape nT_tape iT_length (u.2.2.2.2.1) (u.2.2.2.2.2) iT_kind iT_at iT_number jT_name iT_next ++ (WM hM aM kM iM_stands iM_variables iM_rows iM_goals iM_differents iM_cases fM_from fM_to fM_whole fM_ways iM_plainRows fM_plainRow fM_kept fM_goalOver fM_goalUnder fM_goalMax fM_different))))) (va_A (WL hL aL kL hT hM (.ref dF_tree) iL_names gL_key fL_kind fL_one fL_two fL_base iL_params fL_paramOver dL_paramOver nL_params fL_paramUnder dL_paramUnder nL_pu gL_over gL_under fL_bound iL_nameAt iL_startAt iL_steps jL_scaleOver jL_scaleUnder ++ (WF hF aF kF dF_tree nF_tree fF_tree ++ (WT hT aT kT fT_tape dT_tape nT_tape iT_length iT_fault iT_place iT_kind iT_at iT_number jT_name iT_next ++ (WM hM aM kM iM_stands iM_variables iM_rows iM_goals iM_differents iM_cases fM_from fM_to fM_whole fM_ways iM_plainRows fM_plainRow fM_kept fM_goalOver fM_goalUnder fM_goalMax fM_different)))) sz)) 1 6 (va_A (WL hL aL kL hT hM (.ref dF_tree) iL_names gL_key fL_kind fL_one fL_two fL_base iL_params fL_paramOver dL_paramOver nL_params fL_paramUnder dL_paramUnder nL_pu gL_over gL_under fL_bound iL_nameAt iL_startAt iL_steps jL_scaleOver jL_scaleUnder ++ (WF hF aF kF dF_tree nF_tree fF_tree ++ (WT hT aT kT fT_tape dT_tape nT_tape iT_length iT_fault iT_place iT_kind iT_at iT_number jT_name iT_next ++ (WM hM aM kM iM_stands iM_variables iM_rows iM_goals iM_differents iM_cases fM_from fM_to fM_whole fM_ways iM_plainRows fM_plainRow fM_kept fM_goalOver fM_goalUnder fM_goalMax fM_different)))) sz) :=
  wk_any l hst dC dI hL aL kL hT hM iL_names gL_key fL_kind fL_one fL_two fL_base iL_params fL_paramOver dL_paramOver nL_params fL_paramUnder dL_paramUnder nL_pu gL_over gL_under fL_bound iL_nameAt iL_startAt iL_steps jL_scaleOver jL_scaleUnder hF aF kF dF_tree nF_tree fF_tree aT kT fT_tape dT_tape nT_tape iT_length iT_fault iT_place iT_kind iT_at iT_number jT_name iT_next aM kM iM_stands iM_variables iM_rows iM_goals iM_differents iM_cases fM_from fM_to fM_whole fM_ways iM_plainRows fM_plainRow fM_kept fM_goalOver fM_goalUnder fM_goalMax fM_different V lo lv p1 p2 b_iL_names b_fL_kind b_fL_two b_fL_base b_iL_params b_nL_params b_nm b_pm b_pu b_nF_tree b_fT_tape b_nT_tape b_iT_length b_iT_at b_iT_number b_iT_next b_len b_iM_stands b_iM_variables b_iM_rows b_iM_goals b_iM_differents b_iM_cases b_fM_ways b_iM_plainRows b_fM_plainRow b_pr b_p2 hV hn hlv hsl sz
theorem mt_X10_number (l : Launch) (hst : l.stackTraces = false) (dC : Nat → ClassId) (dI : Nat → Nat → Nat) (hL : Nat → Nat) (aL : Nat → Nat) (kL : Nat → ClassId) (hT : Nat → Nat) (hM : Nat → Nat) (iL_names : Int32) (gL_key : Nat → Int64) (fL_kind : Nat → Int32) (fL_one : Nat → Int32) (fL_two : Nat → Int32) (fL_base : Nat → Int32) (iL_params : Int32) (fL_paramOver : Nat → Int32) (dL_paramOver : Nat) (nL_params : Nat) (fL_paramUnder : Nat → Int32) (dL_paramUnder : Nat) (nL_pu : Nat) (gL_over : Nat → Int64) (gL_under : Nat → Int64) (fL_bound : Nat → Int32) (iL_nameAt : Int32) (iL_startAt : Int32) (iL_steps : Int32) (jL_scaleOver : Int64) (jL_scaleUnder : Int64) (hF : Nat → Nat) (aF : Nat → Nat) (kF : Nat → ClassId) (dF_tree : Nat) (nF_tree : Nat) (fF_tree : Nat → Int32) (aT : Nat → Nat) (kT : Nat → ClassId) (fT_tape : Nat → Int32) (dT_tape : Nat) (nT_tape : Nat) (iT_length : Int32) (iT_fault : Int32) (iT_place : Int32) (iT_kind : Int32) (iT_at : Int32) (iT_number : Int32) (jT_name : Int64) (iT_next : Int32) (aM : Nat → Nat) (kM : Nat → ClassId) (iM_stands : Int32) (iM_variables : Int32) (iM_rows : Int32) (iM_goals : Int32) (iM_differents : Int32) (iM_cases : Int32) (fM_from : Nat → Int32) (fM_to : Nat → Int32) (fM_whole : Nat → Int32) (fM_ways : Nat → Int32) (iM_plainRows : Int32) (fM_plainRow : Nat → Int32) (fM_kept : Nat → Int32) (fM_goalOver : Nat → Int32) (fM_goalUnder : Nat → Int32) (fM_goalMax : Nat → Int32) (fM_different : Nat → Int32) (V : Int → Nat → Nat → Prop) (lo : Int) (lv : Nat) (p1 : Int32) (p2 : Int32) (b_iL_names : 0 ≤ iL_names.toInt ∧ iL_names.toInt ≤ 40) (b_fL_kind : ∀ q : Nat, 0 ≤ (fL_kind q).toInt ∧ (fL_kind q).toInt ≤ 5) (b_fL_two : ∀ q : Nat, (-1) ≤ (fL_two q).toInt ∧ (fL_two q).toInt ≤ 39) (b_fL_base : ∀ q : Nat, 0 ≤ (fL_base q).toInt ∧ (fL_base q).toInt ≤ 2560) (b_iL_params : 0 ≤ iL_params.toInt ∧ iL_params.toInt ≤ 2560) (b_nL_params : 0 ≤ nL_params ∧ nL_params ≤ 2560) (b_nm : NmL iL_names fL_kind fL_one fL_two fL_base nL_params) (b_pm : iL_params.toInt ≤ ((nL_params : Nat) : Int)) (b_pu : nL_pu = nL_params) (b_nF_tree : 7 ≤ nF_tree ∧ nF_tree ≤ 72200) (b_fT_tape : ∀ q : Nat, (-128) ≤ (fT_tape q).toInt ∧ (fT_tape q).toInt ≤ 127) (b_nT_tape : 64 ≤ nT_tape ∧ nT_tape ≤ 2560) (b_iT_length : 0 ≤ iT_length.toInt ∧ iT_length.toInt ≤ 1280) (b_iT_at : 0 ≤ iT_at.toInt ∧ iT_at.toInt ≤ 1282) (b_iT_number : 0 ≤ iT_number.toInt ∧ iT_number.toInt ≤ 999999) (b_iT_next : 0 ≤ iT_next.toInt ∧ iT_next.toInt ≤ 1282) (b_len : iT_length.toInt ≤ ((nT_tape : Nat) : Int)) (b_iM_stands : 0 ≤ iM_stands.toInt ∧ iM_stands.toInt ≤ 1) (b_iM_variables : 0 ≤ iM_variables.toInt ∧ iM_variables.toInt ≤ 8) (b_iM_rows : 0 ≤ iM_rows.toInt ∧ iM_rows.toInt ≤ 12) (b_iM_goals : 0 ≤ iM_goals.toInt ∧ iM_goals.toInt ≤ 3) (b_iM_differents : 0 ≤ iM_differents.toInt ∧ iM_differents.toInt ≤ 8) (b_iM_cases : 0 ≤ iM_cases.toInt ∧ iM_cases.toInt ≤ 200000) (b_fM_ways : ∀ q : Nat, 0 ≤ (fM_ways q).toInt ∧ (fM_ways q).toInt ≤ 3) (b_iM_plainRows : 0 ≤ iM_plainRows.toInt ∧ iM_plainRows.toInt ≤ 12) (b_fM_plainRow : ∀ q : Nat, 0 ≤ (fM_plainRow q).toInt ∧ (fM_plainRow q).toInt ≤ 11) (b_pr : iM_plainRows.toInt ≤ iM_rows.toInt) (b_p2 : 0 ≤ p2.toInt ∧ p2.toInt ≤ 38) (hV : TrL V fF_tree fL_kind fL_one fL_two iL_names.toInt lo ((nF_tree : Nat) : Int)) (hn : V p1.toInt 1 lv) (hlv : lv + 25 = 26) (hsl : p2.toInt ≤ (lv : Int)) (sz : Nat) : vx_Met l yX10_number wsMX10_number ({ frames := 313, cells := 1, slots := 6, locals := 18347 }) (va_Pc [.ref (hL 0), .int p1, .int p2] (fun U => U.heap.size = sz ∧ va_P (dC, dI) vwCl (WL hL aL kL hT hM (.ref dF_tree) iL_names gL_key fL_kind fL_one fL_two fL_base iL_params fL_paramOver dL_paramOver nL_params fL_paramUnder dL_paramUnder nL_pu gL_over gL_under fL_bound iL_nameAt iL_startAt iL_steps jL_scaleOver jL_scaleUnder ++ (WF hF aF kF dF_tree nF_tree fF_tree ++ (WT hT aT kT fT_tape dT_tape nT_tape iT_length iT_fault iT_place iT_kind iT_at iT_number jT_name iT_next ++ (WM hM aM kM iM_stands iM_variables iM_rows iM_goals iM_differents iM_cases fM_from fM_to fM_whole fM_ways iM_plainRows fM_plainRow fM_kept fM_goalOver fM_goalUnder fM_goalMax fM_different)))) U.heap ∧ va_K (dC, dI) vwCl (tL kL ++ (tF kF ++ (tT kT ++ (tM kM)))) U ∧ va_D (fun _ => True) (WL hL aL kL hT hM (.ref dF_tree) iL_names gL_key fL_kind fL_one fL_two fL_base iL_params fL_paramOver dL_paramOver nL_params fL_paramUnder dL_paramUnder nL_pu gL_over gL_under fL_bound iL_nameAt iL_startAt iL_steps jL_scaleOver jL_scaleUnder ++ (WF hF aF kF dF_tree nF_tree fF_tree ++ (WT hT aT kT fT_tape dT_tape nT_tape iT_length iT_fault iT_place iT_kind iT_at iT_number jT_name iT_next ++ (WM hM aM kM iM_stands iM_variables iM_rows iM_goals iM_differents iM_cases fM_from fM_to fM_whole fM_ways iM_plainRows fM_plainRow fM_kept fM_goalOver fM_goalUnder fM_goalMax fM_different)))) ∧ CE (va_A (WL hL aL kL hT hM (.ref dF_tree) iL_names gL_key fL_kind fL_one fL_two fL_base iL_params fL_paramOver dL_paramOver nL_params fL_paramUnder dL_paramUnder nL_pu gL_over gL_under fL_bound iL_nameAt iL_startAt iL_steps jL_scaleOver jL_scaleUnder ++ (WF hF aF kF dF_tree nF_tree fF_tree ++ (WT hT aT kT fT_tape dT_tape nT_tape iT_length iT_fault iT_place iT_kind iT_at iT_number jT_name iT_next ++ (WM hM aM kM iM_stands iM_variables iM_rows iM_goals iM_differents iM_cases fM_from fM_to fM_whole fM_ways iM_plainRows fM_plainRow fM_kept fM_goalOver fM_goalUnder fM_goalMax fM_different)))) sz) U U.heap)) (va_Qv (fun (u : (Nat → Int64) × (Nat → Int64) × (Nat → Int32) × (Int32) × (Int32) × (Int32)) => True) (fun (u : (Nat → Int64) × (Nat → Int64) × (Nat → Int32) × (Int32) × (Int32) × (Int32)) t => va_P (dC, dI) vwCl (WL hL aL kL hT hM (.ref dF_tree) iL_names gL_key fL_kind fL_one fL_two fL_base iL_params fL_paramOver dL_paramOver nL_params fL_paramUnder dL_paramUnder nL_pu (u.1) (u.2.1) (u.2.2.1) iL_nameAt iL_startAt (u.2.2.2.1) jL_scaleOver jL_scaleUnder ++ (WF hF aF kF dF_tree nF_tree fF_tree ++ (WT hT aT kT fT_tape dT_tape nT_tape iT_length (u.2.2.2.2.1) (u.2.2.2.2.2) iT_kind iT_at iT_number jT_name iT_next ++ (WM hM aM kM iM_stands iM_variables iM_rows iM_goals iM_differents iM_cases fM_from fM_to fM_whole fM_ways iM_plainRows fM_plainRow fM_kept fM_goalOver fM_goalUnder fM_goalMax fM_different)))) t.heap ∧ va_D (va_A (WL hL aL kL hT hM (.ref dF_tree) iL_names gL_key fL_kind fL_one fL_two fL_base iL_params fL_paramOver dL_paramOver nL_params fL_paramUnder dL_paramUnder nL_pu gL_over gL_under fL_bound iL_nameAt iL_startAt iL_steps jL_scaleOver jL_scaleUnder ++ (WF hF aF kF dF_tree nF_tree fF_tree ++ (WT hT aT kT fT_tape dT_tape nT_tape iT_length iT_fault iT_place iT_kind iT_at iT_number jT_name iT_next ++ (WM hM aM kM iM_stands iM_variables iM_rows iM_goals iM_differents iM_cases fM_from fM_to fM_whole fM_ways iM_plainRows fM_plainRow fM_kept fM_goalOver fM_goalUnder fM_goalMax fM_different)))) sz) (WL hL aL kL hT hM (.ref dF_tree) iL_names gL_key fL_kind fL_one fL_two fL_base iL_params fL_paramOver dL_paramOver nL_params fL_paramUnder dL_paramUnder nL_pu (u.1) (u.2.1) (u.2.2.1) iL_nameAt iL_startAt (u.2.2.2.1) jL_scaleOver jL_scaleUnder ++ (WF hF aF kF dF_tree nF_tree fF_tree ++ (WT hT aT kT fT_tape dT_tape nT_tape iT_length (u.2.2.2.2.1) (u.2.2.2.2.2) iT_kind iT_at iT_number jT_name iT_next ++ (WM hM aM kM iM_stands iM_variables iM_rows iM_goals iM_differents iM_cases fM_from fM_to fM_whole fM_ways iM_plainRows fM_plainRow fM_kept fM_goalOver fM_goalUnder fM_goalMax fM_different)))) ∧ t.heap.size = sz) (va_A (WL hL aL kL hT hM (.ref dF_tree) iL_names gL_key fL_kind fL_one fL_two fL_base iL_params fL_paramOver dL_paramOver nL_params fL_paramUnder dL_paramUnder nL_pu gL_over gL_under fL_bound iL_nameAt iL_startAt iL_steps jL_scaleOver jL_scaleUnder ++ (WF hF aF kF dF_tree nF_tree fF_tree ++ (WT hT aT kT fT_tape dT_tape nT_tape iT_length iT_fault iT_place iT_kind iT_at iT_number jT_name iT_next ++ (WM hM aM kM iM_stands iM_variables iM_rows iM_goals iM_differents iM_cases fM_from fM_to fM_whole fM_ways iM_plainRows fM_plainRow fM_kept fM_goalOver fM_goalUnder fM_goalMax fM_different)))) sz)) (vx_X (fun (u : (Nat → Int64) × (Nat → Int64) × (Nat → Int32) × (Int32) × (Int32) × (Int32)) => True) (fun E (u : (Nat → Int64) × (Nat → Int64) × (Nat → Int32) × (Int32) × (Int32) × (Int32)) t => (E = "java/lang/IllegalArgumentException") ∧ va_P (dC, dI) vwCl (WL hL aL kL hT hM (.ref dF_tree) iL_names gL_key fL_kind fL_one fL_two fL_base iL_params fL_paramOver dL_paramOver nL_params fL_paramUnder dL_paramUnder nL_pu (u.1) (u.2.1) (u.2.2.1) iL_nameAt iL_startAt (u.2.2.2.1) jL_scaleOver jL_scaleUnder ++ (WF hF aF kF dF_tree nF_tree fF_tree ++ (WT hT aT kT fT_tape dT_tape nT_tape iT_length (u.2.2.2.2.1) (u.2.2.2.2.2) iT_kind iT_at iT_number jT_name iT_next ++ (WM hM aM kM iM_stands iM_variables iM_rows iM_goals iM_differents iM_cases fM_from fM_to fM_whole fM_ways iM_plainRows fM_plainRow fM_kept fM_goalOver fM_goalUnder fM_goalMax fM_different)))) t.heap ∧ va_D (va_A (WL hL aL kL hT hM (.ref dF_tree) iL_names gL_key fL_kind fL_one fL_two fL_base iL_params fL_paramOver dL_paramOver nL_params fL_paramUnder dL_paramUnder nL_pu gL_over gL_under fL_bound iL_nameAt iL_startAt iL_steps jL_scaleOver jL_scaleUnder ++ (WF hF aF kF dF_tree nF_tree fF_tree ++ (WT hT aT kT fT_tape dT_tape nT_tape iT_length iT_fault iT_place iT_kind iT_at iT_number jT_name iT_next ++ (WM hM aM kM iM_stands iM_variables iM_rows iM_goals iM_differents iM_cases fM_from fM_to fM_whole fM_ways iM_plainRows fM_plainRow fM_kept fM_goalOver fM_goalUnder fM_goalMax fM_different)))) sz) (WL hL aL kL hT hM (.ref dF_tree) iL_names gL_key fL_kind fL_one fL_two fL_base iL_params fL_paramOver dL_paramOver nL_params fL_paramUnder dL_paramUnder nL_pu (u.1) (u.2.1) (u.2.2.1) iL_nameAt iL_startAt (u.2.2.2.1) jL_scaleOver jL_scaleUnder ++ (WF hF aF kF dF_tree nF_tree fF_tree ++ (WT hT aT kT fT_tape dT_tape nT_tape iT_length (u.2.2.2.2.1) (u.2.2.2.2.2) iT_kind iT_at iT_number jT_name iT_next ++ (WM hM aM kM iM_stands iM_variables iM_rows iM_goals iM_differents iM_cases fM_from fM_to fM_whole fM_ways iM_plainRows fM_plainRow fM_kept fM_goalOver fM_goalUnder fM_goalMax fM_different))))) (va_A (WL hL aL kL hT hM (.ref dF_tree) iL_names gL_key fL_kind fL_one fL_two fL_base iL_params fL_paramOver dL_paramOver nL_params fL_paramUnder dL_paramUnder nL_pu gL_over gL_under fL_bound iL_nameAt iL_startAt iL_steps jL_scaleOver jL_scaleUnder ++ (WF hF aF kF dF_tree nF_tree fF_tree ++ (WT hT aT kT fT_tape dT_tape nT_tape iT_length iT_fault iT_place iT_kind iT_at iT_number jT_name iT_next ++ (WM hM aM kM iM_stands iM_variables iM_rows iM_goals iM_differents iM_cases fM_from fM_to fM_whole fM_ways iM_plainRows fM_plainRow fM_kept fM_goalOver fM_goalUnder fM_goalMax fM_different)))) sz)) 1 6 (va_A (WL hL aL kL hT hM (.ref dF_tree) iL_names gL_key fL_kind fL_one fL_two fL_base iL_params fL_paramOver dL_paramOver nL_params fL_paramUnder dL_paramUnder nL_pu gL_over gL_under fL_bound iL_nameAt iL_startAt iL_steps jL_scaleOver jL_scaleUnder ++ (WF hF aF kF dF_tree nF_tree fF_tree ++ (WT hT aT kT fT_tape dT_tape nT_tape iT_length iT_fault iT_place iT_kind iT_at iT_number jT_name iT_next ++ (WM hM aM kM iM_stands iM_variables iM_rows iM_goals iM_differents iM_cases fM_from fM_to fM_whole fM_ways iM_plainRows fM_plainRow fM_kept fM_goalOver fM_goalUnder fM_goalMax fM_different)))) sz) :=
  wk_number l hst dC dI hL aL kL hT hM iL_names gL_key fL_kind fL_one fL_two fL_base iL_params fL_paramOver dL_paramOver nL_params fL_paramUnder dL_paramUnder nL_pu gL_over gL_under fL_bound iL_nameAt iL_startAt iL_steps jL_scaleOver jL_scaleUnder hF aF kF dF_tree nF_tree fF_tree aT kT fT_tape dT_tape nT_tape iT_length iT_fault iT_place iT_kind iT_at iT_number jT_name iT_next aM kM iM_stands iM_variables iM_rows iM_goals iM_differents iM_cases fM_from fM_to fM_whole fM_ways iM_plainRows fM_plainRow fM_kept fM_goalOver fM_goalUnder fM_goalMax fM_different V lo lv p1 p2 b_iL_names b_fL_kind b_fL_two b_fL_base b_iL_params b_nL_params b_nm b_pm b_pu b_nF_tree b_fT_tape b_nT_tape b_iT_length b_iT_at b_iT_number b_iT_next b_len b_iM_stands b_iM_variables b_iM_rows b_iM_goals b_iM_differents b_iM_cases b_fM_ways b_iM_plainRows b_fM_plainRow b_pr b_p2 hV hn hlv hsl sz
end
